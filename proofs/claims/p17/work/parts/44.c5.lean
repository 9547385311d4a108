def rm_krelease : Room := { frames := 3, cells := 0, slots := 0, locals := 72 }
theorem hd_krelease : yX1_release.cls = cRn 1 ∧ yX1_release.cls ≠ "java/lang/invoke/MethodHandle" ∧ yX1_release.cls ≠ "java/lang/invoke/VarHandle" ∧ (parseMethodDescriptor yX1_release.desc).map (fun d => d.parameters.length) = some 2 := by decide +kernel
set_option maxHeartbeats 4000000 in
set_option maxRecDepth 100000 in
theorem w_krelease {p : Program} {l : Launch} {e : Env} {s : State} {m : MethodId} {args : Array Value} {below : List Frame} {meth : Method} {c : Code} {H : Heap} {locs : List Loc} {Q : State → Prop} {ls : Array Slot} {G : cG} {Z : cZ} {A : Nat → Prop} {g : mSt} {H0 : Heap} {X : Int} (x : cX p c cX1_release s args (wk (Cond.code yX1_release cX1_release 3 none)) m G Z A RX1 H0) (hml : c.maxLocals = 3) (L : cL G Z A H0 X g H locs) (hX : 0 ≤ X ∧ X ≤ 2000000000) (i0 : Nat) (p1 : Int32) (p2 : Int32) (hJ : cJ Z g) (hal0 : Z.al 1 i0) (hl : lv_has ls 3 [(0, .ref (Z.ad 1 i0)), (1, .int p1), (2, .int p2)]) (hQ : ∀ (pc' : Nat) (ls' : Array Slot) (g1 : mSt) (H1 : Heap) (locs1 : List Loc), decode cX1_release pc' = .ok (.return_, 1) → cL G Z A H0 X g1 H1 locs1 → (mFr [36, 40, 41, 42, 44, 45, 46, 48, 198, 832, 864] g g1 ∧ cJ Z g1 ∧ True) → W p l e rm_krelease s m args below meth c H1 locs1 0 0 Q (F0 m pc' ls' [])) : W p l e rm_krelease s m args below meth c H locs 0 0 Q (F0 m 0 ls []) := by
  have hx := x.1
  have hb := x.2.1
  have hz := x.2.2.2.2.2.2.2.1
  have hzn := hz.1
  have up1 : (-2147483648 : Int) ≤ p1.toInt ∧ p1.toInt ≤ 2147483647 := (rg_any p1)
  have up2 : (-2147483648 : Int) ≤ p2.toInt ∧ p2.toInt ≤ 2147483647 := (rg_any p2)
  refine lv_aload_n hx hb dX1_release_0 rfl (lv_at hl 0 rfl) ?_
  refine c_geti x L 1 i0 4 36 hal0 rfl rfl (wk_in kf_X1_29) dX1_release_1 (fun v1 ev1 wv1 => ?_)
  have rv1 : rg (-2147483648) (2147483647) v1 := rg_any v1
  have uv1 : (-2147483648 : Int) ≤ v1.toInt ∧ v1.toInt ≤ 2147483647 := rv1
  have sv1 := congrArg Int32.toInt ev1
  refine lv_if_eq (tgt := 16) hx hb dX1_release_4 (by decide) (fun c4_2 => ?_) (fun c4_2 => ?_)
  · skip
    have ic4_2 := congrArg Int32.toInt c4_2
    have y3 : (0 : Int32).toInt = 0 := by decide
    have q4 : rg (0) (0) v1 := (rg_eq c4_2 rv1 kc_0).1
    have uq4 : (0 : Int) ≤ v1.toInt ∧ v1.toInt ≤ 0 := q4
    exact hQ _ _ _ _ _ dX1_release_16 L ⟨mFr.rf, hJ, trivial⟩
  · skip
    have ic4_2 : v1.toInt ≠ (0 : Int32).toInt := fun z => c4_2 (Int32.toInt_inj.mp z)
    have y5 : (0 : Int32).toInt = 0 := by decide
    refine lv_aload_n hx hb dX1_release_7 rfl (lv_at hl 0 rfl) ?_
    refine c_geti x L 1 i0 4 36 hal0 rfl rfl (wk_in kf_X1_29) dX1_release_8 (fun v6 ev6 wv6 => ?_)
    refine m_top ((ev1).trans ev6.symm) ?_
    refine lv_bipush (v := 11) hx hb dX1_release_11 (by decide) ?_
    refine lv_icmp_ne (tgt := 17) hx hb dX1_release_13 (by decide) (fun c13_7 => ?_) (fun c13_7 => ?_)
    · skip
      have ic13_7 : v1.toInt ≠ (11 : Int32).toInt := fun z => c13_7 (Int32.toInt_inj.mp z)
      have y8 : (11 : Int32).toInt = 11 := by decide
      refine lv_aload_n hx hb dX1_release_17 rfl (lv_at hl 0 rfl) ?_
      refine lv_iload_n hx hb dX1_release_18 rfl (lv_at hl 1 rfl) ?_
      refine c_puti x L 1 i0 8 40 hal0 rfl rfl ⟨rfl, by decide +kernel⟩ (wk_in kf_X1_53) dX1_release_19 (rg_any p1) (fun g9 H9 k9 eg9 L9 => ?_)
      refine lv_aload_n hx hb dX1_release_22 rfl (lv_at hl 0 rfl) ?_
      refine lv_bipush (v := 11) hx hb dX1_release_23 (by decide) ?_
      refine lv_iload_n hx hb dX1_release_25 rfl (lv_at hl 2 rfl) ?_
      refine lv_bipush (v := 10) hx hb dX1_release_26 (by decide) ?_
      refine lv_iadd hx hb dX1_release_28 ?_
      refine lv_topi (fun v10 ev10 => ?_)
      have rv10 : rg (-2147483648) (2147483647) v10 := rg_any v10
      have uv10 : (-2147483648 : Int) ≤ v10.toInt ∧ v10.toInt ≤ 2147483647 := rv10
      refine c_cv (As := [.int (11 : Int32), .int v10]) (rest := []) x hml L9 1 i0 hal0 rfl (c_kenter l X g9 i0 (11 : Int32) v10 hX (cJ_up hJ eg9 rfl) hal0) (wk_V kd_X1_enter kl_X1_58 ki_X1_enter ks_X1_X1_enter kn_X1) rfl ⟨rfl, rfl⟩ hd_kenter ⟨Nat.le_of_ble_eq_true rfl, Nat.le_of_ble_eq_true rfl⟩ rfl hl.1 rfl (lv_room (Nat.le_of_ble_eq_true rfl)) dX1_release_29 (fun  g11 H11 k11 hp11 L11 => ?_)
      refine lv_aload_n hx hb dX1_release_32 rfl (lv_at hl 0 rfl) ?_
      obtain ⟨v12, ev12⟩ : ∃ y : Int32, y = g11 32 i0 := ⟨_, rfl⟩
      have hsv12 := (hp11.2.1.2.1 i0 hal0).1
      rw [← ev12] at hsv12
      rcases Nat.lt_or_ge v12.toInt.toNat Z.n with hc13 | hc13
      · skip
        have al14 : Z.al 4 v12.toInt.toNat := hz.2 4 v12.toInt.toNat (show v12.toInt.toNat < Z.n from (by omega))
        refine c_geto (w := .ref (Z.ad 4 v12.toInt.toNat)) x L11 1 i0 0 32 hal0 rfl rfl (by show va_rf (some (cSd Z (g11 32 i0).toInt.toNat)) = _; rw [← ev12]; unfold cSd; rw [if_pos hc13]; rfl) (wk_in kf_X1_18) dX1_release_33 ?_
        refine lv_bipush (v := 77) hx hb dX1_release_36 (by decide) ?_
        refine lv_aload_n hx hb dX1_release_38 rfl (lv_at hl 0 rfl) ?_
        refine c_geti x L11 1 i0 1 33 hal0 rfl rfl (wk_in kf_X1_22) dX1_release_39 (fun v16 ev16 wv16 => ?_)
        have rv16 : rg (-2147483648) (2147483647) v16 := rg_any v16
        have uv16 : (-2147483648 : Int) ≤ v16.toInt ∧ v16.toInt ≤ 2147483647 := rv16
        have sv16 : v16.toInt = (g 33 i0).toInt := congrArg Int32.toInt (ev16.trans (congrFun ((show mFr [36, 40, 41, 42, 44, 45, 46, 48, 198, 832, 864] g g11 from (mFr.tr (mFr.upE mFr.rf eg9 rfl) hp11.1 rfl)).at 33 rfl) _))
        refine lv_aload_n hx hb dX1_release_42 rfl (lv_at hl 0 rfl) ?_
        refine c_geti x L11 1 i0 2 34 hal0 rfl rfl (wk_in kf_X1_25) dX1_release_43 (fun v17 ev17 wv17 => ?_)
        have rv17 : rg (0) (1) v17 := clj_34 wv17
        have uv17 : (0 : Int) ≤ v17.toInt ∧ v17.toInt ≤ 1 := rv17
        have sv17 : v17.toInt = (g 34 i0).toInt := congrArg Int32.toInt (ev17.trans (congrFun ((show mFr [36, 40, 41, 42, 44, 45, 46, 48, 198, 832, 864] g g11 from (mFr.tr (mFr.upE mFr.rf eg9 rfl) hp11.1 rfl)).at 34 rfl) _))
        refine lv_iload_n hx hb dX1_release_46 rfl (lv_at hl 1 rfl) ?_
        refine c_cvU (n := 4) (owner := "CellSwitch$Side") (x0 := ⟨"CellSwitch$Side", "sayCause", "(IIZI)V"⟩) (As := [.int (77 : Int32), .int v16, .int v17, .int p1]) (rest := []) x hml L11 4 v12.toInt.toNat al14 rfl (c_ksayCause_4 l X g11 v12.toInt.toNat (77 : Int32) v16 v17 p1 hX (show v12.toInt.toNat < Z.n from (by omega)) (rg_w rv17 rfl)) (wk_U kd_X8_sayCause kl_X1_64 km_CellSwitchSide_CellSwitchSide_sayCause ks_X4_CellSwitchSide_X8_sayCause ki_X8_sayCause kn_X8) rfl ⟨rfl, rfl⟩ rfl (by decide +kernel) ⟨Nat.le_of_ble_eq_true rfl, Nat.le_of_ble_eq_true rfl⟩ rfl hl.1 rfl (lv_room (Nat.le_of_ble_eq_true rfl)) dX1_release_47 (fun  g18 H18 k18 hp18 L18 => ?_)
        exact hQ _ _ _ _ _ dX1_release_50 L18 ⟨(mFr.tr (mFr.tr (mFr.upE mFr.rf eg9 rfl) hp11.1 rfl) hp18.1 rfl), (cJ_fr hp11.2.1 hp18.1 rfl), trivial⟩
      · skip
        have al15 : Z.al 10 (v12.toInt.toNat - Z.n) := hz.2 10 (v12.toInt.toNat - Z.n) (show (v12.toInt.toNat - Z.n) < Z.n from (by omega))
        refine c_geto (w := .ref (Z.ad 10 (v12.toInt.toNat - Z.n))) x L11 1 i0 0 32 hal0 rfl rfl (by show va_rf (some (cSd Z (g11 32 i0).toInt.toNat)) = _; rw [← ev12]; unfold cSd; rw [if_neg (Nat.not_lt.mpr hc13)]; rfl) (wk_in kf_X1_18) dX1_release_33 ?_
        refine lv_bipush (v := 77) hx hb dX1_release_36 (by decide) ?_
        refine lv_aload_n hx hb dX1_release_38 rfl (lv_at hl 0 rfl) ?_
        refine c_geti x L11 1 i0 1 33 hal0 rfl rfl (wk_in kf_X1_22) dX1_release_39 (fun v19 ev19 wv19 => ?_)
        have rv19 : rg (-2147483648) (2147483647) v19 := rg_any v19
        have uv19 : (-2147483648 : Int) ≤ v19.toInt ∧ v19.toInt ≤ 2147483647 := rv19
        have sv19 : v19.toInt = (g 33 i0).toInt := congrArg Int32.toInt (ev19.trans (congrFun ((show mFr [36, 40, 41, 42, 44, 45, 46, 48, 198, 832, 864] g g11 from (mFr.tr (mFr.upE mFr.rf eg9 rfl) hp11.1 rfl)).at 33 rfl) _))
        refine lv_aload_n hx hb dX1_release_42 rfl (lv_at hl 0 rfl) ?_
        refine c_geti x L11 1 i0 2 34 hal0 rfl rfl (wk_in kf_X1_25) dX1_release_43 (fun v20 ev20 wv20 => ?_)
        have rv20 : rg (0) (1) v20 := clj_34 wv20
        have uv20 : (0 : Int) ≤ v20.toInt ∧ v20.toInt ≤ 1 := rv20
        have sv20 : v20.toInt = (g 34 i0).toInt := congrArg Int32.toInt (ev20.trans (congrFun ((show mFr [36, 40, 41, 42, 44, 45, 46, 48, 198, 832, 864] g g11 from (mFr.tr (mFr.upE mFr.rf eg9 rfl) hp11.1 rfl)).at 34 rfl) _))
        refine lv_iload_n hx hb dX1_release_46 rfl (lv_at hl 1 rfl) ?_
        refine c_cvU (n := 4) (owner := "CellSwitch$Side") (x0 := ⟨"CellSwitch$Side", "sayCause", "(IIZI)V"⟩) (As := [.int (77 : Int32), .int v19, .int v20, .int p1]) (rest := []) x hml L11 10 (v12.toInt.toNat - Z.n) al15 rfl (c_ksayCause_10 l X g11 (v12.toInt.toNat - Z.n) (77 : Int32) v19 v20 p1 hX (show (v12.toInt.toNat - Z.n) < Z.n from (by omega)) (rg_w rv20 rfl)) (wk_U kd_X8_sayCause kl_X1_64 km_CellSwitchSide_CellSwitchSide_sayCause ks_X10_CellSwitchSide_X8_sayCause ki_X8_sayCause kn_X8) rfl ⟨rfl, rfl⟩ rfl (by decide +kernel) ⟨Nat.le_of_ble_eq_true rfl, Nat.le_of_ble_eq_true rfl⟩ rfl hl.1 rfl (lv_room (Nat.le_of_ble_eq_true rfl)) dX1_release_47 (fun  g21 H21 k21 hp21 L21 => ?_)
        exact hQ _ _ _ _ _ dX1_release_50 L21 ⟨(mFr.tr (mFr.tr (mFr.upE mFr.rf eg9 rfl) hp11.1 rfl) hp21.1 rfl), (cJ_fr hp11.2.1 hp21.1 rfl), trivial⟩
    · skip
      have ic13_7 := congrArg Int32.toInt c13_7
      have y22 : (11 : Int32).toInt = 11 := by decide
      have q23 : rg (11) (11) v1 := (rg_eq c13_7 rv1 kc_11).1
      have uq23 : (11 : Int) ≤ v1.toInt ∧ v1.toInt ≤ 11 := q23
      exact hQ _ _ _ _ _ dX1_release_16 L ⟨mFr.rf, hJ, trivial⟩
theorem c_krelease (l : Launch) {G : cG} {Z : cZ} (X : Int) (g : mSt) (i0 : Nat) (p1 : Int32) (p2 : Int32) (hX : 0 ≤ X ∧ X ≤ 2000000000) (hJ : cJ Z g) (hal0 : Z.al 1 i0) : Met l yX1_release (wk (Cond.code yX1_release cX1_release 3 none)) rm_krelease (va_Pc [.ref (Z.ad 1 i0), .int p1, .int p2] (cPre G Z X g)) (cQv G Z X (fun g1 => mFr [36, 40, 41, 42, 44, 45, 46, 48, 198, 832, 864] g g1 ∧ cJ Z g1 ∧ True)) 0 0 (cAd Z) := by
  refine Met.ofW (cc := cX1_release) (maxL := 3) (ret := none) (by decide) rfl ?_
  intro p e s m args below meth c s₁ B hml hv
  obtain ⟨rfl, hv⟩ := hv
  have hr := B.returns
  have hlocks := B.notSynchronized
  obtain ⟨x, L⟩ := c_start B rfl (fun w h => wk_in h) hv
  have hl := lv_entry ([.ref (Z.ad 1 i0), .int p1, .int p2]) (n := 3) (Nat.le_of_ble_eq_true rfl)
  rw [lg_entry_eq]
  generalize (lg_sl ([.ref (Z.ad 1 i0), .int p1, .int p2]) ++ List.replicate (3 - (lg_sl ([.ref (Z.ad 1 i0), .int p1, .int p2])).length) Slot.unset).toArray = ls at hl ⊢
  exact w_krelease x hml L hX i0 p1 p2 hJ hal0 hl (fun pc' ls' g1 H1 locs1 hdg L hp => c_vret x L hr hlocks (Int.le_refl _) hp hdg)

def rm_kopenCalls_4 : Room := { frames := 3, cells := 0, slots := 0, locals := 64 }
theorem hd_kopenCalls_4 : yX8_openCalls.cls ≠ "java/lang/invoke/MethodHandle" ∧ yX8_openCalls.cls ≠ "java/lang/invoke/VarHandle" ∧ (parseMethodDescriptor yX8_openCalls.desc).map (fun d => d.parameters.length) = some 0 := by decide +kernel
set_option maxHeartbeats 4000000 in
set_option maxRecDepth 100000 in
theorem w_kopenCalls_4 {p : Program} {l : Launch} {e : Env} {s : State} {m : MethodId} {args : Array Value} {below : List Frame} {meth : Method} {c : Code} {H : Heap} {locs : List Loc} {Q : State → Prop} {ls : Array Slot} {G : cG} {Z : cZ} {A : Nat → Prop} {g : mSt} {H0 : Heap} {X : Int} (x : cX p c cX8_openCalls s args (wk (Cond.code yX8_openCalls cX8_openCalls 3 (some .int))) m G Z A RX8 H0) (hml : c.maxLocals = 3) (L : cL G Z A H0 X g H locs) (hX : 0 ≤ X ∧ X ≤ 2000000000) (i0 : Nat) (hJ : cJ Z g) (hi0 : i0 < Z.n) (hl : lv_has ls 3 [(0, .ref (Z.ad 4 i0))]) (hQ : ∀ (pc' : Nat) (ls' : Array Slot) (r : Int32) (g1 : mSt) (H1 : Heap) (locs1 : List Loc), decode cX8_openCalls pc' = .ok (.ireturn, 1) → cL G Z A H0 X g1 H1 locs1 → (mFr [] g g1 ∧ rg (-2147483648) (2147483647) r ∧ cJ Z g1 ∧ True) → W p l e rm_kopenCalls_4 s m args below meth c H1 locs1 0 0 Q (F0 m pc' ls' [.int r])) : W p l e rm_kopenCalls_4 s m args below meth c H locs 0 0 Q (F0 m 0 ls []) := by
  have hx := x.1
  have hb := x.2.1
  have hz := x.2.2.2.2.2.2.2.1
  have hzn := hz.1
  have hal0 : Z.al 4 i0 := hz.2 4 i0 (show i0 < Z.n from hi0)
  refine lv_iconst (v := 0) hx hb dX8_openCalls_0 (by decide) ?_
  refine lv_istore_n (lv' := [(1, .int (0 : Int32)), (0, .ref (Z.ad 4 i0))]) hx hb dX8_openCalls_1 rfl hl (by decide) rfl (fun ls hl => ?_)
  refine lv_iconst (v := 0) hx hb dX8_openCalls_2 (by decide) ?_
  refine lv_istore_n (lv' := [(2, .int (0 : Int32)), (1, .int (0 : Int32)), (0, .ref (Z.ad 4 i0))]) hx hb dX8_openCalls_3 rfl hl (by decide) rfl (fun ls hl => ?_)
  have j4_3 : ∀ (n : Nat) (a4_1_1 a4_2_2 : Int32) (g3 : mSt) (H3 : Heap) (k3 : List Loc) (ls : Array Slot), mFr [] g g3 → cL G Z A H0 X g3 H3 k3 → cJ Z g3 → rg (-2147483648) (2147483647) a4_1_1 → rg (0) (2147483647) a4_2_2 → lv_has ls 3 [(0, .ref (Z.ad 4 i0)), (1, .int a4_1_1), (2, .int a4_2_2)] → ((2147483647 : Int) - a4_2_2.toInt).toNat = n → W p l e rm_kopenCalls_4 s m args below meth c H3 k3 0 0 Q (F0 m 4 ls []) := by
    intro n
    induction n using Nat.strongRecOn with
    | _ n ih3 =>
      intro a4_1_1 a4_2_2 g3 H3 k3 ls hF3 L3 hJ3 ra4_1_1 ra4_2_2 hl hn3
      subst hn3
      have ua4_1_1 : (-2147483648 : Int) ≤ a4_1_1.toInt ∧ a4_1_1.toInt ≤ 2147483647 := ra4_1_1
      have ua4_2_2 : (0 : Int) ≤ a4_2_2.toInt ∧ a4_2_2.toInt ≤ 2147483647 := ra4_2_2
      refine lv_iload_n hx hb dX8_openCalls_4 rfl (lv_at hl 2 rfl) ?_
      refine lv_aload_n hx hb dX8_openCalls_5 rfl (lv_at hl 0 rfl) ?_
      have al4 : Z.al 12 i0 := hz.2 12 i0 (show i0 < 2 * Z.n from (by omega))
      refine c_getr (a := Z.ad 12 i0) x L3 4 i0 2 hal0 rfl rfl (wk_in kf_X8_10) dX8_openCalls_6 ?_
      refine c_ci (As := []) (rest := [.int a4_2_2]) x hml L3 12 i0 al4 rfl (c_klsize l X g3 i0 hX (show i0 < 2 * Z.n from (by omega))) (wk_V kd_Jx4a65c_size_8abf5 kl_X8_24 ki_Jx4a65c_size_8abf5 ks_Jx4a65c_Jx4a65c_size_8abf5 kn_Jx4a65c) rfl ⟨rfl, rfl⟩ hd_klsize ⟨Nat.le_of_ble_eq_true rfl, Nat.le_of_ble_eq_true rfl⟩ rfl hl.1 rfl (lv_room (Nat.le_of_ble_eq_true rfl)) dX8_openCalls_9 (fun v6 g5 H5 k5 hp5 L5 => ?_)
      have rv6 : rg (-2147483648) (2147483647) v6 := hp5.2.1
      have uv6 : (-2147483648 : Int) ≤ v6.toInt ∧ v6.toInt ≤ 2147483647 := rv6
      refine lv_icmp_ge (tgt := 46) hx hb dX8_openCalls_12 (by decide) (fun c12_7 => ?_) (fun c12_7 => ?_)
      · skip
        have ic12_7 := Int32.le_iff_toInt_le.mp c12_7
        refine lv_iload_n hx hb dX8_openCalls_46 rfl (lv_at hl 1 rfl) ?_
        exact hQ _ _ a4_1_1 _ _ _ dX8_openCalls_47 L5 ⟨(mFr.tr (mFr.tr mFr.rf hF3 rfl) hp5.1 rfl), rg_w ra4_1_1 rfl, (cJ_fr hJ3 hp5.1 rfl), trivial⟩
      · skip
        have ic12_7 := Int32.lt_iff_toInt_lt.mp (rg_nle c12_7)
        have q8 : rg (0) (2147483646) a4_2_2 := (rg_lt (rg_nle c12_7) ra4_2_2 rv6).1
        have uq8 : (0 : Int) ≤ a4_2_2.toInt ∧ a4_2_2.toInt ≤ 2147483646 := q8
        have q9 : rg (1) (2147483647) v6 := (rg_lt (rg_nle c12_7) ra4_2_2 rv6).2
        have uq9 : (1 : Int) ≤ v6.toInt ∧ v6.toInt ≤ 2147483647 := q9
        refine lv_iload_n hx hb dX8_openCalls_15 rfl (lv_at hl 1 rfl) ?_
        refine lv_aload_n hx hb dX8_openCalls_16 rfl (lv_at hl 0 rfl) ?_
        refine c_getr (a := Z.ad 12 i0) x L5 4 i0 2 hal0 rfl rfl (wk_in kf_X8_10) dX8_openCalls_17 ?_
        refine lv_iload_n hx hb dX8_openCalls_20 rfl (lv_at hl 2 rfl) ?_
        have y10 := congrArg Int32.toInt hp5.2.2
        refine c_cr (As := [.int a4_2_2]) (rest := [.int a4_1_1]) x hml L5 12 i0 al4 rfl (c_klget l X g5 i0 a4_2_2 hX (cJ_fr hJ3 hp5.1 rfl) (show i0 < 2 * Z.n from (by omega)) (by omega)) (wk_V kd_Jx4a65c_get_915e3 kl_X8_28 ki_Jx4a65c_get_915e3 ks_Jx4a65c_Jx4a65c_get_915e3 kn_Jx4a65c) rfl ⟨rfl, rfl⟩ hd_klget ⟨Nat.le_of_ble_eq_true rfl, Nat.le_of_ble_eq_true rfl⟩ rfl hl.1 rfl (lv_room (Nat.le_of_ble_eq_true rfl)) dX8_openCalls_21 (fun v12 g11 H11 k11 hp11 L11 => ?_)
        have hvv12 := hp11.2.2
        rw [(show mFr [] g g5 from (mFr.tr (mFr.tr mFr.rf hF3 rfl) hp5.1 rfl)).at 32 rfl] at hvv12
        refine c_top (show Value.ref (Z.ad 1 v12.toInt.toNat) = va_rf (cOpt Z 1 v12) from (by rw [cOpt_some hvv12.1]; rfl)) ?_
        refine c_cast x L11 1 v12.toInt.toNat hvv12.2.1 rfl (wk_in kc_lX8_32) dX8_openCalls_24 ?_
        refine c_ci (As := []) (rest := [.int a4_1_1]) x hml L11 1 v12.toInt.toNat hvv12.2.1 rfl (c_kisOpen l X g11 v12.toInt.toNat hX hvv12.2.1) (wk_V kd_X1_isOpen kl_X8_34 ki_X1_isOpen ks_X1_X1_isOpen kn_X1) rfl ⟨rfl, rfl⟩ hd_kisOpen ⟨Nat.le_of_ble_eq_true rfl, Nat.le_of_ble_eq_true rfl⟩ rfl hl.1 rfl (lv_room (Nat.le_of_ble_eq_true rfl)) dX8_openCalls_27 (fun v14 g13 H13 k13 hp13 L13 => ?_)
        have rv14 : rg (0) (1) v14 := hp13.2.1
        have uv14 : (0 : Int) ≤ v14.toInt ∧ v14.toInt ≤ 1 := rv14
        have j38_16 : ∀ (b38_1_15 : Int32) (g16 : mSt) (H16 : Heap) (k16 : List Loc) (ls : Array Slot), mFr [] g13 g16 → cL G Z A H0 X g16 H16 k16 → cJ Z g16 → rg (0) (1) b38_1_15 → lv_has ls 3 [(0, .ref (Z.ad 4 i0)), (2, .int a4_2_2)] → W p l e rm_kopenCalls_4 s m args below meth c H16 k16 0 0 Q (F0 m 38 ls [.int b38_1_15, .int a4_1_1]) := by
          intro b38_1_15 g16 H16 k16 ls hF16 L16 hJ16 rb38_1_15 hl
          have ub38_1_15 : (0 : Int) ≤ b38_1_15.toInt ∧ b38_1_15.toInt ≤ 1 := rb38_1_15
          refine lv_iadd hx hb dX8_openCalls_38 ?_
          refine lv_topi (fun v17 ev17 => ?_)
          have rv17 : rg (-2147483648) (2147483647) v17 := rg_any v17
          have uv17 : (-2147483648 : Int) ≤ v17.toInt ∧ v17.toInt ≤ 2147483647 := rv17
          refine lv_istore_n (lv' := [(1, .int v17), (0, .ref (Z.ad 4 i0)), (2, .int a4_2_2)]) hx hb dX8_openCalls_39 rfl hl (by decide) rfl (fun ls hl => ?_)
          obtain ⟨v18, ev18, fv18⟩ := inc_ex a4_2_2 (1) (1 : Int32) (by decide)
          have rv18 : rg (1) (2147483647) v18 := (rg_add ev18 q8 kc_1 rfl).1
          have tv18 := (rg_add ev18 q8 kc_1 rfl).2
          have yv18 : (1 : Int32).toInt = 1 := by decide
          refine lv_iinc (v := v18) (lv' := [(2, .int v18), (1, .int v17), (0, .ref (Z.ad 4 i0))]) hx hb dX8_openCalls_40 hl (k := 2) rfl fv18 (by decide) rfl (fun ls hl => ?_)
          refine lv_goto (tgt := 4) hx hb dX8_openCalls_43 (by decide) ?_
          exact ih3 _ (ms_up tv18 kc_1 q8 rfl rfl) v17 v18 g16 _ _ ls (mFr.tr (mFr.tr (mFr.tr (mFr.tr hF3 hp5.1 rfl) hp11.1 rfl) hp13.1 rfl) hF16 rfl) L16 hJ16 (rg_w rv17 rfl) (rg_w rv18 rfl) (lv_sub hl [2, 1, 0] rfl) rfl
        refine lv_if_eq (tgt := 37) hx hb dX8_openCalls_30 (by decide) (fun c30_19 => ?_) (fun c30_19 => ?_)
        · skip
          have ic30_19 := congrArg Int32.toInt c30_19
          have y20 : (0 : Int32).toInt = 0 := by decide
          have q21 : rg (0) (0) v14 := (rg_eq c30_19 rv14 kc_0).1
          have uq21 : (0 : Int) ≤ v14.toInt ∧ v14.toInt ≤ 0 := q21
          refine lv_iconst (v := 0) hx hb dX8_openCalls_37 (by decide) ?_
          have y22 : (0 : Int32).toInt = 0 := by decide
          exact j38_16 (0 : Int32) g13 _ _ ls mFr.rf L13 (cJ_fr hp11.2.1 hp13.1 rfl) (rg_w kc_0 rfl) (lv_sub hl [0, 2] rfl)
        · skip
          have ic30_19 : v14.toInt ≠ (0 : Int32).toInt := fun z => c30_19 (Int32.toInt_inj.mp z)
          have y23 : (0 : Int32).toInt = 0 := by decide
          have q24 : rg (1) (1) v14 := rg_neL c30_19 rv14 kc_0
          have uq24 : (1 : Int) ≤ v14.toInt ∧ v14.toInt ≤ 1 := q24
          refine lv_iconst (v := 1) hx hb dX8_openCalls_33 (by decide) ?_
          refine lv_goto (tgt := 38) hx hb dX8_openCalls_34 (by decide) ?_
          have y25 : (1 : Int32).toInt = 1 := by decide
          exact j38_16 (1 : Int32) g13 _ _ ls mFr.rf L13 (cJ_fr hp11.2.1 hp13.1 rfl) (rg_w kc_1 rfl) (lv_sub hl [0, 2] rfl)
  have y26 : (0 : Int32).toInt = 0 := by decide
  have y27 : (0 : Int32).toInt = 0 := by decide
  exact j4_3 _ (0 : Int32) (0 : Int32) g _ _ ls mFr.rf L hJ (rg_w kc_0 rfl) (rg_w kc_0 rfl) (lv_sub hl [2, 1, 0] rfl) rfl
theorem c_kopenCalls_4 (l : Launch) {G : cG} {Z : cZ} (X : Int) (g : mSt) (i0 : Nat) (hX : 0 ≤ X ∧ X ≤ 2000000000) (hJ : cJ Z g) (hi0 : i0 < Z.n) : Met l yX8_openCalls (wk (Cond.code yX8_openCalls cX8_openCalls 3 (some .int))) rm_kopenCalls_4 (va_Pc [.ref (Z.ad 4 i0)] (cPre G Z X g)) (cQi G Z X (fun r g1 => mFr [] g g1 ∧ rg (-2147483648) (2147483647) r ∧ cJ Z g1 ∧ True)) 0 0 (cAd Z) := by
  refine Met.ofW (cc := cX8_openCalls) (maxL := 3) (ret := (some .int)) (by decide) rfl ?_
  intro p e s m args below meth c s₁ B hml hv
  obtain ⟨rfl, hv⟩ := hv
  have hr := B.returns
  have hlocks := B.notSynchronized
  obtain ⟨x, L⟩ := c_start B rfl (fun w h => wk_in h) hv
  have hl := lv_entry ([.ref (Z.ad 4 i0)]) (n := 3) (Nat.le_of_ble_eq_true rfl)
  rw [lg_entry_eq]
  generalize (lg_sl ([.ref (Z.ad 4 i0)]) ++ List.replicate (3 - (lg_sl ([.ref (Z.ad 4 i0)])).length) Slot.unset).toArray = ls at hl ⊢
  exact w_kopenCalls_4 x hml L hX i0 hJ hi0 hl (fun pc' ls' r g1 H1 locs1 hdg L hp => c_iret x L hr hlocks (Int.le_refl _) hp hdg)

def rm_kopenCalls_10 : Room := { frames := 3, cells := 0, slots := 0, locals := 64 }
theorem hd_kopenCalls_10 : yX8_openCalls.cls ≠ "java/lang/invoke/MethodHandle" ∧ yX8_openCalls.cls ≠ "java/lang/invoke/VarHandle" ∧ (parseMethodDescriptor yX8_openCalls.desc).map (fun d => d.parameters.length) = some 0 := by decide +kernel
set_option maxHeartbeats 4000000 in
set_option maxRecDepth 100000 in
theorem w_kopenCalls_10 {p : Program} {l : Launch} {e : Env} {s : State} {m : MethodId} {args : Array Value} {below : List Frame} {meth : Method} {c : Code} {H : Heap} {locs : List Loc} {Q : State → Prop} {ls : Array Slot} {G : cG} {Z : cZ} {A : Nat → Prop} {g : mSt} {H0 : Heap} {X : Int} (x : cX p c cX8_openCalls s args (wk (Cond.code yX8_openCalls cX8_openCalls 3 (some .int))) m G Z A RX8 H0) (hml : c.maxLocals = 3) (L : cL G Z A H0 X g H locs) (hX : 0 ≤ X ∧ X ≤ 2000000000) (i0 : Nat) (hJ : cJ Z g) (hi0 : i0 < Z.n) (hl : lv_has ls 3 [(0, .ref (Z.ad 10 i0))]) (hQ : ∀ (pc' : Nat) (ls' : Array Slot) (r : Int32) (g1 : mSt) (H1 : Heap) (locs1 : List Loc), decode cX8_openCalls pc' = .ok (.ireturn, 1) → cL G Z A H0 X g1 H1 locs1 → (mFr [] g g1 ∧ rg (-2147483648) (2147483647) r ∧ cJ Z g1 ∧ True) → W p l e rm_kopenCalls_10 s m args below meth c H1 locs1 0 0 Q (F0 m pc' ls' [.int r])) : W p l e rm_kopenCalls_10 s m args below meth c H locs 0 0 Q (F0 m 0 ls []) := by
  have hx := x.1
  have hb := x.2.1
  have hz := x.2.2.2.2.2.2.2.1
  have hzn := hz.1
  have hal0 : Z.al 10 i0 := hz.2 10 i0 (show i0 < Z.n from hi0)
  refine lv_iconst (v := 0) hx hb dX8_openCalls_0 (by decide) ?_
  refine lv_istore_n (lv' := [(1, .int (0 : Int32)), (0, .ref (Z.ad 10 i0))]) hx hb dX8_openCalls_1 rfl hl (by decide) rfl (fun ls hl => ?_)
  refine lv_iconst (v := 0) hx hb dX8_openCalls_2 (by decide) ?_
  refine lv_istore_n (lv' := [(2, .int (0 : Int32)), (1, .int (0 : Int32)), (0, .ref (Z.ad 10 i0))]) hx hb dX8_openCalls_3 rfl hl (by decide) rfl (fun ls hl => ?_)
  have j4_3 : ∀ (n : Nat) (a4_1_1 a4_2_2 : Int32) (g3 : mSt) (H3 : Heap) (k3 : List Loc) (ls : Array Slot), mFr [] g g3 → cL G Z A H0 X g3 H3 k3 → cJ Z g3 → rg (-2147483648) (2147483647) a4_1_1 → rg (0) (2147483647) a4_2_2 → lv_has ls 3 [(0, .ref (Z.ad 10 i0)), (1, .int a4_1_1), (2, .int a4_2_2)] → ((2147483647 : Int) - a4_2_2.toInt).toNat = n → W p l e rm_kopenCalls_10 s m args below meth c H3 k3 0 0 Q (F0 m 4 ls []) := by
    intro n
    induction n using Nat.strongRecOn with
    | _ n ih3 =>
      intro a4_1_1 a4_2_2 g3 H3 k3 ls hF3 L3 hJ3 ra4_1_1 ra4_2_2 hl hn3
      subst hn3
      have ua4_1_1 : (-2147483648 : Int) ≤ a4_1_1.toInt ∧ a4_1_1.toInt ≤ 2147483647 := ra4_1_1
      have ua4_2_2 : (0 : Int) ≤ a4_2_2.toInt ∧ a4_2_2.toInt ≤ 2147483647 := ra4_2_2
      refine lv_iload_n hx hb dX8_openCalls_4 rfl (lv_at hl 2 rfl) ?_
      refine lv_aload_n hx hb dX8_openCalls_5 rfl (lv_at hl 0 rfl) ?_
      have al4 : Z.al 12 (Z.n + i0) := hz.2 12 (Z.n + i0) (show (Z.n + i0) < 2 * Z.n from (by omega))
      refine c_getr (a := Z.ad 12 (Z.n + i0)) x L3 10 i0 2 hal0 rfl rfl (wk_in kf_X8_10) dX8_openCalls_6 ?_
      refine c_ci (As := []) (rest := [.int a4_2_2]) x hml L3 12 (Z.n + i0) al4 rfl (c_klsize l X g3 (Z.n + i0) hX (show (Z.n + i0) < 2 * Z.n from (by omega))) (wk_V kd_Jx4a65c_size_8abf5 kl_X8_24 ki_Jx4a65c_size_8abf5 ks_Jx4a65c_Jx4a65c_size_8abf5 kn_Jx4a65c) rfl ⟨rfl, rfl⟩ hd_klsize ⟨Nat.le_of_ble_eq_true rfl, Nat.le_of_ble_eq_true rfl⟩ rfl hl.1 rfl (lv_room (Nat.le_of_ble_eq_true rfl)) dX8_openCalls_9 (fun v6 g5 H5 k5 hp5 L5 => ?_)
      have rv6 : rg (-2147483648) (2147483647) v6 := hp5.2.1
      have uv6 : (-2147483648 : Int) ≤ v6.toInt ∧ v6.toInt ≤ 2147483647 := rv6
      refine lv_icmp_ge (tgt := 46) hx hb dX8_openCalls_12 (by decide) (fun c12_7 => ?_) (fun c12_7 => ?_)
      · skip
        have ic12_7 := Int32.le_iff_toInt_le.mp c12_7
        refine lv_iload_n hx hb dX8_openCalls_46 rfl (lv_at hl 1 rfl) ?_
        exact hQ _ _ a4_1_1 _ _ _ dX8_openCalls_47 L5 ⟨(mFr.tr (mFr.tr mFr.rf hF3 rfl) hp5.1 rfl), rg_w ra4_1_1 rfl, (cJ_fr hJ3 hp5.1 rfl), trivial⟩
      · skip
        have ic12_7 := Int32.lt_iff_toInt_lt.mp (rg_nle c12_7)
        have q8 : rg (0) (2147483646) a4_2_2 := (rg_lt (rg_nle c12_7) ra4_2_2 rv6).1
        have uq8 : (0 : Int) ≤ a4_2_2.toInt ∧ a4_2_2.toInt ≤ 2147483646 := q8
        have q9 : rg (1) (2147483647) v6 := (rg_lt (rg_nle c12_7) ra4_2_2 rv6).2
        have uq9 : (1 : Int) ≤ v6.toInt ∧ v6.toInt ≤ 2147483647 := q9
        refine lv_iload_n hx hb dX8_openCalls_15 rfl (lv_at hl 1 rfl) ?_
        refine lv_aload_n hx hb dX8_openCalls_16 rfl (lv_at hl 0 rfl) ?_
        refine c_getr (a := Z.ad 12 (Z.n + i0)) x L5 10 i0 2 hal0 rfl rfl (wk_in kf_X8_10) dX8_openCalls_17 ?_
        refine lv_iload_n hx hb dX8_openCalls_20 rfl (lv_at hl 2 rfl) ?_
        have y10 := congrArg Int32.toInt hp5.2.2
        refine c_cr (As := [.int a4_2_2]) (rest := [.int a4_1_1]) x hml L5 12 (Z.n + i0) al4 rfl (c_klget l X g5 (Z.n + i0) a4_2_2 hX (cJ_fr hJ3 hp5.1 rfl) (show (Z.n + i0) < 2 * Z.n from (by omega)) (by omega)) (wk_V kd_Jx4a65c_get_915e3 kl_X8_28 ki_Jx4a65c_get_915e3 ks_Jx4a65c_Jx4a65c_get_915e3 kn_Jx4a65c) rfl ⟨rfl, rfl⟩ hd_klget ⟨Nat.le_of_ble_eq_true rfl, Nat.le_of_ble_eq_true rfl⟩ rfl hl.1 rfl (lv_room (Nat.le_of_ble_eq_true rfl)) dX8_openCalls_21 (fun v12 g11 H11 k11 hp11 L11 => ?_)
        have hvv12 := hp11.2.2
        rw [(show mFr [] g g5 from (mFr.tr (mFr.tr mFr.rf hF3 rfl) hp5.1 rfl)).at 32 rfl] at hvv12
        refine c_top (show Value.ref (Z.ad 1 v12.toInt.toNat) = va_rf (cOpt Z 1 v12) from (by rw [cOpt_some hvv12.1]; rfl)) ?_
        refine c_cast x L11 1 v12.toInt.toNat hvv12.2.1 rfl (wk_in kc_lX8_32) dX8_openCalls_24 ?_
        refine c_ci (As := []) (rest := [.int a4_1_1]) x hml L11 1 v12.toInt.toNat hvv12.2.1 rfl (c_kisOpen l X g11 v12.toInt.toNat hX hvv12.2.1) (wk_V kd_X1_isOpen kl_X8_34 ki_X1_isOpen ks_X1_X1_isOpen kn_X1) rfl ⟨rfl, rfl⟩ hd_kisOpen ⟨Nat.le_of_ble_eq_true rfl, Nat.le_of_ble_eq_true rfl⟩ rfl hl.1 rfl (lv_room (Nat.le_of_ble_eq_true rfl)) dX8_openCalls_27 (fun v14 g13 H13 k13 hp13 L13 => ?_)
        have rv14 : rg (0) (1) v14 := hp13.2.1
        have uv14 : (0 : Int) ≤ v14.toInt ∧ v14.toInt ≤ 1 := rv14
        have j38_16 : ∀ (b38_1_15 : Int32) (g16 : mSt) (H16 : Heap) (k16 : List Loc) (ls : Array Slot), mFr [] g13 g16 → cL G Z A H0 X g16 H16 k16 → cJ Z g16 → rg (0) (1) b38_1_15 → lv_has ls 3 [(0, .ref (Z.ad 10 i0)), (2, .int a4_2_2)] → W p l e rm_kopenCalls_10 s m args below meth c H16 k16 0 0 Q (F0 m 38 ls [.int b38_1_15, .int a4_1_1]) := by
          intro b38_1_15 g16 H16 k16 ls hF16 L16 hJ16 rb38_1_15 hl
          have ub38_1_15 : (0 : Int) ≤ b38_1_15.toInt ∧ b38_1_15.toInt ≤ 1 := rb38_1_15
          refine lv_iadd hx hb dX8_openCalls_38 ?_
          refine lv_topi (fun v17 ev17 => ?_)
          have rv17 : rg (-2147483648) (2147483647) v17 := rg_any v17
          have uv17 : (-2147483648 : Int) ≤ v17.toInt ∧ v17.toInt ≤ 2147483647 := rv17
          refine lv_istore_n (lv' := [(1, .int v17), (0, .ref (Z.ad 10 i0)), (2, .int a4_2_2)]) hx hb dX8_openCalls_39 rfl hl (by decide) rfl (fun ls hl => ?_)
          obtain ⟨v18, ev18, fv18⟩ := inc_ex a4_2_2 (1) (1 : Int32) (by decide)
          have rv18 : rg (1) (2147483647) v18 := (rg_add ev18 q8 kc_1 rfl).1
          have tv18 := (rg_add ev18 q8 kc_1 rfl).2
          have yv18 : (1 : Int32).toInt = 1 := by decide
          refine lv_iinc (v := v18) (lv' := [(2, .int v18), (1, .int v17), (0, .ref (Z.ad 10 i0))]) hx hb dX8_openCalls_40 hl (k := 2) rfl fv18 (by decide) rfl (fun ls hl => ?_)
          refine lv_goto (tgt := 4) hx hb dX8_openCalls_43 (by decide) ?_
          exact ih3 _ (ms_up tv18 kc_1 q8 rfl rfl) v17 v18 g16 _ _ ls (mFr.tr (mFr.tr (mFr.tr (mFr.tr hF3 hp5.1 rfl) hp11.1 rfl) hp13.1 rfl) hF16 rfl) L16 hJ16 (rg_w rv17 rfl) (rg_w rv18 rfl) (lv_sub hl [2, 1, 0] rfl) rfl
        refine lv_if_eq (tgt := 37) hx hb dX8_openCalls_30 (by decide) (fun c30_19 => ?_) (fun c30_19 => ?_)
        · skip
          have ic30_19 := congrArg Int32.toInt c30_19
          have y20 : (0 : Int32).toInt = 0 := by decide
          have q21 : rg (0) (0) v14 := (rg_eq c30_19 rv14 kc_0).1
          have uq21 : (0 : Int) ≤ v14.toInt ∧ v14.toInt ≤ 0 := q21
          refine lv_iconst (v := 0) hx hb dX8_openCalls_37 (by decide) ?_
          have y22 : (0 : Int32).toInt = 0 := by decide
          exact j38_16 (0 : Int32) g13 _ _ ls mFr.rf L13 (cJ_fr hp11.2.1 hp13.1 rfl) (rg_w kc_0 rfl) (lv_sub hl [0, 2] rfl)
        · skip
          have ic30_19 : v14.toInt ≠ (0 : Int32).toInt := fun z => c30_19 (Int32.toInt_inj.mp z)
          have y23 : (0 : Int32).toInt = 0 := by decide
          have q24 : rg (1) (1) v14 := rg_neL c30_19 rv14 kc_0
          have uq24 : (1 : Int) ≤ v14.toInt ∧ v14.toInt ≤ 1 := q24
          refine lv_iconst (v := 1) hx hb dX8_openCalls_33 (by decide) ?_
          refine lv_goto (tgt := 38) hx hb dX8_openCalls_34 (by decide) ?_
          have y25 : (1 : Int32).toInt = 1 := by decide
          exact j38_16 (1 : Int32) g13 _ _ ls mFr.rf L13 (cJ_fr hp11.2.1 hp13.1 rfl) (rg_w kc_1 rfl) (lv_sub hl [0, 2] rfl)
  have y26 : (0 : Int32).toInt = 0 := by decide
  have y27 : (0 : Int32).toInt = 0 := by decide
  exact j4_3 _ (0 : Int32) (0 : Int32) g _ _ ls mFr.rf L hJ (rg_w kc_0 rfl) (rg_w kc_0 rfl) (lv_sub hl [2, 1, 0] rfl) rfl
theorem c_kopenCalls_10 (l : Launch) {G : cG} {Z : cZ} (X : Int) (g : mSt) (i0 : Nat) (hX : 0 ≤ X ∧ X ≤ 2000000000) (hJ : cJ Z g) (hi0 : i0 < Z.n) : Met l yX8_openCalls (wk (Cond.code yX8_openCalls cX8_openCalls 3 (some .int))) rm_kopenCalls_10 (va_Pc [.ref (Z.ad 10 i0)] (cPre G Z X g)) (cQi G Z X (fun r g1 => mFr [] g g1 ∧ rg (-2147483648) (2147483647) r ∧ cJ Z g1 ∧ True)) 0 0 (cAd Z) := by
  refine Met.ofW (cc := cX8_openCalls) (maxL := 3) (ret := (some .int)) (by decide) rfl ?_
  intro p e s m args below meth c s₁ B hml hv
  obtain ⟨rfl, hv⟩ := hv
  have hr := B.returns
  have hlocks := B.notSynchronized
  obtain ⟨x, L⟩ := c_start B rfl (fun w h => wk_in h) hv
  have hl := lv_entry ([.ref (Z.ad 10 i0)]) (n := 3) (Nat.le_of_ble_eq_true rfl)
  rw [lg_entry_eq]
  generalize (lg_sl ([.ref (Z.ad 10 i0)]) ++ List.replicate (3 - (lg_sl ([.ref (Z.ad 10 i0)])).length) Slot.unset).toArray = ls at hl ⊢
  exact w_kopenCalls_10 x hml L hX i0 hJ hi0 hl (fun pc' ls' r g1 H1 locs1 hdg L hp => c_iret x L hr hlocks (Int.le_refl _) hp hdg)

def rm_kplaceOfReference_4 : Room := { frames := 3, cells := 0, slots := 0, locals := 64 }
theorem hd_kplaceOfReference_4 : yX8_placeOfReference.cls ≠ "java/lang/invoke/MethodHandle" ∧ yX8_placeOfReference.cls ≠ "java/lang/invoke/VarHandle" ∧ (parseMethodDescriptor yX8_placeOfReference.desc).map (fun d => d.parameters.length) = some 2 := by decide +kernel
set_option maxHeartbeats 4000000 in
set_option maxRecDepth 100000 in
theorem w_kplaceOfReference_4 {p : Program} {l : Launch} {e : Env} {s : State} {m : MethodId} {args : Array Value} {below : List Frame} {meth : Method} {c : Code} {H : Heap} {locs : List Loc} {Q : State → Prop} {ls : Array Slot} {G : cG} {Z : cZ} {A : Nat → Prop} {g : mSt} {H0 : Heap} {X : Int} (x : cX p c cX8_placeOfReference s args (wk (Cond.code yX8_placeOfReference cX8_placeOfReference 5 (some .int))) m G Z A RX8 H0) (hml : c.maxLocals = 5) (L : cL G Z A H0 X g H locs) (hX : 0 ≤ X ∧ X ≤ 2000000000) (i0 : Nat) (p1 : Int32) (p2 : Int32) (hJ : cJ Z g) (hi0 : i0 < Z.n) (rp2 : rg (0) (1) p2) (hl : lv_has ls 5 [(0, .ref (Z.ad 4 i0)), (1, .int p1), (2, .int p2)]) (hQ : ∀ (pc' : Nat) (ls' : Array Slot) (r : Int32) (g1 : mSt) (H1 : Heap) (locs1 : List Loc), decode cX8_placeOfReference pc' = .ok (.ireturn, 1) → cL G Z A H0 X g1 H1 locs1 → (mFr [] g g1 ∧ rg (-1) (2147483646) r ∧ cJ Z g1 ∧ (r.toInt < (g 386 i0).toInt)) → W p l e rm_kplaceOfReference_4 s m args below meth c H1 locs1 0 0 Q (F0 m pc' ls' [.int r])) : W p l e rm_kplaceOfReference_4 s m args below meth c H locs 0 0 Q (F0 m 0 ls []) := by
  have hx := x.1
  have hb := x.2.1
  have hz := x.2.2.2.2.2.2.2.1
  have hzn := hz.1
  have hal0 : Z.al 4 i0 := hz.2 4 i0 (show i0 < Z.n from hi0)
  have up1 : (-2147483648 : Int) ≤ p1.toInt ∧ p1.toInt ≤ 2147483647 := (rg_any p1)
  have up2 : (0 : Int) ≤ p2.toInt ∧ p2.toInt ≤ 1 := rp2
  refine lv_iconst (v := 0) hx hb dX8_placeOfReference_0 (by decide) ?_
  refine lv_istore_n (lv' := [(3, .int (0 : Int32)), (0, .ref (Z.ad 4 i0)), (1, .int p1), (2, .int p2)]) hx hb dX8_placeOfReference_1 rfl hl (by decide) rfl (fun ls hl => ?_)
  have j2_2 : ∀ (n : Nat) (a2_3_1 : Int32) (g2 : mSt) (H2 : Heap) (k2 : List Loc) (ls : Array Slot), mFr [] g g2 → cL G Z A H0 X g2 H2 k2 → cJ Z g2 → rg (0) (2147483647) a2_3_1 → lv_has ls 5 [(0, .ref (Z.ad 4 i0)), (1, .int p1), (2, .int p2), (3, .int a2_3_1)] → ((2147483647 : Int) - a2_3_1.toInt).toNat = n → W p l e rm_kplaceOfReference_4 s m args below meth c H2 k2 0 0 Q (F0 m 2 ls []) := by
    intro n
    induction n using Nat.strongRecOn with
    | _ n ih2 =>
      intro a2_3_1 g2 H2 k2 ls hF2 L2 hJ2 ra2_3_1 hl hn2
      subst hn2
      have ua2_3_1 : (0 : Int) ≤ a2_3_1.toInt ∧ a2_3_1.toInt ≤ 2147483647 := ra2_3_1
      refine lv_iload_n hx hb dX8_placeOfReference_2 rfl (lv_at hl 3 rfl) ?_
      refine lv_aload_n hx hb dX8_placeOfReference_3 rfl (lv_at hl 0 rfl) ?_
      have al3 : Z.al 12 i0 := hz.2 12 i0 (show i0 < 2 * Z.n from (by omega))
      refine c_getr (a := Z.ad 12 i0) x L2 4 i0 2 hal0 rfl rfl (wk_in kf_X8_10) dX8_placeOfReference_4 ?_
      refine c_ci (As := []) (rest := [.int a2_3_1]) x hml L2 12 i0 al3 rfl (c_klsize l X g2 i0 hX (show i0 < 2 * Z.n from (by omega))) (wk_V kd_Jx4a65c_size_8abf5 kl_X8_24 ki_Jx4a65c_size_8abf5 ks_Jx4a65c_Jx4a65c_size_8abf5 kn_Jx4a65c) rfl ⟨rfl, rfl⟩ hd_klsize ⟨Nat.le_of_ble_eq_true rfl, Nat.le_of_ble_eq_true rfl⟩ rfl hl.1 rfl (lv_room (Nat.le_of_ble_eq_true rfl)) dX8_placeOfReference_7 (fun v5 g4 H4 k4 hp4 L4 => ?_)
      have rv5 : rg (-2147483648) (2147483647) v5 := hp4.2.1
      have uv5 : (-2147483648 : Int) ≤ v5.toInt ∧ v5.toInt ≤ 2147483647 := rv5
      refine lv_icmp_ge (tgt := 52) hx hb dX8_placeOfReference_10 (by decide) (fun c10_6 => ?_) (fun c10_6 => ?_)
      · skip
        have ic10_6 := Int32.le_iff_toInt_le.mp c10_6
        refine lv_iconst (v := (-1)) hx hb dX8_placeOfReference_52 (by decide) ?_
        exact hQ _ _ (-1 : Int32) _ _ _ dX8_placeOfReference_53 L4 ⟨(mFr.tr (mFr.tr mFr.rf hF2 rfl) hp4.1 rfl), rg_w kc_m1 rfl, (cJ_fr hJ2 hp4.1 rfl), (by have := ((cJ_fr hJ2 hp4.1 rfl).2.2.1 i0 (by omega)).1; rw [(show mFr [] g g4 from (mFr.tr (mFr.tr mFr.rf hF2 rfl) hp4.1 rfl)).at 386 rfl] at this; have : (-1 : Int32).toInt = -1 := (by decide); omega)⟩
      · skip
        have ic10_6 := Int32.lt_iff_toInt_lt.mp (rg_nle c10_6)
        have q7 : rg (0) (2147483646) a2_3_1 := (rg_lt (rg_nle c10_6) ra2_3_1 rv5).1
        have uq7 : (0 : Int) ≤ a2_3_1.toInt ∧ a2_3_1.toInt ≤ 2147483646 := q7
        have q8 : rg (1) (2147483647) v5 := (rg_lt (rg_nle c10_6) ra2_3_1 rv5).2
        have uq8 : (1 : Int) ≤ v5.toInt ∧ v5.toInt ≤ 2147483647 := q8
        refine lv_aload_n hx hb dX8_placeOfReference_13 rfl (lv_at hl 0 rfl) ?_
        refine c_getr (a := Z.ad 12 i0) x L4 4 i0 2 hal0 rfl rfl (wk_in kf_X8_10) dX8_placeOfReference_14 ?_
        refine lv_iload_n hx hb dX8_placeOfReference_17 rfl (lv_at hl 3 rfl) ?_
        have y9 := congrArg Int32.toInt hp4.2.2
        refine c_cr (As := [.int a2_3_1]) (rest := []) x hml L4 12 i0 al3 rfl (c_klget l X g4 i0 a2_3_1 hX (cJ_fr hJ2 hp4.1 rfl) (show i0 < 2 * Z.n from (by omega)) (by omega)) (wk_V kd_Jx4a65c_get_915e3 kl_X8_28 ki_Jx4a65c_get_915e3 ks_Jx4a65c_Jx4a65c_get_915e3 kn_Jx4a65c) rfl ⟨rfl, rfl⟩ hd_klget ⟨Nat.le_of_ble_eq_true rfl, Nat.le_of_ble_eq_true rfl⟩ rfl hl.1 rfl (lv_room (Nat.le_of_ble_eq_true rfl)) dX8_placeOfReference_18 (fun v11 g10 H10 k10 hp10 L10 => ?_)
        have hvv11 := hp10.2.2
        rw [(show mFr [] g g4 from (mFr.tr (mFr.tr mFr.rf hF2 rfl) hp4.1 rfl)).at 32 rfl] at hvv11
        refine c_top (show Value.ref (Z.ad 1 v11.toInt.toNat) = va_rf (cOpt Z 1 v11) from (by rw [cOpt_some hvv11.1]; rfl)) ?_
        refine c_cast x L10 1 v11.toInt.toNat hvv11.2.1 rfl (wk_in kc_lX8_32) dX8_placeOfReference_21 ?_
        refine lv_astore (lv' := [(4, .ref (Z.ad 1 v11.toInt.toNat)), (0, .ref (Z.ad 4 i0)), (1, .int p1), (2, .int p2), (3, .int a2_3_1)]) hx hb dX8_placeOfReference_24 hl (by decide) rfl (fun ls hl => ?_)
        refine lv_aload hx hb dX8_placeOfReference_26 (lv_at hl 0 rfl) ?_
        refine c_geti x L10 1 v11.toInt.toNat 1 33 hvv11.2.1 rfl rfl (wk_in kf_X8_38) dX8_placeOfReference_28 (fun v12 ev12 wv12 => ?_)
        have rv12 : rg (-2147483648) (2147483647) v12 := rg_any v12
        have uv12 : (-2147483648 : Int) ≤ v12.toInt ∧ v12.toInt ≤ 2147483647 := rv12
        have sv12 : v12.toInt = (g 33 v11.toInt.toNat).toInt := congrArg Int32.toInt (ev12.trans (congrFun ((show mFr [] g g10 from (mFr.tr (mFr.tr (mFr.tr mFr.rf hF2 rfl) hp4.1 rfl) hp10.1 rfl)).at 33 rfl) _))
        refine lv_iload_n hx hb dX8_placeOfReference_31 rfl (lv_at hl 2 rfl) ?_
        have j46_13 : ∀ (g13 : mSt) (H13 : Heap) (k13 : List Loc) (ls : Array Slot), mFr [] g10 g13 → cL G Z A H0 X g13 H13 k13 → cJ Z g13 → lv_has ls 5 [(0, .ref (Z.ad 4 i0)), (1, .int p1), (2, .int p2), (3, .int a2_3_1)] → W p l e rm_kplaceOfReference_4 s m args below meth c H13 k13 0 0 Q (F0 m 46 ls []) := by
          intro  g13 H13 k13 ls hF13 L13 hJ13  hl
          obtain ⟨v14, ev14, fv14⟩ := inc_ex a2_3_1 (1) (1 : Int32) (by decide)
          have rv14 : rg (1) (2147483647) v14 := (rg_add ev14 q7 kc_1 rfl).1
          have tv14 := (rg_add ev14 q7 kc_1 rfl).2
          have yv14 : (1 : Int32).toInt = 1 := by decide
          refine lv_iinc (v := v14) (lv' := [(3, .int v14), (0, .ref (Z.ad 4 i0)), (1, .int p1), (2, .int p2)]) hx hb dX8_placeOfReference_46 hl (k := 3) rfl fv14 (by decide) rfl (fun ls hl => ?_)
          refine lv_goto (tgt := 2) hx hb dX8_placeOfReference_49 (by decide) ?_
          exact ih2 _ (ms_up tv14 kc_1 q7 rfl rfl) v14 g13 _ _ ls (mFr.tr (mFr.tr (mFr.tr hF2 hp4.1 rfl) hp10.1 rfl) hF13 rfl) L13 hJ13 (rg_w rv14 rfl) (lv_sub hl [1, 2, 3, 0] rfl) rfl
        refine lv_icmp_ne (tgt := 46) hx hb dX8_placeOfReference_32 (by decide) (fun c32_15 => ?_) (fun c32_15 => ?_)
        · skip
          have ic32_15 : v12.toInt ≠ p1.toInt := fun z => c32_15 (Int32.toInt_inj.mp z)
          exact j46_13  g10 _ _ ls mFr.rf L10 hp10.2.1 (lv_sub hl [1, 2, 3, 4] rfl)
        · skip
          have ic32_15 := congrArg Int32.toInt c32_15
          refine lv_aload hx hb dX8_placeOfReference_35 (lv_at hl 0 rfl) ?_
          refine c_geti x L10 1 v11.toInt.toNat 2 34 hvv11.2.1 rfl rfl (wk_in kf_X8_41) dX8_placeOfReference_37 (fun v16 ev16 wv16 => ?_)
          have rv16 : rg (0) (1) v16 := clj_34 wv16
          have uv16 : (0 : Int) ≤ v16.toInt ∧ v16.toInt ≤ 1 := rv16
          have sv16 : v16.toInt = (g 34 v11.toInt.toNat).toInt := congrArg Int32.toInt (ev16.trans (congrFun ((show mFr [] g g10 from (mFr.tr (mFr.tr (mFr.tr mFr.rf hF2 rfl) hp4.1 rfl) hp10.1 rfl)).at 34 rfl) _))
          refine lv_iload_n hx hb dX8_placeOfReference_40 rfl (lv_at hl 3 rfl) ?_
          refine lv_icmp_ne (tgt := 46) hx hb dX8_placeOfReference_41 (by decide) (fun c41_17 => ?_) (fun c41_17 => ?_)
          · skip
            have ic41_17 : v16.toInt ≠ p2.toInt := fun z => c41_17 (Int32.toInt_inj.mp z)
            exact j46_13  g10 _ _ ls mFr.rf L10 hp10.2.1 (lv_sub hl [1, 2, 3, 4] rfl)
          · skip
            have ic41_17 := congrArg Int32.toInt c41_17
            refine lv_iload_n hx hb dX8_placeOfReference_44 rfl (lv_at hl 4 rfl) ?_
            exact hQ _ _ a2_3_1 _ _ _ dX8_placeOfReference_45 L10 ⟨(mFr.tr (mFr.tr (mFr.tr mFr.rf hF2 rfl) hp4.1 rfl) hp10.1 rfl), rg_w q7 rfl, hp10.2.1, (by have := congrArg Int32.toInt (mm_fr hp4.2.2 hp10.1 rfl); rw [(show mFr [] g g10 from (mFr.tr (mFr.tr (mFr.tr mFr.rf hF2 rfl) hp4.1 rfl) hp10.1 rfl)).at 386 rfl] at this; omega)⟩
  have y18 : (0 : Int32).toInt = 0 := by decide
  exact j2_2 _ (0 : Int32) g _ _ ls mFr.rf L hJ (rg_w kc_0 rfl) (lv_sub hl [1, 2, 3, 0] rfl) rfl
theorem c_kplaceOfReference_4 (l : Launch) {G : cG} {Z : cZ} (X : Int) (g : mSt) (i0 : Nat) (p1 : Int32) (p2 : Int32) (hX : 0 ≤ X ∧ X ≤ 2000000000) (hJ : cJ Z g) (hi0 : i0 < Z.n) (rp2 : rg (0) (1) p2) : Met l yX8_placeOfReference (wk (Cond.code yX8_placeOfReference cX8_placeOfReference 5 (some .int))) rm_kplaceOfReference_4 (va_Pc [.ref (Z.ad 4 i0), .int p1, .int p2] (cPre G Z X g)) (cQi G Z X (fun r g1 => mFr [] g g1 ∧ rg (-1) (2147483646) r ∧ cJ Z g1 ∧ (r.toInt < (g 386 i0).toInt))) 0 0 (cAd Z) := by
  refine Met.ofW (cc := cX8_placeOfReference) (maxL := 5) (ret := (some .int)) (by decide) rfl ?_
  intro p e s m args below meth c s₁ B hml hv
  obtain ⟨rfl, hv⟩ := hv
  have hr := B.returns
  have hlocks := B.notSynchronized
  obtain ⟨x, L⟩ := c_start B rfl (fun w h => wk_in h) hv
  have hl := lv_entry ([.ref (Z.ad 4 i0), .int p1, .int p2]) (n := 5) (Nat.le_of_ble_eq_true rfl)
  rw [lg_entry_eq]
  generalize (lg_sl ([.ref (Z.ad 4 i0), .int p1, .int p2]) ++ List.replicate (5 - (lg_sl ([.ref (Z.ad 4 i0), .int p1, .int p2])).length) Slot.unset).toArray = ls at hl ⊢
  exact w_kplaceOfReference_4 x hml L hX i0 p1 p2 hJ hi0 rp2 hl (fun pc' ls' r g1 H1 locs1 hdg L hp => c_iret x L hr hlocks (Int.le_refl _) hp hdg)

def rm_kplaceOfReference_10 : Room := { frames := 3, cells := 0, slots := 0, locals := 64 }
theorem hd_kplaceOfReference_10 : yX8_placeOfReference.cls ≠ "java/lang/invoke/MethodHandle" ∧ yX8_placeOfReference.cls ≠ "java/lang/invoke/VarHandle" ∧ (parseMethodDescriptor yX8_placeOfReference.desc).map (fun d => d.parameters.length) = some 2 := by decide +kernel
set_option maxHeartbeats 4000000 in
set_option maxRecDepth 100000 in
theorem w_kplaceOfReference_10 {p : Program} {l : Launch} {e : Env} {s : State} {m : MethodId} {args : Array Value} {below : List Frame} {meth : Method} {c : Code} {H : Heap} {locs : List Loc} {Q : State → Prop} {ls : Array Slot} {G : cG} {Z : cZ} {A : Nat → Prop} {g : mSt} {H0 : Heap} {X : Int} (x : cX p c cX8_placeOfReference s args (wk (Cond.code yX8_placeOfReference cX8_placeOfReference 5 (some .int))) m G Z A RX8 H0) (hml : c.maxLocals = 5) (L : cL G Z A H0 X g H locs) (hX : 0 ≤ X ∧ X ≤ 2000000000) (i0 : Nat) (p1 : Int32) (p2 : Int32) (hJ : cJ Z g) (hi0 : i0 < Z.n) (rp2 : rg (0) (1) p2) (hl : lv_has ls 5 [(0, .ref (Z.ad 10 i0)), (1, .int p1), (2, .int p2)]) (hQ : ∀ (pc' : Nat) (ls' : Array Slot) (r : Int32) (g1 : mSt) (H1 : Heap) (locs1 : List Loc), decode cX8_placeOfReference pc' = .ok (.ireturn, 1) → cL G Z A H0 X g1 H1 locs1 → (mFr [] g g1 ∧ rg (-1) (2147483646) r ∧ cJ Z g1 ∧ (r.toInt < (g 386 (Z.n + i0)).toInt)) → W p l e rm_kplaceOfReference_10 s m args below meth c H1 locs1 0 0 Q (F0 m pc' ls' [.int r])) : W p l e rm_kplaceOfReference_10 s m args below meth c H locs 0 0 Q (F0 m 0 ls []) := by
  have hx := x.1
  have hb := x.2.1
  have hz := x.2.2.2.2.2.2.2.1
  have hzn := hz.1
  have hal0 : Z.al 10 i0 := hz.2 10 i0 (show i0 < Z.n from hi0)
  have up1 : (-2147483648 : Int) ≤ p1.toInt ∧ p1.toInt ≤ 2147483647 := (rg_any p1)
  have up2 : (0 : Int) ≤ p2.toInt ∧ p2.toInt ≤ 1 := rp2
  refine lv_iconst (v := 0) hx hb dX8_placeOfReference_0 (by decide) ?_
  refine lv_istore_n (lv' := [(3, .int (0 : Int32)), (0, .ref (Z.ad 10 i0)), (1, .int p1), (2, .int p2)]) hx hb dX8_placeOfReference_1 rfl hl (by decide) rfl (fun ls hl => ?_)
  have j2_2 : ∀ (n : Nat) (a2_3_1 : Int32) (g2 : mSt) (H2 : Heap) (k2 : List Loc) (ls : Array Slot), mFr [] g g2 → cL G Z A H0 X g2 H2 k2 → cJ Z g2 → rg (0) (2147483647) a2_3_1 → lv_has ls 5 [(0, .ref (Z.ad 10 i0)), (1, .int p1), (2, .int p2), (3, .int a2_3_1)] → ((2147483647 : Int) - a2_3_1.toInt).toNat = n → W p l e rm_kplaceOfReference_10 s m args below meth c H2 k2 0 0 Q (F0 m 2 ls []) := by
    intro n
    induction n using Nat.strongRecOn with
    | _ n ih2 =>
      intro a2_3_1 g2 H2 k2 ls hF2 L2 hJ2 ra2_3_1 hl hn2
      subst hn2
      have ua2_3_1 : (0 : Int) ≤ a2_3_1.toInt ∧ a2_3_1.toInt ≤ 2147483647 := ra2_3_1
      refine lv_iload_n hx hb dX8_placeOfReference_2 rfl (lv_at hl 3 rfl) ?_
      refine lv_aload_n hx hb dX8_placeOfReference_3 rfl (lv_at hl 0 rfl) ?_
      have al3 : Z.al 12 (Z.n + i0) := hz.2 12 (Z.n + i0) (show (Z.n + i0) < 2 * Z.n from (by omega))
      refine c_getr (a := Z.ad 12 (Z.n + i0)) x L2 10 i0 2 hal0 rfl rfl (wk_in kf_X8_10) dX8_placeOfReference_4 ?_
      refine c_ci (As := []) (rest := [.int a2_3_1]) x hml L2 12 (Z.n + i0) al3 rfl (c_klsize l X g2 (Z.n + i0) hX (show (Z.n + i0) < 2 * Z.n from (by omega))) (wk_V kd_Jx4a65c_size_8abf5 kl_X8_24 ki_Jx4a65c_size_8abf5 ks_Jx4a65c_Jx4a65c_size_8abf5 kn_Jx4a65c) rfl ⟨rfl, rfl⟩ hd_klsize ⟨Nat.le_of_ble_eq_true rfl, Nat.le_of_ble_eq_true rfl⟩ rfl hl.1 rfl (lv_room (Nat.le_of_ble_eq_true rfl)) dX8_placeOfReference_7 (fun v5 g4 H4 k4 hp4 L4 => ?_)
      have rv5 : rg (-2147483648) (2147483647) v5 := hp4.2.1
      have uv5 : (-2147483648 : Int) ≤ v5.toInt ∧ v5.toInt ≤ 2147483647 := rv5
      refine lv_icmp_ge (tgt := 52) hx hb dX8_placeOfReference_10 (by decide) (fun c10_6 => ?_) (fun c10_6 => ?_)
      · skip
        have ic10_6 := Int32.le_iff_toInt_le.mp c10_6
        refine lv_iconst (v := (-1)) hx hb dX8_placeOfReference_52 (by decide) ?_
        exact hQ _ _ (-1 : Int32) _ _ _ dX8_placeOfReference_53 L4 ⟨(mFr.tr (mFr.tr mFr.rf hF2 rfl) hp4.1 rfl), rg_w kc_m1 rfl, (cJ_fr hJ2 hp4.1 rfl), (by have := ((cJ_fr hJ2 hp4.1 rfl).2.2.1 (Z.n + i0) (by omega)).1; rw [(show mFr [] g g4 from (mFr.tr (mFr.tr mFr.rf hF2 rfl) hp4.1 rfl)).at 386 rfl] at this; have : (-1 : Int32).toInt = -1 := (by decide); omega)⟩
      · skip
        have ic10_6 := Int32.lt_iff_toInt_lt.mp (rg_nle c10_6)
        have q7 : rg (0) (2147483646) a2_3_1 := (rg_lt (rg_nle c10_6) ra2_3_1 rv5).1
        have uq7 : (0 : Int) ≤ a2_3_1.toInt ∧ a2_3_1.toInt ≤ 2147483646 := q7
        have q8 : rg (1) (2147483647) v5 := (rg_lt (rg_nle c10_6) ra2_3_1 rv5).2
        have uq8 : (1 : Int) ≤ v5.toInt ∧ v5.toInt ≤ 2147483647 := q8
        refine lv_aload_n hx hb dX8_placeOfReference_13 rfl (lv_at hl 0 rfl) ?_
        refine c_getr (a := Z.ad 12 (Z.n + i0)) x L4 10 i0 2 hal0 rfl rfl (wk_in kf_X8_10) dX8_placeOfReference_14 ?_
        refine lv_iload_n hx hb dX8_placeOfReference_17 rfl (lv_at hl 3 rfl) ?_
        have y9 := congrArg Int32.toInt hp4.2.2
        refine c_cr (As := [.int a2_3_1]) (rest := []) x hml L4 12 (Z.n + i0) al3 rfl (c_klget l X g4 (Z.n + i0) a2_3_1 hX (cJ_fr hJ2 hp4.1 rfl) (show (Z.n + i0) < 2 * Z.n from (by omega)) (by omega)) (wk_V kd_Jx4a65c_get_915e3 kl_X8_28 ki_Jx4a65c_get_915e3 ks_Jx4a65c_Jx4a65c_get_915e3 kn_Jx4a65c) rfl ⟨rfl, rfl⟩ hd_klget ⟨Nat.le_of_ble_eq_true rfl, Nat.le_of_ble_eq_true rfl⟩ rfl hl.1 rfl (lv_room (Nat.le_of_ble_eq_true rfl)) dX8_placeOfReference_18 (fun v11 g10 H10 k10 hp10 L10 => ?_)
        have hvv11 := hp10.2.2
        rw [(show mFr [] g g4 from (mFr.tr (mFr.tr mFr.rf hF2 rfl) hp4.1 rfl)).at 32 rfl] at hvv11
        refine c_top (show Value.ref (Z.ad 1 v11.toInt.toNat) = va_rf (cOpt Z 1 v11) from (by rw [cOpt_some hvv11.1]; rfl)) ?_
        refine c_cast x L10 1 v11.toInt.toNat hvv11.2.1 rfl (wk_in kc_lX8_32) dX8_placeOfReference_21 ?_
        refine lv_astore (lv' := [(4, .ref (Z.ad 1 v11.toInt.toNat)), (0, .ref (Z.ad 10 i0)), (1, .int p1), (2, .int p2), (3, .int a2_3_1)]) hx hb dX8_placeOfReference_24 hl (by decide) rfl (fun ls hl => ?_)
        refine lv_aload hx hb dX8_placeOfReference_26 (lv_at hl 0 rfl) ?_
        refine c_geti x L10 1 v11.toInt.toNat 1 33 hvv11.2.1 rfl rfl (wk_in kf_X8_38) dX8_placeOfReference_28 (fun v12 ev12 wv12 => ?_)
        have rv12 : rg (-2147483648) (2147483647) v12 := rg_any v12
        have uv12 : (-2147483648 : Int) ≤ v12.toInt ∧ v12.toInt ≤ 2147483647 := rv12
        have sv12 : v12.toInt = (g 33 v11.toInt.toNat).toInt := congrArg Int32.toInt (ev12.trans (congrFun ((show mFr [] g g10 from (mFr.tr (mFr.tr (mFr.tr mFr.rf hF2 rfl) hp4.1 rfl) hp10.1 rfl)).at 33 rfl) _))
        refine lv_iload_n hx hb dX8_placeOfReference_31 rfl (lv_at hl 2 rfl) ?_
        have j46_13 : ∀ (g13 : mSt) (H13 : Heap) (k13 : List Loc) (ls : Array Slot), mFr [] g10 g13 → cL G Z A H0 X g13 H13 k13 → cJ Z g13 → lv_has ls 5 [(0, .ref (Z.ad 10 i0)), (1, .int p1), (2, .int p2), (3, .int a2_3_1)] → W p l e rm_kplaceOfReference_10 s m args below meth c H13 k13 0 0 Q (F0 m 46 ls []) := by
          intro  g13 H13 k13 ls hF13 L13 hJ13  hl
          obtain ⟨v14, ev14, fv14⟩ := inc_ex a2_3_1 (1) (1 : Int32) (by decide)
          have rv14 : rg (1) (2147483647) v14 := (rg_add ev14 q7 kc_1 rfl).1
          have tv14 := (rg_add ev14 q7 kc_1 rfl).2
          have yv14 : (1 : Int32).toInt = 1 := by decide
          refine lv_iinc (v := v14) (lv' := [(3, .int v14), (0, .ref (Z.ad 10 i0)), (1, .int p1), (2, .int p2)]) hx hb dX8_placeOfReference_46 hl (k := 3) rfl fv14 (by decide) rfl (fun ls hl => ?_)
          refine lv_goto (tgt := 2) hx hb dX8_placeOfReference_49 (by decide) ?_
          exact ih2 _ (ms_up tv14 kc_1 q7 rfl rfl) v14 g13 _ _ ls (mFr.tr (mFr.tr (mFr.tr hF2 hp4.1 rfl) hp10.1 rfl) hF13 rfl) L13 hJ13 (rg_w rv14 rfl) (lv_sub hl [1, 2, 3, 0] rfl) rfl
        refine lv_icmp_ne (tgt := 46) hx hb dX8_placeOfReference_32 (by decide) (fun c32_15 => ?_) (fun c32_15 => ?_)
        · skip
          have ic32_15 : v12.toInt ≠ p1.toInt := fun z => c32_15 (Int32.toInt_inj.mp z)
          exact j46_13  g10 _ _ ls mFr.rf L10 hp10.2.1 (lv_sub hl [1, 2, 3, 4] rfl)
        · skip
          have ic32_15 := congrArg Int32.toInt c32_15
          refine lv_aload hx hb dX8_placeOfReference_35 (lv_at hl 0 rfl) ?_
          refine c_geti x L10 1 v11.toInt.toNat 2 34 hvv11.2.1 rfl rfl (wk_in kf_X8_41) dX8_placeOfReference_37 (fun v16 ev16 wv16 => ?_)
          have rv16 : rg (0) (1) v16 := clj_34 wv16
          have uv16 : (0 : Int) ≤ v16.toInt ∧ v16.toInt ≤ 1 := rv16
          have sv16 : v16.toInt = (g 34 v11.toInt.toNat).toInt := congrArg Int32.toInt (ev16.trans (congrFun ((show mFr [] g g10 from (mFr.tr (mFr.tr (mFr.tr mFr.rf hF2 rfl) hp4.1 rfl) hp10.1 rfl)).at 34 rfl) _))
          refine lv_iload_n hx hb dX8_placeOfReference_40 rfl (lv_at hl 3 rfl) ?_
          refine lv_icmp_ne (tgt := 46) hx hb dX8_placeOfReference_41 (by decide) (fun c41_17 => ?_) (fun c41_17 => ?_)
          · skip
            have ic41_17 : v16.toInt ≠ p2.toInt := fun z => c41_17 (Int32.toInt_inj.mp z)
            exact j46_13  g10 _ _ ls mFr.rf L10 hp10.2.1 (lv_sub hl [1, 2, 3, 4] rfl)
          · skip
            have ic41_17 := congrArg Int32.toInt c41_17
            refine lv_iload_n hx hb dX8_placeOfReference_44 rfl (lv_at hl 4 rfl) ?_
            exact hQ _ _ a2_3_1 _ _ _ dX8_placeOfReference_45 L10 ⟨(mFr.tr (mFr.tr (mFr.tr mFr.rf hF2 rfl) hp4.1 rfl) hp10.1 rfl), rg_w q7 rfl, hp10.2.1, (by have := congrArg Int32.toInt (mm_fr hp4.2.2 hp10.1 rfl); rw [(show mFr [] g g10 from (mFr.tr (mFr.tr (mFr.tr mFr.rf hF2 rfl) hp4.1 rfl) hp10.1 rfl)).at 386 rfl] at this; omega)⟩
  have y18 : (0 : Int32).toInt = 0 := by decide
  exact j2_2 _ (0 : Int32) g _ _ ls mFr.rf L hJ (rg_w kc_0 rfl) (lv_sub hl [1, 2, 3, 0] rfl) rfl
theorem c_kplaceOfReference_10 (l : Launch) {G : cG} {Z : cZ} (X : Int) (g : mSt) (i0 : Nat) (p1 : Int32) (p2 : Int32) (hX : 0 ≤ X ∧ X ≤ 2000000000) (hJ : cJ Z g) (hi0 : i0 < Z.n) (rp2 : rg (0) (1) p2) : Met l yX8_placeOfReference (wk (Cond.code yX8_placeOfReference cX8_placeOfReference 5 (some .int))) rm_kplaceOfReference_10 (va_Pc [.ref (Z.ad 10 i0), .int p1, .int p2] (cPre G Z X g)) (cQi G Z X (fun r g1 => mFr [] g g1 ∧ rg (-1) (2147483646) r ∧ cJ Z g1 ∧ (r.toInt < (g 386 (Z.n + i0)).toInt))) 0 0 (cAd Z) := by
  refine Met.ofW (cc := cX8_placeOfReference) (maxL := 5) (ret := (some .int)) (by decide) rfl ?_
  intro p e s m args below meth c s₁ B hml hv
  obtain ⟨rfl, hv⟩ := hv
  have hr := B.returns
  have hlocks := B.notSynchronized
  obtain ⟨x, L⟩ := c_start B rfl (fun w h => wk_in h) hv
  have hl := lv_entry ([.ref (Z.ad 10 i0), .int p1, .int p2]) (n := 5) (Nat.le_of_ble_eq_true rfl)
  rw [lg_entry_eq]
  generalize (lg_sl ([.ref (Z.ad 10 i0), .int p1, .int p2]) ++ List.replicate (5 - (lg_sl ([.ref (Z.ad 10 i0), .int p1, .int p2])).length) Slot.unset).toArray = ls at hl ⊢
  exact w_kplaceOfReference_10 x hml L hX i0 p1 p2 hJ hi0 rp2 hl (fun pc' ls' r g1 H1 locs1 hdg L hp => c_iret x L hr hlocks (Int.le_refl _) hp hdg)

def rm_kallOver_4 : Room := { frames := 4, cells := 0, slots := 0, locals := 94 }
theorem hd_kallOver_4 : yX8_allOver.cls ≠ "java/lang/invoke/MethodHandle" ∧ yX8_allOver.cls ≠ "java/lang/invoke/VarHandle" ∧ (parseMethodDescriptor yX8_allOver.desc).map (fun d => d.parameters.length) = some 1 := by decide +kernel
set_option maxHeartbeats 4000000 in
set_option maxRecDepth 100000 in
theorem w_kallOver_4 {p : Program} {l : Launch} {e : Env} {s : State} {m : MethodId} {args : Array Value} {below : List Frame} {meth : Method} {c : Code} {H : Heap} {locs : List Loc} {Q : State → Prop} {ls : Array Slot} {G : cG} {Z : cZ} {A : Nat → Prop} {g : mSt} {H0 : Heap} {X : Int} (x : cX p c cX8_allOver s args (wk (Cond.code yX8_allOver cX8_allOver 4 none)) m G Z A RX8 H0) (hml : c.maxLocals = 4) (L : cL G Z A H0 X g H locs) (hX : 0 ≤ X ∧ X ≤ 2000000000) (i0 : Nat) (p1 : Int32) (hJ : cJ Z g) (hi0 : i0 < Z.n) (hl : lv_has ls 4 [(0, .ref (Z.ad 4 i0)), (1, .int p1)]) (hQ : ∀ (pc' : Nat) (ls' : Array Slot) (g1 : mSt) (H1 : Heap) (locs1 : List Loc), decode cX8_allOver pc' = .ok (.return_, 1) → cL G Z A H0 X g1 H1 locs1 → (mFr [36, 40, 41, 42, 44, 45, 46, 48, 198, 832, 864] g g1 ∧ cJ Z g1 ∧ True) → W p l e rm_kallOver_4 s m args below meth c H1 locs1 0 0 Q (F0 m pc' ls' [])) : W p l e rm_kallOver_4 s m args below meth c H locs 0 0 Q (F0 m 0 ls []) := by
  have hx := x.1
  have hb := x.2.1
  have hz := x.2.2.2.2.2.2.2.1
  have hzn := hz.1
  have hal0 : Z.al 4 i0 := hz.2 4 i0 (show i0 < Z.n from hi0)
  have up1 : (-2147483648 : Int) ≤ p1.toInt ∧ p1.toInt ≤ 2147483647 := (rg_any p1)
  refine lv_iconst (v := 0) hx hb dX8_allOver_0 (by decide) ?_
  refine lv_istore_n (lv' := [(2, .int (0 : Int32)), (0, .ref (Z.ad 4 i0)), (1, .int p1)]) hx hb dX8_allOver_1 rfl hl (by decide) rfl (fun ls hl => ?_)
  have j2_2 : ∀ (n : Nat) (a2_2_1 : Int32) (g2 : mSt) (H2 : Heap) (k2 : List Loc) (ls : Array Slot), mFr [36, 40, 41, 42, 44, 45, 46, 48, 198, 832, 864] g g2 → cL G Z A H0 X g2 H2 k2 → cJ Z g2 → rg (0) (2147483647) a2_2_1 → lv_has ls 4 [(0, .ref (Z.ad 4 i0)), (1, .int p1), (2, .int a2_2_1)] → ((2147483647 : Int) - a2_2_1.toInt).toNat = n → W p l e rm_kallOver_4 s m args below meth c H2 k2 0 0 Q (F0 m 2 ls []) := by
    intro n
    induction n using Nat.strongRecOn with
    | _ n ih2 =>
      intro a2_2_1 g2 H2 k2 ls hF2 L2 hJ2 ra2_2_1 hl hn2
      subst hn2
      have ua2_2_1 : (0 : Int) ≤ a2_2_1.toInt ∧ a2_2_1.toInt ≤ 2147483647 := ra2_2_1
      refine lv_iload_n hx hb dX8_allOver_2 rfl (lv_at hl 2 rfl) ?_
      refine lv_aload_n hx hb dX8_allOver_3 rfl (lv_at hl 0 rfl) ?_
      have al3 : Z.al 12 i0 := hz.2 12 i0 (show i0 < 2 * Z.n from (by omega))
      refine c_getr (a := Z.ad 12 i0) x L2 4 i0 2 hal0 rfl rfl (wk_in kf_X8_10) dX8_allOver_4 ?_
      refine c_ci (As := []) (rest := [.int a2_2_1]) x hml L2 12 i0 al3 rfl (c_klsize l X g2 i0 hX (show i0 < 2 * Z.n from (by omega))) (wk_V kd_Jx4a65c_size_8abf5 kl_X8_24 ki_Jx4a65c_size_8abf5 ks_Jx4a65c_Jx4a65c_size_8abf5 kn_Jx4a65c) rfl ⟨rfl, rfl⟩ hd_klsize ⟨Nat.le_of_ble_eq_true rfl, Nat.le_of_ble_eq_true rfl⟩ rfl hl.1 rfl (lv_room (Nat.le_of_ble_eq_true rfl)) dX8_allOver_7 (fun v5 g4 H4 k4 hp4 L4 => ?_)
      have rv5 : rg (-2147483648) (2147483647) v5 := hp4.2.1
      have uv5 : (-2147483648 : Int) ≤ v5.toInt ∧ v5.toInt ≤ 2147483647 := rv5
      refine lv_icmp_ge (tgt := 64) hx hb dX8_allOver_10 (by decide) (fun c10_6 => ?_) (fun c10_6 => ?_)
      · skip
        have ic10_6 := Int32.le_iff_toInt_le.mp c10_6
        exact hQ _ _ _ _ _ dX8_allOver_64 L4 ⟨(mFr.tr (mFr.tr mFr.rf hF2 rfl) hp4.1 rfl), (cJ_fr hJ2 hp4.1 rfl), trivial⟩
      · skip
        have ic10_6 := Int32.lt_iff_toInt_lt.mp (rg_nle c10_6)
        have q7 : rg (0) (2147483646) a2_2_1 := (rg_lt (rg_nle c10_6) ra2_2_1 rv5).1
        have uq7 : (0 : Int) ≤ a2_2_1.toInt ∧ a2_2_1.toInt ≤ 2147483646 := q7
        have q8 : rg (1) (2147483647) v5 := (rg_lt (rg_nle c10_6) ra2_2_1 rv5).2
        have uq8 : (1 : Int) ≤ v5.toInt ∧ v5.toInt ≤ 2147483647 := q8
        refine lv_aload_n hx hb dX8_allOver_13 rfl (lv_at hl 0 rfl) ?_
        refine c_getr (a := Z.ad 12 i0) x L4 4 i0 2 hal0 rfl rfl (wk_in kf_X8_10) dX8_allOver_14 ?_
        refine lv_iload_n hx hb dX8_allOver_17 rfl (lv_at hl 2 rfl) ?_
        have y9 := congrArg Int32.toInt hp4.2.2
        refine c_cr (As := [.int a2_2_1]) (rest := []) x hml L4 12 i0 al3 rfl (c_klget l X g4 i0 a2_2_1 hX (cJ_fr hJ2 hp4.1 rfl) (show i0 < 2 * Z.n from (by omega)) (by omega)) (wk_V kd_Jx4a65c_get_915e3 kl_X8_28 ki_Jx4a65c_get_915e3 ks_Jx4a65c_Jx4a65c_get_915e3 kn_Jx4a65c) rfl ⟨rfl, rfl⟩ hd_klget ⟨Nat.le_of_ble_eq_true rfl, Nat.le_of_ble_eq_true rfl⟩ rfl hl.1 rfl (lv_room (Nat.le_of_ble_eq_true rfl)) dX8_allOver_18 (fun v11 g10 H10 k10 hp10 L10 => ?_)
        have hvv11 := hp10.2.2
        rw [(show mFr [36, 40, 41, 42, 44, 45, 46, 48, 198, 832, 864] g g4 from (mFr.tr (mFr.tr mFr.rf hF2 rfl) hp4.1 rfl)).at 32 rfl] at hvv11
        refine c_top (show Value.ref (Z.ad 1 v11.toInt.toNat) = va_rf (cOpt Z 1 v11) from (by rw [cOpt_some hvv11.1]; rfl)) ?_
        refine c_cast x L10 1 v11.toInt.toNat hvv11.2.1 rfl (wk_in kc_lX8_32) dX8_allOver_21 ?_
        refine lv_astore_n (lv' := [(3, .ref (Z.ad 1 v11.toInt.toNat)), (0, .ref (Z.ad 4 i0)), (1, .int p1), (2, .int a2_2_1)]) hx hb dX8_allOver_24 rfl hl (by decide) rfl (fun ls hl => ?_)
        refine lv_aload_n hx hb dX8_allOver_25 rfl (lv_at hl 0 rfl) ?_
        refine c_ci (As := []) (rest := []) x hml L10 1 v11.toInt.toNat hvv11.2.1 rfl (c_kisOpen l X g10 v11.toInt.toNat hX hvv11.2.1) (wk_V kd_X1_isOpen kl_X8_34 ki_X1_isOpen ks_X1_X1_isOpen kn_X1) rfl ⟨rfl, rfl⟩ hd_kisOpen ⟨Nat.le_of_ble_eq_true rfl, Nat.le_of_ble_eq_true rfl⟩ rfl hl.1 rfl (lv_room (Nat.le_of_ble_eq_true rfl)) dX8_allOver_26 (fun v13 g12 H12 k12 hp12 L12 => ?_)
        have rv13 : rg (0) (1) v13 := hp12.2.1
        have uv13 : (0 : Int) ≤ v13.toInt ∧ v13.toInt ≤ 1 := rv13
        have j58_14 : ∀ (g14 : mSt) (H14 : Heap) (k14 : List Loc) (ls : Array Slot), mFr [36, 40, 41, 42, 44, 45, 46, 48, 198, 832, 864] g12 g14 → cL G Z A H0 X g14 H14 k14 → cJ Z g14 → lv_has ls 4 [(0, .ref (Z.ad 4 i0)), (1, .int p1), (2, .int a2_2_1)] → W p l e rm_kallOver_4 s m args below meth c H14 k14 0 0 Q (F0 m 58 ls []) := by
          intro  g14 H14 k14 ls hF14 L14 hJ14  hl
          obtain ⟨v15, ev15, fv15⟩ := inc_ex a2_2_1 (1) (1 : Int32) (by decide)
          have rv15 : rg (1) (2147483647) v15 := (rg_add ev15 q7 kc_1 rfl).1
          have tv15 := (rg_add ev15 q7 kc_1 rfl).2
          have yv15 : (1 : Int32).toInt = 1 := by decide
          refine lv_iinc (v := v15) (lv' := [(2, .int v15), (0, .ref (Z.ad 4 i0)), (1, .int p1)]) hx hb dX8_allOver_58 hl (k := 2) rfl fv15 (by decide) rfl (fun ls hl => ?_)
          refine lv_goto (tgt := 2) hx hb dX8_allOver_61 (by decide) ?_
          exact ih2 _ (ms_up tv15 kc_1 q7 rfl rfl) v15 g14 _ _ ls (mFr.tr (mFr.tr (mFr.tr (mFr.tr hF2 hp4.1 rfl) hp10.1 rfl) hp12.1 rfl) hF14 rfl) L14 hJ14 (rg_w rv15 rfl) (lv_sub hl [1, 2, 0] rfl) rfl
        refine lv_if_ne (tgt := 35) hx hb dX8_allOver_29 (by decide) (fun c29_16 => ?_) (fun c29_16 => ?_)
        · skip
          have ic29_16 : v13.toInt ≠ (0 : Int32).toInt := fun z => c29_16 (Int32.toInt_inj.mp z)
          have y17 : (0 : Int32).toInt = 0 := by decide
          have q18 : rg (1) (1) v13 := rg_neL c29_16 rv13 kc_0
          have uq18 : (1 : Int) ≤ v13.toInt ∧ v13.toInt ≤ 1 := q18
          refine lv_aload_n hx hb dX8_allOver_35 rfl (lv_at hl 0 rfl) ?_
          refine lv_bipush (v := 41) hx hb dX8_allOver_36 (by decide) ?_
          refine c_cv (As := [.int (41 : Int32)]) (rest := []) x hml L12 1 v11.toInt.toNat hvv11.2.1 rfl (c_kfinish l X g12 v11.toInt.toNat (41 : Int32) hX (cJ_fr hp10.2.1 hp12.1 rfl) hvv11.2.1) (wk_V kd_X1_finish kl_X8_88 ki_X1_finish ks_X1_X1_finish kn_X1) rfl ⟨rfl, rfl⟩ hd_kfinish ⟨Nat.le_of_ble_eq_true rfl, Nat.le_of_ble_eq_true rfl⟩ rfl hl.1 rfl (lv_room (Nat.le_of_ble_eq_true rfl)) dX8_allOver_38 (fun  g19 H19 k19 hp19 L19 => ?_)
          refine lv_aload_n hx hb dX8_allOver_41 rfl (lv_at hl 0 rfl) ?_
          obtain ⟨v20, ev20⟩ : ∃ y : Int32, y = g19 43 v11.toInt.toNat := ⟨_, rfl⟩
          rcases (show v20.toInt < 0 ∨ 0 ≤ v20.toInt from (by omega)) with hc21 | hc21
          · skip
            have q22 : rg (-2147483648) (-1) v20 := ⟨(rg_any v20).1, by omega⟩
            refine c_geto (w := .null) x L19 1 v11.toInt.toNat 11 43 hvv11.2.1 rfl rfl (by show va_rf (cOpt Z 1 (g19 43 v11.toInt.toNat)) = _; rw [← ev20, cOpt_none (by omega)]; rfl) (wk_in kf_X8_92) dX8_allOver_42 ?_
            refine lv_ifnullN (tgt := 58) hx hb dX8_allOver_45 (by decide) ?_
            exact j58_14  g19 _ _ ls (mFr.tr mFr.rf hp19.1 rfl) L19 hp19.2.1 (lv_sub hl [1, 2, 3] rfl)
          · skip
            have q23 : rg (0) (2147483647) v20 := ⟨by omega, (rg_any v20).2⟩
            have hd24 := (hp19.2.1.2.1 v11.toInt.toNat hvv11.2.1).2.1
            rw [← ev20] at hd24
            have al25 : Z.al 1 v20.toInt.toNat := hd24.resolve_left (by omega)
            refine c_geto (w := .ref (Z.ad 1 v20.toInt.toNat)) x L19 1 v11.toInt.toNat 11 43 hvv11.2.1 rfl rfl (by show va_rf (cOpt Z 1 (g19 43 v11.toInt.toNat)) = _; rw [← ev20, cOpt_some (by omega)]; rfl) (wk_in kf_X8_92) dX8_allOver_42 ?_
            refine lv_ifnull hx hb dX8_allOver_45 ?_
            refine lv_aload_n hx hb dX8_allOver_48 rfl (lv_at hl 0 rfl) ?_
            have u26 : 0 ≤ v20.toInt := q23.1
            have hd27 := (hp19.2.1.2.1 v11.toInt.toNat hvv11.2.1).2.1
            rw [← ev20] at hd27
            have al28 : Z.al 1 v20.toInt.toNat := hd27.resolve_left (by omega)
            refine c_geto (w := .ref (Z.ad 1 v20.toInt.toNat)) x L19 1 v11.toInt.toNat 11 43 hvv11.2.1 rfl rfl (by show va_rf (cOpt Z 1 (g19 43 v11.toInt.toNat)) = _; rw [← ev20, cOpt_some (by omega)]; rfl) (wk_in kf_X8_92) dX8_allOver_49 ?_
            refine lv_bipush (v := 41) hx hb dX8_allOver_52 (by decide) ?_
            refine lv_iload_n hx hb dX8_allOver_54 rfl (lv_at hl 2 rfl) ?_
            refine c_cv (As := [.int (41 : Int32), .int p1]) (rest := []) x hml L19 1 v20.toInt.toNat al28 rfl (c_krelease l X g19 v20.toInt.toNat (41 : Int32) p1 hX hp19.2.1 al28) (wk_V kd_X1_release kl_X8_96 ki_X1_release ks_X1_X1_release kn_X1) rfl ⟨rfl, rfl⟩ hd_krelease ⟨Nat.le_of_ble_eq_true rfl, Nat.le_of_ble_eq_true rfl⟩ rfl hl.1 rfl (lv_room (Nat.le_of_ble_eq_true rfl)) dX8_allOver_55 (fun  g29 H29 k29 hp29 L29 => ?_)
            exact j58_14  g29 _ _ ls (mFr.tr (mFr.tr mFr.rf hp19.1 rfl) hp29.1 rfl) L29 hp29.2.1 (lv_sub hl [1, 2, 3] rfl)
        · skip
          have ic29_16 := congrArg Int32.toInt c29_16
          have y30 : (0 : Int32).toInt = 0 := by decide
          have q31 : rg (0) (0) v13 := (rg_eq c29_16 rv13 kc_0).1
          have uq31 : (0 : Int) ≤ v13.toInt ∧ v13.toInt ≤ 0 := q31
          refine lv_goto (tgt := 58) hx hb dX8_allOver_32 (by decide) ?_
          exact j58_14  g12 _ _ ls mFr.rf L12 (cJ_fr hp10.2.1 hp12.1 rfl) (lv_sub hl [1, 2, 3] rfl)
  have y32 : (0 : Int32).toInt = 0 := by decide
  exact j2_2 _ (0 : Int32) g _ _ ls mFr.rf L hJ (rg_w kc_0 rfl) (lv_sub hl [1, 2, 0] rfl) rfl
theorem c_kallOver_4 (l : Launch) {G : cG} {Z : cZ} (X : Int) (g : mSt) (i0 : Nat) (p1 : Int32) (hX : 0 ≤ X ∧ X ≤ 2000000000) (hJ : cJ Z g) (hi0 : i0 < Z.n) : Met l yX8_allOver (wk (Cond.code yX8_allOver cX8_allOver 4 none)) rm_kallOver_4 (va_Pc [.ref (Z.ad 4 i0), .int p1] (cPre G Z X g)) (cQv G Z X (fun g1 => mFr [36, 40, 41, 42, 44, 45, 46, 48, 198, 832, 864] g g1 ∧ cJ Z g1 ∧ True)) 0 0 (cAd Z) := by
  refine Met.ofW (cc := cX8_allOver) (maxL := 4) (ret := none) (by decide) rfl ?_
  intro p e s m args below meth c s₁ B hml hv
  obtain ⟨rfl, hv⟩ := hv
  have hr := B.returns
  have hlocks := B.notSynchronized
  obtain ⟨x, L⟩ := c_start B rfl (fun w h => wk_in h) hv
  have hl := lv_entry ([.ref (Z.ad 4 i0), .int p1]) (n := 4) (Nat.le_of_ble_eq_true rfl)
  rw [lg_entry_eq]
  generalize (lg_sl ([.ref (Z.ad 4 i0), .int p1]) ++ List.replicate (4 - (lg_sl ([.ref (Z.ad 4 i0), .int p1])).length) Slot.unset).toArray = ls at hl ⊢
  exact w_kallOver_4 x hml L hX i0 p1 hJ hi0 hl (fun pc' ls' g1 H1 locs1 hdg L hp => c_vret x L hr hlocks (Int.le_refl _) hp hdg)

def rm_kallOver_10 : Room := { frames := 4, cells := 0, slots := 0, locals := 94 }
theorem hd_kallOver_10 : yX8_allOver.cls ≠ "java/lang/invoke/MethodHandle" ∧ yX8_allOver.cls ≠ "java/lang/invoke/VarHandle" ∧ (parseMethodDescriptor yX8_allOver.desc).map (fun d => d.parameters.length) = some 1 := by decide +kernel
set_option maxHeartbeats 4000000 in
set_option maxRecDepth 100000 in
theorem w_kallOver_10 {p : Program} {l : Launch} {e : Env} {s : State} {m : MethodId} {args : Array Value} {below : List Frame} {meth : Method} {c : Code} {H : Heap} {locs : List Loc} {Q : State → Prop} {ls : Array Slot} {G : cG} {Z : cZ} {A : Nat → Prop} {g : mSt} {H0 : Heap} {X : Int} (x : cX p c cX8_allOver s args (wk (Cond.code yX8_allOver cX8_allOver 4 none)) m G Z A RX8 H0) (hml : c.maxLocals = 4) (L : cL G Z A H0 X g H locs) (hX : 0 ≤ X ∧ X ≤ 2000000000) (i0 : Nat) (p1 : Int32) (hJ : cJ Z g) (hi0 : i0 < Z.n) (hl : lv_has ls 4 [(0, .ref (Z.ad 10 i0)), (1, .int p1)]) (hQ : ∀ (pc' : Nat) (ls' : Array Slot) (g1 : mSt) (H1 : Heap) (locs1 : List Loc), decode cX8_allOver pc' = .ok (.return_, 1) → cL G Z A H0 X g1 H1 locs1 → (mFr [36, 40, 41, 42, 44, 45, 46, 48, 198, 832, 864] g g1 ∧ cJ Z g1 ∧ True) → W p l e rm_kallOver_10 s m args below meth c H1 locs1 0 0 Q (F0 m pc' ls' [])) : W p l e rm_kallOver_10 s m args below meth c H locs 0 0 Q (F0 m 0 ls []) := by
  have hx := x.1
  have hb := x.2.1
  have hz := x.2.2.2.2.2.2.2.1
  have hzn := hz.1
  have hal0 : Z.al 10 i0 := hz.2 10 i0 (show i0 < Z.n from hi0)
  have up1 : (-2147483648 : Int) ≤ p1.toInt ∧ p1.toInt ≤ 2147483647 := (rg_any p1)
  refine lv_iconst (v := 0) hx hb dX8_allOver_0 (by decide) ?_
  refine lv_istore_n (lv' := [(2, .int (0 : Int32)), (0, .ref (Z.ad 10 i0)), (1, .int p1)]) hx hb dX8_allOver_1 rfl hl (by decide) rfl (fun ls hl => ?_)
  have j2_2 : ∀ (n : Nat) (a2_2_1 : Int32) (g2 : mSt) (H2 : Heap) (k2 : List Loc) (ls : Array Slot), mFr [36, 40, 41, 42, 44, 45, 46, 48, 198, 832, 864] g g2 → cL G Z A H0 X g2 H2 k2 → cJ Z g2 → rg (0) (2147483647) a2_2_1 → lv_has ls 4 [(0, .ref (Z.ad 10 i0)), (1, .int p1), (2, .int a2_2_1)] → ((2147483647 : Int) - a2_2_1.toInt).toNat = n → W p l e rm_kallOver_10 s m args below meth c H2 k2 0 0 Q (F0 m 2 ls []) := by
    intro n
    induction n using Nat.strongRecOn with
    | _ n ih2 =>
      intro a2_2_1 g2 H2 k2 ls hF2 L2 hJ2 ra2_2_1 hl hn2
      subst hn2
      have ua2_2_1 : (0 : Int) ≤ a2_2_1.toInt ∧ a2_2_1.toInt ≤ 2147483647 := ra2_2_1
      refine lv_iload_n hx hb dX8_allOver_2 rfl (lv_at hl 2 rfl) ?_
      refine lv_aload_n hx hb dX8_allOver_3 rfl (lv_at hl 0 rfl) ?_
      have al3 : Z.al 12 (Z.n + i0) := hz.2 12 (Z.n + i0) (show (Z.n + i0) < 2 * Z.n from (by omega))
      refine c_getr (a := Z.ad 12 (Z.n + i0)) x L2 10 i0 2 hal0 rfl rfl (wk_in kf_X8_10) dX8_allOver_4 ?_
      refine c_ci (As := []) (rest := [.int a2_2_1]) x hml L2 12 (Z.n + i0) al3 rfl (c_klsize l X g2 (Z.n + i0) hX (show (Z.n + i0) < 2 * Z.n from (by omega))) (wk_V kd_Jx4a65c_size_8abf5 kl_X8_24 ki_Jx4a65c_size_8abf5 ks_Jx4a65c_Jx4a65c_size_8abf5 kn_Jx4a65c) rfl ⟨rfl, rfl⟩ hd_klsize ⟨Nat.le_of_ble_eq_true rfl, Nat.le_of_ble_eq_true rfl⟩ rfl hl.1 rfl (lv_room (Nat.le_of_ble_eq_true rfl)) dX8_allOver_7 (fun v5 g4 H4 k4 hp4 L4 => ?_)
      have rv5 : rg (-2147483648) (2147483647) v5 := hp4.2.1
      have uv5 : (-2147483648 : Int) ≤ v5.toInt ∧ v5.toInt ≤ 2147483647 := rv5
      refine lv_icmp_ge (tgt := 64) hx hb dX8_allOver_10 (by decide) (fun c10_6 => ?_) (fun c10_6 => ?_)
      · skip
        have ic10_6 := Int32.le_iff_toInt_le.mp c10_6
        exact hQ _ _ _ _ _ dX8_allOver_64 L4 ⟨(mFr.tr (mFr.tr mFr.rf hF2 rfl) hp4.1 rfl), (cJ_fr hJ2 hp4.1 rfl), trivial⟩
      · skip
        have ic10_6 := Int32.lt_iff_toInt_lt.mp (rg_nle c10_6)
        have q7 : rg (0) (2147483646) a2_2_1 := (rg_lt (rg_nle c10_6) ra2_2_1 rv5).1
        have uq7 : (0 : Int) ≤ a2_2_1.toInt ∧ a2_2_1.toInt ≤ 2147483646 := q7
        have q8 : rg (1) (2147483647) v5 := (rg_lt (rg_nle c10_6) ra2_2_1 rv5).2
        have uq8 : (1 : Int) ≤ v5.toInt ∧ v5.toInt ≤ 2147483647 := q8
        refine lv_aload_n hx hb dX8_allOver_13 rfl (lv_at hl 0 rfl) ?_
        refine c_getr (a := Z.ad 12 (Z.n + i0)) x L4 10 i0 2 hal0 rfl rfl (wk_in kf_X8_10) dX8_allOver_14 ?_
        refine lv_iload_n hx hb dX8_allOver_17 rfl (lv_at hl 2 rfl) ?_
        have y9 := congrArg Int32.toInt hp4.2.2
        refine c_cr (As := [.int a2_2_1]) (rest := []) x hml L4 12 (Z.n + i0) al3 rfl (c_klget l X g4 (Z.n + i0) a2_2_1 hX (cJ_fr hJ2 hp4.1 rfl) (show (Z.n + i0) < 2 * Z.n from (by omega)) (by omega)) (wk_V kd_Jx4a65c_get_915e3 kl_X8_28 ki_Jx4a65c_get_915e3 ks_Jx4a65c_Jx4a65c_get_915e3 kn_Jx4a65c) rfl ⟨rfl, rfl⟩ hd_klget ⟨Nat.le_of_ble_eq_true rfl, Nat.le_of_ble_eq_true rfl⟩ rfl hl.1 rfl (lv_room (Nat.le_of_ble_eq_true rfl)) dX8_allOver_18 (fun v11 g10 H10 k10 hp10 L10 => ?_)
        have hvv11 := hp10.2.2
        rw [(show mFr [36, 40, 41, 42, 44, 45, 46, 48, 198, 832, 864] g g4 from (mFr.tr (mFr.tr mFr.rf hF2 rfl) hp4.1 rfl)).at 32 rfl] at hvv11
        refine c_top (show Value.ref (Z.ad 1 v11.toInt.toNat) = va_rf (cOpt Z 1 v11) from (by rw [cOpt_some hvv11.1]; rfl)) ?_
        refine c_cast x L10 1 v11.toInt.toNat hvv11.2.1 rfl (wk_in kc_lX8_32) dX8_allOver_21 ?_
        refine lv_astore_n (lv' := [(3, .ref (Z.ad 1 v11.toInt.toNat)), (0, .ref (Z.ad 10 i0)), (1, .int p1), (2, .int a2_2_1)]) hx hb dX8_allOver_24 rfl hl (by decide) rfl (fun ls hl => ?_)
        refine lv_aload_n hx hb dX8_allOver_25 rfl (lv_at hl 0 rfl) ?_
        refine c_ci (As := []) (rest := []) x hml L10 1 v11.toInt.toNat hvv11.2.1 rfl (c_kisOpen l X g10 v11.toInt.toNat hX hvv11.2.1) (wk_V kd_X1_isOpen kl_X8_34 ki_X1_isOpen ks_X1_X1_isOpen kn_X1) rfl ⟨rfl, rfl⟩ hd_kisOpen ⟨Nat.le_of_ble_eq_true rfl, Nat.le_of_ble_eq_true rfl⟩ rfl hl.1 rfl (lv_room (Nat.le_of_ble_eq_true rfl)) dX8_allOver_26 (fun v13 g12 H12 k12 hp12 L12 => ?_)
        have rv13 : rg (0) (1) v13 := hp12.2.1
        have uv13 : (0 : Int) ≤ v13.toInt ∧ v13.toInt ≤ 1 := rv13
        have j58_14 : ∀ (g14 : mSt) (H14 : Heap) (k14 : List Loc) (ls : Array Slot), mFr [36, 40, 41, 42, 44, 45, 46, 48, 198, 832, 864] g12 g14 → cL G Z A H0 X g14 H14 k14 → cJ Z g14 → lv_has ls 4 [(0, .ref (Z.ad 10 i0)), (1, .int p1), (2, .int a2_2_1)] → W p l e rm_kallOver_10 s m args below meth c H14 k14 0 0 Q (F0 m 58 ls []) := by
          intro  g14 H14 k14 ls hF14 L14 hJ14  hl
          obtain ⟨v15, ev15, fv15⟩ := inc_ex a2_2_1 (1) (1 : Int32) (by decide)
          have rv15 : rg (1) (2147483647) v15 := (rg_add ev15 q7 kc_1 rfl).1
          have tv15 := (rg_add ev15 q7 kc_1 rfl).2
          have yv15 : (1 : Int32).toInt = 1 := by decide
          refine lv_iinc (v := v15) (lv' := [(2, .int v15), (0, .ref (Z.ad 10 i0)), (1, .int p1)]) hx hb dX8_allOver_58 hl (k := 2) rfl fv15 (by decide) rfl (fun ls hl => ?_)
          refine lv_goto (tgt := 2) hx hb dX8_allOver_61 (by decide) ?_
          exact ih2 _ (ms_up tv15 kc_1 q7 rfl rfl) v15 g14 _ _ ls (mFr.tr (mFr.tr (mFr.tr (mFr.tr hF2 hp4.1 rfl) hp10.1 rfl) hp12.1 rfl) hF14 rfl) L14 hJ14 (rg_w rv15 rfl) (lv_sub hl [1, 2, 0] rfl) rfl
        refine lv_if_ne (tgt := 35) hx hb dX8_allOver_29 (by decide) (fun c29_16 => ?_) (fun c29_16 => ?_)
        · skip
          have ic29_16 : v13.toInt ≠ (0 : Int32).toInt := fun z => c29_16 (Int32.toInt_inj.mp z)
          have y17 : (0 : Int32).toInt = 0 := by decide
          have q18 : rg (1) (1) v13 := rg_neL c29_16 rv13 kc_0
          have uq18 : (1 : Int) ≤ v13.toInt ∧ v13.toInt ≤ 1 := q18
          refine lv_aload_n hx hb dX8_allOver_35 rfl (lv_at hl 0 rfl) ?_
          refine lv_bipush (v := 41) hx hb dX8_allOver_36 (by decide) ?_
          refine c_cv (As := [.int (41 : Int32)]) (rest := []) x hml L12 1 v11.toInt.toNat hvv11.2.1 rfl (c_kfinish l X g12 v11.toInt.toNat (41 : Int32) hX (cJ_fr hp10.2.1 hp12.1 rfl) hvv11.2.1) (wk_V kd_X1_finish kl_X8_88 ki_X1_finish ks_X1_X1_finish kn_X1) rfl ⟨rfl, rfl⟩ hd_kfinish ⟨Nat.le_of_ble_eq_true rfl, Nat.le_of_ble_eq_true rfl⟩ rfl hl.1 rfl (lv_room (Nat.le_of_ble_eq_true rfl)) dX8_allOver_38 (fun  g19 H19 k19 hp19 L19 => ?_)
          refine lv_aload_n hx hb dX8_allOver_41 rfl (lv_at hl 0 rfl) ?_
          obtain ⟨v20, ev20⟩ : ∃ y : Int32, y = g19 43 v11.toInt.toNat := ⟨_, rfl⟩
          rcases (show v20.toInt < 0 ∨ 0 ≤ v20.toInt from (by omega)) with hc21 | hc21
          · skip
            have q22 : rg (-2147483648) (-1) v20 := ⟨(rg_any v20).1, by omega⟩
            refine c_geto (w := .null) x L19 1 v11.toInt.toNat 11 43 hvv11.2.1 rfl rfl (by show va_rf (cOpt Z 1 (g19 43 v11.toInt.toNat)) = _; rw [← ev20, cOpt_none (by omega)]; rfl) (wk_in kf_X8_92) dX8_allOver_42 ?_
            refine lv_ifnullN (tgt := 58) hx hb dX8_allOver_45 (by decide) ?_
            exact j58_14  g19 _ _ ls (mFr.tr mFr.rf hp19.1 rfl) L19 hp19.2.1 (lv_sub hl [1, 2, 3] rfl)
          · skip
            have q23 : rg (0) (2147483647) v20 := ⟨by omega, (rg_any v20).2⟩
            have hd24 := (hp19.2.1.2.1 v11.toInt.toNat hvv11.2.1).2.1
            rw [← ev20] at hd24
            have al25 : Z.al 1 v20.toInt.toNat := hd24.resolve_left (by omega)
            refine c_geto (w := .ref (Z.ad 1 v20.toInt.toNat)) x L19 1 v11.toInt.toNat 11 43 hvv11.2.1 rfl rfl (by show va_rf (cOpt Z 1 (g19 43 v11.toInt.toNat)) = _; rw [← ev20, cOpt_some (by omega)]; rfl) (wk_in kf_X8_92) dX8_allOver_42 ?_
            refine lv_ifnull hx hb dX8_allOver_45 ?_
            refine lv_aload_n hx hb dX8_allOver_48 rfl (lv_at hl 0 rfl) ?_
            have u26 : 0 ≤ v20.toInt := q23.1
            have hd27 := (hp19.2.1.2.1 v11.toInt.toNat hvv11.2.1).2.1
            rw [← ev20] at hd27
            have al28 : Z.al 1 v20.toInt.toNat := hd27.resolve_left (by omega)
            refine c_geto (w := .ref (Z.ad 1 v20.toInt.toNat)) x L19 1 v11.toInt.toNat 11 43 hvv11.2.1 rfl rfl (by show va_rf (cOpt Z 1 (g19 43 v11.toInt.toNat)) = _; rw [← ev20, cOpt_some (by omega)]; rfl) (wk_in kf_X8_92) dX8_allOver_49 ?_
            refine lv_bipush (v := 41) hx hb dX8_allOver_52 (by decide) ?_
            refine lv_iload_n hx hb dX8_allOver_54 rfl (lv_at hl 2 rfl) ?_
            refine c_cv (As := [.int (41 : Int32), .int p1]) (rest := []) x hml L19 1 v20.toInt.toNat al28 rfl (c_krelease l X g19 v20.toInt.toNat (41 : Int32) p1 hX hp19.2.1 al28) (wk_V kd_X1_release kl_X8_96 ki_X1_release ks_X1_X1_release kn_X1) rfl ⟨rfl, rfl⟩ hd_krelease ⟨Nat.le_of_ble_eq_true rfl, Nat.le_of_ble_eq_true rfl⟩ rfl hl.1 rfl (lv_room (Nat.le_of_ble_eq_true rfl)) dX8_allOver_55 (fun  g29 H29 k29 hp29 L29 => ?_)
            exact j58_14  g29 _ _ ls (mFr.tr (mFr.tr mFr.rf hp19.1 rfl) hp29.1 rfl) L29 hp29.2.1 (lv_sub hl [1, 2, 3] rfl)
        · skip
          have ic29_16 := congrArg Int32.toInt c29_16
          have y30 : (0 : Int32).toInt = 0 := by decide
          have q31 : rg (0) (0) v13 := (rg_eq c29_16 rv13 kc_0).1
          have uq31 : (0 : Int) ≤ v13.toInt ∧ v13.toInt ≤ 0 := q31
          refine lv_goto (tgt := 58) hx hb dX8_allOver_32 (by decide) ?_
          exact j58_14  g12 _ _ ls mFr.rf L12 (cJ_fr hp10.2.1 hp12.1 rfl) (lv_sub hl [1, 2, 3] rfl)
  have y32 : (0 : Int32).toInt = 0 := by decide
  exact j2_2 _ (0 : Int32) g _ _ ls mFr.rf L hJ (rg_w kc_0 rfl) (lv_sub hl [1, 2, 0] rfl) rfl
theorem c_kallOver_10 (l : Launch) {G : cG} {Z : cZ} (X : Int) (g : mSt) (i0 : Nat) (p1 : Int32) (hX : 0 ≤ X ∧ X ≤ 2000000000) (hJ : cJ Z g) (hi0 : i0 < Z.n) : Met l yX8_allOver (wk (Cond.code yX8_allOver cX8_allOver 4 none)) rm_kallOver_10 (va_Pc [.ref (Z.ad 10 i0), .int p1] (cPre G Z X g)) (cQv G Z X (fun g1 => mFr [36, 40, 41, 42, 44, 45, 46, 48, 198, 832, 864] g g1 ∧ cJ Z g1 ∧ True)) 0 0 (cAd Z) := by
  refine Met.ofW (cc := cX8_allOver) (maxL := 4) (ret := none) (by decide) rfl ?_
  intro p e s m args below meth c s₁ B hml hv
  obtain ⟨rfl, hv⟩ := hv
  have hr := B.returns
  have hlocks := B.notSynchronized
  obtain ⟨x, L⟩ := c_start B rfl (fun w h => wk_in h) hv
  have hl := lv_entry ([.ref (Z.ad 10 i0), .int p1]) (n := 4) (Nat.le_of_ble_eq_true rfl)
  rw [lg_entry_eq]
  generalize (lg_sl ([.ref (Z.ad 10 i0), .int p1]) ++ List.replicate (4 - (lg_sl ([.ref (Z.ad 10 i0), .int p1])).length) Slot.unset).toArray = ls at hl ⊢
  exact w_kallOver_10 x hml L hX i0 p1 hJ hi0 hl (fun pc' ls' g1 H1 locs1 hdg L hp => c_vret x L hr hlocks (Int.le_refl _) hp hdg)

def rm_krates : Room := { frames := 3, cells := 0, slots := 0, locals := 64 }
theorem hd_krates : yX10_rates.cls = cRn 10 ∧ yX10_rates.cls ≠ "java/lang/invoke/MethodHandle" ∧ yX10_rates.cls ≠ "java/lang/invoke/VarHandle" ∧ (parseMethodDescriptor yX10_rates.desc).map (fun d => d.parameters.length) = some 0 := by decide +kernel
set_option maxHeartbeats 4000000 in
set_option maxRecDepth 100000 in
theorem w_krates {p : Program} {l : Launch} {e : Env} {s : State} {m : MethodId} {args : Array Value} {below : List Frame} {meth : Method} {c : Code} {H : Heap} {locs : List Loc} {Q : State → Prop} {ls : Array Slot} {G : cG} {Z : cZ} {A : Nat → Prop} {g : mSt} {H0 : Heap} {X : Int} (x : cX p c cX10_rates s args (wk (Cond.code yX10_rates cX10_rates 4 (some .int))) m G Z A RX10 H0) (hml : c.maxLocals = 4) (L : cL G Z A H0 X g H locs) (hX : 0 ≤ X ∧ X ≤ 2000000000) (i0 : Nat) (hJ : cJ Z g) (hi0 : i0 < Z.n) (hl : lv_has ls 4 [(0, .ref (Z.ad 10 i0))]) (hQ : ∀ (pc' : Nat) (ls' : Array Slot) (r : Int32) (g1 : mSt) (H1 : Heap) (locs1 : List Loc), decode cX10_rates pc' = .ok (.ireturn, 1) → cL G Z A H0 X g1 H1 locs1 → (mFr [] g g1 ∧ rg (-2147483648) (2147483647) r ∧ cJ Z g1 ∧ True) → W p l e rm_krates s m args below meth c H1 locs1 0 0 Q (F0 m pc' ls' [.int r])) : W p l e rm_krates s m args below meth c H locs 0 0 Q (F0 m 0 ls []) := by
  have hx := x.1
  have hb := x.2.1
  have hz := x.2.2.2.2.2.2.2.1
  have hzn := hz.1
  have hal0 : Z.al 10 i0 := hz.2 10 i0 (show i0 < Z.n from hi0)
  refine lv_iconst (v := 0) hx hb dX10_rates_0 (by decide) ?_
  refine lv_istore_n (lv' := [(1, .int (0 : Int32)), (0, .ref (Z.ad 10 i0))]) hx hb dX10_rates_1 rfl hl (by decide) rfl (fun ls hl => ?_)
  refine lv_iconst (v := 0) hx hb dX10_rates_2 (by decide) ?_
  refine lv_istore_n (lv' := [(2, .int (0 : Int32)), (1, .int (0 : Int32)), (0, .ref (Z.ad 10 i0))]) hx hb dX10_rates_3 rfl hl (by decide) rfl (fun ls hl => ?_)
  have j4_3 : ∀ (n : Nat) (a4_1_1 a4_2_2 : Int32) (g3 : mSt) (H3 : Heap) (k3 : List Loc) (ls : Array Slot), mFr [] g g3 → cL G Z A H0 X g3 H3 k3 → cJ Z g3 → rg (-2147483648) (2147483647) a4_1_1 → rg (0) (2147483647) a4_2_2 → lv_has ls 4 [(0, .ref (Z.ad 10 i0)), (1, .int a4_1_1), (2, .int a4_2_2)] → ((2147483647 : Int) - a4_2_2.toInt).toNat = n → W p l e rm_krates s m args below meth c H3 k3 0 0 Q (F0 m 4 ls []) := by
    intro n
    induction n using Nat.strongRecOn with
    | _ n ih3 =>
      intro a4_1_1 a4_2_2 g3 H3 k3 ls hF3 L3 hJ3 ra4_1_1 ra4_2_2 hl hn3
      subst hn3
      have ua4_1_1 : (-2147483648 : Int) ≤ a4_1_1.toInt ∧ a4_1_1.toInt ≤ 2147483647 := ra4_1_1
      have ua4_2_2 : (0 : Int) ≤ a4_2_2.toInt ∧ a4_2_2.toInt ≤ 2147483647 := ra4_2_2
      refine lv_iload_n hx hb dX10_rates_4 rfl (lv_at hl 2 rfl) ?_
      refine lv_aload_n hx hb dX10_rates_5 rfl (lv_at hl 0 rfl) ?_
      have al4 : Z.al 12 (Z.n + i0) := hz.2 12 (Z.n + i0) (show (Z.n + i0) < 2 * Z.n from (by omega))
      refine c_getrS (a := Z.ad 12 (Z.n + i0)) x L3 10 i0 2 hal0 rfl rfl (wk_in kf_X10_15) (fun y h => u_same (x.2.2.1 _ (wk_in ke_CellSwitchSwitchSide_CellSwitchSide_references)) y h) dX10_rates_6 ?_
      refine c_ci (As := []) (rest := [.int a4_2_2]) x hml L3 12 (Z.n + i0) al4 rfl (c_klsize l X g3 (Z.n + i0) hX (show (Z.n + i0) < 2 * Z.n from (by omega))) (wk_V kd_Jx4a65c_size_8abf5 kl_X10_19 ki_Jx4a65c_size_8abf5 ks_Jx4a65c_Jx4a65c_size_8abf5 kn_Jx4a65c) rfl ⟨rfl, rfl⟩ hd_klsize ⟨Nat.le_of_ble_eq_true rfl, Nat.le_of_ble_eq_true rfl⟩ rfl hl.1 rfl (lv_room (Nat.le_of_ble_eq_true rfl)) dX10_rates_9 (fun v6 g5 H5 k5 hp5 L5 => ?_)
      have rv6 : rg (-2147483648) (2147483647) v6 := hp5.2.1
      have uv6 : (-2147483648 : Int) ≤ v6.toInt ∧ v6.toInt ≤ 2147483647 := rv6
      refine lv_icmp_ge (tgt := 51) hx hb dX10_rates_12 (by decide) (fun c12_7 => ?_) (fun c12_7 => ?_)
      · skip
        have ic12_7 := Int32.le_iff_toInt_le.mp c12_7
        refine lv_iload_n hx hb dX10_rates_51 rfl (lv_at hl 1 rfl) ?_
        exact hQ _ _ a4_1_1 _ _ _ dX10_rates_52 L5 ⟨(mFr.tr (mFr.tr mFr.rf hF3 rfl) hp5.1 rfl), rg_w ra4_1_1 rfl, (cJ_fr hJ3 hp5.1 rfl), trivial⟩
      · skip
        have ic12_7 := Int32.lt_iff_toInt_lt.mp (rg_nle c12_7)
        have q8 : rg (0) (2147483646) a4_2_2 := (rg_lt (rg_nle c12_7) ra4_2_2 rv6).1
        have uq8 : (0 : Int) ≤ a4_2_2.toInt ∧ a4_2_2.toInt ≤ 2147483646 := q8
        have q9 : rg (1) (2147483647) v6 := (rg_lt (rg_nle c12_7) ra4_2_2 rv6).2
        have uq9 : (1 : Int) ≤ v6.toInt ∧ v6.toInt ≤ 2147483647 := q9
        refine lv_aload_n hx hb dX10_rates_15 rfl (lv_at hl 0 rfl) ?_
        refine c_getrS (a := Z.ad 12 (Z.n + i0)) x L5 10 i0 2 hal0 rfl rfl (wk_in kf_X10_15) (fun y h => u_same (x.2.2.1 _ (wk_in ke_CellSwitchSwitchSide_CellSwitchSide_references)) y h) dX10_rates_16 ?_
        refine lv_iload_n hx hb dX10_rates_19 rfl (lv_at hl 2 rfl) ?_
        have y10 := congrArg Int32.toInt hp5.2.2
        refine c_cr (As := [.int a4_2_2]) (rest := []) x hml L5 12 (Z.n + i0) al4 rfl (c_klget l X g5 (Z.n + i0) a4_2_2 hX (cJ_fr hJ3 hp5.1 rfl) (show (Z.n + i0) < 2 * Z.n from (by omega)) (by omega)) (wk_V kd_Jx4a65c_get_915e3 kl_X10_25 ki_Jx4a65c_get_915e3 ks_Jx4a65c_Jx4a65c_get_915e3 kn_Jx4a65c) rfl ⟨rfl, rfl⟩ hd_klget ⟨Nat.le_of_ble_eq_true rfl, Nat.le_of_ble_eq_true rfl⟩ rfl hl.1 rfl (lv_room (Nat.le_of_ble_eq_true rfl)) dX10_rates_20 (fun v12 g11 H11 k11 hp11 L11 => ?_)
        have hvv12 := hp11.2.2
        rw [(show mFr [] g g5 from (mFr.tr (mFr.tr mFr.rf hF3 rfl) hp5.1 rfl)).at 32 rfl] at hvv12
        refine c_top (show Value.ref (Z.ad 1 v12.toInt.toNat) = va_rf (cOpt Z 1 v12) from (by rw [cOpt_some hvv12.1]; rfl)) ?_
        refine c_cast x L11 1 v12.toInt.toNat hvv12.2.1 rfl (wk_in kc_lX10_29) dX10_rates_23 ?_
        refine lv_astore_n (lv' := [(3, .ref (Z.ad 1 v12.toInt.toNat)), (0, .ref (Z.ad 10 i0)), (1, .int a4_1_1), (2, .int a4_2_2)]) hx hb dX10_rates_26 rfl hl (by decide) rfl (fun ls hl => ?_)
        refine lv_iload_n hx hb dX10_rates_27 rfl (lv_at hl 2 rfl) ?_
        refine lv_aload_n hx hb dX10_rates_28 rfl (lv_at hl 0 rfl) ?_
        refine c_ci (As := []) (rest := [.int a4_1_1]) x hml L11 1 v12.toInt.toNat hvv12.2.1 rfl (c_kisOpen l X g11 v12.toInt.toNat hX hvv12.2.1) (wk_V kd_X1_isOpen kl_X10_31 ki_X1_isOpen ks_X1_X1_isOpen kn_X1) rfl ⟨rfl, rfl⟩ hd_kisOpen ⟨Nat.le_of_ble_eq_true rfl, Nat.le_of_ble_eq_true rfl⟩ rfl hl.1 rfl (lv_room (Nat.le_of_ble_eq_true rfl)) dX10_rates_29 (fun v14 g13 H13 k13 hp13 L13 => ?_)
        have rv14 : rg (0) (1) v14 := hp13.2.1
        have uv14 : (0 : Int) ≤ v14.toInt ∧ v14.toInt ≤ 1 := rv14
        have j43_16 : ∀ (b43_1_15 : Int32) (g16 : mSt) (H16 : Heap) (k16 : List Loc) (ls : Array Slot), mFr [] g13 g16 → cL G Z A H0 X g16 H16 k16 → cJ Z g16 → rg (-2147483648) (2147483647) b43_1_15 → lv_has ls 4 [(0, .ref (Z.ad 10 i0)), (2, .int a4_2_2)] → W p l e rm_krates s m args below meth c H16 k16 0 0 Q (F0 m 43 ls [.int b43_1_15, .int a4_1_1]) := by
          intro b43_1_15 g16 H16 k16 ls hF16 L16 hJ16 rb43_1_15 hl
          have ub43_1_15 : (-2147483648 : Int) ≤ b43_1_15.toInt ∧ b43_1_15.toInt ≤ 2147483647 := rb43_1_15
          refine lv_iadd hx hb dX10_rates_43 ?_
          refine lv_topi (fun v17 ev17 => ?_)
          have rv17 : rg (-2147483648) (2147483647) v17 := rg_any v17
          have uv17 : (-2147483648 : Int) ≤ v17.toInt ∧ v17.toInt ≤ 2147483647 := rv17
          refine lv_istore_n (lv' := [(1, .int v17), (0, .ref (Z.ad 10 i0)), (2, .int a4_2_2)]) hx hb dX10_rates_44 rfl hl (by decide) rfl (fun ls hl => ?_)
          obtain ⟨v18, ev18, fv18⟩ := inc_ex a4_2_2 (1) (1 : Int32) (by decide)
          have rv18 : rg (1) (2147483647) v18 := (rg_add ev18 q8 kc_1 rfl).1
          have tv18 := (rg_add ev18 q8 kc_1 rfl).2
          have yv18 : (1 : Int32).toInt = 1 := by decide
          refine lv_iinc (v := v18) (lv' := [(2, .int v18), (1, .int v17), (0, .ref (Z.ad 10 i0))]) hx hb dX10_rates_45 hl (k := 2) rfl fv18 (by decide) rfl (fun ls hl => ?_)
          refine lv_goto (tgt := 4) hx hb dX10_rates_48 (by decide) ?_
          exact ih3 _ (ms_up tv18 kc_1 q8 rfl rfl) v17 v18 g16 _ _ ls (mFr.tr (mFr.tr (mFr.tr (mFr.tr hF3 hp5.1 rfl) hp11.1 rfl) hp13.1 rfl) hF16 rfl) L16 hJ16 (rg_w rv17 rfl) (rg_w rv18 rfl) (lv_sub hl [2, 1, 0] rfl) rfl
        refine lv_if_eq (tgt := 42) hx hb dX10_rates_32 (by decide) (fun c32_19 => ?_) (fun c32_19 => ?_)
        · skip
          have ic32_19 := congrArg Int32.toInt c32_19
          have y20 : (0 : Int32).toInt = 0 := by decide
          have q21 : rg (0) (0) v14 := (rg_eq c32_19 rv14 kc_0).1
          have uq21 : (0 : Int) ≤ v14.toInt ∧ v14.toInt ≤ 0 := q21
          refine lv_iconst (v := 0) hx hb dX10_rates_42 (by decide) ?_
          have y22 : (0 : Int32).toInt = 0 := by decide
          exact j43_16 (0 : Int32) g13 _ _ ls mFr.rf L13 (cJ_fr hp11.2.1 hp13.1 rfl) (rg_w kc_0 rfl) (lv_sub hl [1, 3] rfl)
        · skip
          have ic32_19 : v14.toInt ≠ (0 : Int32).toInt := fun z => c32_19 (Int32.toInt_inj.mp z)
          have y23 : (0 : Int32).toInt = 0 := by decide
          have q24 : rg (1) (1) v14 := rg_neL c32_19 rv14 kc_0
          have uq24 : (1 : Int) ≤ v14.toInt ∧ v14.toInt ≤ 1 := q24
          refine lv_aload_n hx hb dX10_rates_35 rfl (lv_at hl 0 rfl) ?_
          refine c_geti x L13 1 v12.toInt.toNat 6 38 hvv12.2.1 rfl rfl (wk_in kf_X10_35) dX10_rates_36 (fun v25 ev25 wv25 => ?_)
          have rv25 : rg (-2147483648) (2147483647) v25 := rg_any v25
          have uv25 : (-2147483648 : Int) ≤ v25.toInt ∧ v25.toInt ≤ 2147483647 := rv25
          have sv25 : v25.toInt = (g 38 v12.toInt.toNat).toInt := congrArg Int32.toInt (ev25.trans (congrFun ((show mFr [] g g13 from (mFr.tr (mFr.tr (mFr.tr (mFr.tr mFr.rf hF3 rfl) hp5.1 rfl) hp11.1 rfl) hp13.1 rfl)).at 38 rfl) _))
          refine lv_goto (tgt := 43) hx hb dX10_rates_39 (by decide) ?_
          exact j43_16 v25 g13 _ _ ls mFr.rf L13 (cJ_fr hp11.2.1 hp13.1 rfl) (rg_w rv25 rfl) (lv_sub hl [1, 3] rfl)
  have y26 : (0 : Int32).toInt = 0 := by decide
  have y27 : (0 : Int32).toInt = 0 := by decide
  exact j4_3 _ (0 : Int32) (0 : Int32) g _ _ ls mFr.rf L hJ (rg_w kc_0 rfl) (rg_w kc_0 rfl) (lv_sub hl [2, 1, 0] rfl) rfl
theorem c_krates (l : Launch) {G : cG} {Z : cZ} (X : Int) (g : mSt) (i0 : Nat) (hX : 0 ≤ X ∧ X ≤ 2000000000) (hJ : cJ Z g) (hi0 : i0 < Z.n) : Met l yX10_rates (wk (Cond.code yX10_rates cX10_rates 4 (some .int))) rm_krates (va_Pc [.ref (Z.ad 10 i0)] (cPre G Z X g)) (cQi G Z X (fun r g1 => mFr [] g g1 ∧ rg (-2147483648) (2147483647) r ∧ cJ Z g1 ∧ True)) 0 0 (cAd Z) := by
  refine Met.ofW (cc := cX10_rates) (maxL := 4) (ret := (some .int)) (by decide) rfl ?_
  intro p e s m args below meth c s₁ B hml hv
  obtain ⟨rfl, hv⟩ := hv
  have hr := B.returns
  have hlocks := B.notSynchronized
  obtain ⟨x, L⟩ := c_start B rfl (fun w h => wk_in h) hv
  have hl := lv_entry ([.ref (Z.ad 10 i0)]) (n := 4) (Nat.le_of_ble_eq_true rfl)
  rw [lg_entry_eq]
  generalize (lg_sl ([.ref (Z.ad 10 i0)]) ++ List.replicate (4 - (lg_sl ([.ref (Z.ad 10 i0)])).length) Slot.unset).toArray = ls at hl ⊢
  exact w_krates x hml L hX i0 hJ hi0 hl (fun pc' ls' r g1 H1 locs1 hdg L hp => c_iret x L hr hlocks (Int.le_refl _) hp hdg)

def rm_kisJoined : Room := { frames := 0, cells := 0, slots := 0, locals := 0 }
theorem hd_kisJoined : yX10_isJoined.cls ≠ "java/lang/invoke/MethodHandle" ∧ yX10_isJoined.cls ≠ "java/lang/invoke/VarHandle" ∧ (parseMethodDescriptor yX10_isJoined.desc).map (fun d => d.parameters.length) = some 1 := by decide +kernel
set_option maxHeartbeats 4000000 in
set_option maxRecDepth 100000 in
theorem w_kisJoined {p : Program} {l : Launch} {e : Env} {s : State} {m : MethodId} {args : Array Value} {below : List Frame} {meth : Method} {c : Code} {H : Heap} {locs : List Loc} {Q : State → Prop} {ls : Array Slot} {G : cG} {Z : cZ} {A : Nat → Prop} {g : mSt} {H0 : Heap} {X : Int} (x : cX p c cX10_isJoined s args (wk (Cond.code yX10_isJoined cX10_isJoined 1 (some .boolean))) m G Z A RX10 H0) (hml : c.maxLocals = 1) (L : cL G Z A H0 X g H locs) (hX : 0 ≤ X ∧ X ≤ 2000000000) (q1 : Nat) (hJ : cJ Z g) (hq1 : Z.al 1 q1) (hl : lv_has ls 1 [(0, .ref (Z.ad 1 q1))]) (hQ : ∀ (pc' : Nat) (ls' : Array Slot) (r : Int32) (g1 : mSt) (H1 : Heap) (locs1 : List Loc), decode cX10_isJoined pc' = .ok (.ireturn, 1) → cL G Z A H0 X g1 H1 locs1 → (mFr [] g g1 ∧ rg (0) (1) r ∧ cJ Z g1 ∧ True) → W p l e rm_kisJoined s m args below meth c H1 locs1 0 0 Q (F0 m pc' ls' [.int r])) : W p l e rm_kisJoined s m args below meth c H locs 0 0 Q (F0 m 0 ls []) := by
  have hx := x.1
  have hb := x.2.1
  have hz := x.2.2.2.2.2.2.2.1
  have hzn := hz.1
  refine lv_aload_n hx hb dX10_isJoined_0 rfl (lv_at hl 0 rfl) ?_
  refine c_geti x L 1 q1 4 36 hq1 rfl rfl (wk_in kf_X10_39) dX10_isJoined_1 (fun v1 ev1 wv1 => ?_)
  have rv1 : rg (-2147483648) (2147483647) v1 := rg_any v1
  have uv1 : (-2147483648 : Int) ≤ v1.toInt ∧ v1.toInt ≤ 2147483647 := rv1
  have sv1 : v1.toInt = (g 36 q1).toInt := congrArg Int32.toInt (ev1.trans (congrFun ((show mFr [] g g from mFr.rf).at 36 rfl) _))
  refine lv_bipush (v := 10) hx hb dX10_isJoined_4 (by decide) ?_
  refine lv_icmp_ne (tgt := 32) hx hb dX10_isJoined_6 (by decide) (fun c6_2 => ?_) (fun c6_2 => ?_)
  · skip
    have ic6_2 : v1.toInt ≠ (10 : Int32).toInt := fun z => c6_2 (Int32.toInt_inj.mp z)
    have y3 : (10 : Int32).toInt = 10 := by decide
    refine lv_iconst (v := 0) hx hb dX10_isJoined_32 (by decide) ?_
    exact hQ _ _ (0 : Int32) _ _ _ dX10_isJoined_33 L ⟨mFr.rf, rg_w kc_0 rfl, hJ, trivial⟩
  · skip
    have ic6_2 := congrArg Int32.toInt c6_2
    have y4 : (10 : Int32).toInt = 10 := by decide
    have q5 : rg (10) (10) v1 := (rg_eq c6_2 rv1 kc_10).1
    have uq5 : (10 : Int) ≤ v1.toInt ∧ v1.toInt ≤ 10 := q5
    refine lv_aload_n hx hb dX10_isJoined_9 rfl (lv_at hl 0 rfl) ?_
    obtain ⟨v6, ev6⟩ : ∃ y : Int32, y = g 43 q1 := ⟨_, rfl⟩
    rcases (show v6.toInt < 0 ∨ 0 ≤ v6.toInt from (by omega)) with hc7 | hc7
    · skip
      have q8 : rg (-2147483648) (-1) v6 := ⟨(rg_any v6).1, by omega⟩
      refine c_geto (w := .null) x L 1 q1 11 43 hq1 rfl rfl (by show va_rf (cOpt Z 1 (g 43 q1)) = _; rw [← ev6, cOpt_none (by omega)]; rfl) (wk_in kf_X10_42) dX10_isJoined_10 ?_
      refine lv_ifnullN (tgt := 32) hx hb dX10_isJoined_13 (by decide) ?_
      refine lv_iconst (v := 0) hx hb dX10_isJoined_32 (by decide) ?_
      exact hQ _ _ (0 : Int32) _ _ _ dX10_isJoined_33 L ⟨mFr.rf, rg_w kc_0 rfl, hJ, trivial⟩
    · skip
      have q9 : rg (0) (2147483647) v6 := ⟨by omega, (rg_any v6).2⟩
      have hd10 := (hJ.2.1 q1 hq1).2.1
      rw [← ev6] at hd10
      have al11 : Z.al 1 v6.toInt.toNat := hd10.resolve_left (by omega)
      refine c_geto (w := .ref (Z.ad 1 v6.toInt.toNat)) x L 1 q1 11 43 hq1 rfl rfl (by show va_rf (cOpt Z 1 (g 43 q1)) = _; rw [← ev6, cOpt_some (by omega)]; rfl) (wk_in kf_X10_42) dX10_isJoined_10 ?_
      refine lv_ifnull hx hb dX10_isJoined_13 ?_
      refine lv_aload_n hx hb dX10_isJoined_16 rfl (lv_at hl 0 rfl) ?_
      have u12 : 0 ≤ v6.toInt := q9.1
      have hd13 := (hJ.2.1 q1 hq1).2.1
      rw [← ev6] at hd13
      have al14 : Z.al 1 v6.toInt.toNat := hd13.resolve_left (by omega)
      refine c_geto (w := .ref (Z.ad 1 v6.toInt.toNat)) x L 1 q1 11 43 hq1 rfl rfl (by show va_rf (cOpt Z 1 (g 43 q1)) = _; rw [← ev6, cOpt_some (by omega)]; rfl) (wk_in kf_X10_42) dX10_isJoined_17 ?_
      refine c_geti x L 1 v6.toInt.toNat 4 36 al14 rfl rfl (wk_in kf_X10_39) dX10_isJoined_20 (fun v15 ev15 wv15 => ?_)
      have rv15 : rg (-2147483648) (2147483647) v15 := rg_any v15
      have uv15 : (-2147483648 : Int) ≤ v15.toInt ∧ v15.toInt ≤ 2147483647 := rv15
      have sv15 : v15.toInt = (g 36 v6.toInt.toNat).toInt := congrArg Int32.toInt (ev15.trans (congrFun ((show mFr [] g g from mFr.rf).at 36 rfl) _))
      refine lv_bipush (v := 10) hx hb dX10_isJoined_23 (by decide) ?_
      refine lv_icmp_ne (tgt := 32) hx hb dX10_isJoined_25 (by decide) (fun c25_16 => ?_) (fun c25_16 => ?_)
      · skip
        have ic25_16 : v15.toInt ≠ (10 : Int32).toInt := fun z => c25_16 (Int32.toInt_inj.mp z)
        have y17 : (10 : Int32).toInt = 10 := by decide
        refine lv_iconst (v := 0) hx hb dX10_isJoined_32 (by decide) ?_
        exact hQ _ _ (0 : Int32) _ _ _ dX10_isJoined_33 L ⟨mFr.rf, rg_w kc_0 rfl, hJ, trivial⟩
      · skip
        have ic25_16 := congrArg Int32.toInt c25_16
        have y18 : (10 : Int32).toInt = 10 := by decide
        have q19 : rg (10) (10) v15 := (rg_eq c25_16 rv15 kc_10).1
        have uq19 : (10 : Int) ≤ v15.toInt ∧ v15.toInt ≤ 10 := q19
        refine lv_iconst (v := 1) hx hb dX10_isJoined_28 (by decide) ?_
        refine lv_goto (tgt := 33) hx hb dX10_isJoined_29 (by decide) ?_
        exact hQ _ _ (1 : Int32) _ _ _ dX10_isJoined_33 L ⟨mFr.rf, rg_w kc_1 rfl, hJ, trivial⟩
theorem c_kisJoined (l : Launch) {G : cG} {Z : cZ} (X : Int) (g : mSt) (q1 : Nat) (hX : 0 ≤ X ∧ X ≤ 2000000000) (hJ : cJ Z g) (hq1 : Z.al 1 q1) : Met l yX10_isJoined (wk (Cond.code yX10_isJoined cX10_isJoined 1 (some .boolean))) rm_kisJoined (va_Pc [.ref (Z.ad 1 q1)] (cPre G Z X g)) (cQi G Z X (fun r g1 => mFr [] g g1 ∧ rg (0) (1) r ∧ cJ Z g1 ∧ True)) 0 0 (cAd Z) := by
  refine Met.ofW (cc := cX10_isJoined) (maxL := 1) (ret := (some .boolean)) (by decide) rfl ?_
  intro p e s m args below meth c s₁ B hml hv
  obtain ⟨rfl, hv⟩ := hv
  have hr := B.returns
  have hlocks := B.notSynchronized
  obtain ⟨x, L⟩ := c_start B rfl (fun w h => wk_in h) hv
  have hl := lv_entry ([.ref (Z.ad 1 q1)]) (n := 1) (Nat.le_of_ble_eq_true rfl)
  rw [lg_entry_eq]
  generalize (lg_sl ([.ref (Z.ad 1 q1)]) ++ List.replicate (1 - (lg_sl ([.ref (Z.ad 1 q1)])).length) Slot.unset).toArray = ls at hl ⊢
  exact w_kisJoined x hml L hX q1 hJ hq1 hl (fun pc' ls' r g1 H1 locs1 hdg L hp => c_zret x L hr hlocks (nar01 (rg_w hp.2.1 rfl)) (Int.le_refl _) hp hdg)

def rm_kjoinedChannels : Room := { frames := 3, cells := 0, slots := 0, locals := 64 }
theorem hd_kjoinedChannels : yX10_joinedChannels.cls = cRn 10 ∧ yX10_joinedChannels.cls ≠ "java/lang/invoke/MethodHandle" ∧ yX10_joinedChannels.cls ≠ "java/lang/invoke/VarHandle" ∧ (parseMethodDescriptor yX10_joinedChannels.desc).map (fun d => d.parameters.length) = some 0 := by decide +kernel
set_option maxHeartbeats 4000000 in
set_option maxRecDepth 100000 in
theorem w_kjoinedChannels {p : Program} {l : Launch} {e : Env} {s : State} {m : MethodId} {args : Array Value} {below : List Frame} {meth : Method} {c : Code} {H : Heap} {locs : List Loc} {Q : State → Prop} {ls : Array Slot} {G : cG} {Z : cZ} {A : Nat → Prop} {g : mSt} {H0 : Heap} {X : Int} (x : cX p c cX10_joinedChannels s args (wk (Cond.code yX10_joinedChannels cX10_joinedChannels 3 (some .int))) m G Z A RX10 H0) (hml : c.maxLocals = 3) (L : cL G Z A H0 X g H locs) (hX : 0 ≤ X ∧ X ≤ 2000000000) (i0 : Nat) (hJ : cJ Z g) (hi0 : i0 < Z.n) (hl : lv_has ls 3 [(0, .ref (Z.ad 10 i0))]) (hQ : ∀ (pc' : Nat) (ls' : Array Slot) (r : Int32) (g1 : mSt) (H1 : Heap) (locs1 : List Loc), decode cX10_joinedChannels pc' = .ok (.ireturn, 1) → cL G Z A H0 X g1 H1 locs1 → (mFr [] g g1 ∧ rg (-2147483648) (2147483647) r ∧ cJ Z g1 ∧ True) → W p l e rm_kjoinedChannels s m args below meth c H1 locs1 0 0 Q (F0 m pc' ls' [.int r])) : W p l e rm_kjoinedChannels s m args below meth c H locs 0 0 Q (F0 m 0 ls []) := by
  have hx := x.1
  have hb := x.2.1
  have hz := x.2.2.2.2.2.2.2.1
  have hzn := hz.1
  have hal0 : Z.al 10 i0 := hz.2 10 i0 (show i0 < Z.n from hi0)
  refine lv_iconst (v := 0) hx hb dX10_joinedChannels_0 (by decide) ?_
  refine lv_istore_n (lv' := [(1, .int (0 : Int32)), (0, .ref (Z.ad 10 i0))]) hx hb dX10_joinedChannels_1 rfl hl (by decide) rfl (fun ls hl => ?_)
  refine lv_iconst (v := 0) hx hb dX10_joinedChannels_2 (by decide) ?_
  refine lv_istore_n (lv' := [(2, .int (0 : Int32)), (1, .int (0 : Int32)), (0, .ref (Z.ad 10 i0))]) hx hb dX10_joinedChannels_3 rfl hl (by decide) rfl (fun ls hl => ?_)
  have j4_3 : ∀ (n : Nat) (a4_1_1 a4_2_2 : Int32) (g3 : mSt) (H3 : Heap) (k3 : List Loc) (ls : Array Slot), mFr [] g g3 → cL G Z A H0 X g3 H3 k3 → cJ Z g3 → rg (-2147483648) (2147483647) a4_1_1 → rg (0) (2147483647) a4_2_2 → lv_has ls 3 [(0, .ref (Z.ad 10 i0)), (1, .int a4_1_1), (2, .int a4_2_2)] → ((2147483647 : Int) - a4_2_2.toInt).toNat = n → W p l e rm_kjoinedChannels s m args below meth c H3 k3 0 0 Q (F0 m 4 ls []) := by
    intro n
    induction n using Nat.strongRecOn with
    | _ n ih3 =>
      intro a4_1_1 a4_2_2 g3 H3 k3 ls hF3 L3 hJ3 ra4_1_1 ra4_2_2 hl hn3
      subst hn3
      have ua4_1_1 : (-2147483648 : Int) ≤ a4_1_1.toInt ∧ a4_1_1.toInt ≤ 2147483647 := ra4_1_1
      have ua4_2_2 : (0 : Int) ≤ a4_2_2.toInt ∧ a4_2_2.toInt ≤ 2147483647 := ra4_2_2
      refine lv_iload_n hx hb dX10_joinedChannels_4 rfl (lv_at hl 2 rfl) ?_
      refine lv_aload_n hx hb dX10_joinedChannels_5 rfl (lv_at hl 0 rfl) ?_
      have al4 : Z.al 12 (Z.n + i0) := hz.2 12 (Z.n + i0) (show (Z.n + i0) < 2 * Z.n from (by omega))
      refine c_getrS (a := Z.ad 12 (Z.n + i0)) x L3 10 i0 2 hal0 rfl rfl (wk_in kf_X10_15) (fun y h => u_same (x.2.2.1 _ (wk_in ke_CellSwitchSwitchSide_CellSwitchSide_references)) y h) dX10_joinedChannels_6 ?_
      refine c_ci (As := []) (rest := [.int a4_2_2]) x hml L3 12 (Z.n + i0) al4 rfl (c_klsize l X g3 (Z.n + i0) hX (show (Z.n + i0) < 2 * Z.n from (by omega))) (wk_V kd_Jx4a65c_size_8abf5 kl_X10_19 ki_Jx4a65c_size_8abf5 ks_Jx4a65c_Jx4a65c_size_8abf5 kn_Jx4a65c) rfl ⟨rfl, rfl⟩ hd_klsize ⟨Nat.le_of_ble_eq_true rfl, Nat.le_of_ble_eq_true rfl⟩ rfl hl.1 rfl (lv_room (Nat.le_of_ble_eq_true rfl)) dX10_joinedChannels_9 (fun v6 g5 H5 k5 hp5 L5 => ?_)
      have rv6 : rg (-2147483648) (2147483647) v6 := hp5.2.1
      have uv6 : (-2147483648 : Int) ≤ v6.toInt ∧ v6.toInt ≤ 2147483647 := rv6
      refine lv_icmp_ge (tgt := 46) hx hb dX10_joinedChannels_12 (by decide) (fun c12_7 => ?_) (fun c12_7 => ?_)
      · skip
        have ic12_7 := Int32.le_iff_toInt_le.mp c12_7
        refine lv_iload_n hx hb dX10_joinedChannels_46 rfl (lv_at hl 1 rfl) ?_
        exact hQ _ _ a4_1_1 _ _ _ dX10_joinedChannels_47 L5 ⟨(mFr.tr (mFr.tr mFr.rf hF3 rfl) hp5.1 rfl), rg_w ra4_1_1 rfl, (cJ_fr hJ3 hp5.1 rfl), trivial⟩
      · skip
        have ic12_7 := Int32.lt_iff_toInt_lt.mp (rg_nle c12_7)
        have q8 : rg (0) (2147483646) a4_2_2 := (rg_lt (rg_nle c12_7) ra4_2_2 rv6).1
        have uq8 : (0 : Int) ≤ a4_2_2.toInt ∧ a4_2_2.toInt ≤ 2147483646 := q8
        have q9 : rg (1) (2147483647) v6 := (rg_lt (rg_nle c12_7) ra4_2_2 rv6).2
        have uq9 : (1 : Int) ≤ v6.toInt ∧ v6.toInt ≤ 2147483647 := q9
        refine lv_iload_n hx hb dX10_joinedChannels_15 rfl (lv_at hl 1 rfl) ?_
        refine lv_aload_n hx hb dX10_joinedChannels_16 rfl (lv_at hl 0 rfl) ?_
        refine c_getrS (a := Z.ad 12 (Z.n + i0)) x L5 10 i0 2 hal0 rfl rfl (wk_in kf_X10_15) (fun y h => u_same (x.2.2.1 _ (wk_in ke_CellSwitchSwitchSide_CellSwitchSide_references)) y h) dX10_joinedChannels_17 ?_
        refine lv_iload_n hx hb dX10_joinedChannels_20 rfl (lv_at hl 2 rfl) ?_
        have y10 := congrArg Int32.toInt hp5.2.2
        refine c_cr (As := [.int a4_2_2]) (rest := [.int a4_1_1]) x hml L5 12 (Z.n + i0) al4 rfl (c_klget l X g5 (Z.n + i0) a4_2_2 hX (cJ_fr hJ3 hp5.1 rfl) (show (Z.n + i0) < 2 * Z.n from (by omega)) (by omega)) (wk_V kd_Jx4a65c_get_915e3 kl_X10_25 ki_Jx4a65c_get_915e3 ks_Jx4a65c_Jx4a65c_get_915e3 kn_Jx4a65c) rfl ⟨rfl, rfl⟩ hd_klget ⟨Nat.le_of_ble_eq_true rfl, Nat.le_of_ble_eq_true rfl⟩ rfl hl.1 rfl (lv_room (Nat.le_of_ble_eq_true rfl)) dX10_joinedChannels_21 (fun v12 g11 H11 k11 hp11 L11 => ?_)
        have hvv12 := hp11.2.2
        rw [(show mFr [] g g5 from (mFr.tr (mFr.tr mFr.rf hF3 rfl) hp5.1 rfl)).at 32 rfl] at hvv12
        refine c_top (show Value.ref (Z.ad 1 v12.toInt.toNat) = va_rf (cOpt Z 1 v12) from (by rw [cOpt_some hvv12.1]; rfl)) ?_
        refine c_cast x L11 1 v12.toInt.toNat hvv12.2.1 rfl (wk_in kc_lX10_29) dX10_joinedChannels_24 ?_
        refine c_si (As := [.ref (Z.ad 1 v12.toInt.toNat)]) (rest := [.int a4_1_1]) x hml L11 (c_kisJoined l X g11 v12.toInt.toNat hX hp11.2.1 hvv12.2.1) (wk_T kt_X10_isJoined kl_X10_46 kn_X10 (wk_all kd_X10_isJoined)) rfl ⟨rfl, rfl⟩ hd_kisJoined ⟨Nat.le_of_ble_eq_true rfl, Nat.le_of_ble_eq_true rfl⟩ rfl hl.1 rfl (lv_room (Nat.le_of_ble_eq_true rfl)) dX10_joinedChannels_27 (fun v14 g13 H13 k13 hp13 L13 => ?_)
        have rv14 : rg (0) (1) v14 := hp13.2.1
        have uv14 : (0 : Int) ≤ v14.toInt ∧ v14.toInt ≤ 1 := rv14
        have j38_16 : ∀ (b38_1_15 : Int32) (g16 : mSt) (H16 : Heap) (k16 : List Loc) (ls : Array Slot), mFr [] g13 g16 → cL G Z A H0 X g16 H16 k16 → cJ Z g16 → rg (0) (1) b38_1_15 → lv_has ls 3 [(0, .ref (Z.ad 10 i0)), (2, .int a4_2_2)] → W p l e rm_kjoinedChannels s m args below meth c H16 k16 0 0 Q (F0 m 38 ls [.int b38_1_15, .int a4_1_1]) := by
          intro b38_1_15 g16 H16 k16 ls hF16 L16 hJ16 rb38_1_15 hl
          have ub38_1_15 : (0 : Int) ≤ b38_1_15.toInt ∧ b38_1_15.toInt ≤ 1 := rb38_1_15
          refine lv_iadd hx hb dX10_joinedChannels_38 ?_
          refine lv_topi (fun v17 ev17 => ?_)
          have rv17 : rg (-2147483648) (2147483647) v17 := rg_any v17
          have uv17 : (-2147483648 : Int) ≤ v17.toInt ∧ v17.toInt ≤ 2147483647 := rv17
          refine lv_istore_n (lv' := [(1, .int v17), (0, .ref (Z.ad 10 i0)), (2, .int a4_2_2)]) hx hb dX10_joinedChannels_39 rfl hl (by decide) rfl (fun ls hl => ?_)
          obtain ⟨v18, ev18, fv18⟩ := inc_ex a4_2_2 (1) (1 : Int32) (by decide)
          have rv18 : rg (1) (2147483647) v18 := (rg_add ev18 q8 kc_1 rfl).1
          have tv18 := (rg_add ev18 q8 kc_1 rfl).2
          have yv18 : (1 : Int32).toInt = 1 := by decide
          refine lv_iinc (v := v18) (lv' := [(2, .int v18), (1, .int v17), (0, .ref (Z.ad 10 i0))]) hx hb dX10_joinedChannels_40 hl (k := 2) rfl fv18 (by decide) rfl (fun ls hl => ?_)
          refine lv_goto (tgt := 4) hx hb dX10_joinedChannels_43 (by decide) ?_
          exact ih3 _ (ms_up tv18 kc_1 q8 rfl rfl) v17 v18 g16 _ _ ls (mFr.tr (mFr.tr (mFr.tr (mFr.tr hF3 hp5.1 rfl) hp11.1 rfl) hp13.1 rfl) hF16 rfl) L16 hJ16 (rg_w rv17 rfl) (rg_w rv18 rfl) (lv_sub hl [2, 1, 0] rfl) rfl
        refine lv_if_eq (tgt := 37) hx hb dX10_joinedChannels_30 (by decide) (fun c30_19 => ?_) (fun c30_19 => ?_)
        · skip
          have ic30_19 := congrArg Int32.toInt c30_19
          have y20 : (0 : Int32).toInt = 0 := by decide
          have q21 : rg (0) (0) v14 := (rg_eq c30_19 rv14 kc_0).1
          have uq21 : (0 : Int) ≤ v14.toInt ∧ v14.toInt ≤ 0 := q21
          refine lv_iconst (v := 0) hx hb dX10_joinedChannels_37 (by decide) ?_
          have y22 : (0 : Int32).toInt = 0 := by decide
          exact j38_16 (0 : Int32) g13 _ _ ls mFr.rf L13 hp13.2.2.1 (rg_w kc_0 rfl) (lv_sub hl [0, 2] rfl)
        · skip
          have ic30_19 : v14.toInt ≠ (0 : Int32).toInt := fun z => c30_19 (Int32.toInt_inj.mp z)
          have y23 : (0 : Int32).toInt = 0 := by decide
          have q24 : rg (1) (1) v14 := rg_neL c30_19 rv14 kc_0
          have uq24 : (1 : Int) ≤ v14.toInt ∧ v14.toInt ≤ 1 := q24
          refine lv_iconst (v := 1) hx hb dX10_joinedChannels_33 (by decide) ?_
          refine lv_goto (tgt := 38) hx hb dX10_joinedChannels_34 (by decide) ?_
          have y25 : (1 : Int32).toInt = 1 := by decide
          exact j38_16 (1 : Int32) g13 _ _ ls mFr.rf L13 hp13.2.2.1 (rg_w kc_1 rfl) (lv_sub hl [0, 2] rfl)
  have y26 : (0 : Int32).toInt = 0 := by decide
  have y27 : (0 : Int32).toInt = 0 := by decide
  exact j4_3 _ (0 : Int32) (0 : Int32) g _ _ ls mFr.rf L hJ (rg_w kc_0 rfl) (rg_w kc_0 rfl) (lv_sub hl [2, 1, 0] rfl) rfl
theorem c_kjoinedChannels (l : Launch) {G : cG} {Z : cZ} (X : Int) (g : mSt) (i0 : Nat) (hX : 0 ≤ X ∧ X ≤ 2000000000) (hJ : cJ Z g) (hi0 : i0 < Z.n) : Met l yX10_joinedChannels (wk (Cond.code yX10_joinedChannels cX10_joinedChannels 3 (some .int))) rm_kjoinedChannels (va_Pc [.ref (Z.ad 10 i0)] (cPre G Z X g)) (cQi G Z X (fun r g1 => mFr [] g g1 ∧ rg (-2147483648) (2147483647) r ∧ cJ Z g1 ∧ True)) 0 0 (cAd Z) := by
  refine Met.ofW (cc := cX10_joinedChannels) (maxL := 3) (ret := (some .int)) (by decide) rfl ?_
  intro p e s m args below meth c s₁ B hml hv
  obtain ⟨rfl, hv⟩ := hv
  have hr := B.returns
  have hlocks := B.notSynchronized
  obtain ⟨x, L⟩ := c_start B rfl (fun w h => wk_in h) hv
  have hl := lv_entry ([.ref (Z.ad 10 i0)]) (n := 3) (Nat.le_of_ble_eq_true rfl)
  rw [lg_entry_eq]
  generalize (lg_sl ([.ref (Z.ad 10 i0)]) ++ List.replicate (3 - (lg_sl ([.ref (Z.ad 10 i0)])).length) Slot.unset).toArray = ls at hl ⊢
  exact w_kjoinedChannels x hml L hX i0 hJ hi0 hl (fun pc' ls' r g1 H1 locs1 hdg L hp => c_iret x L hr hlocks (Int.le_refl _) hp hdg)

def rm_kisTaken : Room := { frames := 3, cells := 0, slots := 0, locals := 64 }
theorem hd_kisTaken : yX10_isTaken.cls = cRn 10 ∧ yX10_isTaken.cls ≠ "java/lang/invoke/MethodHandle" ∧ yX10_isTaken.cls ≠ "java/lang/invoke/VarHandle" ∧ (parseMethodDescriptor yX10_isTaken.desc).map (fun d => d.parameters.length) = some 1 := by decide +kernel
set_option maxHeartbeats 4000000 in
set_option maxRecDepth 100000 in
theorem w_kisTaken {p : Program} {l : Launch} {e : Env} {s : State} {m : MethodId} {args : Array Value} {below : List Frame} {meth : Method} {c : Code} {H : Heap} {locs : List Loc} {Q : State → Prop} {ls : Array Slot} {G : cG} {Z : cZ} {A : Nat → Prop} {g : mSt} {H0 : Heap} {X : Int} (x : cX p c cX10_isTaken s args (wk (Cond.code yX10_isTaken cX10_isTaken 4 (some .boolean))) m G Z A RX10 H0) (hml : c.maxLocals = 4) (L : cL G Z A H0 X g H locs) (hX : 0 ≤ X ∧ X ≤ 2000000000) (i0 : Nat) (p1 : Int32) (hJ : cJ Z g) (hi0 : i0 < Z.n) (hl : lv_has ls 4 [(0, .ref (Z.ad 10 i0)), (1, .int p1)]) (hQ : ∀ (pc' : Nat) (ls' : Array Slot) (r : Int32) (g1 : mSt) (H1 : Heap) (locs1 : List Loc), decode cX10_isTaken pc' = .ok (.ireturn, 1) → cL G Z A H0 X g1 H1 locs1 → (mFr [] g g1 ∧ rg (0) (1) r ∧ cJ Z g1 ∧ True) → W p l e rm_kisTaken s m args below meth c H1 locs1 0 0 Q (F0 m pc' ls' [.int r])) : W p l e rm_kisTaken s m args below meth c H locs 0 0 Q (F0 m 0 ls []) := by
  have hx := x.1
  have hb := x.2.1
  have hz := x.2.2.2.2.2.2.2.1
  have hzn := hz.1
  have hal0 : Z.al 10 i0 := hz.2 10 i0 (show i0 < Z.n from hi0)
  have up1 : (-2147483648 : Int) ≤ p1.toInt ∧ p1.toInt ≤ 2147483647 := (rg_any p1)
  refine lv_iconst (v := 0) hx hb dX10_isTaken_0 (by decide) ?_
  refine lv_istore_n (lv' := [(2, .int (0 : Int32)), (0, .ref (Z.ad 10 i0)), (1, .int p1)]) hx hb dX10_isTaken_1 rfl hl (by decide) rfl (fun ls hl => ?_)
  have j2_2 : ∀ (n : Nat) (a2_2_1 : Int32) (g2 : mSt) (H2 : Heap) (k2 : List Loc) (ls : Array Slot), mFr [] g g2 → cL G Z A H0 X g2 H2 k2 → cJ Z g2 → rg (0) (2147483647) a2_2_1 → lv_has ls 4 [(0, .ref (Z.ad 10 i0)), (1, .int p1), (2, .int a2_2_1)] → ((2147483647 : Int) - a2_2_1.toInt).toNat = n → W p l e rm_kisTaken s m args below meth c H2 k2 0 0 Q (F0 m 2 ls []) := by
    intro n
    induction n using Nat.strongRecOn with
    | _ n ih2 =>
      intro a2_2_1 g2 H2 k2 ls hF2 L2 hJ2 ra2_2_1 hl hn2
      subst hn2
      have ua2_2_1 : (0 : Int) ≤ a2_2_1.toInt ∧ a2_2_1.toInt ≤ 2147483647 := ra2_2_1
      refine lv_iload_n hx hb dX10_isTaken_2 rfl (lv_at hl 2 rfl) ?_
      refine lv_aload_n hx hb dX10_isTaken_3 rfl (lv_at hl 0 rfl) ?_
      have al3 : Z.al 12 (Z.n + i0) := hz.2 12 (Z.n + i0) (show (Z.n + i0) < 2 * Z.n from (by omega))
      refine c_getrS (a := Z.ad 12 (Z.n + i0)) x L2 10 i0 2 hal0 rfl rfl (wk_in kf_X10_15) (fun y h => u_same (x.2.2.1 _ (wk_in ke_CellSwitchSwitchSide_CellSwitchSide_references)) y h) dX10_isTaken_4 ?_
      refine c_ci (As := []) (rest := [.int a2_2_1]) x hml L2 12 (Z.n + i0) al3 rfl (c_klsize l X g2 (Z.n + i0) hX (show (Z.n + i0) < 2 * Z.n from (by omega))) (wk_V kd_Jx4a65c_size_8abf5 kl_X10_19 ki_Jx4a65c_size_8abf5 ks_Jx4a65c_Jx4a65c_size_8abf5 kn_Jx4a65c) rfl ⟨rfl, rfl⟩ hd_klsize ⟨Nat.le_of_ble_eq_true rfl, Nat.le_of_ble_eq_true rfl⟩ rfl hl.1 rfl (lv_room (Nat.le_of_ble_eq_true rfl)) dX10_isTaken_7 (fun v5 g4 H4 k4 hp4 L4 => ?_)
      have rv5 : rg (-2147483648) (2147483647) v5 := hp4.2.1
      have uv5 : (-2147483648 : Int) ≤ v5.toInt ∧ v5.toInt ≤ 2147483647 := rv5
      refine lv_icmp_ge (tgt := 48) hx hb dX10_isTaken_10 (by decide) (fun c10_6 => ?_) (fun c10_6 => ?_)
      · skip
        have ic10_6 := Int32.le_iff_toInt_le.mp c10_6
        refine lv_iconst (v := 0) hx hb dX10_isTaken_48 (by decide) ?_
        exact hQ _ _ (0 : Int32) _ _ _ dX10_isTaken_49 L4 ⟨(mFr.tr (mFr.tr mFr.rf hF2 rfl) hp4.1 rfl), rg_w kc_0 rfl, (cJ_fr hJ2 hp4.1 rfl), trivial⟩
      · skip
        have ic10_6 := Int32.lt_iff_toInt_lt.mp (rg_nle c10_6)
        have q7 : rg (0) (2147483646) a2_2_1 := (rg_lt (rg_nle c10_6) ra2_2_1 rv5).1
        have uq7 : (0 : Int) ≤ a2_2_1.toInt ∧ a2_2_1.toInt ≤ 2147483646 := q7
        have q8 : rg (1) (2147483647) v5 := (rg_lt (rg_nle c10_6) ra2_2_1 rv5).2
        have uq8 : (1 : Int) ≤ v5.toInt ∧ v5.toInt ≤ 2147483647 := q8
        refine lv_aload_n hx hb dX10_isTaken_13 rfl (lv_at hl 0 rfl) ?_
        refine c_getrS (a := Z.ad 12 (Z.n + i0)) x L4 10 i0 2 hal0 rfl rfl (wk_in kf_X10_15) (fun y h => u_same (x.2.2.1 _ (wk_in ke_CellSwitchSwitchSide_CellSwitchSide_references)) y h) dX10_isTaken_14 ?_
        refine lv_iload_n hx hb dX10_isTaken_17 rfl (lv_at hl 2 rfl) ?_
        have y9 := congrArg Int32.toInt hp4.2.2
        refine c_cr (As := [.int a2_2_1]) (rest := []) x hml L4 12 (Z.n + i0) al3 rfl (c_klget l X g4 (Z.n + i0) a2_2_1 hX (cJ_fr hJ2 hp4.1 rfl) (show (Z.n + i0) < 2 * Z.n from (by omega)) (by omega)) (wk_V kd_Jx4a65c_get_915e3 kl_X10_25 ki_Jx4a65c_get_915e3 ks_Jx4a65c_Jx4a65c_get_915e3 kn_Jx4a65c) rfl ⟨rfl, rfl⟩ hd_klget ⟨Nat.le_of_ble_eq_true rfl, Nat.le_of_ble_eq_true rfl⟩ rfl hl.1 rfl (lv_room (Nat.le_of_ble_eq_true rfl)) dX10_isTaken_18 (fun v11 g10 H10 k10 hp10 L10 => ?_)
        have hvv11 := hp10.2.2
        rw [(show mFr [] g g4 from (mFr.tr (mFr.tr mFr.rf hF2 rfl) hp4.1 rfl)).at 32 rfl] at hvv11
        refine c_top (show Value.ref (Z.ad 1 v11.toInt.toNat) = va_rf (cOpt Z 1 v11) from (by rw [cOpt_some hvv11.1]; rfl)) ?_
        refine c_cast x L10 1 v11.toInt.toNat hvv11.2.1 rfl (wk_in kc_lX10_29) dX10_isTaken_21 ?_
        refine lv_astore_n (lv' := [(3, .ref (Z.ad 1 v11.toInt.toNat)), (0, .ref (Z.ad 10 i0)), (1, .int p1), (2, .int a2_2_1)]) hx hb dX10_isTaken_24 rfl hl (by decide) rfl (fun ls hl => ?_)
        refine lv_aload_n hx hb dX10_isTaken_25 rfl (lv_at hl 0 rfl) ?_
        refine c_ci (As := []) (rest := []) x hml L10 1 v11.toInt.toNat hvv11.2.1 rfl (c_kisOpen l X g10 v11.toInt.toNat hX hvv11.2.1) (wk_V kd_X1_isOpen kl_X10_31 ki_X1_isOpen ks_X1_X1_isOpen kn_X1) rfl ⟨rfl, rfl⟩ hd_kisOpen ⟨Nat.le_of_ble_eq_true rfl, Nat.le_of_ble_eq_true rfl⟩ rfl hl.1 rfl (lv_room (Nat.le_of_ble_eq_true rfl)) dX10_isTaken_26 (fun v13 g12 H12 k12 hp12 L12 => ?_)
        have rv13 : rg (0) (1) v13 := hp12.2.1
        have uv13 : (0 : Int) ≤ v13.toInt ∧ v13.toInt ≤ 1 := rv13
        have j42_14 : ∀ (g14 : mSt) (H14 : Heap) (k14 : List Loc) (ls : Array Slot), mFr [] g12 g14 → cL G Z A H0 X g14 H14 k14 → cJ Z g14 → lv_has ls 4 [(0, .ref (Z.ad 10 i0)), (1, .int p1), (2, .int a2_2_1)] → W p l e rm_kisTaken s m args below meth c H14 k14 0 0 Q (F0 m 42 ls []) := by
          intro  g14 H14 k14 ls hF14 L14 hJ14  hl
          obtain ⟨v15, ev15, fv15⟩ := inc_ex a2_2_1 (1) (1 : Int32) (by decide)
          have rv15 : rg (1) (2147483647) v15 := (rg_add ev15 q7 kc_1 rfl).1
          have tv15 := (rg_add ev15 q7 kc_1 rfl).2
          have yv15 : (1 : Int32).toInt = 1 := by decide
          refine lv_iinc (v := v15) (lv' := [(2, .int v15), (0, .ref (Z.ad 10 i0)), (1, .int p1)]) hx hb dX10_isTaken_42 hl (k := 2) rfl fv15 (by decide) rfl (fun ls hl => ?_)
          refine lv_goto (tgt := 2) hx hb dX10_isTaken_45 (by decide) ?_
          exact ih2 _ (ms_up tv15 kc_1 q7 rfl rfl) v15 g14 _ _ ls (mFr.tr (mFr.tr (mFr.tr (mFr.tr hF2 hp4.1 rfl) hp10.1 rfl) hp12.1 rfl) hF14 rfl) L14 hJ14 (rg_w rv15 rfl) (lv_sub hl [1, 2, 0] rfl) rfl
        refine lv_if_eq (tgt := 42) hx hb dX10_isTaken_29 (by decide) (fun c29_16 => ?_) (fun c29_16 => ?_)
        · skip
          have ic29_16 := congrArg Int32.toInt c29_16
          have y17 : (0 : Int32).toInt = 0 := by decide
          have q18 : rg (0) (0) v13 := (rg_eq c29_16 rv13 kc_0).1
          have uq18 : (0 : Int) ≤ v13.toInt ∧ v13.toInt ≤ 0 := q18
          exact j42_14  g12 _ _ ls mFr.rf L12 (cJ_fr hp10.2.1 hp12.1 rfl) (lv_sub hl [1, 2, 3] rfl)
        · skip
          have ic29_16 : v13.toInt ≠ (0 : Int32).toInt := fun z => c29_16 (Int32.toInt_inj.mp z)
          have y19 : (0 : Int32).toInt = 0 := by decide
          have q20 : rg (1) (1) v13 := rg_neL c29_16 rv13 kc_0
          have uq20 : (1 : Int) ≤ v13.toInt ∧ v13.toInt ≤ 1 := q20
          refine lv_aload_n hx hb dX10_isTaken_32 rfl (lv_at hl 0 rfl) ?_
          refine c_geti x L12 1 v11.toInt.toNat 5 37 hvv11.2.1 rfl rfl (wk_in kf_X10_50) dX10_isTaken_33 (fun v21 ev21 wv21 => ?_)
          have rv21 : rg (-2147483648) (2147483647) v21 := rg_any v21
          have uv21 : (-2147483648 : Int) ≤ v21.toInt ∧ v21.toInt ≤ 2147483647 := rv21
          have sv21 : v21.toInt = (g 37 v11.toInt.toNat).toInt := congrArg Int32.toInt (ev21.trans (congrFun ((show mFr [] g g12 from (mFr.tr (mFr.tr (mFr.tr (mFr.tr mFr.rf hF2 rfl) hp4.1 rfl) hp10.1 rfl) hp12.1 rfl)).at 37 rfl) _))
          refine lv_iload_n hx hb dX10_isTaken_36 rfl (lv_at hl 2 rfl) ?_
          refine lv_icmp_ne (tgt := 42) hx hb dX10_isTaken_37 (by decide) (fun c37_22 => ?_) (fun c37_22 => ?_)
          · skip
            have ic37_22 : v21.toInt ≠ p1.toInt := fun z => c37_22 (Int32.toInt_inj.mp z)
            exact j42_14  g12 _ _ ls mFr.rf L12 (cJ_fr hp10.2.1 hp12.1 rfl) (lv_sub hl [1, 2, 3] rfl)
          · skip
            have ic37_22 := congrArg Int32.toInt c37_22
            refine lv_iconst (v := 1) hx hb dX10_isTaken_40 (by decide) ?_
            exact hQ _ _ (1 : Int32) _ _ _ dX10_isTaken_41 L12 ⟨(mFr.tr (mFr.tr (mFr.tr (mFr.tr mFr.rf hF2 rfl) hp4.1 rfl) hp10.1 rfl) hp12.1 rfl), rg_w kc_1 rfl, (cJ_fr hp10.2.1 hp12.1 rfl), trivial⟩
  have y23 : (0 : Int32).toInt = 0 := by decide
  exact j2_2 _ (0 : Int32) g _ _ ls mFr.rf L hJ (rg_w kc_0 rfl) (lv_sub hl [1, 2, 0] rfl) rfl
theorem c_kisTaken (l : Launch) {G : cG} {Z : cZ} (X : Int) (g : mSt) (i0 : Nat) (p1 : Int32) (hX : 0 ≤ X ∧ X ≤ 2000000000) (hJ : cJ Z g) (hi0 : i0 < Z.n) : Met l yX10_isTaken (wk (Cond.code yX10_isTaken cX10_isTaken 4 (some .boolean))) rm_kisTaken (va_Pc [.ref (Z.ad 10 i0), .int p1] (cPre G Z X g)) (cQi G Z X (fun r g1 => mFr [] g g1 ∧ rg (0) (1) r ∧ cJ Z g1 ∧ True)) 0 0 (cAd Z) := by
  refine Met.ofW (cc := cX10_isTaken) (maxL := 4) (ret := (some .boolean)) (by decide) rfl ?_
  intro p e s m args below meth c s₁ B hml hv
  obtain ⟨rfl, hv⟩ := hv
  have hr := B.returns
  have hlocks := B.notSynchronized
  obtain ⟨x, L⟩ := c_start B rfl (fun w h => wk_in h) hv
  have hl := lv_entry ([.ref (Z.ad 10 i0), .int p1]) (n := 4) (Nat.le_of_ble_eq_true rfl)
  rw [lg_entry_eq]
  generalize (lg_sl ([.ref (Z.ad 10 i0), .int p1]) ++ List.replicate (4 - (lg_sl ([.ref (Z.ad 10 i0), .int p1])).length) Slot.unset).toArray = ls at hl ⊢
  exact w_kisTaken x hml L hX i0 p1 hJ hi0 hl (fun pc' ls' r g1 H1 locs1 hdg L hp => c_zret x L hr hlocks (nar01 (rg_w hp.2.1 rfl)) (Int.le_refl _) hp hdg)

def rm_kleastChannel : Room := { frames := 4, cells := 0, slots := 0, locals := 87 }
theorem hd_kleastChannel : yX10_leastChannel.cls = cRn 10 ∧ yX10_leastChannel.cls ≠ "java/lang/invoke/MethodHandle" ∧ yX10_leastChannel.cls ≠ "java/lang/invoke/VarHandle" ∧ (parseMethodDescriptor yX10_leastChannel.desc).map (fun d => d.parameters.length) = some 0 := by decide +kernel
set_option maxHeartbeats 4000000 in
set_option maxRecDepth 100000 in
theorem w_kleastChannel {p : Program} {l : Launch} {e : Env} {s : State} {m : MethodId} {args : Array Value} {below : List Frame} {meth : Method} {c : Code} {H : Heap} {locs : List Loc} {Q : State → Prop} {ls : Array Slot} {G : cG} {Z : cZ} {A : Nat → Prop} {g : mSt} {H0 : Heap} {X : Int} (x : cX p c cX10_leastChannel s args (wk (Cond.code yX10_leastChannel cX10_leastChannel 3 (some .int))) m G Z A RX10 H0) (hml : c.maxLocals = 3) (L : cL G Z A H0 X g H locs) (hX : 0 ≤ X ∧ X ≤ 2000000000) (i0 : Nat) (hJ : cJ Z g) (hi0 : i0 < Z.n) (hl : lv_has ls 3 [(0, .ref (Z.ad 10 i0))]) (hQ : ∀ (pc' : Nat) (ls' : Array Slot) (r : Int32) (g1 : mSt) (H1 : Heap) (locs1 : List Loc), decode cX10_leastChannel pc' = .ok (.ireturn, 1) → cL G Z A H0 X g1 H1 locs1 → (mFr [] g g1 ∧ rg (-2147483648) (2147483647) r ∧ cJ Z g1 ∧ True) → W p l e rm_kleastChannel s m args below meth c H1 locs1 0 0 Q (F0 m pc' ls' [.int r])) : W p l e rm_kleastChannel s m args below meth c H locs 0 0 Q (F0 m 0 ls []) := by
  have hx := x.1
  have hb := x.2.1
  have hz := x.2.2.2.2.2.2.2.1
  have hzn := hz.1
  have hal0 : Z.al 10 i0 := hz.2 10 i0 (show i0 < Z.n from hi0)
  refine lv_bipush (v := 32) hx hb dX10_leastChannel_0 (by decide) ?_
  refine lv_istore_n (lv' := [(1, .int (32 : Int32)), (0, .ref (Z.ad 10 i0))]) hx hb dX10_leastChannel_2 rfl hl (by decide) rfl (fun ls hl => ?_)
  refine lv_iconst (v := 0) hx hb dX10_leastChannel_3 (by decide) ?_
  refine lv_istore_n (lv' := [(2, .int (0 : Int32)), (1, .int (32 : Int32)), (0, .ref (Z.ad 10 i0))]) hx hb dX10_leastChannel_4 rfl hl (by decide) rfl (fun ls hl => ?_)
  have j5_3 : ∀ (n : Nat) (a5_1_1 a5_2_2 : Int32) (g3 : mSt) (H3 : Heap) (k3 : List Loc) (ls : Array Slot), mFr [] g g3 → cL G Z A H0 X g3 H3 k3 → cJ Z g3 → rg (-2147483648) (2147483647) a5_1_1 → rg (0) (8) a5_2_2 → lv_has ls 3 [(0, .ref (Z.ad 10 i0)), (1, .int a5_1_1), (2, .int a5_2_2)] → ((8 : Int) - a5_2_2.toInt).toNat = n → W p l e rm_kleastChannel s m args below meth c H3 k3 0 0 Q (F0 m 5 ls []) := by
    intro n
    induction n using Nat.strongRecOn with
    | _ n ih3 =>
      intro a5_1_1 a5_2_2 g3 H3 k3 ls hF3 L3 hJ3 ra5_1_1 ra5_2_2 hl hn3
      subst hn3
      have ua5_1_1 : (-2147483648 : Int) ≤ a5_1_1.toInt ∧ a5_1_1.toInt ≤ 2147483647 := ra5_1_1
      have ua5_2_2 : (0 : Int) ≤ a5_2_2.toInt ∧ a5_2_2.toInt ≤ 8 := ra5_2_2
      refine lv_iload_n hx hb dX10_leastChannel_5 rfl (lv_at hl 2 rfl) ?_
      refine lv_bipush (v := 8) hx hb dX10_leastChannel_6 (by decide) ?_
      have j28_4 : ∀ (g4 : mSt) (H4 : Heap) (k4 : List Loc) (ls : Array Slot), mFr [] g3 g4 → cL G Z A H0 X g4 H4 k4 → cJ Z g4 → lv_has ls 3 [(0, .ref (Z.ad 10 i0)), (1, .int a5_1_1)] → W p l e rm_kleastChannel s m args below meth c H4 k4 0 0 Q (F0 m 28 ls []) := by
        intro  g4 H4 k4 ls hF4 L4 hJ4  hl
        refine lv_iload_n hx hb dX10_leastChannel_28 rfl (lv_at hl 1 rfl) ?_
        exact hQ _ _ a5_1_1 _ _ _ dX10_leastChannel_29 L4 ⟨(mFr.tr (mFr.tr mFr.rf hF3 rfl) hF4 rfl), rg_w ra5_1_1 rfl, hJ4, trivial⟩
      refine lv_icmp_ge (tgt := 28) hx hb dX10_leastChannel_8 (by decide) (fun c8_5 => ?_) (fun c8_5 => ?_)
      · skip
        have ic8_5 := Int32.le_iff_toInt_le.mp c8_5
        have q6 : rg (8) (8) a5_2_2 := (rg_le c8_5 kc_8 ra5_2_2).2
        have uq6 : (8 : Int) ≤ a5_2_2.toInt ∧ a5_2_2.toInt ≤ 8 := q6
        exact j28_4  g3 _ _ ls mFr.rf L3 hJ3 (lv_sub hl [0, 1] rfl)
      · skip
        have ic8_5 := Int32.lt_iff_toInt_lt.mp (rg_nle c8_5)
        have q7 : rg (0) (7) a5_2_2 := (rg_lt (rg_nle c8_5) ra5_2_2 kc_8).1
        have uq7 : (0 : Int) ≤ a5_2_2.toInt ∧ a5_2_2.toInt ≤ 7 := q7
        refine lv_aload_n hx hb dX10_leastChannel_11 rfl (lv_at hl 0 rfl) ?_
        refine lv_iload_n hx hb dX10_leastChannel_12 rfl (lv_at hl 1 rfl) ?_
        refine c_ci (As := [.int a5_1_1]) (rest := []) x hml L3 10 i0 hal0 rfl (c_kisTaken l X g3 i0 a5_1_1 hX hJ3 (show i0 < Z.n from (by omega))) (wk_V kd_X10_isTaken kl_X10_64 ki_X10_isTaken ks_X10_X10_isTaken kn_X10) rfl ⟨rfl, rfl⟩ hd_kisTaken ⟨Nat.le_of_ble_eq_true rfl, Nat.le_of_ble_eq_true rfl⟩ rfl hl.1 rfl (lv_room (Nat.le_of_ble_eq_true rfl)) dX10_leastChannel_13 (fun v9 g8 H8 k8 hp8 L8 => ?_)
        have rv9 : rg (0) (1) v9 := hp8.2.1
        have uv9 : (0 : Int) ≤ v9.toInt ∧ v9.toInt ≤ 1 := rv9
        refine lv_if_eq (tgt := 28) hx hb dX10_leastChannel_16 (by decide) (fun c16_10 => ?_) (fun c16_10 => ?_)
        · skip
          have ic16_10 := congrArg Int32.toInt c16_10
          have y11 : (0 : Int32).toInt = 0 := by decide
          have q12 : rg (0) (0) v9 := (rg_eq c16_10 rv9 kc_0).1
          have uq12 : (0 : Int) ≤ v9.toInt ∧ v9.toInt ≤ 0 := q12
          exact j28_4  g8 _ _ ls (mFr.tr mFr.rf hp8.1 rfl) L8 hp8.2.2.1 (lv_sub hl [0, 1] rfl)
        · skip
          have ic16_10 : v9.toInt ≠ (0 : Int32).toInt := fun z => c16_10 (Int32.toInt_inj.mp z)
          have y13 : (0 : Int32).toInt = 0 := by decide
          have q14 : rg (1) (1) v9 := rg_neL c16_10 rv9 kc_0
          have uq14 : (1 : Int) ≤ v9.toInt ∧ v9.toInt ≤ 1 := q14
          obtain ⟨v15, ev15, fv15⟩ := inc_ex a5_1_1 (1) (1 : Int32) (by decide)
          have rv15 := rg_any v15
          refine lv_iinc (v := v15) (lv' := [(1, .int v15), (0, .ref (Z.ad 10 i0)), (2, .int a5_2_2)]) hx hb dX10_leastChannel_19 hl (k := 1) rfl fv15 (by decide) rfl (fun ls hl => ?_)
          obtain ⟨v16, ev16, fv16⟩ := inc_ex a5_2_2 (1) (1 : Int32) (by decide)
          have rv16 : rg (1) (8) v16 := (rg_add ev16 q7 kc_1 rfl).1
          have tv16 := (rg_add ev16 q7 kc_1 rfl).2
          have yv16 : (1 : Int32).toInt = 1 := by decide
          refine lv_iinc (v := v16) (lv' := [(2, .int v16), (1, .int v15), (0, .ref (Z.ad 10 i0))]) hx hb dX10_leastChannel_22 hl (k := 2) rfl fv16 (by decide) rfl (fun ls hl => ?_)
          refine lv_goto (tgt := 5) hx hb dX10_leastChannel_25 (by decide) ?_
          exact ih3 _ (ms_up tv16 kc_1 q7 rfl rfl) v15 v16 g8 _ _ ls (mFr.tr hF3 hp8.1 rfl) L8 hp8.2.2.1 (rg_w rv15 rfl) (rg_w rv16 rfl) (lv_sub hl [2, 1, 0] rfl) rfl
  have y17 : (32 : Int32).toInt = 32 := by decide
  have y18 : (0 : Int32).toInt = 0 := by decide
  exact j5_3 _ (32 : Int32) (0 : Int32) g _ _ ls mFr.rf L hJ (rg_w kc_32 rfl) (rg_w kc_0 rfl) (lv_sub hl [2, 1, 0] rfl) rfl
theorem c_kleastChannel (l : Launch) {G : cG} {Z : cZ} (X : Int) (g : mSt) (i0 : Nat) (hX : 0 ≤ X ∧ X ≤ 2000000000) (hJ : cJ Z g) (hi0 : i0 < Z.n) : Met l yX10_leastChannel (wk (Cond.code yX10_leastChannel cX10_leastChannel 3 (some .int))) rm_kleastChannel (va_Pc [.ref (Z.ad 10 i0)] (cPre G Z X g)) (cQi G Z X (fun r g1 => mFr [] g g1 ∧ rg (-2147483648) (2147483647) r ∧ cJ Z g1 ∧ True)) 0 0 (cAd Z) := by
  refine Met.ofW (cc := cX10_leastChannel) (maxL := 3) (ret := (some .int)) (by decide) rfl ?_
  intro p e s m args below meth c s₁ B hml hv
  obtain ⟨rfl, hv⟩ := hv
  have hr := B.returns
  have hlocks := B.notSynchronized
  obtain ⟨x, L⟩ := c_start B rfl (fun w h => wk_in h) hv
  have hl := lv_entry ([.ref (Z.ad 10 i0)]) (n := 3) (Nat.le_of_ble_eq_true rfl)
  rw [lg_entry_eq]
  generalize (lg_sl ([.ref (Z.ad 10 i0)]) ++ List.replicate (3 - (lg_sl ([.ref (Z.ad 10 i0)])).length) Slot.unset).toArray = ls at hl ⊢
  exact w_kleastChannel x hml L hX i0 hJ hi0 hl (fun pc' ls' r g1 H1 locs1 hdg L hp => c_iret x L hr hlocks (Int.le_refl _) hp hdg)

def rm_khasRoom : Room := { frames := 4, cells := 0, slots := 0, locals := 86 }
theorem hd_khasRoom : yX4_hasRoom.cls = cRn 4 ∧ yX4_hasRoom.cls ≠ "java/lang/invoke/MethodHandle" ∧ yX4_hasRoom.cls ≠ "java/lang/invoke/VarHandle" ∧ (parseMethodDescriptor yX4_hasRoom.desc).map (fun d => d.parameters.length) = some 0 := by decide +kernel
set_option maxHeartbeats 4000000 in
set_option maxRecDepth 100000 in
theorem w_khasRoom {p : Program} {l : Launch} {e : Env} {s : State} {m : MethodId} {args : Array Value} {below : List Frame} {meth : Method} {c : Code} {H : Heap} {locs : List Loc} {Q : State → Prop} {ls : Array Slot} {G : cG} {Z : cZ} {A : Nat → Prop} {g : mSt} {H0 : Heap} {X : Int} (x : cX p c cX4_hasRoom s args (wk (Cond.code yX4_hasRoom cX4_hasRoom 1 (some .boolean))) m G Z A RX4 H0) (hml : c.maxLocals = 1) (L : cL G Z A H0 X g H locs) (hX : 0 ≤ X ∧ X ≤ 2000000000) (i0 : Nat) (hJ : cJ Z g) (hi0 : i0 < Z.n) (hl : lv_has ls 1 [(0, .ref (Z.ad 4 i0))]) (hQ : ∀ (pc' : Nat) (ls' : Array Slot) (r : Int32) (g1 : mSt) (H1 : Heap) (locs1 : List Loc), decode cX4_hasRoom pc' = .ok (.ireturn, 1) → cL G Z A H0 X g1 H1 locs1 → (mFr [] g g1 ∧ rg (0) (1) r ∧ cJ Z g1 ∧ True) → W p l e rm_khasRoom s m args below meth c H1 locs1 0 0 Q (F0 m pc' ls' [.int r])) : W p l e rm_khasRoom s m args below meth c H locs 0 0 Q (F0 m 0 ls []) := by
  have hx := x.1
  have hb := x.2.1
  have hz := x.2.2.2.2.2.2.2.1
  have hzn := hz.1
  have hal0 : Z.al 4 i0 := hz.2 4 i0 (show i0 < Z.n from hi0)
  refine lv_aload_n hx hb dX4_hasRoom_0 rfl (lv_at hl 0 rfl) ?_
  refine c_geti x L 4 i0 7 135 hal0 rfl rfl (wk_in kf_X4_37) dX4_hasRoom_1 (fun v1 ev1 wv1 => ?_)
  have rv1 : rg (0) (40) v1 := clj_135 wv1
  have uv1 : (0 : Int) ≤ v1.toInt ∧ v1.toInt ≤ 40 := rv1
  have sv1 : v1.toInt = (g 135 i0).toInt := congrArg Int32.toInt (ev1.trans (congrFun ((show mFr [] g g from mFr.rf).at 135 rfl) _))
  refine lv_bipush (v := 40) hx hb dX4_hasRoom_4 (by decide) ?_
  have j23_3 : ∀ (b23_0_2 : Int32) (g3 : mSt) (H3 : Heap) (k3 : List Loc) (ls : Array Slot), mFr [] g g3 → cL G Z A H0 X g3 H3 k3 → cJ Z g3 → rg (0) (1) b23_0_2 → lv_has ls 1 [(0, .ref (Z.ad 4 i0))] → W p l e rm_khasRoom s m args below meth c H3 k3 0 0 Q (F0 m 23 ls [.int b23_0_2]) := by
    intro b23_0_2 g3 H3 k3 ls hF3 L3 hJ3 rb23_0_2 hl
    have ub23_0_2 : (0 : Int) ≤ b23_0_2.toInt ∧ b23_0_2.toInt ≤ 1 := rb23_0_2
    exact hQ _ _ b23_0_2 _ _ _ dX4_hasRoom_23 L3 ⟨(mFr.tr mFr.rf hF3 rfl), rg_w rb23_0_2 rfl, hJ3, trivial⟩
  have j22_4 : ∀ (g4 : mSt) (H4 : Heap) (k4 : List Loc) (ls : Array Slot), mFr [] g g4 → cL G Z A H0 X g4 H4 k4 → cJ Z g4 → lv_has ls 1 [(0, .ref (Z.ad 4 i0))] → W p l e rm_khasRoom s m args below meth c H4 k4 0 0 Q (F0 m 22 ls []) := by
    intro  g4 H4 k4 ls hF4 L4 hJ4  hl
    refine lv_iconst (v := 0) hx hb dX4_hasRoom_22 (by decide) ?_
    have y5 : (0 : Int32).toInt = 0 := by decide
    exact j23_3 (0 : Int32) g4 _ _ ls (mFr.tr mFr.rf hF4 rfl) L4 hJ4 (rg_w kc_0 rfl) (lv_sub hl [0] rfl)
  refine lv_icmp_ge (tgt := 22) hx hb dX4_hasRoom_6 (by decide) (fun c6_6 => ?_) (fun c6_6 => ?_)
  · skip
    have ic6_6 := Int32.le_iff_toInt_le.mp c6_6
    have q7 : rg (40) (40) v1 := (rg_le c6_6 kc_40 rv1).2
    have uq7 : (40 : Int) ≤ v1.toInt ∧ v1.toInt ≤ 40 := q7
    exact j22_4  g _ _ ls mFr.rf L hJ (lv_sub hl [0] rfl)
  · skip
    have ic6_6 := Int32.lt_iff_toInt_lt.mp (rg_nle c6_6)
    have q8 : rg (0) (39) v1 := (rg_lt (rg_nle c6_6) rv1 kc_40).1
    have uq8 : (0 : Int) ≤ v1.toInt ∧ v1.toInt ≤ 39 := q8
    refine lv_aload_n hx hb dX4_hasRoom_9 rfl (lv_at hl 0 rfl) ?_
    refine c_ciU (n := 0) (owner := "CellSwitch$Side") (x0 := ⟨"CellSwitch$EndSide", "openCalls", "()I"⟩) (As := []) (rest := []) x hml L 4 i0 hal0 rfl (c_kopenCalls_4 l X g i0 hX hJ (show i0 < Z.n from (by omega))) (wk_U kd_X8_openCalls kl_X4_40 km_CellSwitchEndSide_CellSwitchSide_openCalls ks_X4_CellSwitchEndSide_X8_openCalls ki_X8_openCalls kn_X8) rfl ⟨rfl, rfl⟩ rfl (by decide +kernel) ⟨Nat.le_of_ble_eq_true rfl, Nat.le_of_ble_eq_true rfl⟩ rfl hl.1 rfl (lv_room (Nat.le_of_ble_eq_true rfl)) dX4_hasRoom_10 (fun v10 g9 H9 k9 hp9 L9 => ?_)
    have rv10 : rg (-2147483648) (2147483647) v10 := hp9.2.1
    have uv10 : (-2147483648 : Int) ≤ v10.toInt ∧ v10.toInt ≤ 2147483647 := rv10
    refine lv_bipush (v := 8) hx hb dX4_hasRoom_13 (by decide) ?_
    refine lv_icmp_ge (tgt := 22) hx hb dX4_hasRoom_15 (by decide) (fun c15_11 => ?_) (fun c15_11 => ?_)
    · skip
      have ic15_11 := Int32.le_iff_toInt_le.mp c15_11
      have q12 : rg (8) (2147483647) v10 := (rg_le c15_11 kc_8 rv10).2
      have uq12 : (8 : Int) ≤ v10.toInt ∧ v10.toInt ≤ 2147483647 := q12
      exact j22_4  g9 _ _ ls (mFr.tr mFr.rf hp9.1 rfl) L9 hp9.2.2.1 (lv_sub hl [0] rfl)
    · skip
      have ic15_11 := Int32.lt_iff_toInt_lt.mp (rg_nle c15_11)
      have q13 : rg (-2147483648) (7) v10 := (rg_lt (rg_nle c15_11) rv10 kc_8).1
      have uq13 : (-2147483648 : Int) ≤ v10.toInt ∧ v10.toInt ≤ 7 := q13
      refine lv_iconst (v := 1) hx hb dX4_hasRoom_18 (by decide) ?_
      refine lv_goto (tgt := 23) hx hb dX4_hasRoom_19 (by decide) ?_
      have y14 : (1 : Int32).toInt = 1 := by decide
      exact j23_3 (1 : Int32) g9 _ _ ls (mFr.tr mFr.rf hp9.1 rfl) L9 hp9.2.2.1 (rg_w kc_1 rfl) (lv_sub hl [0] rfl)
theorem c_khasRoom (l : Launch) {G : cG} {Z : cZ} (X : Int) (g : mSt) (i0 : Nat) (hX : 0 ≤ X ∧ X ≤ 2000000000) (hJ : cJ Z g) (hi0 : i0 < Z.n) : Met l yX4_hasRoom (wk (Cond.code yX4_hasRoom cX4_hasRoom 1 (some .boolean))) rm_khasRoom (va_Pc [.ref (Z.ad 4 i0)] (cPre G Z X g)) (cQi G Z X (fun r g1 => mFr [] g g1 ∧ rg (0) (1) r ∧ cJ Z g1 ∧ True)) 0 0 (cAd Z) := by
  refine Met.ofW (cc := cX4_hasRoom) (maxL := 1) (ret := (some .boolean)) (by decide) rfl ?_
  intro p e s m args below meth c s₁ B hml hv
  obtain ⟨rfl, hv⟩ := hv
  have hr := B.returns
  have hlocks := B.notSynchronized
  obtain ⟨x, L⟩ := c_start B rfl (fun w h => wk_in h) hv
  have hl := lv_entry ([.ref (Z.ad 4 i0)]) (n := 1) (Nat.le_of_ble_eq_true rfl)
  rw [lg_entry_eq]
  generalize (lg_sl ([.ref (Z.ad 4 i0)]) ++ List.replicate (1 - (lg_sl ([.ref (Z.ad 4 i0)])).length) Slot.unset).toArray = ls at hl ⊢
  exact w_khasRoom x hml L hX i0 hJ hi0 hl (fun pc' ls' r g1 H1 locs1 hdg L hp => c_zret x L hr hlocks (nar01 (rg_w hp.2.1 rfl)) (Int.le_refl _) hp hdg)

def rm_ksaySetup_4 : Room := { frames := 2, cells := 0, slots := 0, locals := 48 }
theorem hd_ksaySetup_4 : yX4_saySetup.cls = cRn 4 ∧ yX4_saySetup.cls ≠ "java/lang/invoke/MethodHandle" ∧ yX4_saySetup.cls ≠ "java/lang/invoke/VarHandle" ∧ (parseMethodDescriptor yX4_saySetup.desc).map (fun d => d.parameters.length) = some 1 := by decide +kernel
set_option maxHeartbeats 4000000 in
set_option maxRecDepth 100000 in
theorem w_ksaySetup_4 {p : Program} {l : Launch} {e : Env} {s : State} {m : MethodId} {args : Array Value} {below : List Frame} {meth : Method} {c : Code} {H : Heap} {locs : List Loc} {Q : State → Prop} {ls : Array Slot} {G : cG} {Z : cZ} {A : Nat → Prop} {g : mSt} {H0 : Heap} {X : Int} (x : cX p c cX4_saySetup s args (wk (Cond.code yX4_saySetup cX4_saySetup 2 none)) m G Z A RX4 H0) (hml : c.maxLocals = 2) (L : cL G Z A H0 X g H locs) (hX : 0 ≤ X ∧ X ≤ 2000000000) (i0 : Nat) (q1 : Nat) (hi0 : i0 < Z.n) (hq1 : Z.al 1 q1) (hl : lv_has ls 2 [(0, .ref (Z.ad 4 i0)), (1, .ref (Z.ad 1 q1))]) (hQ : ∀ (pc' : Nat) (ls' : Array Slot) (g1 : mSt) (H1 : Heap) (locs1 : List Loc), decode cX4_saySetup pc' = .ok (.return_, 1) → cL G Z A H0 X g1 H1 locs1 → (mFr [198, 832, 864] g g1 ∧ True) → W p l e rm_ksaySetup_4 s m args below meth c H1 locs1 0 0 Q (F0 m pc' ls' [])) : W p l e rm_ksaySetup_4 s m args below meth c H locs 0 0 Q (F0 m 0 ls []) := by
  have hx := x.1
  have hb := x.2.1
  have hz := x.2.2.2.2.2.2.2.1
  have hzn := hz.1
  have hal0 : Z.al 4 i0 := hz.2 4 i0 (show i0 < Z.n from hi0)
  refine lv_aload_n hx hb dX4_saySetup_0 rfl (lv_at hl 0 rfl) ?_
  have al1 : Z.al 5 i0 := hz.2 5 i0 (show i0 < 2 * Z.n from (by omega))
  refine c_getrS (a := Z.ad 5 i0) x L 4 i0 1 hal0 rfl rfl (wk_in kf_X4_55) (fun y h => u_same (x.2.2.1 _ (wk_in ke_CellSwitchEndSide_CellSwitchSide_line)) y h) dX4_saySetup_1 ?_
  have al2 : Z.al 6 i0 := hz.2 6 i0 (show i0 < 2 * Z.n from (by omega))
  refine c_getr (a := Z.ad 6 i0) x L 5 i0 1 al1 rfl rfl (wk_in kf_X4_59) dX4_saySetup_4 ?_
  refine lv_iconst (v := 5) hx hb dX4_saySetup_7 (by decide) ?_
  refine lv_aload_n hx hb dX4_saySetup_8 rfl (lv_at hl 1 rfl) ?_
  refine c_geti x L 1 q1 1 33 hq1 rfl rfl (wk_in kf_X4_97) dX4_saySetup_9 (fun v3 ev3 wv3 => ?_)
  have rv3 : rg (-2147483648) (2147483647) v3 := rg_any v3
  refine lv_aload_n hx hb dX4_saySetup_12 rfl (lv_at hl 1 rfl) ?_
  refine c_geti x L 1 q1 2 34 hq1 rfl rfl (wk_in kf_X4_100) dX4_saySetup_13 (fun v4 ev4 wv4 => ?_)
  have rv4 : rg (0) (1) v4 := clj_34 wv4
  refine lv_bipush (v := 10) hx hb dX4_saySetup_16 (by decide) ?_
  refine c_ci (As := [.int (5 : Int32), .int v3, .int v4, .int (10 : Int32)]) (rest := []) x hml L 6 i0 al2 rfl (c_kbegin l X g i0 (5 : Int32) v3 v4 (10 : Int32) hX (show i0 < 2 * Z.n from (by omega)) (rg_w rv4 rfl)) (wk_V kd_X6_begin kl_X4_104 ki_X6_begin ks_X6_X6_begin kn_X6) rfl ⟨rfl, rfl⟩ hd_kbegin ⟨Nat.le_of_ble_eq_true rfl, Nat.le_of_ble_eq_true rfl⟩ rfl hl.1 rfl (lv_room (Nat.le_of_ble_eq_true rfl)) dX4_saySetup_18 (fun v6 g5 H5 k5 hp5 L5 => ?_)
  have rv6 : rg (0) (1) v6 := hp5.2.1
  have j58_7 : ∀ (g7 : mSt) (H7 : Heap) (k7 : List Loc) (ls : Array Slot), mFr [832, 864] g5 g7 → cL G Z A H0 X g7 H7 k7 → lv_has ls 2 [(0, .ref (Z.ad 4 i0))] → W p l e rm_ksaySetup_4 s m args below meth c H7 k7 0 0 Q (F0 m 58 ls []) := by
    intro  g7 H7 k7 ls hF7 L7  hl
    exact hQ _ _ _ _ _ dX4_saySetup_58 L7 ⟨(mFr.tr (mFr.tr mFr.rf hp5.1 rfl) hF7 rfl), trivial⟩
  refine lv_if_eq (tgt := 58) hx hb dX4_saySetup_21 (by decide) (fun c21_8 => ?_) (fun c21_8 => ?_)
  · skip
    have q9 : rg (0) (0) v6 := (rg_eq c21_8 rv6 kc_0).1
    exact j58_7  g5 _ _ ls mFr.rf L5  (lv_sub hl [0] rfl)
  · skip
    have q10 : rg (1) (1) v6 := rg_neL c21_8 rv6 kc_0
    refine lv_aload_n hx hb dX4_saySetup_24 rfl (lv_at hl 0 rfl) ?_
    refine c_getrS (a := Z.ad 5 i0) x L5 4 i0 1 hal0 rfl rfl (wk_in kf_X4_55) (fun y h => u_same (x.2.2.1 _ (wk_in ke_CellSwitchEndSide_CellSwitchSide_line)) y h) dX4_saySetup_25 ?_
    refine c_getr (a := Z.ad 6 i0) x L5 5 i0 1 al1 rfl rfl (wk_in kf_X4_59) dX4_saySetup_28 ?_
    refine lv_bipush (v := 112) hx hb dX4_saySetup_31 (by decide) ?_
    refine lv_iconst (v := 1) hx hb dX4_saySetup_33 (by decide) ?_
    refine lv_aload_n hx hb dX4_saySetup_34 rfl (lv_at hl 1 rfl) ?_
    refine c_geti x L5 1 q1 7 39 hq1 rfl rfl (wk_in kf_X4_79) dX4_saySetup_35 (fun v11 ev11 wv11 => ?_)
    have rv11 : rg (-2147483648) (2147483647) v11 := rg_any v11
    refine c_cv (As := [.int (112 : Int32), .int (1 : Int32), .int v11]) (rest := []) x hml L5 6 i0 al2 rfl (c_kmelement l X g5 i0 (112 : Int32) (1 : Int32) v11 hX (show i0 < 2 * Z.n from (by omega)) (rg_w kc_1 rfl)) (wk_V kd_X6_element kl_X4_108 ki_X6_element ks_X6_X6_element kn_X6) rfl ⟨rfl, rfl⟩ hd_kmelement ⟨Nat.le_of_ble_eq_true rfl, Nat.le_of_ble_eq_true rfl⟩ rfl hl.1 rfl (lv_room (Nat.le_of_ble_eq_true rfl)) dX4_saySetup_38 (fun  g12 H12 k12 hp12 L12 => ?_)
    refine lv_aload_n hx hb dX4_saySetup_41 rfl (lv_at hl 0 rfl) ?_
    refine c_getrS (a := Z.ad 5 i0) x L12 4 i0 1 hal0 rfl rfl (wk_in kf_X4_55) (fun y h => u_same (x.2.2.1 _ (wk_in ke_CellSwitchEndSide_CellSwitchSide_line)) y h) dX4_saySetup_42 ?_
    refine c_getr (a := Z.ad 6 i0) x L12 5 i0 1 al1 rfl rfl (wk_in kf_X4_59) dX4_saySetup_45 ?_
    refine lv_bipush (v := 89) hx hb dX4_saySetup_48 (by decide) ?_
    refine lv_iconst (v := 1) hx hb dX4_saySetup_50 (by decide) ?_
    refine lv_aload_n hx hb dX4_saySetup_51 rfl (lv_at hl 1 rfl) ?_
    refine c_geti x L12 1 q1 6 38 hq1 rfl rfl (wk_in kf_X4_82) dX4_saySetup_52 (fun v13 ev13 wv13 => ?_)
    have rv13 : rg (-2147483648) (2147483647) v13 := rg_any v13
    refine c_cv (As := [.int (89 : Int32), .int (1 : Int32), .int v13]) (rest := []) x hml L12 6 i0 al2 rfl (c_kmelement l X g12 i0 (89 : Int32) (1 : Int32) v13 hX (show i0 < 2 * Z.n from (by omega)) (rg_w kc_1 rfl)) (wk_V kd_X6_element kl_X4_108 ki_X6_element ks_X6_X6_element kn_X6) rfl ⟨rfl, rfl⟩ hd_kmelement ⟨Nat.le_of_ble_eq_true rfl, Nat.le_of_ble_eq_true rfl⟩ rfl hl.1 rfl (lv_room (Nat.le_of_ble_eq_true rfl)) dX4_saySetup_55 (fun  g14 H14 k14 hp14 L14 => ?_)
    exact j58_7  g14 _ _ ls (mFr.tr (mFr.tr mFr.rf hp12.1 rfl) hp14.1 rfl) L14  (lv_sub hl [0] rfl)
theorem c_ksaySetup_4 (l : Launch) {G : cG} {Z : cZ} (X : Int) (g : mSt) (i0 : Nat) (q1 : Nat) (hX : 0 ≤ X ∧ X ≤ 2000000000) (hi0 : i0 < Z.n) (hq1 : Z.al 1 q1) : Met l yX4_saySetup (wk (Cond.code yX4_saySetup cX4_saySetup 2 none)) rm_ksaySetup_4 (va_Pc [.ref (Z.ad 4 i0), .ref (Z.ad 1 q1)] (cPre G Z X g)) (cQv G Z X (fun g1 => mFr [198, 832, 864] g g1 ∧ True)) 0 0 (cAd Z) := by
  refine Met.ofW (cc := cX4_saySetup) (maxL := 2) (ret := none) (by decide) rfl ?_
  intro p e s m args below meth c s₁ B hml hv
  obtain ⟨rfl, hv⟩ := hv
  have hr := B.returns
  have hlocks := B.notSynchronized
  obtain ⟨x, L⟩ := c_start B rfl (fun w h => wk_in h) hv
  have hl := lv_entry ([.ref (Z.ad 4 i0), .ref (Z.ad 1 q1)]) (n := 2) (Nat.le_of_ble_eq_true rfl)
  rw [lg_entry_eq]
  generalize (lg_sl ([.ref (Z.ad 4 i0), .ref (Z.ad 1 q1)]) ++ List.replicate (2 - (lg_sl ([.ref (Z.ad 4 i0), .ref (Z.ad 1 q1)])).length) Slot.unset).toArray = ls at hl ⊢
  exact w_ksaySetup_4 x hml L hX i0 q1 hi0 hq1 hl (fun pc' ls' g1 H1 locs1 hdg L hp => c_vret x L hr hlocks (Int.le_refl _) hp hdg)

def rm_ksaySetup_10 : Room := { frames := 2, cells := 0, slots := 0, locals := 48 }
theorem hd_ksaySetup_10 : yX10_saySetup.cls = cRn 10 ∧ yX10_saySetup.cls ≠ "java/lang/invoke/MethodHandle" ∧ yX10_saySetup.cls ≠ "java/lang/invoke/VarHandle" ∧ (parseMethodDescriptor yX10_saySetup.desc).map (fun d => d.parameters.length) = some 1 := by decide +kernel
set_option maxHeartbeats 4000000 in
set_option maxRecDepth 100000 in
theorem w_ksaySetup_10 {p : Program} {l : Launch} {e : Env} {s : State} {m : MethodId} {args : Array Value} {below : List Frame} {meth : Method} {c : Code} {H : Heap} {locs : List Loc} {Q : State → Prop} {ls : Array Slot} {G : cG} {Z : cZ} {A : Nat → Prop} {g : mSt} {H0 : Heap} {X : Int} (x : cX p c cX10_saySetup s args (wk (Cond.code yX10_saySetup cX10_saySetup 2 none)) m G Z A RX10 H0) (hml : c.maxLocals = 2) (L : cL G Z A H0 X g H locs) (hX : 0 ≤ X ∧ X ≤ 2000000000) (i0 : Nat) (q1 : Nat) (hi0 : i0 < Z.n) (hq1 : Z.al 1 q1) (hl : lv_has ls 2 [(0, .ref (Z.ad 10 i0)), (1, .ref (Z.ad 1 q1))]) (hQ : ∀ (pc' : Nat) (ls' : Array Slot) (g1 : mSt) (H1 : Heap) (locs1 : List Loc), decode cX10_saySetup pc' = .ok (.return_, 1) → cL G Z A H0 X g1 H1 locs1 → (mFr [198, 832, 864] g g1 ∧ True) → W p l e rm_ksaySetup_10 s m args below meth c H1 locs1 0 0 Q (F0 m pc' ls' [])) : W p l e rm_ksaySetup_10 s m args below meth c H locs 0 0 Q (F0 m 0 ls []) := by
  have hx := x.1
  have hb := x.2.1
  have hz := x.2.2.2.2.2.2.2.1
  have hzn := hz.1
  have hal0 : Z.al 10 i0 := hz.2 10 i0 (show i0 < Z.n from hi0)
  refine lv_aload_n hx hb dX10_saySetup_0 rfl (lv_at hl 0 rfl) ?_
  have al1 : Z.al 5 (Z.n + i0) := hz.2 5 (Z.n + i0) (show (Z.n + i0) < 2 * Z.n from (by omega))
  refine c_getrS (a := Z.ad 5 (Z.n + i0)) x L 10 i0 1 hal0 rfl rfl (wk_in kf_X10_118) (fun y h => u_same (x.2.2.1 _ (wk_in ke_CellSwitchSwitchSide_CellSwitchSide_line)) y h) dX10_saySetup_1 ?_
  have al2 : Z.al 6 (Z.n + i0) := hz.2 6 (Z.n + i0) (show (Z.n + i0) < 2 * Z.n from (by omega))
  refine c_getr (a := Z.ad 6 (Z.n + i0)) x L 5 (Z.n + i0) 1 al1 rfl rfl (wk_in kf_X10_122) dX10_saySetup_4 ?_
  refine lv_iconst (v := 5) hx hb dX10_saySetup_7 (by decide) ?_
  refine lv_aload_n hx hb dX10_saySetup_8 rfl (lv_at hl 1 rfl) ?_
  refine c_geti x L 1 q1 1 33 hq1 rfl rfl (wk_in kf_X10_128) dX10_saySetup_9 (fun v3 ev3 wv3 => ?_)
  have rv3 : rg (-2147483648) (2147483647) v3 := rg_any v3
  refine lv_aload_n hx hb dX10_saySetup_12 rfl (lv_at hl 1 rfl) ?_
  refine c_geti x L 1 q1 2 34 hq1 rfl rfl (wk_in kf_X10_129) dX10_saySetup_13 (fun v4 ev4 wv4 => ?_)
  have rv4 : rg (0) (1) v4 := clj_34 wv4
  refine lv_bipush (v := 21) hx hb dX10_saySetup_16 (by decide) ?_
  refine c_ci (As := [.int (5 : Int32), .int v3, .int v4, .int (21 : Int32)]) (rest := []) x hml L 6 (Z.n + i0) al2 rfl (c_kbegin l X g (Z.n + i0) (5 : Int32) v3 v4 (21 : Int32) hX (show (Z.n + i0) < 2 * Z.n from (by omega)) (rg_w rv4 rfl)) (wk_V kd_X6_begin kl_X10_133 ki_X6_begin ks_X6_X6_begin kn_X6) rfl ⟨rfl, rfl⟩ hd_kbegin ⟨Nat.le_of_ble_eq_true rfl, Nat.le_of_ble_eq_true rfl⟩ rfl hl.1 rfl (lv_room (Nat.le_of_ble_eq_true rfl)) dX10_saySetup_18 (fun v6 g5 H5 k5 hp5 L5 => ?_)
  have rv6 : rg (0) (1) v6 := hp5.2.1
  have j92_7 : ∀ (g7 : mSt) (H7 : Heap) (k7 : List Loc) (ls : Array Slot), mFr [832, 864] g5 g7 → cL G Z A H0 X g7 H7 k7 → lv_has ls 2 [(0, .ref (Z.ad 10 i0))] → W p l e rm_ksaySetup_10 s m args below meth c H7 k7 0 0 Q (F0 m 92 ls []) := by
    intro  g7 H7 k7 ls hF7 L7  hl
    exact hQ _ _ _ _ _ dX10_saySetup_92 L7 ⟨(mFr.tr (mFr.tr mFr.rf hp5.1 rfl) hF7 rfl), trivial⟩
  refine lv_if_eq (tgt := 92) hx hb dX10_saySetup_21 (by decide) (fun c21_8 => ?_) (fun c21_8 => ?_)
  · skip
    have q9 : rg (0) (0) v6 := (rg_eq c21_8 rv6 kc_0).1
    exact j92_7  g5 _ _ ls mFr.rf L5  (lv_sub hl [0] rfl)
  · skip
    have q10 : rg (1) (1) v6 := rg_neL c21_8 rv6 kc_0
    refine lv_aload_n hx hb dX10_saySetup_24 rfl (lv_at hl 0 rfl) ?_
    refine c_getrS (a := Z.ad 5 (Z.n + i0)) x L5 10 i0 1 hal0 rfl rfl (wk_in kf_X10_118) (fun y h => u_same (x.2.2.1 _ (wk_in ke_CellSwitchSwitchSide_CellSwitchSide_line)) y h) dX10_saySetup_25 ?_
    refine c_getr (a := Z.ad 6 (Z.n + i0)) x L5 5 (Z.n + i0) 1 al1 rfl rfl (wk_in kf_X10_122) dX10_saySetup_28 ?_
    refine lv_bipush (v := 112) hx hb dX10_saySetup_31 (by decide) ?_
    refine lv_iconst (v := 1) hx hb dX10_saySetup_33 (by decide) ?_
    refine lv_aload_n hx hb dX10_saySetup_34 rfl (lv_at hl 0 rfl) ?_
    refine c_getcS x L5 10 i0 0 hal0 rfl (wk_in kf_X10_73) (fun y h => u_same (x.2.2.1 _ (wk_in ke_CellSwitchSwitchSide_CellSwitchSide_link)) y h) dX10_saySetup_35 (fun v11 ev11 => ?_)
    have tv11 : v11.toInt = ((i0 : Nat) : Int) := cCv_s ev11 rfl (by omega)
    have rv11 : rg (0) (3) v11 := ⟨by omega, by omega⟩
    refine c_cv (As := [.int (112 : Int32), .int (1 : Int32), .int v11]) (rest := []) x hml L5 6 (Z.n + i0) al2 rfl (c_kmelement l X g5 (Z.n + i0) (112 : Int32) (1 : Int32) v11 hX (show (Z.n + i0) < 2 * Z.n from (by omega)) (rg_w kc_1 rfl)) (wk_V kd_X6_element kl_X10_139 ki_X6_element ks_X6_X6_element kn_X6) rfl ⟨rfl, rfl⟩ hd_kmelement ⟨Nat.le_of_ble_eq_true rfl, Nat.le_of_ble_eq_true rfl⟩ rfl hl.1 rfl (lv_room (Nat.le_of_ble_eq_true rfl)) dX10_saySetup_38 (fun  g12 H12 k12 hp12 L12 => ?_)
    refine lv_aload_n hx hb dX10_saySetup_41 rfl (lv_at hl 0 rfl) ?_
    refine c_getrS (a := Z.ad 5 (Z.n + i0)) x L12 10 i0 1 hal0 rfl rfl (wk_in kf_X10_118) (fun y h => u_same (x.2.2.1 _ (wk_in ke_CellSwitchSwitchSide_CellSwitchSide_line)) y h) dX10_saySetup_42 ?_
    refine c_getr (a := Z.ad 6 (Z.n + i0)) x L12 5 (Z.n + i0) 1 al1 rfl rfl (wk_in kf_X10_122) dX10_saySetup_45 ?_
    refine lv_bipush (v := 89) hx hb dX10_saySetup_48 (by decide) ?_
    refine lv_iconst (v := 1) hx hb dX10_saySetup_50 (by decide) ?_
    refine lv_aload_n hx hb dX10_saySetup_51 rfl (lv_at hl 1 rfl) ?_
    refine c_geti x L12 1 q1 6 38 hq1 rfl rfl (wk_in kf_X10_35) dX10_saySetup_52 (fun v13 ev13 wv13 => ?_)
    have rv13 : rg (-2147483648) (2147483647) v13 := rg_any v13
    refine c_cv (As := [.int (89 : Int32), .int (1 : Int32), .int v13]) (rest := []) x hml L12 6 (Z.n + i0) al2 rfl (c_kmelement l X g12 (Z.n + i0) (89 : Int32) (1 : Int32) v13 hX (show (Z.n + i0) < 2 * Z.n from (by omega)) (rg_w kc_1 rfl)) (wk_V kd_X6_element kl_X10_139 ki_X6_element ks_X6_X6_element kn_X6) rfl ⟨rfl, rfl⟩ hd_kmelement ⟨Nat.le_of_ble_eq_true rfl, Nat.le_of_ble_eq_true rfl⟩ rfl hl.1 rfl (lv_room (Nat.le_of_ble_eq_true rfl)) dX10_saySetup_55 (fun  g14 H14 k14 hp14 L14 => ?_)
    refine lv_aload_n hx hb dX10_saySetup_58 rfl (lv_at hl 0 rfl) ?_
    refine c_getrS (a := Z.ad 5 (Z.n + i0)) x L14 10 i0 1 hal0 rfl rfl (wk_in kf_X10_118) (fun y h => u_same (x.2.2.1 _ (wk_in ke_CellSwitchSwitchSide_CellSwitchSide_line)) y h) dX10_saySetup_59 ?_
    refine c_getr (a := Z.ad 6 (Z.n + i0)) x L14 5 (Z.n + i0) 1 al1 rfl rfl (wk_in kf_X10_122) dX10_saySetup_62 ?_
    refine lv_bipush (v := 108) hx hb dX10_saySetup_65 (by decide) ?_
    refine lv_iconst (v := 1) hx hb dX10_saySetup_67 (by decide) ?_
    refine lv_aload_n hx hb dX10_saySetup_68 rfl (lv_at hl 1 rfl) ?_
    refine c_geti x L14 1 q1 7 39 hq1 rfl rfl (wk_in kf_X10_98) dX10_saySetup_69 (fun v15 ev15 wv15 => ?_)
    have rv15 : rg (-2147483648) (2147483647) v15 := rg_any v15
    refine c_cv (As := [.int (108 : Int32), .int (1 : Int32), .int v15]) (rest := []) x hml L14 6 (Z.n + i0) al2 rfl (c_kmelement l X g14 (Z.n + i0) (108 : Int32) (1 : Int32) v15 hX (show (Z.n + i0) < 2 * Z.n from (by omega)) (rg_w kc_1 rfl)) (wk_V kd_X6_element kl_X10_139 ki_X6_element ks_X6_X6_element kn_X6) rfl ⟨rfl, rfl⟩ hd_kmelement ⟨Nat.le_of_ble_eq_true rfl, Nat.le_of_ble_eq_true rfl⟩ rfl hl.1 rfl (lv_room (Nat.le_of_ble_eq_true rfl)) dX10_saySetup_72 (fun  g16 H16 k16 hp16 L16 => ?_)
    refine lv_aload_n hx hb dX10_saySetup_75 rfl (lv_at hl 0 rfl) ?_
    refine c_getrS (a := Z.ad 5 (Z.n + i0)) x L16 10 i0 1 hal0 rfl rfl (wk_in kf_X10_118) (fun y h => u_same (x.2.2.1 _ (wk_in ke_CellSwitchSwitchSide_CellSwitchSide_line)) y h) dX10_saySetup_76 ?_
    refine c_getr (a := Z.ad 6 (Z.n + i0)) x L16 5 (Z.n + i0) 1 al1 rfl rfl (wk_in kf_X10_122) dX10_saySetup_79 ?_
    refine lv_bipush (v := 90) hx hb dX10_saySetup_82 (by decide) ?_
    refine lv_iconst (v := 2) hx hb dX10_saySetup_84 (by decide) ?_
    refine lv_aload_n hx hb dX10_saySetup_85 rfl (lv_at hl 1 rfl) ?_
    refine c_geti x L16 1 q1 5 37 hq1 rfl rfl (wk_in kf_X10_50) dX10_saySetup_86 (fun v17 ev17 wv17 => ?_)
    have rv17 : rg (-2147483648) (2147483647) v17 := rg_any v17
    refine c_cv (As := [.int (90 : Int32), .int (2 : Int32), .int v17]) (rest := []) x hml L16 6 (Z.n + i0) al2 rfl (c_kmelement l X g16 (Z.n + i0) (90 : Int32) (2 : Int32) v17 hX (show (Z.n + i0) < 2 * Z.n from (by omega)) (rg_w kc_2 rfl)) (wk_V kd_X6_element kl_X10_139 ki_X6_element ks_X6_X6_element kn_X6) rfl ⟨rfl, rfl⟩ hd_kmelement ⟨Nat.le_of_ble_eq_true rfl, Nat.le_of_ble_eq_true rfl⟩ rfl hl.1 rfl (lv_room (Nat.le_of_ble_eq_true rfl)) dX10_saySetup_89 (fun  g18 H18 k18 hp18 L18 => ?_)
    exact j92_7  g18 _ _ ls (mFr.tr (mFr.tr (mFr.tr (mFr.tr mFr.rf hp12.1 rfl) hp14.1 rfl) hp16.1 rfl) hp18.1 rfl) L18  (lv_sub hl [0] rfl)
theorem c_ksaySetup_10 (l : Launch) {G : cG} {Z : cZ} (X : Int) (g : mSt) (i0 : Nat) (q1 : Nat) (hX : 0 ≤ X ∧ X ≤ 2000000000) (hi0 : i0 < Z.n) (hq1 : Z.al 1 q1) : Met l yX10_saySetup (wk (Cond.code yX10_saySetup cX10_saySetup 2 none)) rm_ksaySetup_10 (va_Pc [.ref (Z.ad 10 i0), .ref (Z.ad 1 q1)] (cPre G Z X g)) (cQv G Z X (fun g1 => mFr [198, 832, 864] g g1 ∧ True)) 0 0 (cAd Z) := by
  refine Met.ofW (cc := cX10_saySetup) (maxL := 2) (ret := none) (by decide) rfl ?_
  intro p e s m args below meth c s₁ B hml hv
  obtain ⟨rfl, hv⟩ := hv
  have hr := B.returns
  have hlocks := B.notSynchronized
  obtain ⟨x, L⟩ := c_start B rfl (fun w h => wk_in h) hv
  have hl := lv_entry ([.ref (Z.ad 10 i0), .ref (Z.ad 1 q1)]) (n := 2) (Nat.le_of_ble_eq_true rfl)
  rw [lg_entry_eq]
  generalize (lg_sl ([.ref (Z.ad 10 i0), .ref (Z.ad 1 q1)]) ++ List.replicate (2 - (lg_sl ([.ref (Z.ad 10 i0), .ref (Z.ad 1 q1)])).length) Slot.unset).toArray = ls at hl ⊢
  exact w_ksaySetup_10 x hml L hX i0 q1 hi0 hq1 hl (fun pc' ls' g1 H1 locs1 hdg L hp => c_vret x L hr hlocks (Int.le_refl _) hp hdg)

def rm_ksayProceeding : Room := { frames := 2, cells := 0, slots := 0, locals := 48 }
theorem hd_ksayProceeding : yX10_sayProceeding.cls = cRn 10 ∧ yX10_sayProceeding.cls ≠ "java/lang/invoke/MethodHandle" ∧ yX10_sayProceeding.cls ≠ "java/lang/invoke/VarHandle" ∧ (parseMethodDescriptor yX10_sayProceeding.desc).map (fun d => d.parameters.length) = some 1 := by decide +kernel
set_option maxHeartbeats 4000000 in
set_option maxRecDepth 100000 in
theorem w_ksayProceeding {p : Program} {l : Launch} {e : Env} {s : State} {m : MethodId} {args : Array Value} {below : List Frame} {meth : Method} {c : Code} {H : Heap} {locs : List Loc} {Q : State → Prop} {ls : Array Slot} {G : cG} {Z : cZ} {A : Nat → Prop} {g : mSt} {H0 : Heap} {X : Int} (x : cX p c cX10_sayProceeding s args (wk (Cond.code yX10_sayProceeding cX10_sayProceeding 2 none)) m G Z A RX10 H0) (hml : c.maxLocals = 2) (L : cL G Z A H0 X g H locs) (hX : 0 ≤ X ∧ X ≤ 2000000000) (i0 : Nat) (q1 : Nat) (hi0 : i0 < Z.n) (hq1 : Z.al 1 q1) (hl : lv_has ls 2 [(0, .ref (Z.ad 10 i0)), (1, .ref (Z.ad 1 q1))]) (hQ : ∀ (pc' : Nat) (ls' : Array Slot) (g1 : mSt) (H1 : Heap) (locs1 : List Loc), decode cX10_sayProceeding pc' = .ok (.return_, 1) → cL G Z A H0 X g1 H1 locs1 → (mFr [198, 832, 864] g g1 ∧ True) → W p l e rm_ksayProceeding s m args below meth c H1 locs1 0 0 Q (F0 m pc' ls' [])) : W p l e rm_ksayProceeding s m args below meth c H locs 0 0 Q (F0 m 0 ls []) := by
  have hx := x.1
  have hb := x.2.1
  have hz := x.2.2.2.2.2.2.2.1
  have hzn := hz.1
  have hal0 : Z.al 10 i0 := hz.2 10 i0 (show i0 < Z.n from hi0)
  refine lv_aload_n hx hb dX10_sayProceeding_0 rfl (lv_at hl 0 rfl) ?_
  have al1 : Z.al 5 (Z.n + i0) := hz.2 5 (Z.n + i0) (show (Z.n + i0) < 2 * Z.n from (by omega))
  refine c_getrS (a := Z.ad 5 (Z.n + i0)) x L 10 i0 1 hal0 rfl rfl (wk_in kf_X10_118) (fun y h => u_same (x.2.2.1 _ (wk_in ke_CellSwitchSwitchSide_CellSwitchSide_line)) y h) dX10_sayProceeding_1 ?_
  have al2 : Z.al 6 (Z.n + i0) := hz.2 6 (Z.n + i0) (show (Z.n + i0) < 2 * Z.n from (by omega))
  refine c_getr (a := Z.ad 6 (Z.n + i0)) x L 5 (Z.n + i0) 1 al1 rfl rfl (wk_in kf_X10_122) dX10_sayProceeding_4 ?_
  refine lv_iconst (v := 2) hx hb dX10_sayProceeding_7 (by decide) ?_
  refine lv_aload_n hx hb dX10_sayProceeding_8 rfl (lv_at hl 1 rfl) ?_
  refine c_geti x L 1 q1 1 33 hq1 rfl rfl (wk_in kf_X10_128) dX10_sayProceeding_9 (fun v3 ev3 wv3 => ?_)
  have rv3 : rg (-2147483648) (2147483647) v3 := rg_any v3
  refine lv_aload_n hx hb dX10_sayProceeding_12 rfl (lv_at hl 1 rfl) ?_
  refine c_geti x L 1 q1 2 34 hq1 rfl rfl (wk_in kf_X10_129) dX10_sayProceeding_13 (fun v4 ev4 wv4 => ?_)
  have rv4 : rg (0) (1) v4 := clj_34 wv4
  refine lv_bipush (v := 6) hx hb dX10_sayProceeding_16 (by decide) ?_
  refine c_ci (As := [.int (2 : Int32), .int v3, .int v4, .int (6 : Int32)]) (rest := []) x hml L 6 (Z.n + i0) al2 rfl (c_kbegin l X g (Z.n + i0) (2 : Int32) v3 v4 (6 : Int32) hX (show (Z.n + i0) < 2 * Z.n from (by omega)) (rg_w rv4 rfl)) (wk_V kd_X6_begin kl_X10_133 ki_X6_begin ks_X6_X6_begin kn_X6) rfl ⟨rfl, rfl⟩ hd_kbegin ⟨Nat.le_of_ble_eq_true rfl, Nat.le_of_ble_eq_true rfl⟩ rfl hl.1 rfl (lv_room (Nat.le_of_ble_eq_true rfl)) dX10_sayProceeding_18 (fun v6 g5 H5 k5 hp5 L5 => ?_)
  have rv6 : rg (0) (1) v6 := hp5.2.1
  have j41_7 : ∀ (g7 : mSt) (H7 : Heap) (k7 : List Loc) (ls : Array Slot), mFr [832, 864] g5 g7 → cL G Z A H0 X g7 H7 k7 → lv_has ls 2 [(0, .ref (Z.ad 10 i0))] → W p l e rm_ksayProceeding s m args below meth c H7 k7 0 0 Q (F0 m 41 ls []) := by
    intro  g7 H7 k7 ls hF7 L7  hl
    exact hQ _ _ _ _ _ dX10_sayProceeding_41 L7 ⟨(mFr.tr (mFr.tr mFr.rf hp5.1 rfl) hF7 rfl), trivial⟩
  refine lv_if_eq (tgt := 41) hx hb dX10_sayProceeding_21 (by decide) (fun c21_8 => ?_) (fun c21_8 => ?_)
  · skip
    have q9 : rg (0) (0) v6 := (rg_eq c21_8 rv6 kc_0).1
    exact j41_7  g5 _ _ ls mFr.rf L5  (lv_sub hl [0] rfl)
  · skip
    have q10 : rg (1) (1) v6 := rg_neL c21_8 rv6 kc_0
    refine lv_aload_n hx hb dX10_sayProceeding_24 rfl (lv_at hl 0 rfl) ?_
    refine c_getrS (a := Z.ad 5 (Z.n + i0)) x L5 10 i0 1 hal0 rfl rfl (wk_in kf_X10_118) (fun y h => u_same (x.2.2.1 _ (wk_in ke_CellSwitchSwitchSide_CellSwitchSide_line)) y h) dX10_sayProceeding_25 ?_
    refine c_getr (a := Z.ad 6 (Z.n + i0)) x L5 5 (Z.n + i0) 1 al1 rfl rfl (wk_in kf_X10_122) dX10_sayProceeding_28 ?_
    refine lv_bipush (v := 90) hx hb dX10_sayProceeding_31 (by decide) ?_
    refine lv_iconst (v := 2) hx hb dX10_sayProceeding_33 (by decide) ?_
    refine lv_aload_n hx hb dX10_sayProceeding_34 rfl (lv_at hl 1 rfl) ?_
    refine c_geti x L5 1 q1 5 37 hq1 rfl rfl (wk_in kf_X10_50) dX10_sayProceeding_35 (fun v11 ev11 wv11 => ?_)
    have rv11 : rg (-2147483648) (2147483647) v11 := rg_any v11
    refine c_cv (As := [.int (90 : Int32), .int (2 : Int32), .int v11]) (rest := []) x hml L5 6 (Z.n + i0) al2 rfl (c_kmelement l X g5 (Z.n + i0) (90 : Int32) (2 : Int32) v11 hX (show (Z.n + i0) < 2 * Z.n from (by omega)) (rg_w kc_2 rfl)) (wk_V kd_X6_element kl_X10_139 ki_X6_element ks_X6_X6_element kn_X6) rfl ⟨rfl, rfl⟩ hd_kmelement ⟨Nat.le_of_ble_eq_true rfl, Nat.le_of_ble_eq_true rfl⟩ rfl hl.1 rfl (lv_room (Nat.le_of_ble_eq_true rfl)) dX10_sayProceeding_38 (fun  g12 H12 k12 hp12 L12 => ?_)
    exact j41_7  g12 _ _ ls (mFr.tr mFr.rf hp12.1 rfl) L12  (lv_sub hl [0] rfl)
theorem c_ksayProceeding (l : Launch) {G : cG} {Z : cZ} (X : Int) (g : mSt) (i0 : Nat) (q1 : Nat) (hX : 0 ≤ X ∧ X ≤ 2000000000) (hi0 : i0 < Z.n) (hq1 : Z.al 1 q1) : Met l yX10_sayProceeding (wk (Cond.code yX10_sayProceeding cX10_sayProceeding 2 none)) rm_ksayProceeding (va_Pc [.ref (Z.ad 10 i0), .ref (Z.ad 1 q1)] (cPre G Z X g)) (cQv G Z X (fun g1 => mFr [198, 832, 864] g g1 ∧ True)) 0 0 (cAd Z) := by
  refine Met.ofW (cc := cX10_sayProceeding) (maxL := 2) (ret := none) (by decide) rfl ?_
  intro p e s m args below meth c s₁ B hml hv
  obtain ⟨rfl, hv⟩ := hv
  have hr := B.returns
  have hlocks := B.notSynchronized
  obtain ⟨x, L⟩ := c_start B rfl (fun w h => wk_in h) hv
  have hl := lv_entry ([.ref (Z.ad 10 i0), .ref (Z.ad 1 q1)]) (n := 2) (Nat.le_of_ble_eq_true rfl)
  rw [lg_entry_eq]
  generalize (lg_sl ([.ref (Z.ad 10 i0), .ref (Z.ad 1 q1)]) ++ List.replicate (2 - (lg_sl ([.ref (Z.ad 10 i0), .ref (Z.ad 1 q1)])).length) Slot.unset).toArray = ls at hl ⊢
  exact w_ksayProceeding x hml L hX i0 q1 hi0 hq1 hl (fun pc' ls' g1 H1 locs1 hdg L hp => c_vret x L hr hlocks (Int.le_refl _) hp hdg)

def rm_kanswer : Room := { frames := 2, cells := 0, slots := 0, locals := 48 }
theorem hd_kanswer : yX4_answer.cls = cRn 4 ∧ yX4_answer.cls ≠ "java/lang/invoke/MethodHandle" ∧ yX4_answer.cls ≠ "java/lang/invoke/VarHandle" ∧ (parseMethodDescriptor yX4_answer.desc).map (fun d => d.parameters.length) = some 2 := by decide +kernel
set_option maxHeartbeats 4000000 in
set_option maxRecDepth 100000 in
theorem w_kanswer {p : Program} {l : Launch} {e : Env} {s : State} {m : MethodId} {args : Array Value} {below : List Frame} {meth : Method} {c : Code} {H : Heap} {locs : List Loc} {Q : State → Prop} {ls : Array Slot} {G : cG} {Z : cZ} {A : Nat → Prop} {g : mSt} {H0 : Heap} {X : Int} (x : cX p c cX4_answer s args (wk (Cond.code yX4_answer cX4_answer 3 none)) m G Z A RX4 H0) (hml : c.maxLocals = 3) (L : cL G Z A H0 X g H locs) (hX : 0 ≤ X ∧ X ≤ 2000000000) (i0 : Nat) (q1 : Nat) (p2 : Int32) (hJ : cJ Z g) (hi0 : i0 < Z.n) (hq1 : Z.al 1 q1) (hl : lv_has ls 3 [(0, .ref (Z.ad 4 i0)), (1, .ref (Z.ad 1 q1)), (2, .int p2)]) (hQ : ∀ (pc' : Nat) (ls' : Array Slot) (g1 : mSt) (H1 : Heap) (locs1 : List Loc), decode cX4_answer pc' = .ok (.return_, 1) → cL G Z A H0 X g1 H1 locs1 → (mFr [36, 41, 42, 44, 45, 46, 48, 198, 832, 864] g g1 ∧ cJ Z g1 ∧ True) → W p l e rm_kanswer s m args below meth c H1 locs1 0 0 Q (F0 m pc' ls' [])) : W p l e rm_kanswer s m args below meth c H locs 0 0 Q (F0 m 0 ls []) := by
  have hx := x.1
  have hb := x.2.1
  have hz := x.2.2.2.2.2.2.2.1
  have hzn := hz.1
  have hal0 : Z.al 4 i0 := hz.2 4 i0 (show i0 < Z.n from hi0)
  refine lv_aload_n hx hb dX4_answer_0 rfl (lv_at hl 1 rfl) ?_
  refine lv_bipush (v := 8) hx hb dX4_answer_1 (by decide) ?_
  refine lv_iload_n hx hb dX4_answer_3 rfl (lv_at hl 2 rfl) ?_
  refine lv_bipush (v := 10) hx hb dX4_answer_4 (by decide) ?_
  refine lv_iadd hx hb dX4_answer_6 ?_
  refine lv_topi (fun v1 ev1 => ?_)
  have rv1 : rg (-2147483648) (2147483647) v1 := rg_any v1
  refine c_cv (As := [.int (8 : Int32), .int v1]) (rest := []) x hml L 1 q1 hq1 rfl (c_kenter l X g q1 (8 : Int32) v1 hX hJ hq1) (wk_V kd_X1_enter kl_X4_85 ki_X1_enter ks_X1_X1_enter kn_X1) rfl ⟨rfl, rfl⟩ hd_kenter ⟨Nat.le_of_ble_eq_true rfl, Nat.le_of_ble_eq_true rfl⟩ rfl hl.1 rfl (lv_room (Nat.le_of_ble_eq_true rfl)) dX4_answer_7 (fun  g2 H2 k2 hp2 L2 => ?_)
  refine lv_aload_n hx hb dX4_answer_10 rfl (lv_at hl 0 rfl) ?_
  refine lv_bipush (v := 7) hx hb dX4_answer_11 (by decide) ?_
  refine lv_aload_n hx hb dX4_answer_13 rfl (lv_at hl 1 rfl) ?_
  refine c_cvU (n := 2) (owner := "CellSwitch$Side") (x0 := ⟨"CellSwitch$EndSide", "sayPlain", "(ILCellSwitch$Call;)V"⟩) (As := [.int (7 : Int32), .ref (Z.ad 1 q1)]) (rest := []) x hml L2 4 i0 hal0 rfl (c_ksayPlain_4 l X g2 i0 (7 : Int32) q1 hX (show i0 < Z.n from (by omega)) hq1) (wk_U kd_X8_sayPlain kl_X4_129 km_CellSwitchEndSide_CellSwitchSide_sayPlain ks_X4_CellSwitchEndSide_X8_sayPlain ki_X8_sayPlain kn_X8) rfl ⟨rfl, rfl⟩ rfl (by decide +kernel) ⟨Nat.le_of_ble_eq_true rfl, Nat.le_of_ble_eq_true rfl⟩ rfl hl.1 rfl (lv_room (Nat.le_of_ble_eq_true rfl)) dX4_answer_14 (fun  g3 H3 k3 hp3 L3 => ?_)
  exact hQ _ _ _ _ _ dX4_answer_17 L3 ⟨(mFr.tr (mFr.tr mFr.rf hp2.1 rfl) hp3.1 rfl), (cJ_fr hp2.2.1 hp3.1 rfl), trivial⟩
theorem c_kanswer (l : Launch) {G : cG} {Z : cZ} (X : Int) (g : mSt) (i0 : Nat) (q1 : Nat) (p2 : Int32) (hX : 0 ≤ X ∧ X ≤ 2000000000) (hJ : cJ Z g) (hi0 : i0 < Z.n) (hq1 : Z.al 1 q1) : Met l yX4_answer (wk (Cond.code yX4_answer cX4_answer 3 none)) rm_kanswer (va_Pc [.ref (Z.ad 4 i0), .ref (Z.ad 1 q1), .int p2] (cPre G Z X g)) (cQv G Z X (fun g1 => mFr [36, 41, 42, 44, 45, 46, 48, 198, 832, 864] g g1 ∧ cJ Z g1 ∧ True)) 0 0 (cAd Z) := by
  refine Met.ofW (cc := cX4_answer) (maxL := 3) (ret := none) (by decide) rfl ?_
  intro p e s m args below meth c s₁ B hml hv
  obtain ⟨rfl, hv⟩ := hv
  have hr := B.returns
  have hlocks := B.notSynchronized
  obtain ⟨x, L⟩ := c_start B rfl (fun w h => wk_in h) hv
  have hl := lv_entry ([.ref (Z.ad 4 i0), .ref (Z.ad 1 q1), .int p2]) (n := 3) (Nat.le_of_ble_eq_true rfl)
  rw [lg_entry_eq]
  generalize (lg_sl ([.ref (Z.ad 4 i0), .ref (Z.ad 1 q1), .int p2]) ++ List.replicate (3 - (lg_sl ([.ref (Z.ad 4 i0), .ref (Z.ad 1 q1), .int p2])).length) Slot.unset).toArray = ls at hl ⊢
  exact w_kanswer x hml L hX i0 q1 p2 hJ hi0 hq1 hl (fun pc' ls' g1 H1 locs1 hdg L hp => c_vret x L hr hlocks (Int.le_refl _) hp hdg)

def rm_kprogress_4 : Room := { frames := 4, cells := 0, slots := 0, locals := 94 }
theorem hd_kprogress_4 : yX4_progress.cls = cRn 4 ∧ yX4_progress.cls ≠ "java/lang/invoke/MethodHandle" ∧ yX4_progress.cls ≠ "java/lang/invoke/VarHandle" ∧ (parseMethodDescriptor yX4_progress.desc).map (fun d => d.parameters.length) = some 3 := by decide +kernel
set_option maxHeartbeats 4000000 in
set_option maxRecDepth 100000 in
theorem w_kprogress_4 {p : Program} {l : Launch} {e : Env} {s : State} {m : MethodId} {args : Array Value} {below : List Frame} {meth : Method} {c : Code} {H : Heap} {locs : List Loc} {Q : State → Prop} {ls : Array Slot} {G : cG} {Z : cZ} {A : Nat → Prop} {g : mSt} {H0 : Heap} {X : Int} (x : cX p c cX4_progress s args (wk (Cond.code yX4_progress cX4_progress 4 none)) m G Z A RX4 H0) (hml : c.maxLocals = 4) (L : cL G Z A H0 X g H locs) (hX : 0 ≤ X ∧ X ≤ 2000000000) (i0 : Nat) (q1 : Nat) (q2 : Nat) (p3 : Int32) (hJ : cJ Z g) (hi0 : i0 < Z.n) (hq1 : Z.al 1 q1) (hq2 : Z.al 9 q2) (hl : lv_has ls 4 [(0, .ref (Z.ad 4 i0)), (1, .ref (Z.ad 1 q1)), (2, .ref (Z.ad 9 q2)), (3, .int p3)]) (hQ : ∀ (pc' : Nat) (ls' : Array Slot) (g1 : mSt) (H1 : Heap) (locs1 : List Loc), decode cX4_progress pc' = .ok (.return_, 1) → cL G Z A H0 X g1 H1 locs1 → (mFr [36, 37, 40, 41, 42, 44, 45, 46, 48, 198, 832, 864] g g1 ∧ cJ Z g1 ∧ True) → W p l e rm_kprogress_4 s m args below meth c H1 locs1 0 0 Q (F0 m pc' ls' [])) : W p l e rm_kprogress_4 s m args below meth c H locs 0 0 Q (F0 m 0 ls []) := by
  have hx := x.1
  have hb := x.2.1
  have hz := x.2.2.2.2.2.2.2.1
  have hzn := hz.1
  have hal0 : Z.al 4 i0 := hz.2 4 i0 (show i0 < Z.n from hi0)
  have up3 : (-2147483648 : Int) ≤ p3.toInt ∧ p3.toInt ≤ 2147483647 := (rg_any p3)
  refine lv_aload_n hx hb dX4_progress_0 rfl (lv_at hl 2 rfl) ?_
  refine c_geti x L 9 q2 0 288 hq2 rfl rfl (wk_in kf_X4_137) dX4_progress_1 (fun v1 ev1 wv1 => ?_)
  have rv1 : rg (-2147483648) (2147483647) v1 := rg_any v1
  have uv1 : (-2147483648 : Int) ≤ v1.toInt ∧ v1.toInt ≤ 2147483647 := rv1
  have sv1 : v1.toInt = (g 288 q2).toInt := congrArg Int32.toInt (ev1.trans (congrFun ((show mFr [36, 37, 40, 41, 42, 44, 45, 46, 48, 198, 832, 864] g g from mFr.rf).at 288 rfl) _))
  refine lv_iconst (v := 2) hx hb dX4_progress_4 (by decide) ?_
  have j122_2 : ∀ (g2 : mSt) (H2 : Heap) (k2 : List Loc) (ls : Array Slot), mFr [36, 37, 40, 41, 42, 44, 45, 46, 48, 198, 832, 864] g g2 → cL G Z A H0 X g2 H2 k2 → cJ Z g2 → lv_has ls 4 [(0, .ref (Z.ad 4 i0))] → W p l e rm_kprogress_4 s m args below meth c H2 k2 0 0 Q (F0 m 122 ls []) := by
    intro  g2 H2 k2 ls hF2 L2 hJ2  hl
    exact hQ _ _ _ _ _ dX4_progress_122 L2 ⟨(mFr.tr mFr.rf hF2 rfl), hJ2, trivial⟩
  have j36_3 : ∀ (g3 : mSt) (H3 : Heap) (k3 : List Loc) (ls : Array Slot), mFr [] g g3 → cL G Z A H0 X g3 H3 k3 → cJ Z g3 → lv_has ls 4 [(0, .ref (Z.ad 4 i0)), (1, .ref (Z.ad 1 q1)), (2, .ref (Z.ad 9 q2)), (3, .int p3)] → W p l e rm_kprogress_4 s m args below meth c H3 k3 0 0 Q (F0 m 36 ls []) := by
    intro  g3 H3 k3 ls hF3 L3 hJ3  hl
    refine lv_aload_n hx hb dX4_progress_36 rfl (lv_at hl 2 rfl) ?_
    refine c_geti x L3 9 q2 0 288 hq2 rfl rfl (wk_in kf_X4_137) dX4_progress_37 (fun v4 ev4 wv4 => ?_)
    refine m_top (((mm_fr ev1 hF3 rfl)).trans ev4.symm) ?_
    refine lv_bipush (v := 7) hx hb dX4_progress_40 (by decide) ?_
    have j63_5 : ∀ (g5 : mSt) (H5 : Heap) (k5 : List Loc) (ls : Array Slot), mFr [] g3 g5 → cL G Z A H0 X g5 H5 k5 → cJ Z g5 → lv_has ls 4 [(0, .ref (Z.ad 4 i0)), (1, .ref (Z.ad 1 q1)), (2, .ref (Z.ad 9 q2))] → W p l e rm_kprogress_4 s m args below meth c H5 k5 0 0 Q (F0 m 63 ls []) := by
      intro  g5 H5 k5 ls hF5 L5 hJ5  hl
      refine lv_aload_n hx hb dX4_progress_63 rfl (lv_at hl 2 rfl) ?_
      refine c_geti x L5 9 q2 0 288 hq2 rfl rfl (wk_in kf_X4_137) dX4_progress_64 (fun v6 ev6 wv6 => ?_)
      refine m_top (((mm_fr (mm_fr ev1 hF3 rfl) hF5 rfl)).trans ev6.symm) ?_
      refine lv_bipush (v := 7) hx hb dX4_progress_67 (by decide) ?_
      have j97_7 : ∀ (g7 : mSt) (H7 : Heap) (k7 : List Loc) (ls : Array Slot), mFr [] g5 g7 → cL G Z A H0 X g7 H7 k7 → cJ Z g7 → lv_has ls 4 [(0, .ref (Z.ad 4 i0)), (1, .ref (Z.ad 1 q1)), (2, .ref (Z.ad 9 q2))] → W p l e rm_kprogress_4 s m args below meth c H7 k7 0 0 Q (F0 m 97 ls []) := by
        intro  g7 H7 k7 ls hF7 L7 hJ7  hl
        refine lv_aload_n hx hb dX4_progress_97 rfl (lv_at hl 2 rfl) ?_
        refine c_geti x L7 9 q2 0 288 hq2 rfl rfl (wk_in kf_X4_137) dX4_progress_98 (fun v8 ev8 wv8 => ?_)
        refine m_top (((mm_fr (mm_fr (mm_fr ev1 hF3 rfl) hF5 rfl) hF7 rfl)).trans ev8.symm) ?_
        refine lv_bipush (v := 15) hx hb dX4_progress_101 (by decide) ?_
        refine lv_icmp_ne (tgt := 122) hx hb dX4_progress_103 (by decide) (fun c103_9 => ?_) (fun c103_9 => ?_)
        · skip
          have ic103_9 : v1.toInt ≠ (15 : Int32).toInt := fun z => c103_9 (Int32.toInt_inj.mp z)
          have y10 : (15 : Int32).toInt = 15 := by decide
          exact j122_2  g7 _ _ ls (mFr.tr (mFr.tr (mFr.tr mFr.rf hF3 rfl) hF5 rfl) hF7 rfl) L7 hJ7 (lv_sub hl [0] rfl)
        · skip
          have ic103_9 := congrArg Int32.toInt c103_9
          have y11 : (15 : Int32).toInt = 15 := by decide
          have q12 : rg (15) (15) v1 := (rg_eq c103_9 rv1 kc_15).1
          have uq12 : (15 : Int) ≤ v1.toInt ∧ v1.toInt ≤ 15 := q12
          refine lv_aload_n hx hb dX4_progress_106 rfl (lv_at hl 1 rfl) ?_
          refine c_geti x L7 1 q1 4 36 hq1 rfl rfl (wk_in kf_X4_140) dX4_progress_107 (fun v13 ev13 wv13 => ?_)
          have rv13 : rg (-2147483648) (2147483647) v13 := rg_any v13
          have uv13 : (-2147483648 : Int) ≤ v13.toInt ∧ v13.toInt ≤ 2147483647 := rv13
          refine lv_bipush (v := 8) hx hb dX4_progress_110 (by decide) ?_
          refine lv_icmp_ne (tgt := 122) hx hb dX4_progress_112 (by decide) (fun c112_14 => ?_) (fun c112_14 => ?_)
          · skip
            have ic112_14 : v13.toInt ≠ (8 : Int32).toInt := fun z => c112_14 (Int32.toInt_inj.mp z)
            have y15 : (8 : Int32).toInt = 8 := by decide
            exact j122_2  g7 _ _ ls (mFr.tr (mFr.tr (mFr.tr mFr.rf hF3 rfl) hF5 rfl) hF7 rfl) L7 hJ7 (lv_sub hl [0] rfl)
          · skip
            have ic112_14 := congrArg Int32.toInt c112_14
            have y16 : (8 : Int32).toInt = 8 := by decide
            have q17 : rg (8) (8) v13 := (rg_eq c112_14 rv13 kc_8).1
            have uq17 : (8 : Int) ≤ v13.toInt ∧ v13.toInt ≤ 8 := q17
            refine lv_aload_n hx hb dX4_progress_115 rfl (lv_at hl 1 rfl) ?_
            refine lv_bipush (v := 10) hx hb dX4_progress_116 (by decide) ?_
            refine lv_iconst (v := 0) hx hb dX4_progress_118 (by decide) ?_
            refine c_cv (As := [.int (10 : Int32), .int (0 : Int32)]) (rest := []) x hml L7 1 q1 hq1 rfl (c_kenter l X g7 q1 (10 : Int32) (0 : Int32) hX hJ7 hq1) (wk_V kd_X1_enter kl_X4_85 ki_X1_enter ks_X1_X1_enter kn_X1) rfl ⟨rfl, rfl⟩ hd_kenter ⟨Nat.le_of_ble_eq_true rfl, Nat.le_of_ble_eq_true rfl⟩ rfl hl.1 rfl (lv_room (Nat.le_of_ble_eq_true rfl)) dX4_progress_119 (fun  g18 H18 k18 hp18 L18 => ?_)
            exact j122_2  g18 _ _ ls (mFr.tr (mFr.tr (mFr.tr (mFr.tr mFr.rf hF3 rfl) hF5 rfl) hF7 rfl) hp18.1 rfl) L18 hp18.2.1 (lv_sub hl [0] rfl)
      refine lv_icmp_ne (tgt := 97) hx hb dX4_progress_69 (by decide) (fun c69_19 => ?_) (fun c69_19 => ?_)
      · skip
        have ic69_19 : v1.toInt ≠ (7 : Int32).toInt := fun z => c69_19 (Int32.toInt_inj.mp z)
        have y20 : (7 : Int32).toInt = 7 := by decide
        exact j97_7  g5 _ _ ls mFr.rf L5 hJ5 (lv_sub hl [0, 1, 2] rfl)
      · skip
        have ic69_19 := congrArg Int32.toInt c69_19
        have y21 : (7 : Int32).toInt = 7 := by decide
        have q22 : rg (7) (7) v1 := (rg_eq c69_19 rv1 kc_7).1
        have uq22 : (7 : Int) ≤ v1.toInt ∧ v1.toInt ≤ 7 := q22
        refine lv_aload_n hx hb dX4_progress_72 rfl (lv_at hl 1 rfl) ?_
        refine c_geti x L5 1 q1 4 36 hq1 rfl rfl (wk_in kf_X4_140) dX4_progress_73 (fun v23 ev23 wv23 => ?_)
        have rv23 : rg (-2147483648) (2147483647) v23 := rg_any v23
        have uv23 : (-2147483648 : Int) ≤ v23.toInt ∧ v23.toInt ≤ 2147483647 := rv23
        refine lv_iconst (v := 3) hx hb dX4_progress_76 (by decide) ?_
        refine lv_icmp_ne (tgt := 97) hx hb dX4_progress_77 (by decide) (fun c77_24 => ?_) (fun c77_24 => ?_)
        · skip
          have ic77_24 : v23.toInt ≠ (3 : Int32).toInt := fun z => c77_24 (Int32.toInt_inj.mp z)
          have y25 : (3 : Int32).toInt = 3 := by decide
          exact j97_7  g5 _ _ ls mFr.rf L5 hJ5 (lv_sub hl [0, 1, 2] rfl)
        · skip
          have ic77_24 := congrArg Int32.toInt c77_24
          have y26 : (3 : Int32).toInt = 3 := by decide
          have q27 : rg (3) (3) v23 := (rg_eq c77_24 rv23 kc_3).1
          have uq27 : (3 : Int) ≤ v23.toInt ∧ v23.toInt ≤ 3 := q27
          refine lv_aload_n hx hb dX4_progress_80 rfl (lv_at hl 1 rfl) ?_
          refine lv_bipush (v := 10) hx hb dX4_progress_81 (by decide) ?_
          refine lv_iconst (v := 0) hx hb dX4_progress_83 (by decide) ?_
          refine c_cv (As := [.int (10 : Int32), .int (0 : Int32)]) (rest := []) x hml L5 1 q1 hq1 rfl (c_kenter l X g5 q1 (10 : Int32) (0 : Int32) hX hJ5 hq1) (wk_V kd_X1_enter kl_X4_85 ki_X1_enter ks_X1_X1_enter kn_X1) rfl ⟨rfl, rfl⟩ hd_kenter ⟨Nat.le_of_ble_eq_true rfl, Nat.le_of_ble_eq_true rfl⟩ rfl hl.1 rfl (lv_room (Nat.le_of_ble_eq_true rfl)) dX4_progress_84 (fun  g28 H28 k28 hp28 L28 => ?_)
          refine lv_aload_n hx hb dX4_progress_87 rfl (lv_at hl 0 rfl) ?_
          refine lv_bipush (v := 15) hx hb dX4_progress_88 (by decide) ?_
          refine lv_aload_n hx hb dX4_progress_90 rfl (lv_at hl 1 rfl) ?_
          refine c_cvU (n := 2) (owner := "CellSwitch$Side") (x0 := ⟨"CellSwitch$EndSide", "sayPlain", "(ILCellSwitch$Call;)V"⟩) (As := [.int (15 : Int32), .ref (Z.ad 1 q1)]) (rest := []) x hml L28 4 i0 hal0 rfl (c_ksayPlain_4 l X g28 i0 (15 : Int32) q1 hX (show i0 < Z.n from (by omega)) hq1) (wk_U kd_X8_sayPlain kl_X4_129 km_CellSwitchEndSide_CellSwitchSide_sayPlain ks_X4_CellSwitchEndSide_X8_sayPlain ki_X8_sayPlain kn_X8) rfl ⟨rfl, rfl⟩ rfl (by decide +kernel) ⟨Nat.le_of_ble_eq_true rfl, Nat.le_of_ble_eq_true rfl⟩ rfl hl.1 rfl (lv_room (Nat.le_of_ble_eq_true rfl)) dX4_progress_91 (fun  g29 H29 k29 hp29 L29 => ?_)
          refine lv_goto (tgt := 122) hx hb dX4_progress_94 (by decide) ?_
          exact j122_2  g29 _ _ ls (mFr.tr (mFr.tr (mFr.tr (mFr.tr mFr.rf hF3 rfl) hF5 rfl) hp28.1 rfl) hp29.1 rfl) L29 (cJ_fr hp28.2.1 hp29.1 rfl) (lv_sub hl [0] rfl)
    refine lv_icmp_ne (tgt := 63) hx hb dX4_progress_42 (by decide) (fun c42_30 => ?_) (fun c42_30 => ?_)
    · skip
      have ic42_30 : v1.toInt ≠ (7 : Int32).toInt := fun z => c42_30 (Int32.toInt_inj.mp z)
      have y31 : (7 : Int32).toInt = 7 := by decide
      exact j63_5  g3 _ _ ls mFr.rf L3 hJ3 (lv_sub hl [0, 1, 2] rfl)
    · skip
      have ic42_30 := congrArg Int32.toInt c42_30
      have y32 : (7 : Int32).toInt = 7 := by decide
      have q33 : rg (7) (7) v1 := (rg_eq c42_30 rv1 kc_7).1
      have uq33 : (7 : Int) ≤ v1.toInt ∧ v1.toInt ≤ 7 := q33
      refine lv_aload_n hx hb dX4_progress_45 rfl (lv_at hl 1 rfl) ?_
      refine c_geti x L3 1 q1 4 36 hq1 rfl rfl (wk_in kf_X4_140) dX4_progress_46 (fun v34 ev34 wv34 => ?_)
      have rv34 : rg (-2147483648) (2147483647) v34 := rg_any v34
      have uv34 : (-2147483648 : Int) ≤ v34.toInt ∧ v34.toInt ≤ 2147483647 := rv34
      refine lv_iconst (v := 1) hx hb dX4_progress_49 (by decide) ?_
      refine lv_icmp_ne (tgt := 63) hx hb dX4_progress_50 (by decide) (fun c50_35 => ?_) (fun c50_35 => ?_)
      · skip
        have ic50_35 : v34.toInt ≠ (1 : Int32).toInt := fun z => c50_35 (Int32.toInt_inj.mp z)
        have y36 : (1 : Int32).toInt = 1 := by decide
        exact j63_5  g3 _ _ ls mFr.rf L3 hJ3 (lv_sub hl [0, 1, 2] rfl)
      · skip
        have ic50_35 := congrArg Int32.toInt c50_35
        have y37 : (1 : Int32).toInt = 1 := by decide
        have q38 : rg (1) (1) v34 := (rg_eq c50_35 rv34 kc_1).1
        have uq38 : (1 : Int) ≤ v34.toInt ∧ v34.toInt ≤ 1 := q38
        refine lv_aload_n hx hb dX4_progress_53 rfl (lv_at hl 1 rfl) ?_
        refine lv_bipush (v := 96) hx hb dX4_progress_54 (by decide) ?_
        refine lv_iload_n hx hb dX4_progress_56 rfl (lv_at hl 3 rfl) ?_
        refine c_cv (As := [.int (96 : Int32), .int p3]) (rest := []) x hml L3 1 q1 hq1 rfl (c_krelease l X g3 q1 (96 : Int32) p3 hX hJ3 hq1) (wk_V kd_X1_release kl_X4_143 ki_X1_release ks_X1_X1_release kn_X1) rfl ⟨rfl, rfl⟩ hd_krelease ⟨Nat.le_of_ble_eq_true rfl, Nat.le_of_ble_eq_true rfl⟩ rfl hl.1 rfl (lv_room (Nat.le_of_ble_eq_true rfl)) dX4_progress_57 (fun  g39 H39 k39 hp39 L39 => ?_)
        refine lv_goto (tgt := 122) hx hb dX4_progress_60 (by decide) ?_
        exact j122_2  g39 _ _ ls (mFr.tr (mFr.tr mFr.rf hF3 rfl) hp39.1 rfl) L39 hp39.2.1 (lv_sub hl [0] rfl)
  refine lv_icmp_ne (tgt := 36) hx hb dX4_progress_5 (by decide) (fun c5_40 => ?_) (fun c5_40 => ?_)
  · skip
    have ic5_40 : v1.toInt ≠ (2 : Int32).toInt := fun z => c5_40 (Int32.toInt_inj.mp z)
    have y41 : (2 : Int32).toInt = 2 := by decide
    exact j36_3  g _ _ ls mFr.rf L hJ (lv_sub hl [0, 1, 2, 3] rfl)
  · skip
    have ic5_40 := congrArg Int32.toInt c5_40
    have y42 : (2 : Int32).toInt = 2 := by decide
    have q43 : rg (2) (2) v1 := (rg_eq c5_40 rv1 kc_2).1
    have uq43 : (2 : Int) ≤ v1.toInt ∧ v1.toInt ≤ 2 := q43
    refine lv_aload_n hx hb dX4_progress_8 rfl (lv_at hl 1 rfl) ?_
    refine c_geti x L 1 q1 4 36 hq1 rfl rfl (wk_in kf_X4_140) dX4_progress_9 (fun v44 ev44 wv44 => ?_)
    have rv44 : rg (-2147483648) (2147483647) v44 := rg_any v44
    have uv44 : (-2147483648 : Int) ≤ v44.toInt ∧ v44.toInt ≤ 2147483647 := rv44
    have sv44 := congrArg Int32.toInt ev44
    refine lv_iconst (v := 1) hx hb dX4_progress_12 (by decide) ?_
    refine lv_icmp_ne (tgt := 36) hx hb dX4_progress_13 (by decide) (fun c13_45 => ?_) (fun c13_45 => ?_)
    · skip
      have ic13_45 : v44.toInt ≠ (1 : Int32).toInt := fun z => c13_45 (Int32.toInt_inj.mp z)
      have y46 : (1 : Int32).toInt = 1 := by decide
      exact j36_3  g _ _ ls mFr.rf L hJ (lv_sub hl [0, 1, 2, 3] rfl)
    · skip
      have ic13_45 := congrArg Int32.toInt c13_45
      have y47 : (1 : Int32).toInt = 1 := by decide
      have q48 : rg (1) (1) v44 := (rg_eq c13_45 rv44 kc_1).1
      have uq48 : (1 : Int) ≤ v44.toInt ∧ v44.toInt ≤ 1 := q48
      refine lv_aload_n hx hb dX4_progress_16 rfl (lv_at hl 1 rfl) ?_
      refine lv_aload_n hx hb dX4_progress_17 rfl (lv_at hl 2 rfl) ?_
      refine c_geti x L 9 q2 6 294 hq2 rfl rfl (wk_in kf_X4_121) dX4_progress_18 (fun v49 ev49 wv49 => ?_)
      have rv49 : rg (-2147483648) (2147483647) v49 := rg_any v49
      have uv49 : (-2147483648 : Int) ≤ v49.toInt ∧ v49.toInt ≤ 2147483647 := rv49
      have sv49 : v49.toInt = (g 294 q2).toInt := congrArg Int32.toInt (ev49.trans (congrFun ((show mFr [36, 37, 40, 41, 42, 44, 45, 46, 48, 198, 832, 864] g g from mFr.rf).at 294 rfl) _))
      refine c_puti x L 1 q1 5 37 hq1 rfl rfl ⟨rfl, by decide +kernel⟩ (wk_in kf_X4_124) dX4_progress_21 (rg_any v49) (fun g50 H50 k50 eg50 L50 => ?_)
      refine lv_aload_n hx hb dX4_progress_24 rfl (lv_at hl 1 rfl) ?_
      refine lv_iconst (v := 3) hx hb dX4_progress_25 (by decide) ?_
      refine lv_iload_n hx hb dX4_progress_26 rfl (lv_at hl 3 rfl) ?_
      refine lv_bipush (v := 40) hx hb dX4_progress_27 (by decide) ?_
      refine lv_iadd hx hb dX4_progress_29 ?_
      refine lv_topi (fun v51 ev51 => ?_)
      have rv51 : rg (-2147483648) (2147483647) v51 := rg_any v51
      have uv51 : (-2147483648 : Int) ≤ v51.toInt ∧ v51.toInt ≤ 2147483647 := rv51
      refine c_cv (As := [.int (3 : Int32), .int v51]) (rest := []) x hml L50 1 q1 hq1 rfl (c_kenter l X g50 q1 (3 : Int32) v51 hX (cJ_up hJ eg50 rfl) hq1) (wk_V kd_X1_enter kl_X4_85 ki_X1_enter ks_X1_X1_enter kn_X1) rfl ⟨rfl, rfl⟩ hd_kenter ⟨Nat.le_of_ble_eq_true rfl, Nat.le_of_ble_eq_true rfl⟩ rfl hl.1 rfl (lv_room (Nat.le_of_ble_eq_true rfl)) dX4_progress_30 (fun  g52 H52 k52 hp52 L52 => ?_)
      refine lv_goto (tgt := 122) hx hb dX4_progress_33 (by decide) ?_
      exact j122_2  g52 _ _ ls (mFr.tr (mFr.upE mFr.rf eg50 rfl) hp52.1 rfl) L52 hp52.2.1 (lv_sub hl [0] rfl)
theorem c_kprogress_4 (l : Launch) {G : cG} {Z : cZ} (X : Int) (g : mSt) (i0 : Nat) (q1 : Nat) (q2 : Nat) (p3 : Int32) (hX : 0 ≤ X ∧ X ≤ 2000000000) (hJ : cJ Z g) (hi0 : i0 < Z.n) (hq1 : Z.al 1 q1) (hq2 : Z.al 9 q2) : Met l yX4_progress (wk (Cond.code yX4_progress cX4_progress 4 none)) rm_kprogress_4 (va_Pc [.ref (Z.ad 4 i0), .ref (Z.ad 1 q1), .ref (Z.ad 9 q2), .int p3] (cPre G Z X g)) (cQv G Z X (fun g1 => mFr [36, 37, 40, 41, 42, 44, 45, 46, 48, 198, 832, 864] g g1 ∧ cJ Z g1 ∧ True)) 0 0 (cAd Z) := by
  refine Met.ofW (cc := cX4_progress) (maxL := 4) (ret := none) (by decide) rfl ?_
  intro p e s m args below meth c s₁ B hml hv
  obtain ⟨rfl, hv⟩ := hv
  have hr := B.returns
  have hlocks := B.notSynchronized
  obtain ⟨x, L⟩ := c_start B rfl (fun w h => wk_in h) hv
  have hl := lv_entry ([.ref (Z.ad 4 i0), .ref (Z.ad 1 q1), .ref (Z.ad 9 q2), .int p3]) (n := 4) (Nat.le_of_ble_eq_true rfl)
  rw [lg_entry_eq]
  generalize (lg_sl ([.ref (Z.ad 4 i0), .ref (Z.ad 1 q1), .ref (Z.ad 9 q2), .int p3]) ++ List.replicate (4 - (lg_sl ([.ref (Z.ad 4 i0), .ref (Z.ad 1 q1), .ref (Z.ad 9 q2), .int p3])).length) Slot.unset).toArray = ls at hl ⊢
  exact w_kprogress_4 x hml L hX i0 q1 q2 p3 hJ hi0 hq1 hq2 hl (fun pc' ls' g1 H1 locs1 hdg L hp => c_vret x L hr hlocks (Int.le_refl _) hp hdg)

def rm_ktimer_4 : Room := { frames := 4, cells := 0, slots := 0, locals := 94 }
theorem hd_ktimer_4 : yX4_timer.cls = cRn 4 ∧ yX4_timer.cls ≠ "java/lang/invoke/MethodHandle" ∧ yX4_timer.cls ≠ "java/lang/invoke/VarHandle" ∧ (parseMethodDescriptor yX4_timer.desc).map (fun d => d.parameters.length) = some 2 := by decide +kernel
set_option maxHeartbeats 4000000 in
set_option maxRecDepth 100000 in
theorem w_ktimer_4 {p : Program} {l : Launch} {e : Env} {s : State} {m : MethodId} {args : Array Value} {below : List Frame} {meth : Method} {c : Code} {H : Heap} {locs : List Loc} {Q : State → Prop} {ls : Array Slot} {G : cG} {Z : cZ} {A : Nat → Prop} {g : mSt} {H0 : Heap} {X : Int} (x : cX p c cX4_timer s args (wk (Cond.code yX4_timer cX4_timer 3 none)) m G Z A RX4 H0) (hml : c.maxLocals = 3) (L : cL G Z A H0 X g H locs) (hX : 0 ≤ X ∧ X ≤ 2000000000) (i0 : Nat) (q1 : Nat) (p2 : Int32) (hJ : cJ Z g) (hi0 : i0 < Z.n) (hq1 : Z.al 1 q1) (hl : lv_has ls 3 [(0, .ref (Z.ad 4 i0)), (1, .ref (Z.ad 1 q1)), (2, .int p2)]) (hQ : ∀ (pc' : Nat) (ls' : Array Slot) (g1 : mSt) (H1 : Heap) (locs1 : List Loc), decode cX4_timer pc' = .ok (.return_, 1) → cL G Z A H0 X g1 H1 locs1 → (mFr [36, 40, 41, 42, 44, 45, 46, 48, 198, 832, 864] g g1 ∧ cJ Z g1 ∧ True) → W p l e rm_ktimer_4 s m args below meth c H1 locs1 0 0 Q (F0 m pc' ls' [])) : W p l e rm_ktimer_4 s m args below meth c H locs 0 0 Q (F0 m 0 ls []) := by
  have hx := x.1
  have hb := x.2.1
  have hz := x.2.2.2.2.2.2.2.1
  have hzn := hz.1
  have hal0 : Z.al 4 i0 := hz.2 4 i0 (show i0 < Z.n from hi0)
  have up2 : (-2147483648 : Int) ≤ p2.toInt ∧ p2.toInt ≤ 2147483647 := (rg_any p2)
  refine lv_aload_n hx hb dX4_timer_0 rfl (lv_at hl 1 rfl) ?_
  refine c_geti x L 1 q1 4 36 hq1 rfl rfl (wk_in kf_X4_140) dX4_timer_1 (fun v1 ev1 wv1 => ?_)
  have rv1 : rg (-2147483648) (2147483647) v1 := rg_any v1
  have uv1 : (-2147483648 : Int) ≤ v1.toInt ∧ v1.toInt ≤ 2147483647 := rv1
  have sv1 := congrArg Int32.toInt ev1
  refine lv_bipush (v := 6) hx hb dX4_timer_4 (by decide) ?_
  have j65_2 : ∀ (g2 : mSt) (H2 : Heap) (k2 : List Loc) (ls : Array Slot), mFr [36, 40, 41, 42, 44, 45, 46, 48, 198, 832, 864] g g2 → cL G Z A H0 X g2 H2 k2 → cJ Z g2 → lv_has ls 3 [(0, .ref (Z.ad 4 i0))] → W p l e rm_ktimer_4 s m args below meth c H2 k2 0 0 Q (F0 m 65 ls []) := by
    intro  g2 H2 k2 ls hF2 L2 hJ2  hl
    exact hQ _ _ _ _ _ dX4_timer_65 L2 ⟨(mFr.tr mFr.rf hF2 rfl), hJ2, trivial⟩
  refine lv_icmp_ne (tgt := 18) hx hb dX4_timer_6 (by decide) (fun c6_3 => ?_) (fun c6_3 => ?_)
  · skip
    have ic6_3 : v1.toInt ≠ (6 : Int32).toInt := fun z => c6_3 (Int32.toInt_inj.mp z)
    have y4 : (6 : Int32).toInt = 6 := by decide
    refine lv_aload_n hx hb dX4_timer_18 rfl (lv_at hl 1 rfl) ?_
    refine c_geti x L 1 q1 4 36 hq1 rfl rfl (wk_in kf_X4_140) dX4_timer_19 (fun v5 ev5 wv5 => ?_)
    refine m_top ((ev1).trans ev5.symm) ?_
    refine lv_iconst (v := 1) hx hb dX4_timer_22 (by decide) ?_
    refine lv_icmp_eq (tgt := 36) hx hb dX4_timer_23 (by decide) (fun c23_6 => ?_) (fun c23_6 => ?_)
    · skip
      have ic23_6 := congrArg Int32.toInt c23_6
      have y7 : (1 : Int32).toInt = 1 := by decide
      have q8 : rg (1) (1) v1 := (rg_eq c23_6 rv1 kc_1).1
      have uq8 : (1 : Int) ≤ v1.toInt ∧ v1.toInt ≤ 1 := q8
      refine lv_aload_n hx hb dX4_timer_36 rfl (lv_at hl 1 rfl) ?_
      refine c_geti x L 1 q1 10 42 hq1 rfl rfl (wk_in kf_X4_146) dX4_timer_37 (fun v9 ev9 wv9 => ?_)
      have rv9 : rg (0) (1) v9 := clj_42 wv9
      have uv9 : (0 : Int) ≤ v9.toInt ∧ v9.toInt ≤ 1 := rv9
      have sv9 := congrArg Int32.toInt ev9
      refine lv_if_eq (tgt := 52) hx hb dX4_timer_40 (by decide) (fun c40_10 => ?_) (fun c40_10 => ?_)
      · skip
        have ic40_10 := congrArg Int32.toInt c40_10
        have y11 : (0 : Int32).toInt = 0 := by decide
        have q12 : rg (0) (0) v9 := (rg_eq c40_10 rv9 kc_0).1
        have uq12 : (0 : Int) ≤ v9.toInt ∧ v9.toInt ≤ 0 := q12
        refine lv_aload_n hx hb dX4_timer_52 rfl (lv_at hl 1 rfl) ?_
        refine lv_iload_n hx hb dX4_timer_53 rfl (lv_at hl 2 rfl) ?_
        refine lv_bipush (v := 8) hx hb dX4_timer_54 (by decide) ?_
        refine lv_iadd hx hb dX4_timer_56 ?_
        refine lv_topi (fun v13 ev13 => ?_)
        have rv13 : rg (-2147483648) (2147483647) v13 := rg_any v13
        have uv13 : (-2147483648 : Int) ≤ v13.toInt ∧ v13.toInt ≤ 2147483647 := rv13
        refine c_cv (As := [.int v13]) (rest := []) x hml L 1 q1 hq1 rfl (c_krepeat l X g q1 v13 hX hq1) (wk_V kd_X1_repeat kl_X4_149 ki_X1_repeat ks_X1_X1_repeat kn_X1) rfl ⟨rfl, rfl⟩ hd_krepeat ⟨Nat.le_of_ble_eq_true rfl, Nat.le_of_ble_eq_true rfl⟩ rfl hl.1 rfl (lv_room (Nat.le_of_ble_eq_true rfl)) dX4_timer_57 (fun  g14 H14 k14 hp14 L14 => ?_)
        refine lv_aload_n hx hb dX4_timer_60 rfl (lv_at hl 0 rfl) ?_
        refine lv_aload_n hx hb dX4_timer_61 rfl (lv_at hl 1 rfl) ?_
        refine c_cv (As := [.ref (Z.ad 1 q1)]) (rest := []) x hml L14 4 i0 hal0 rfl (c_ksaySetup_4 l X g14 i0 q1 hX (show i0 < Z.n from (by omega)) hq1) (wk_V kd_X4_saySetup kl_X4_92 ki_X4_saySetup ks_X4_X4_saySetup kn_X4) rfl ⟨rfl, rfl⟩ hd_ksaySetup_4 ⟨Nat.le_of_ble_eq_true rfl, Nat.le_of_ble_eq_true rfl⟩ rfl hl.1 rfl (lv_room (Nat.le_of_ble_eq_true rfl)) dX4_timer_62 (fun  g15 H15 k15 hp15 L15 => ?_)
        exact j65_2  g15 _ _ ls (mFr.tr (mFr.tr mFr.rf hp14.1 rfl) hp15.1 rfl) L15 (cJ_fr (cJ_fr hJ hp14.1 rfl) hp15.1 rfl) (lv_sub hl [0] rfl)
      · skip
        have ic40_10 : v9.toInt ≠ (0 : Int32).toInt := fun z => c40_10 (Int32.toInt_inj.mp z)
        have y16 : (0 : Int32).toInt = 0 := by decide
        have q17 : rg (1) (1) v9 := rg_neL c40_10 rv9 kc_0
        have uq17 : (1 : Int) ≤ v9.toInt ∧ v9.toInt ≤ 1 := q17
        refine lv_aload_n hx hb dX4_timer_43 rfl (lv_at hl 1 rfl) ?_
        refine lv_bipush (v := 102) hx hb dX4_timer_44 (by decide) ?_
        refine c_cv (As := [.int (102 : Int32)]) (rest := []) x hml L 1 q1 hq1 rfl (c_kfinish l X g q1 (102 : Int32) hX hJ hq1) (wk_V kd_X1_finish kl_X4_125 ki_X1_finish ks_X1_X1_finish kn_X1) rfl ⟨rfl, rfl⟩ hd_kfinish ⟨Nat.le_of_ble_eq_true rfl, Nat.le_of_ble_eq_true rfl⟩ rfl hl.1 rfl (lv_room (Nat.le_of_ble_eq_true rfl)) dX4_timer_46 (fun  g18 H18 k18 hp18 L18 => ?_)
        refine lv_goto (tgt := 65) hx hb dX4_timer_49 (by decide) ?_
        exact j65_2  g18 _ _ ls (mFr.tr mFr.rf hp18.1 rfl) L18 hp18.2.1 (lv_sub hl [0] rfl)
    · skip
      have ic23_6 : v1.toInt ≠ (1 : Int32).toInt := fun z => c23_6 (Int32.toInt_inj.mp z)
      have y19 : (1 : Int32).toInt = 1 := by decide
      refine lv_aload_n hx hb dX4_timer_26 rfl (lv_at hl 1 rfl) ?_
      refine lv_bipush (v := 102) hx hb dX4_timer_27 (by decide) ?_
      refine lv_iload_n hx hb dX4_timer_29 rfl (lv_at hl 2 rfl) ?_
      refine c_cv (As := [.int (102 : Int32), .int p2]) (rest := []) x hml L 1 q1 hq1 rfl (c_krelease l X g q1 (102 : Int32) p2 hX hJ hq1) (wk_V kd_X1_release kl_X4_143 ki_X1_release ks_X1_X1_release kn_X1) rfl ⟨rfl, rfl⟩ hd_krelease ⟨Nat.le_of_ble_eq_true rfl, Nat.le_of_ble_eq_true rfl⟩ rfl hl.1 rfl (lv_room (Nat.le_of_ble_eq_true rfl)) dX4_timer_30 (fun  g20 H20 k20 hp20 L20 => ?_)
      refine lv_goto (tgt := 65) hx hb dX4_timer_33 (by decide) ?_
      exact j65_2  g20 _ _ ls (mFr.tr mFr.rf hp20.1 rfl) L20 hp20.2.1 (lv_sub hl [0] rfl)
  · skip
    have ic6_3 := congrArg Int32.toInt c6_3
    have y21 : (6 : Int32).toInt = 6 := by decide
    have q22 : rg (6) (6) v1 := (rg_eq c6_3 rv1 kc_6).1
    have uq22 : (6 : Int) ≤ v1.toInt ∧ v1.toInt ≤ 6 := q22
    refine lv_aload_n hx hb dX4_timer_9 rfl (lv_at hl 0 rfl) ?_
    refine lv_aload_n hx hb dX4_timer_10 rfl (lv_at hl 1 rfl) ?_
    refine lv_iload_n hx hb dX4_timer_11 rfl (lv_at hl 2 rfl) ?_
    refine c_cv (As := [.ref (Z.ad 1 q1), .int p2]) (rest := []) x hml L 4 i0 hal0 rfl (c_kanswer l X g i0 q1 p2 hX hJ (show i0 < Z.n from (by omega)) hq1) (wk_V kd_X4_answer kl_X4_133 ki_X4_answer ks_X4_X4_answer kn_X4) rfl ⟨rfl, rfl⟩ hd_kanswer ⟨Nat.le_of_ble_eq_true rfl, Nat.le_of_ble_eq_true rfl⟩ rfl hl.1 rfl (lv_room (Nat.le_of_ble_eq_true rfl)) dX4_timer_12 (fun  g23 H23 k23 hp23 L23 => ?_)
    refine lv_goto (tgt := 65) hx hb dX4_timer_15 (by decide) ?_
    exact j65_2  g23 _ _ ls (mFr.tr mFr.rf hp23.1 rfl) L23 hp23.2.1 (lv_sub hl [0] rfl)
theorem c_ktimer_4 (l : Launch) {G : cG} {Z : cZ} (X : Int) (g : mSt) (i0 : Nat) (q1 : Nat) (p2 : Int32) (hX : 0 ≤ X ∧ X ≤ 2000000000) (hJ : cJ Z g) (hi0 : i0 < Z.n) (hq1 : Z.al 1 q1) : Met l yX4_timer (wk (Cond.code yX4_timer cX4_timer 3 none)) rm_ktimer_4 (va_Pc [.ref (Z.ad 4 i0), .ref (Z.ad 1 q1), .int p2] (cPre G Z X g)) (cQv G Z X (fun g1 => mFr [36, 40, 41, 42, 44, 45, 46, 48, 198, 832, 864] g g1 ∧ cJ Z g1 ∧ True)) 0 0 (cAd Z) := by
  refine Met.ofW (cc := cX4_timer) (maxL := 3) (ret := none) (by decide) rfl ?_
  intro p e s m args below meth c s₁ B hml hv
  obtain ⟨rfl, hv⟩ := hv
  have hr := B.returns
  have hlocks := B.notSynchronized
  obtain ⟨x, L⟩ := c_start B rfl (fun w h => wk_in h) hv
  have hl := lv_entry ([.ref (Z.ad 4 i0), .ref (Z.ad 1 q1), .int p2]) (n := 3) (Nat.le_of_ble_eq_true rfl)
  rw [lg_entry_eq]
  generalize (lg_sl ([.ref (Z.ad 4 i0), .ref (Z.ad 1 q1), .int p2]) ++ List.replicate (3 - (lg_sl ([.ref (Z.ad 4 i0), .ref (Z.ad 1 q1), .int p2])).length) Slot.unset).toArray = ls at hl ⊢
  exact w_ktimer_4 x hml L hX i0 q1 p2 hJ hi0 hq1 hl (fun pc' ls' g1 H1 locs1 hdg L hp => c_vret x L hr hlocks (Int.le_refl _) hp hdg)

def rm_kcleared_4 : Room := { frames := 4, cells := 0, slots := 0, locals := 94 }
theorem hd_kcleared_4 : yX8_cleared.cls ≠ "java/lang/invoke/MethodHandle" ∧ yX8_cleared.cls ≠ "java/lang/invoke/VarHandle" ∧ (parseMethodDescriptor yX8_cleared.desc).map (fun d => d.parameters.length) = some 3 := by decide +kernel
set_option maxHeartbeats 4000000 in
set_option maxRecDepth 100000 in
theorem w_kcleared_4 {p : Program} {l : Launch} {e : Env} {s : State} {m : MethodId} {args : Array Value} {below : List Frame} {meth : Method} {c : Code} {H : Heap} {locs : List Loc} {Q : State → Prop} {ls : Array Slot} {G : cG} {Z : cZ} {A : Nat → Prop} {g : mSt} {H0 : Heap} {X : Int} (x : cX p c cX8_cleared s args (wk (Cond.code yX8_cleared cX8_cleared 4 none)) m G Z A RX8 H0) (hml : c.maxLocals = 4) (L : cL G Z A H0 X g H locs) (hX : 0 ≤ X ∧ X ≤ 2000000000) (i0 : Nat) (q1 : Nat) (q2 : Nat) (p3 : Int32) (hJ : cJ Z g) (hi0 : i0 < Z.n) (hq1 : Z.al 1 q1) (hq2 : Z.al 9 q2) (hl : lv_has ls 4 [(0, .ref (Z.ad 4 i0)), (1, .ref (Z.ad 1 q1)), (2, .ref (Z.ad 9 q2)), (3, .int p3)]) (hQ : ∀ (pc' : Nat) (ls' : Array Slot) (g1 : mSt) (H1 : Heap) (locs1 : List Loc), decode cX8_cleared pc' = .ok (.return_, 1) → cL G Z A H0 X g1 H1 locs1 → (mFr [36, 40, 41, 42, 44, 45, 46, 48, 198, 832, 864] g g1 ∧ cJ Z g1 ∧ True) → W p l e rm_kcleared_4 s m args below meth c H1 locs1 0 0 Q (F0 m pc' ls' [])) : W p l e rm_kcleared_4 s m args below meth c H locs 0 0 Q (F0 m 0 ls []) := by
  have hx := x.1
  have hb := x.2.1
  have hz := x.2.2.2.2.2.2.2.1
  have hzn := hz.1
  have hal0 : Z.al 4 i0 := hz.2 4 i0 (show i0 < Z.n from hi0)
  have up3 : (-2147483648 : Int) ≤ p3.toInt ∧ p3.toInt ≤ 2147483647 := (rg_any p3)
  refine lv_aload_n hx hb dX8_cleared_0 rfl (lv_at hl 2 rfl) ?_
  refine c_geti x L 9 q2 0 288 hq2 rfl rfl (wk_in kf_X8_63) dX8_cleared_1 (fun v1 ev1 wv1 => ?_)
  have rv1 : rg (-2147483648) (2147483647) v1 := rg_any v1
  have uv1 : (-2147483648 : Int) ≤ v1.toInt ∧ v1.toInt ≤ 2147483647 := rv1
  have sv1 : v1.toInt = (g 288 q2).toInt := congrArg Int32.toInt (ev1.trans (congrFun ((show mFr [36, 40, 41, 42, 44, 45, 46, 48, 198, 832, 864] g g from mFr.rf).at 288 rfl) _))
  refine lv_bipush (v := 77) hx hb dX8_cleared_4 (by decide) ?_
  have j27_2 : ∀ (g2 : mSt) (H2 : Heap) (k2 : List Loc) (ls : Array Slot), mFr [198, 832, 864] g g2 → cL G Z A H0 X g2 H2 k2 → cJ Z g2 → lv_has ls 4 [(0, .ref (Z.ad 4 i0)), (1, .ref (Z.ad 1 q1)), (2, .ref (Z.ad 9 q2)), (3, .int p3)] → W p l e rm_kcleared_4 s m args below meth c H2 k2 0 0 Q (F0 m 27 ls []) := by
    intro  g2 H2 k2 ls hF2 L2 hJ2  hl
    refine lv_aload_n hx hb dX8_cleared_27 rfl (lv_at hl 1 rfl) ?_
    refine lv_aload_n hx hb dX8_cleared_28 rfl (lv_at hl 1 rfl) ?_
    refine c_geti x L2 1 q1 4 36 hq1 rfl rfl (wk_in kf_X8_84) dX8_cleared_29 (fun v3 ev3 wv3 => ?_)
    have rv3 : rg (-2147483648) (2147483647) v3 := rg_any v3
    have uv3 : (-2147483648 : Int) ≤ v3.toInt ∧ v3.toInt ≤ 2147483647 := rv3
    refine lv_bipush (v := 11) hx hb dX8_cleared_32 (by decide) ?_
    have j48_5 : ∀ (b48_1_4 : Int32) (g5 : mSt) (H5 : Heap) (k5 : List Loc) (ls : Array Slot), mFr [] g2 g5 → cL G Z A H0 X g5 H5 k5 → cJ Z g5 → rg (-2147483648) (2147483647) b48_1_4 → lv_has ls 4 [(0, .ref (Z.ad 4 i0)), (1, .ref (Z.ad 1 q1)), (2, .ref (Z.ad 9 q2)), (3, .int p3)] → W p l e rm_kcleared_4 s m args below meth c H5 k5 0 0 Q (F0 m 48 ls [.int b48_1_4, .ref (Z.ad 1 q1)]) := by
      intro b48_1_4 g5 H5 k5 ls hF5 L5 hJ5 rb48_1_4 hl
      have ub48_1_4 : (-2147483648 : Int) ≤ b48_1_4.toInt ∧ b48_1_4.toInt ≤ 2147483647 := rb48_1_4
      refine c_cv (As := [.int b48_1_4]) (rest := []) x hml L5 1 q1 hq1 rfl (c_kfinish l X g5 q1 b48_1_4 hX hJ5 hq1) (wk_V kd_X1_finish kl_X8_88 ki_X1_finish ks_X1_X1_finish kn_X1) rfl ⟨rfl, rfl⟩ hd_kfinish ⟨Nat.le_of_ble_eq_true rfl, Nat.le_of_ble_eq_true rfl⟩ rfl hl.1 rfl (lv_room (Nat.le_of_ble_eq_true rfl)) dX8_cleared_48 (fun  g6 H6 k6 hp6 L6 => ?_)
      refine lv_aload_n hx hb dX8_cleared_51 rfl (lv_at hl 1 rfl) ?_
      obtain ⟨v7, ev7⟩ : ∃ y : Int32, y = g6 43 q1 := ⟨_, rfl⟩
      rcases (show v7.toInt < 0 ∨ 0 ≤ v7.toInt from (by omega)) with hc8 | hc8
      · skip
        have q9 : rg (-2147483648) (-1) v7 := ⟨(rg_any v7).1, by omega⟩
        refine c_geto (w := .null) x L6 1 q1 11 43 hq1 rfl rfl (by show va_rf (cOpt Z 1 (g6 43 q1)) = _; rw [← ev7, cOpt_none (by omega)]; rfl) (wk_in kf_X8_92) dX8_cleared_52 ?_
        refine lv_ifnullN (tgt := 70) hx hb dX8_cleared_55 (by decide) ?_
        exact hQ _ _ _ _ _ dX8_cleared_70 L6 ⟨(mFr.tr (mFr.tr (mFr.tr mFr.rf hF2 rfl) hF5 rfl) hp6.1 rfl), hp6.2.1, trivial⟩
      · skip
        have q10 : rg (0) (2147483647) v7 := ⟨by omega, (rg_any v7).2⟩
        have hd11 := (hp6.2.1.2.1 q1 hq1).2.1
        rw [← ev7] at hd11
        have al12 : Z.al 1 v7.toInt.toNat := hd11.resolve_left (by omega)
        refine c_geto (w := .ref (Z.ad 1 v7.toInt.toNat)) x L6 1 q1 11 43 hq1 rfl rfl (by show va_rf (cOpt Z 1 (g6 43 q1)) = _; rw [← ev7, cOpt_some (by omega)]; rfl) (wk_in kf_X8_92) dX8_cleared_52 ?_
        refine lv_ifnull hx hb dX8_cleared_55 ?_
        refine lv_aload_n hx hb dX8_cleared_58 rfl (lv_at hl 1 rfl) ?_
        have u13 : 0 ≤ v7.toInt := q10.1
        have hd14 := (hp6.2.1.2.1 q1 hq1).2.1
        rw [← ev7] at hd14
        have al15 : Z.al 1 v7.toInt.toNat := hd14.resolve_left (by omega)
        refine c_geto (w := .ref (Z.ad 1 v7.toInt.toNat)) x L6 1 q1 11 43 hq1 rfl rfl (by show va_rf (cOpt Z 1 (g6 43 q1)) = _; rw [← ev7, cOpt_some (by omega)]; rfl) (wk_in kf_X8_92) dX8_cleared_59 ?_
        refine lv_aload_n hx hb dX8_cleared_62 rfl (lv_at hl 2 rfl) ?_
        refine c_geti x L6 9 q2 7 295 hq2 rfl rfl (wk_in kf_X8_81) dX8_cleared_63 (fun v16 ev16 wv16 => ?_)
        have rv16 : rg (-2147483648) (2147483647) v16 := rg_any v16
        have uv16 : (-2147483648 : Int) ≤ v16.toInt ∧ v16.toInt ≤ 2147483647 := rv16
        have sv16 : v16.toInt = (g 295 q2).toInt := congrArg Int32.toInt (ev16.trans (congrFun ((show mFr [36, 40, 41, 42, 44, 45, 46, 48, 198, 832, 864] g g6 from (mFr.tr (mFr.tr (mFr.tr mFr.rf hF2 rfl) hF5 rfl) hp6.1 rfl)).at 295 rfl) _))
        refine lv_iload_n hx hb dX8_cleared_66 rfl (lv_at hl 3 rfl) ?_
        refine c_cv (As := [.int v16, .int p3]) (rest := []) x hml L6 1 v7.toInt.toNat al15 rfl (c_krelease l X g6 v7.toInt.toNat v16 p3 hX hp6.2.1 al15) (wk_V kd_X1_release kl_X8_96 ki_X1_release ks_X1_X1_release kn_X1) rfl ⟨rfl, rfl⟩ hd_krelease ⟨Nat.le_of_ble_eq_true rfl, Nat.le_of_ble_eq_true rfl⟩ rfl hl.1 rfl (lv_room (Nat.le_of_ble_eq_true rfl)) dX8_cleared_67 (fun  g17 H17 k17 hp17 L17 => ?_)
        exact hQ _ _ _ _ _ dX8_cleared_70 L17 ⟨(mFr.tr (mFr.tr (mFr.tr (mFr.tr mFr.rf hF2 rfl) hF5 rfl) hp6.1 rfl) hp17.1 rfl), hp17.2.1, trivial⟩
    refine lv_icmp_ne (tgt := 44) hx hb dX8_cleared_34 (by decide) (fun c34_18 => ?_) (fun c34_18 => ?_)
    · skip
      have ic34_18 : v3.toInt ≠ (11 : Int32).toInt := fun z => c34_18 (Int32.toInt_inj.mp z)
      have y19 : (11 : Int32).toInt = 11 := by decide
      refine lv_aload_n hx hb dX8_cleared_44 rfl (lv_at hl 2 rfl) ?_
      refine c_geti x L2 9 q2 7 295 hq2 rfl rfl (wk_in kf_X8_81) dX8_cleared_45 (fun v20 ev20 wv20 => ?_)
      have rv20 : rg (-2147483648) (2147483647) v20 := rg_any v20
      have uv20 : (-2147483648 : Int) ≤ v20.toInt ∧ v20.toInt ≤ 2147483647 := rv20
      have sv20 : v20.toInt = (g 295 q2).toInt := congrArg Int32.toInt (ev20.trans (congrFun ((show mFr [36, 40, 41, 42, 44, 45, 46, 48, 198, 832, 864] g g2 from (mFr.tr mFr.rf hF2 rfl)).at 295 rfl) _))
      exact j48_5 v20 g2 _ _ ls mFr.rf L2 hJ2 (rg_w rv20 rfl) (lv_sub hl [0, 1, 2, 3] rfl)
    · skip
      have ic34_18 := congrArg Int32.toInt c34_18
      have y21 : (11 : Int32).toInt = 11 := by decide
      have q22 : rg (11) (11) v3 := (rg_eq c34_18 rv3 kc_11).1
      have uq22 : (11 : Int) ≤ v3.toInt ∧ v3.toInt ≤ 11 := q22
      refine lv_aload_n hx hb dX8_cleared_37 rfl (lv_at hl 1 rfl) ?_
      refine c_geti x L2 1 q1 8 40 hq1 rfl rfl (wk_in kf_X8_87) dX8_cleared_38 (fun v23 ev23 wv23 => ?_)
      have rv23 : rg (-2147483648) (2147483647) v23 := rg_any v23
      have uv23 : (-2147483648 : Int) ≤ v23.toInt ∧ v23.toInt ≤ 2147483647 := rv23
      refine lv_goto (tgt := 48) hx hb dX8_cleared_41 (by decide) ?_
      exact j48_5 v23 g2 _ _ ls mFr.rf L2 hJ2 (rg_w rv23 rfl) (lv_sub hl [0, 1, 2, 3] rfl)
  refine lv_icmp_ne (tgt := 27) hx hb dX8_cleared_6 (by decide) (fun c6_24 => ?_) (fun c6_24 => ?_)
  · skip
    have ic6_24 : v1.toInt ≠ (77 : Int32).toInt := fun z => c6_24 (Int32.toInt_inj.mp z)
    have y25 : (77 : Int32).toInt = 77 := by decide
    exact j27_2  g _ _ ls mFr.rf L hJ (lv_sub hl [0, 1, 2, 3] rfl)
  · skip
    have ic6_24 := congrArg Int32.toInt c6_24
    have y26 : (77 : Int32).toInt = 77 := by decide
    have q27 : rg (77) (77) v1 := (rg_eq c6_24 rv1 kc_77).1
    have uq27 : (77 : Int) ≤ v1.toInt ∧ v1.toInt ≤ 77 := q27
    refine lv_aload_n hx hb dX8_cleared_9 rfl (lv_at hl 0 rfl) ?_
    refine lv_bipush (v := 90) hx hb dX8_cleared_10 (by decide) ?_
    refine lv_aload_n hx hb dX8_cleared_12 rfl (lv_at hl 1 rfl) ?_
    refine c_geti x L 1 q1 1 33 hq1 rfl rfl (wk_in kf_X8_38) dX8_cleared_13 (fun v28 ev28 wv28 => ?_)
    have rv28 : rg (-2147483648) (2147483647) v28 := rg_any v28
    have uv28 : (-2147483648 : Int) ≤ v28.toInt ∧ v28.toInt ≤ 2147483647 := rv28
    have sv28 : v28.toInt = (g 33 q1).toInt := congrArg Int32.toInt (ev28.trans (congrFun ((show mFr [36, 40, 41, 42, 44, 45, 46, 48, 198, 832, 864] g g from mFr.rf).at 33 rfl) _))
    refine lv_aload_n hx hb dX8_cleared_16 rfl (lv_at hl 1 rfl) ?_
    refine c_geti x L 1 q1 2 34 hq1 rfl rfl (wk_in kf_X8_41) dX8_cleared_17 (fun v29 ev29 wv29 => ?_)
    have rv29 : rg (0) (1) v29 := clj_34 wv29
    have uv29 : (0 : Int) ≤ v29.toInt ∧ v29.toInt ≤ 1 := rv29
    have sv29 : v29.toInt = (g 34 q1).toInt := congrArg Int32.toInt (ev29.trans (congrFun ((show mFr [36, 40, 41, 42, 44, 45, 46, 48, 198, 832, 864] g g from mFr.rf).at 34 rfl) _))
    refine lv_aload_n hx hb dX8_cleared_20 rfl (lv_at hl 2 rfl) ?_
    refine c_geti x L 9 q2 7 295 hq2 rfl rfl (wk_in kf_X8_81) dX8_cleared_21 (fun v30 ev30 wv30 => ?_)
    have rv30 : rg (-2147483648) (2147483647) v30 := rg_any v30
    have uv30 : (-2147483648 : Int) ≤ v30.toInt ∧ v30.toInt ≤ 2147483647 := rv30
    have sv30 : v30.toInt = (g 295 q2).toInt := congrArg Int32.toInt (ev30.trans (congrFun ((show mFr [36, 40, 41, 42, 44, 45, 46, 48, 198, 832, 864] g g from mFr.rf).at 295 rfl) _))
    refine c_cvU (n := 4) (owner := "CellSwitch$Side") (x0 := ⟨"CellSwitch$Side", "sayCause", "(IIZI)V"⟩) (As := [.int (90 : Int32), .int v28, .int v29, .int v30]) (rest := []) x hml L 4 i0 hal0 rfl (c_ksayCause_4 l X g i0 (90 : Int32) v28 v29 v30 hX (show i0 < Z.n from (by omega)) (rg_w rv29 rfl)) (wk_U kd_X8_sayCause kl_X8_70 km_CellSwitchSide_CellSwitchSide_sayCause ks_X4_CellSwitchSide_X8_sayCause ki_X8_sayCause kn_X8) rfl ⟨rfl, rfl⟩ rfl (by decide +kernel) ⟨Nat.le_of_ble_eq_true rfl, Nat.le_of_ble_eq_true rfl⟩ rfl hl.1 rfl (lv_room (Nat.le_of_ble_eq_true rfl)) dX8_cleared_24 (fun  g31 H31 k31 hp31 L31 => ?_)
    exact j27_2  g31 _ _ ls (mFr.tr mFr.rf hp31.1 rfl) L31 (cJ_fr hJ hp31.1 rfl) (lv_sub hl [0, 1, 2, 3] rfl)
theorem c_kcleared_4 (l : Launch) {G : cG} {Z : cZ} (X : Int) (g : mSt) (i0 : Nat) (q1 : Nat) (q2 : Nat) (p3 : Int32) (hX : 0 ≤ X ∧ X ≤ 2000000000) (hJ : cJ Z g) (hi0 : i0 < Z.n) (hq1 : Z.al 1 q1) (hq2 : Z.al 9 q2) : Met l yX8_cleared (wk (Cond.code yX8_cleared cX8_cleared 4 none)) rm_kcleared_4 (va_Pc [.ref (Z.ad 4 i0), .ref (Z.ad 1 q1), .ref (Z.ad 9 q2), .int p3] (cPre G Z X g)) (cQv G Z X (fun g1 => mFr [36, 40, 41, 42, 44, 45, 46, 48, 198, 832, 864] g g1 ∧ cJ Z g1 ∧ True)) 0 0 (cAd Z) := by
  refine Met.ofW (cc := cX8_cleared) (maxL := 4) (ret := none) (by decide) rfl ?_
  intro p e s m args below meth c s₁ B hml hv
  obtain ⟨rfl, hv⟩ := hv
  have hr := B.returns
  have hlocks := B.notSynchronized
  obtain ⟨x, L⟩ := c_start B rfl (fun w h => wk_in h) hv
  have hl := lv_entry ([.ref (Z.ad 4 i0), .ref (Z.ad 1 q1), .ref (Z.ad 9 q2), .int p3]) (n := 4) (Nat.le_of_ble_eq_true rfl)
  rw [lg_entry_eq]
  generalize (lg_sl ([.ref (Z.ad 4 i0), .ref (Z.ad 1 q1), .ref (Z.ad 9 q2), .int p3]) ++ List.replicate (4 - (lg_sl ([.ref (Z.ad 4 i0), .ref (Z.ad 1 q1), .ref (Z.ad 9 q2), .int p3])).length) Slot.unset).toArray = ls at hl ⊢
  exact w_kcleared_4 x hml L hX i0 q1 q2 p3 hJ hi0 hq1 hq2 hl (fun pc' ls' g1 H1 locs1 hdg L hp => c_vret x L hr hlocks (Int.le_refl _) hp hdg)

def rm_kcleared_10 : Room := { frames := 4, cells := 0, slots := 0, locals := 94 }
theorem hd_kcleared_10 : yX8_cleared.cls ≠ "java/lang/invoke/MethodHandle" ∧ yX8_cleared.cls ≠ "java/lang/invoke/VarHandle" ∧ (parseMethodDescriptor yX8_cleared.desc).map (fun d => d.parameters.length) = some 3 := by decide +kernel
set_option maxHeartbeats 4000000 in
set_option maxRecDepth 100000 in
theorem w_kcleared_10 {p : Program} {l : Launch} {e : Env} {s : State} {m : MethodId} {args : Array Value} {below : List Frame} {meth : Method} {c : Code} {H : Heap} {locs : List Loc} {Q : State → Prop} {ls : Array Slot} {G : cG} {Z : cZ} {A : Nat → Prop} {g : mSt} {H0 : Heap} {X : Int} (x : cX p c cX8_cleared s args (wk (Cond.code yX8_cleared cX8_cleared 4 none)) m G Z A RX8 H0) (hml : c.maxLocals = 4) (L : cL G Z A H0 X g H locs) (hX : 0 ≤ X ∧ X ≤ 2000000000) (i0 : Nat) (q1 : Nat) (q2 : Nat) (p3 : Int32) (hJ : cJ Z g) (hi0 : i0 < Z.n) (hq1 : Z.al 1 q1) (hq2 : Z.al 9 q2) (hl : lv_has ls 4 [(0, .ref (Z.ad 10 i0)), (1, .ref (Z.ad 1 q1)), (2, .ref (Z.ad 9 q2)), (3, .int p3)]) (hQ : ∀ (pc' : Nat) (ls' : Array Slot) (g1 : mSt) (H1 : Heap) (locs1 : List Loc), decode cX8_cleared pc' = .ok (.return_, 1) → cL G Z A H0 X g1 H1 locs1 → (mFr [36, 40, 41, 42, 44, 45, 46, 48, 198, 832, 864] g g1 ∧ cJ Z g1 ∧ True) → W p l e rm_kcleared_10 s m args below meth c H1 locs1 0 0 Q (F0 m pc' ls' [])) : W p l e rm_kcleared_10 s m args below meth c H locs 0 0 Q (F0 m 0 ls []) := by
  have hx := x.1
  have hb := x.2.1
  have hz := x.2.2.2.2.2.2.2.1
  have hzn := hz.1
  have hal0 : Z.al 10 i0 := hz.2 10 i0 (show i0 < Z.n from hi0)
  have up3 : (-2147483648 : Int) ≤ p3.toInt ∧ p3.toInt ≤ 2147483647 := (rg_any p3)
  refine lv_aload_n hx hb dX8_cleared_0 rfl (lv_at hl 2 rfl) ?_
  refine c_geti x L 9 q2 0 288 hq2 rfl rfl (wk_in kf_X8_63) dX8_cleared_1 (fun v1 ev1 wv1 => ?_)
  have rv1 : rg (-2147483648) (2147483647) v1 := rg_any v1
  have uv1 : (-2147483648 : Int) ≤ v1.toInt ∧ v1.toInt ≤ 2147483647 := rv1
  have sv1 : v1.toInt = (g 288 q2).toInt := congrArg Int32.toInt (ev1.trans (congrFun ((show mFr [36, 40, 41, 42, 44, 45, 46, 48, 198, 832, 864] g g from mFr.rf).at 288 rfl) _))
  refine lv_bipush (v := 77) hx hb dX8_cleared_4 (by decide) ?_
  have j27_2 : ∀ (g2 : mSt) (H2 : Heap) (k2 : List Loc) (ls : Array Slot), mFr [198, 832, 864] g g2 → cL G Z A H0 X g2 H2 k2 → cJ Z g2 → lv_has ls 4 [(0, .ref (Z.ad 10 i0)), (1, .ref (Z.ad 1 q1)), (2, .ref (Z.ad 9 q2)), (3, .int p3)] → W p l e rm_kcleared_10 s m args below meth c H2 k2 0 0 Q (F0 m 27 ls []) := by
    intro  g2 H2 k2 ls hF2 L2 hJ2  hl
    refine lv_aload_n hx hb dX8_cleared_27 rfl (lv_at hl 1 rfl) ?_
    refine lv_aload_n hx hb dX8_cleared_28 rfl (lv_at hl 1 rfl) ?_
    refine c_geti x L2 1 q1 4 36 hq1 rfl rfl (wk_in kf_X8_84) dX8_cleared_29 (fun v3 ev3 wv3 => ?_)
    have rv3 : rg (-2147483648) (2147483647) v3 := rg_any v3
    have uv3 : (-2147483648 : Int) ≤ v3.toInt ∧ v3.toInt ≤ 2147483647 := rv3
    refine lv_bipush (v := 11) hx hb dX8_cleared_32 (by decide) ?_
    have j48_5 : ∀ (b48_1_4 : Int32) (g5 : mSt) (H5 : Heap) (k5 : List Loc) (ls : Array Slot), mFr [] g2 g5 → cL G Z A H0 X g5 H5 k5 → cJ Z g5 → rg (-2147483648) (2147483647) b48_1_4 → lv_has ls 4 [(0, .ref (Z.ad 10 i0)), (1, .ref (Z.ad 1 q1)), (2, .ref (Z.ad 9 q2)), (3, .int p3)] → W p l e rm_kcleared_10 s m args below meth c H5 k5 0 0 Q (F0 m 48 ls [.int b48_1_4, .ref (Z.ad 1 q1)]) := by
      intro b48_1_4 g5 H5 k5 ls hF5 L5 hJ5 rb48_1_4 hl
      have ub48_1_4 : (-2147483648 : Int) ≤ b48_1_4.toInt ∧ b48_1_4.toInt ≤ 2147483647 := rb48_1_4
      refine c_cv (As := [.int b48_1_4]) (rest := []) x hml L5 1 q1 hq1 rfl (c_kfinish l X g5 q1 b48_1_4 hX hJ5 hq1) (wk_V kd_X1_finish kl_X8_88 ki_X1_finish ks_X1_X1_finish kn_X1) rfl ⟨rfl, rfl⟩ hd_kfinish ⟨Nat.le_of_ble_eq_true rfl, Nat.le_of_ble_eq_true rfl⟩ rfl hl.1 rfl (lv_room (Nat.le_of_ble_eq_true rfl)) dX8_cleared_48 (fun  g6 H6 k6 hp6 L6 => ?_)
      refine lv_aload_n hx hb dX8_cleared_51 rfl (lv_at hl 1 rfl) ?_
      obtain ⟨v7, ev7⟩ : ∃ y : Int32, y = g6 43 q1 := ⟨_, rfl⟩
      rcases (show v7.toInt < 0 ∨ 0 ≤ v7.toInt from (by omega)) with hc8 | hc8
      · skip
        have q9 : rg (-2147483648) (-1) v7 := ⟨(rg_any v7).1, by omega⟩
        refine c_geto (w := .null) x L6 1 q1 11 43 hq1 rfl rfl (by show va_rf (cOpt Z 1 (g6 43 q1)) = _; rw [← ev7, cOpt_none (by omega)]; rfl) (wk_in kf_X8_92) dX8_cleared_52 ?_
        refine lv_ifnullN (tgt := 70) hx hb dX8_cleared_55 (by decide) ?_
        exact hQ _ _ _ _ _ dX8_cleared_70 L6 ⟨(mFr.tr (mFr.tr (mFr.tr mFr.rf hF2 rfl) hF5 rfl) hp6.1 rfl), hp6.2.1, trivial⟩
      · skip
        have q10 : rg (0) (2147483647) v7 := ⟨by omega, (rg_any v7).2⟩
        have hd11 := (hp6.2.1.2.1 q1 hq1).2.1
        rw [← ev7] at hd11
        have al12 : Z.al 1 v7.toInt.toNat := hd11.resolve_left (by omega)
        refine c_geto (w := .ref (Z.ad 1 v7.toInt.toNat)) x L6 1 q1 11 43 hq1 rfl rfl (by show va_rf (cOpt Z 1 (g6 43 q1)) = _; rw [← ev7, cOpt_some (by omega)]; rfl) (wk_in kf_X8_92) dX8_cleared_52 ?_
        refine lv_ifnull hx hb dX8_cleared_55 ?_
        refine lv_aload_n hx hb dX8_cleared_58 rfl (lv_at hl 1 rfl) ?_
        have u13 : 0 ≤ v7.toInt := q10.1
        have hd14 := (hp6.2.1.2.1 q1 hq1).2.1
        rw [← ev7] at hd14
        have al15 : Z.al 1 v7.toInt.toNat := hd14.resolve_left (by omega)
        refine c_geto (w := .ref (Z.ad 1 v7.toInt.toNat)) x L6 1 q1 11 43 hq1 rfl rfl (by show va_rf (cOpt Z 1 (g6 43 q1)) = _; rw [← ev7, cOpt_some (by omega)]; rfl) (wk_in kf_X8_92) dX8_cleared_59 ?_
        refine lv_aload_n hx hb dX8_cleared_62 rfl (lv_at hl 2 rfl) ?_
        refine c_geti x L6 9 q2 7 295 hq2 rfl rfl (wk_in kf_X8_81) dX8_cleared_63 (fun v16 ev16 wv16 => ?_)
        have rv16 : rg (-2147483648) (2147483647) v16 := rg_any v16
        have uv16 : (-2147483648 : Int) ≤ v16.toInt ∧ v16.toInt ≤ 2147483647 := rv16
        have sv16 : v16.toInt = (g 295 q2).toInt := congrArg Int32.toInt (ev16.trans (congrFun ((show mFr [36, 40, 41, 42, 44, 45, 46, 48, 198, 832, 864] g g6 from (mFr.tr (mFr.tr (mFr.tr mFr.rf hF2 rfl) hF5 rfl) hp6.1 rfl)).at 295 rfl) _))
        refine lv_iload_n hx hb dX8_cleared_66 rfl (lv_at hl 3 rfl) ?_
        refine c_cv (As := [.int v16, .int p3]) (rest := []) x hml L6 1 v7.toInt.toNat al15 rfl (c_krelease l X g6 v7.toInt.toNat v16 p3 hX hp6.2.1 al15) (wk_V kd_X1_release kl_X8_96 ki_X1_release ks_X1_X1_release kn_X1) rfl ⟨rfl, rfl⟩ hd_krelease ⟨Nat.le_of_ble_eq_true rfl, Nat.le_of_ble_eq_true rfl⟩ rfl hl.1 rfl (lv_room (Nat.le_of_ble_eq_true rfl)) dX8_cleared_67 (fun  g17 H17 k17 hp17 L17 => ?_)
        exact hQ _ _ _ _ _ dX8_cleared_70 L17 ⟨(mFr.tr (mFr.tr (mFr.tr (mFr.tr mFr.rf hF2 rfl) hF5 rfl) hp6.1 rfl) hp17.1 rfl), hp17.2.1, trivial⟩
    refine lv_icmp_ne (tgt := 44) hx hb dX8_cleared_34 (by decide) (fun c34_18 => ?_) (fun c34_18 => ?_)
    · skip
      have ic34_18 : v3.toInt ≠ (11 : Int32).toInt := fun z => c34_18 (Int32.toInt_inj.mp z)
      have y19 : (11 : Int32).toInt = 11 := by decide
      refine lv_aload_n hx hb dX8_cleared_44 rfl (lv_at hl 2 rfl) ?_
      refine c_geti x L2 9 q2 7 295 hq2 rfl rfl (wk_in kf_X8_81) dX8_cleared_45 (fun v20 ev20 wv20 => ?_)
      have rv20 : rg (-2147483648) (2147483647) v20 := rg_any v20
      have uv20 : (-2147483648 : Int) ≤ v20.toInt ∧ v20.toInt ≤ 2147483647 := rv20
      have sv20 : v20.toInt = (g 295 q2).toInt := congrArg Int32.toInt (ev20.trans (congrFun ((show mFr [36, 40, 41, 42, 44, 45, 46, 48, 198, 832, 864] g g2 from (mFr.tr mFr.rf hF2 rfl)).at 295 rfl) _))
      exact j48_5 v20 g2 _ _ ls mFr.rf L2 hJ2 (rg_w rv20 rfl) (lv_sub hl [0, 1, 2, 3] rfl)
    · skip
      have ic34_18 := congrArg Int32.toInt c34_18
      have y21 : (11 : Int32).toInt = 11 := by decide
      have q22 : rg (11) (11) v3 := (rg_eq c34_18 rv3 kc_11).1
      have uq22 : (11 : Int) ≤ v3.toInt ∧ v3.toInt ≤ 11 := q22
      refine lv_aload_n hx hb dX8_cleared_37 rfl (lv_at hl 1 rfl) ?_
      refine c_geti x L2 1 q1 8 40 hq1 rfl rfl (wk_in kf_X8_87) dX8_cleared_38 (fun v23 ev23 wv23 => ?_)
      have rv23 : rg (-2147483648) (2147483647) v23 := rg_any v23
      have uv23 : (-2147483648 : Int) ≤ v23.toInt ∧ v23.toInt ≤ 2147483647 := rv23
      refine lv_goto (tgt := 48) hx hb dX8_cleared_41 (by decide) ?_
      exact j48_5 v23 g2 _ _ ls mFr.rf L2 hJ2 (rg_w rv23 rfl) (lv_sub hl [0, 1, 2, 3] rfl)
  refine lv_icmp_ne (tgt := 27) hx hb dX8_cleared_6 (by decide) (fun c6_24 => ?_) (fun c6_24 => ?_)
  · skip
    have ic6_24 : v1.toInt ≠ (77 : Int32).toInt := fun z => c6_24 (Int32.toInt_inj.mp z)
    have y25 : (77 : Int32).toInt = 77 := by decide
    exact j27_2  g _ _ ls mFr.rf L hJ (lv_sub hl [0, 1, 2, 3] rfl)
  · skip
    have ic6_24 := congrArg Int32.toInt c6_24
    have y26 : (77 : Int32).toInt = 77 := by decide
    have q27 : rg (77) (77) v1 := (rg_eq c6_24 rv1 kc_77).1
    have uq27 : (77 : Int) ≤ v1.toInt ∧ v1.toInt ≤ 77 := q27
    refine lv_aload_n hx hb dX8_cleared_9 rfl (lv_at hl 0 rfl) ?_
    refine lv_bipush (v := 90) hx hb dX8_cleared_10 (by decide) ?_
    refine lv_aload_n hx hb dX8_cleared_12 rfl (lv_at hl 1 rfl) ?_
    refine c_geti x L 1 q1 1 33 hq1 rfl rfl (wk_in kf_X8_38) dX8_cleared_13 (fun v28 ev28 wv28 => ?_)
    have rv28 : rg (-2147483648) (2147483647) v28 := rg_any v28
    have uv28 : (-2147483648 : Int) ≤ v28.toInt ∧ v28.toInt ≤ 2147483647 := rv28
    have sv28 : v28.toInt = (g 33 q1).toInt := congrArg Int32.toInt (ev28.trans (congrFun ((show mFr [36, 40, 41, 42, 44, 45, 46, 48, 198, 832, 864] g g from mFr.rf).at 33 rfl) _))
    refine lv_aload_n hx hb dX8_cleared_16 rfl (lv_at hl 1 rfl) ?_
    refine c_geti x L 1 q1 2 34 hq1 rfl rfl (wk_in kf_X8_41) dX8_cleared_17 (fun v29 ev29 wv29 => ?_)
    have rv29 : rg (0) (1) v29 := clj_34 wv29
    have uv29 : (0 : Int) ≤ v29.toInt ∧ v29.toInt ≤ 1 := rv29
    have sv29 : v29.toInt = (g 34 q1).toInt := congrArg Int32.toInt (ev29.trans (congrFun ((show mFr [36, 40, 41, 42, 44, 45, 46, 48, 198, 832, 864] g g from mFr.rf).at 34 rfl) _))
    refine lv_aload_n hx hb dX8_cleared_20 rfl (lv_at hl 2 rfl) ?_
    refine c_geti x L 9 q2 7 295 hq2 rfl rfl (wk_in kf_X8_81) dX8_cleared_21 (fun v30 ev30 wv30 => ?_)
    have rv30 : rg (-2147483648) (2147483647) v30 := rg_any v30
    have uv30 : (-2147483648 : Int) ≤ v30.toInt ∧ v30.toInt ≤ 2147483647 := rv30
    have sv30 : v30.toInt = (g 295 q2).toInt := congrArg Int32.toInt (ev30.trans (congrFun ((show mFr [36, 40, 41, 42, 44, 45, 46, 48, 198, 832, 864] g g from mFr.rf).at 295 rfl) _))
    refine c_cvU (n := 4) (owner := "CellSwitch$Side") (x0 := ⟨"CellSwitch$Side", "sayCause", "(IIZI)V"⟩) (As := [.int (90 : Int32), .int v28, .int v29, .int v30]) (rest := []) x hml L 10 i0 hal0 rfl (c_ksayCause_10 l X g i0 (90 : Int32) v28 v29 v30 hX (show i0 < Z.n from (by omega)) (rg_w rv29 rfl)) (wk_U kd_X8_sayCause kl_X8_70 km_CellSwitchSide_CellSwitchSide_sayCause ks_X10_CellSwitchSide_X8_sayCause ki_X8_sayCause kn_X8) rfl ⟨rfl, rfl⟩ rfl (by decide +kernel) ⟨Nat.le_of_ble_eq_true rfl, Nat.le_of_ble_eq_true rfl⟩ rfl hl.1 rfl (lv_room (Nat.le_of_ble_eq_true rfl)) dX8_cleared_24 (fun  g31 H31 k31 hp31 L31 => ?_)
    exact j27_2  g31 _ _ ls (mFr.tr mFr.rf hp31.1 rfl) L31 (cJ_fr hJ hp31.1 rfl) (lv_sub hl [0, 1, 2, 3] rfl)
theorem c_kcleared_10 (l : Launch) {G : cG} {Z : cZ} (X : Int) (g : mSt) (i0 : Nat) (q1 : Nat) (q2 : Nat) (p3 : Int32) (hX : 0 ≤ X ∧ X ≤ 2000000000) (hJ : cJ Z g) (hi0 : i0 < Z.n) (hq1 : Z.al 1 q1) (hq2 : Z.al 9 q2) : Met l yX8_cleared (wk (Cond.code yX8_cleared cX8_cleared 4 none)) rm_kcleared_10 (va_Pc [.ref (Z.ad 10 i0), .ref (Z.ad 1 q1), .ref (Z.ad 9 q2), .int p3] (cPre G Z X g)) (cQv G Z X (fun g1 => mFr [36, 40, 41, 42, 44, 45, 46, 48, 198, 832, 864] g g1 ∧ cJ Z g1 ∧ True)) 0 0 (cAd Z) := by
  refine Met.ofW (cc := cX8_cleared) (maxL := 4) (ret := none) (by decide) rfl ?_
  intro p e s m args below meth c s₁ B hml hv
  obtain ⟨rfl, hv⟩ := hv
  have hr := B.returns
  have hlocks := B.notSynchronized
  obtain ⟨x, L⟩ := c_start B rfl (fun w h => wk_in h) hv
  have hl := lv_entry ([.ref (Z.ad 10 i0), .ref (Z.ad 1 q1), .ref (Z.ad 9 q2), .int p3]) (n := 4) (Nat.le_of_ble_eq_true rfl)
  rw [lg_entry_eq]
  generalize (lg_sl ([.ref (Z.ad 10 i0), .ref (Z.ad 1 q1), .ref (Z.ad 9 q2), .int p3]) ++ List.replicate (4 - (lg_sl ([.ref (Z.ad 10 i0), .ref (Z.ad 1 q1), .ref (Z.ad 9 q2), .int p3])).length) Slot.unset).toArray = ls at hl ⊢
  exact w_kcleared_10 x hml L hX i0 q1 q2 p3 hJ hi0 hq1 hq2 hl (fun pc' ls' g1 H1 locs1 hdg L hp => c_vret x L hr hlocks (Int.le_refl _) hp hdg)

def rm_kprogress_10 : Room := { frames := 2, cells := 0, slots := 0, locals := 48 }
theorem hd_kprogress_10 : yX10_progress.cls = cRn 10 ∧ yX10_progress.cls ≠ "java/lang/invoke/MethodHandle" ∧ yX10_progress.cls ≠ "java/lang/invoke/VarHandle" ∧ (parseMethodDescriptor yX10_progress.desc).map (fun d => d.parameters.length) = some 3 := by decide +kernel
set_option maxHeartbeats 4000000 in
set_option maxRecDepth 100000 in
theorem w_kprogress_10 {p : Program} {l : Launch} {e : Env} {s : State} {m : MethodId} {args : Array Value} {below : List Frame} {meth : Method} {c : Code} {H : Heap} {locs : List Loc} {Q : State → Prop} {ls : Array Slot} {G : cG} {Z : cZ} {A : Nat → Prop} {g : mSt} {H0 : Heap} {X : Int} (x : cX p c cX10_progress s args (wk (Cond.code yX10_progress cX10_progress 6 none)) m G Z A RX10 H0) (hml : c.maxLocals = 6) (L : cL G Z A H0 X g H locs) (hX : 0 ≤ X ∧ X ≤ 2000000000) (i0 : Nat) (q1 : Nat) (q2 : Nat) (p3 : Int32) (hJ : cJ Z g) (hi0 : i0 < Z.n) (hq1 : Z.al 1 q1) (hq2 : Z.al 9 q2) (hl : lv_has ls 6 [(0, .ref (Z.ad 10 i0)), (1, .ref (Z.ad 1 q1)), (2, .ref (Z.ad 9 q2)), (3, .int p3)]) (hQ : ∀ (pc' : Nat) (ls' : Array Slot) (g1 : mSt) (H1 : Heap) (locs1 : List Loc), decode cX10_progress pc' = .ok (.return_, 1) → cL G Z A H0 X g1 H1 locs1 → (mFr [36, 41, 42, 44, 45, 46, 48, 198, 832, 864] g g1 ∧ cJ Z g1 ∧ True) → W p l e rm_kprogress_10 s m args below meth c H1 locs1 0 0 Q (F0 m pc' ls' [])) : W p l e rm_kprogress_10 s m args below meth c H locs 0 0 Q (F0 m 0 ls []) := by
  have hx := x.1
  have hb := x.2.1
  have hz := x.2.2.2.2.2.2.2.1
  have hzn := hz.1
  have hal0 : Z.al 10 i0 := hz.2 10 i0 (show i0 < Z.n from hi0)
  have up3 : (-2147483648 : Int) ≤ p3.toInt ∧ p3.toInt ≤ 2147483647 := (rg_any p3)
  refine lv_aload_n hx hb dX10_progress_0 rfl (lv_at hl 2 rfl) ?_
  refine c_geti x L 9 q2 0 288 hq2 rfl rfl (wk_in kf_X10_143) dX10_progress_1 (fun v1 ev1 wv1 => ?_)
  have rv1 : rg (-2147483648) (2147483647) v1 := rg_any v1
  have uv1 : (-2147483648 : Int) ≤ v1.toInt ∧ v1.toInt ≤ 2147483647 := rv1
  have sv1 : v1.toInt = (g 288 q2).toInt := congrArg Int32.toInt (ev1.trans (congrFun ((show mFr [36, 41, 42, 44, 45, 46, 48, 198, 832, 864] g g from mFr.rf).at 288 rfl) _))
  refine lv_bipush (v := 7) hx hb dX10_progress_4 (by decide) ?_
  have j32_3 : ∀ (b32_0_2 : Int32) (g3 : mSt) (H3 : Heap) (k3 : List Loc) (ls : Array Slot), mFr [] g g3 → cL G Z A H0 X g3 H3 k3 → cJ Z g3 → rg (0) (1) b32_0_2 → lv_has ls 6 [(0, .ref (Z.ad 10 i0)), (1, .ref (Z.ad 1 q1)), (2, .ref (Z.ad 9 q2)), (3, .int p3)] → W p l e rm_kprogress_10 s m args below meth c H3 k3 0 0 Q (F0 m 32 ls [.int b32_0_2]) := by
    intro b32_0_2 g3 H3 k3 ls hF3 L3 hJ3 rb32_0_2 hl
    have ub32_0_2 : (0 : Int) ≤ b32_0_2.toInt ∧ b32_0_2.toInt ≤ 1 := rb32_0_2
    refine lv_istore (lv' := [(4, .int b32_0_2), (0, .ref (Z.ad 10 i0)), (1, .ref (Z.ad 1 q1)), (2, .ref (Z.ad 9 q2)), (3, .int p3)]) hx hb dX10_progress_32 hl (by decide) rfl (fun ls hl => ?_)
    refine lv_aload_n hx hb dX10_progress_34 rfl (lv_at hl 3 rfl) ?_
    refine c_geti x L3 9 q2 0 288 hq2 rfl rfl (wk_in kf_X10_143) dX10_progress_35 (fun v4 ev4 wv4 => ?_)
    refine m_top (((mm_fr ev1 hF3 rfl)).trans ev4.symm) ?_
    refine lv_iconst (v := 2) hx hb dX10_progress_38 (by decide) ?_
    have j116_5 : ∀ (g5 : mSt) (H5 : Heap) (k5 : List Loc) (ls : Array Slot), mFr [36, 41, 42, 44, 45, 46, 48, 198, 832, 864] g3 g5 → cL G Z A H0 X g5 H5 k5 → cJ Z g5 → lv_has ls 6 [(0, .ref (Z.ad 10 i0))] → W p l e rm_kprogress_10 s m args below meth c H5 k5 0 0 Q (F0 m 116 ls []) := by
      intro  g5 H5 k5 ls hF5 L5 hJ5  hl
      exact hQ _ _ _ _ _ dX10_progress_116 L5 ⟨(mFr.tr (mFr.tr mFr.rf hF3 rfl) hF5 rfl), hJ5, trivial⟩
    have j64_6 : ∀ (g6 : mSt) (H6 : Heap) (k6 : List Loc) (ls : Array Slot), mFr [] g3 g6 → cL G Z A H0 X g6 H6 k6 → cJ Z g6 → lv_has ls 6 [(0, .ref (Z.ad 10 i0)), (1, .ref (Z.ad 1 q1)), (4, .int b32_0_2)] → W p l e rm_kprogress_10 s m args below meth c H6 k6 0 0 Q (F0 m 64 ls []) := by
      intro  g6 H6 k6 ls hF6 L6 hJ6  hl
      refine lv_iload hx hb dX10_progress_64 (lv_at hl 2 rfl) ?_
      refine lv_if_eq (tgt := 116) hx hb dX10_progress_66 (by decide) (fun c66_7 => ?_) (fun c66_7 => ?_)
      · skip
        have ic66_7 := congrArg Int32.toInt c66_7
        have y8 : (0 : Int32).toInt = 0 := by decide
        have q9 : rg (0) (0) b32_0_2 := (rg_eq c66_7 rb32_0_2 kc_0).1
        have uq9 : (0 : Int) ≤ b32_0_2.toInt ∧ b32_0_2.toInt ≤ 0 := q9
        exact j116_5  g6 _ _ ls (mFr.tr mFr.rf hF6 rfl) L6 hJ6 (lv_sub hl [0] rfl)
      · skip
        have ic66_7 : b32_0_2.toInt ≠ (0 : Int32).toInt := fun z => c66_7 (Int32.toInt_inj.mp z)
        have y10 : (0 : Int32).toInt = 0 := by decide
        have q11 : rg (1) (1) b32_0_2 := rg_neL c66_7 rb32_0_2 kc_0
        have uq11 : (1 : Int) ≤ b32_0_2.toInt ∧ b32_0_2.toInt ≤ 1 := q11
        refine lv_aload_n hx hb dX10_progress_69 rfl (lv_at hl 1 rfl) ?_
        obtain ⟨v12, ev12⟩ : ∃ y : Int32, y = g6 43 q1 := ⟨_, rfl⟩
        rcases (show v12.toInt < 0 ∨ 0 ≤ v12.toInt from (by omega)) with hc13 | hc13
        · skip
          have q14 : rg (-2147483648) (-1) v12 := ⟨(rg_any v12).1, by omega⟩
          refine c_geto (w := .null) x L6 1 q1 11 43 hq1 rfl rfl (by show va_rf (cOpt Z 1 (g6 43 q1)) = _; rw [← ev12, cOpt_none (by omega)]; rfl) (wk_in kf_X10_42) dX10_progress_70 ?_
          refine lv_ifnullN (tgt := 116) hx hb dX10_progress_73 (by decide) ?_
          exact j116_5  g6 _ _ ls (mFr.tr mFr.rf hF6 rfl) L6 hJ6 (lv_sub hl [0] rfl)
        · skip
          have q15 : rg (0) (2147483647) v12 := ⟨by omega, (rg_any v12).2⟩
          have hd16 := (hJ6.2.1 q1 hq1).2.1
          rw [← ev12] at hd16
          have al17 : Z.al 1 v12.toInt.toNat := hd16.resolve_left (by omega)
          refine c_geto (w := .ref (Z.ad 1 v12.toInt.toNat)) x L6 1 q1 11 43 hq1 rfl rfl (by show va_rf (cOpt Z 1 (g6 43 q1)) = _; rw [← ev12, cOpt_some (by omega)]; rfl) (wk_in kf_X10_42) dX10_progress_70 ?_
          refine lv_ifnull hx hb dX10_progress_73 ?_
          refine lv_aload_n hx hb dX10_progress_76 rfl (lv_at hl 1 rfl) ?_
          have u18 : 0 ≤ v12.toInt := q15.1
          have hd19 := (hJ6.2.1 q1 hq1).2.1
          rw [← ev12] at hd19
          have al20 : Z.al 1 v12.toInt.toNat := hd19.resolve_left (by omega)
          refine c_geto (w := .ref (Z.ad 1 v12.toInt.toNat)) x L6 1 q1 11 43 hq1 rfl rfl (by show va_rf (cOpt Z 1 (g6 43 q1)) = _; rw [← ev12, cOpt_some (by omega)]; rfl) (wk_in kf_X10_42) dX10_progress_77 ?_
          refine lv_astore (lv' := [(5, .ref (Z.ad 1 v12.toInt.toNat)), (0, .ref (Z.ad 10 i0)), (1, .ref (Z.ad 1 q1)), (4, .int b32_0_2)]) hx hb dX10_progress_80 hl (by decide) rfl (fun ls hl => ?_)
          refine lv_aload_n hx hb dX10_progress_82 rfl (lv_at hl 2 rfl) ?_
          refine lv_bipush (v := 10) hx hb dX10_progress_83 (by decide) ?_
          refine lv_iconst (v := 0) hx hb dX10_progress_85 (by decide) ?_
          refine c_cv (As := [.int (10 : Int32), .int (0 : Int32)]) (rest := []) x hml L6 1 q1 hq1 rfl (c_kenter l X g6 q1 (10 : Int32) (0 : Int32) hX hJ6 hq1) (wk_V kd_X1_enter kl_X10_104 ki_X1_enter ks_X1_X1_enter kn_X1) rfl ⟨rfl, rfl⟩ hd_kenter ⟨Nat.le_of_ble_eq_true rfl, Nat.le_of_ble_eq_true rfl⟩ rfl hl.1 rfl (lv_room (Nat.le_of_ble_eq_true rfl)) dX10_progress_86 (fun  g21 H21 k21 hp21 L21 => ?_)
          refine lv_aload hx hb dX10_progress_89 (lv_at hl 0 rfl) ?_
          refine lv_bipush (v := 10) hx hb dX10_progress_91 (by decide) ?_
          refine lv_iconst (v := 0) hx hb dX10_progress_93 (by decide) ?_
          refine c_cv (As := [.int (10 : Int32), .int (0 : Int32)]) (rest := []) x hml L21 1 v12.toInt.toNat al20 rfl (c_kenter l X g21 v12.toInt.toNat (10 : Int32) (0 : Int32) hX hp21.2.1 al20) (wk_V kd_X1_enter kl_X10_104 ki_X1_enter ks_X1_X1_enter kn_X1) rfl ⟨rfl, rfl⟩ hd_kenter ⟨Nat.le_of_ble_eq_true rfl, Nat.le_of_ble_eq_true rfl⟩ rfl hl.1 rfl (lv_room (Nat.le_of_ble_eq_true rfl)) dX10_progress_94 (fun  g22 H22 k22 hp22 L22 => ?_)
          refine lv_aload_n hx hb dX10_progress_97 rfl (lv_at hl 1 rfl) ?_
          refine lv_bipush (v := 15) hx hb dX10_progress_98 (by decide) ?_
          refine lv_aload_n hx hb dX10_progress_100 rfl (lv_at hl 2 rfl) ?_
          refine c_cvU (n := 2) (owner := "CellSwitch$Side") (x0 := ⟨"CellSwitch$SwitchSide", "sayPlain", "(ILCellSwitch$Call;)V"⟩) (As := [.int (15 : Int32), .ref (Z.ad 1 q1)]) (rest := []) x hml L22 10 i0 hal0 rfl (c_ksayPlain_10 l X g22 i0 (15 : Int32) q1 hX (show i0 < Z.n from (by omega)) hq1) (wk_U kd_X8_sayPlain kl_X10_146 km_CellSwitchSwitchSide_CellSwitchSide_sayPlain ks_X10_CellSwitchSwitchSide_X8_sayPlain ki_X8_sayPlain kn_X8) rfl ⟨rfl, rfl⟩ rfl (by decide +kernel) ⟨Nat.le_of_ble_eq_true rfl, Nat.le_of_ble_eq_true rfl⟩ rfl hl.1 rfl (lv_room (Nat.le_of_ble_eq_true rfl)) dX10_progress_101 (fun  g23 H23 k23 hp23 L23 => ?_)
          refine lv_aload hx hb dX10_progress_104 (lv_at hl 0 rfl) ?_
          obtain ⟨v24, ev24⟩ : ∃ y : Int32, y = g23 32 v12.toInt.toNat := ⟨_, rfl⟩
          have hsv24 := ((cJ_fr hp22.2.1 hp23.1 rfl).2.1 v12.toInt.toNat al20).1
          rw [← ev24] at hsv24
          rcases Nat.lt_or_ge v24.toInt.toNat Z.n with hc25 | hc25
          · skip
            have al26 : Z.al 4 v24.toInt.toNat := hz.2 4 v24.toInt.toNat (show v24.toInt.toNat < Z.n from (by omega))
            refine c_geto (w := .ref (Z.ad 4 v24.toInt.toNat)) x L23 1 v12.toInt.toNat 0 32 al20 rfl rfl (by show va_rf (some (cSd Z (g23 32 v12.toInt.toNat).toInt.toNat)) = _; rw [← ev24]; unfold cSd; rw [if_pos hc25]; rfl) (wk_in kf_X10_57) dX10_progress_106 ?_
            refine lv_bipush (v := 7) hx hb dX10_progress_109 (by decide) ?_
            refine lv_aload hx hb dX10_progress_111 (lv_at hl 0 rfl) ?_
            refine c_cvU (n := 2) (owner := "CellSwitch$Side") (x0 := ⟨"CellSwitch$Side", "sayPlain", "(ILCellSwitch$Call;)V"⟩) (As := [.int (7 : Int32), .ref (Z.ad 1 v12.toInt.toNat)]) (rest := []) x hml L23 4 v24.toInt.toNat al26 rfl (c_ksayPlain_4 l X g23 v24.toInt.toNat (7 : Int32) v12.toInt.toNat hX (show v24.toInt.toNat < Z.n from (by omega)) al20) (wk_U kd_X8_sayPlain kl_X10_150 km_CellSwitchSide_CellSwitchSide_sayPlain ks_X4_CellSwitchSide_X8_sayPlain ki_X8_sayPlain kn_X8) rfl ⟨rfl, rfl⟩ rfl (by decide +kernel) ⟨Nat.le_of_ble_eq_true rfl, Nat.le_of_ble_eq_true rfl⟩ rfl hl.1 rfl (lv_room (Nat.le_of_ble_eq_true rfl)) dX10_progress_113 (fun  g28 H28 k28 hp28 L28 => ?_)
            exact j116_5  g28 _ _ ls (mFr.tr (mFr.tr (mFr.tr (mFr.tr (mFr.tr mFr.rf hF6 rfl) hp21.1 rfl) hp22.1 rfl) hp23.1 rfl) hp28.1 rfl) L28 (cJ_fr (cJ_fr hp22.2.1 hp23.1 rfl) hp28.1 rfl) (lv_sub hl [1] rfl)
          · skip
            have al27 : Z.al 10 (v24.toInt.toNat - Z.n) := hz.2 10 (v24.toInt.toNat - Z.n) (show (v24.toInt.toNat - Z.n) < Z.n from (by omega))
            refine c_geto (w := .ref (Z.ad 10 (v24.toInt.toNat - Z.n))) x L23 1 v12.toInt.toNat 0 32 al20 rfl rfl (by show va_rf (some (cSd Z (g23 32 v12.toInt.toNat).toInt.toNat)) = _; rw [← ev24]; unfold cSd; rw [if_neg (Nat.not_lt.mpr hc25)]; rfl) (wk_in kf_X10_57) dX10_progress_106 ?_
            refine lv_bipush (v := 7) hx hb dX10_progress_109 (by decide) ?_
            refine lv_aload hx hb dX10_progress_111 (lv_at hl 0 rfl) ?_
            refine c_cvU (n := 2) (owner := "CellSwitch$Side") (x0 := ⟨"CellSwitch$Side", "sayPlain", "(ILCellSwitch$Call;)V"⟩) (As := [.int (7 : Int32), .ref (Z.ad 1 v12.toInt.toNat)]) (rest := []) x hml L23 10 (v24.toInt.toNat - Z.n) al27 rfl (c_ksayPlain_10 l X g23 (v24.toInt.toNat - Z.n) (7 : Int32) v12.toInt.toNat hX (show (v24.toInt.toNat - Z.n) < Z.n from (by omega)) al20) (wk_U kd_X8_sayPlain kl_X10_150 km_CellSwitchSide_CellSwitchSide_sayPlain ks_X10_CellSwitchSide_X8_sayPlain ki_X8_sayPlain kn_X8) rfl ⟨rfl, rfl⟩ rfl (by decide +kernel) ⟨Nat.le_of_ble_eq_true rfl, Nat.le_of_ble_eq_true rfl⟩ rfl hl.1 rfl (lv_room (Nat.le_of_ble_eq_true rfl)) dX10_progress_113 (fun  g29 H29 k29 hp29 L29 => ?_)
            exact j116_5  g29 _ _ ls (mFr.tr (mFr.tr (mFr.tr (mFr.tr (mFr.tr mFr.rf hF6 rfl) hp21.1 rfl) hp22.1 rfl) hp23.1 rfl) hp29.1 rfl) L29 (cJ_fr (cJ_fr hp22.2.1 hp23.1 rfl) hp29.1 rfl) (lv_sub hl [1] rfl)
    refine lv_icmp_ne (tgt := 64) hx hb dX10_progress_39 (by decide) (fun c39_30 => ?_) (fun c39_30 => ?_)
    · skip
      have ic39_30 : v1.toInt ≠ (2 : Int32).toInt := fun z => c39_30 (Int32.toInt_inj.mp z)
      have y31 : (2 : Int32).toInt = 2 := by decide
      exact j64_6  g3 _ _ ls mFr.rf L3 hJ3 (lv_sub hl [1, 2, 0] rfl)
    · skip
      have ic39_30 := congrArg Int32.toInt c39_30
      have y32 : (2 : Int32).toInt = 2 := by decide
      have q33 : rg (2) (2) v1 := (rg_eq c39_30 rv1 kc_2).1
      have uq33 : (2 : Int) ≤ v1.toInt ∧ v1.toInt ≤ 2 := q33
      refine lv_aload_n hx hb dX10_progress_42 rfl (lv_at hl 2 rfl) ?_
      refine c_geti x L3 1 q1 4 36 hq1 rfl rfl (wk_in kf_X10_39) dX10_progress_43 (fun v34 ev34 wv34 => ?_)
      have rv34 : rg (-2147483648) (2147483647) v34 := rg_any v34
      have uv34 : (-2147483648 : Int) ≤ v34.toInt ∧ v34.toInt ≤ 2147483647 := rv34
      refine lv_bipush (v := 6) hx hb dX10_progress_46 (by decide) ?_
      refine lv_icmp_ne (tgt := 64) hx hb dX10_progress_48 (by decide) (fun c48_35 => ?_) (fun c48_35 => ?_)
      · skip
        have ic48_35 : v34.toInt ≠ (6 : Int32).toInt := fun z => c48_35 (Int32.toInt_inj.mp z)
        have y36 : (6 : Int32).toInt = 6 := by decide
        exact j64_6  g3 _ _ ls mFr.rf L3 hJ3 (lv_sub hl [1, 2, 0] rfl)
      · skip
        have ic48_35 := congrArg Int32.toInt c48_35
        have y37 : (6 : Int32).toInt = 6 := by decide
        have q38 : rg (6) (6) v34 := (rg_eq c48_35 rv34 kc_6).1
        have uq38 : (6 : Int) ≤ v34.toInt ∧ v34.toInt ≤ 6 := q38
        refine lv_aload_n hx hb dX10_progress_51 rfl (lv_at hl 2 rfl) ?_
        refine lv_bipush (v := 9) hx hb dX10_progress_52 (by decide) ?_
        refine lv_iload_n hx hb dX10_progress_54 rfl (lv_at hl 4 rfl) ?_
        refine lv_bipush (v := 40) hx hb dX10_progress_55 (by decide) ?_
        refine lv_iadd hx hb dX10_progress_57 ?_
        refine lv_topi (fun v39 ev39 => ?_)
        have rv39 : rg (-2147483648) (2147483647) v39 := rg_any v39
        have uv39 : (-2147483648 : Int) ≤ v39.toInt ∧ v39.toInt ≤ 2147483647 := rv39
        refine c_cv (As := [.int (9 : Int32), .int v39]) (rest := []) x hml L3 1 q1 hq1 rfl (c_kenter l X g3 q1 (9 : Int32) v39 hX hJ3 hq1) (wk_V kd_X1_enter kl_X10_104 ki_X1_enter ks_X1_X1_enter kn_X1) rfl ⟨rfl, rfl⟩ hd_kenter ⟨Nat.le_of_ble_eq_true rfl, Nat.le_of_ble_eq_true rfl⟩ rfl hl.1 rfl (lv_room (Nat.le_of_ble_eq_true rfl)) dX10_progress_58 (fun  g40 H40 k40 hp40 L40 => ?_)
        refine lv_goto (tgt := 116) hx hb dX10_progress_61 (by decide) ?_
        exact j116_5  g40 _ _ ls (mFr.tr mFr.rf hp40.1 rfl) L40 hp40.2.1 (lv_sub hl [1] rfl)
  have j31_41 : ∀ (g41 : mSt) (H41 : Heap) (k41 : List Loc) (ls : Array Slot), mFr [] g g41 → cL G Z A H0 X g41 H41 k41 → cJ Z g41 → lv_has ls 6 [(0, .ref (Z.ad 10 i0)), (1, .ref (Z.ad 1 q1)), (2, .ref (Z.ad 9 q2)), (3, .int p3)] → W p l e rm_kprogress_10 s m args below meth c H41 k41 0 0 Q (F0 m 31 ls []) := by
    intro  g41 H41 k41 ls hF41 L41 hJ41  hl
    refine lv_iconst (v := 0) hx hb dX10_progress_31 (by decide) ?_
    have y42 : (0 : Int32).toInt = 0 := by decide
    exact j32_3 (0 : Int32) g41 _ _ ls (mFr.tr mFr.rf hF41 rfl) L41 hJ41 (rg_w kc_0 rfl) (lv_sub hl [0, 1, 2, 3] rfl)
  refine lv_icmp_ne (tgt := 31) hx hb dX10_progress_6 (by decide) (fun c6_43 => ?_) (fun c6_43 => ?_)
  · skip
    have ic6_43 : v1.toInt ≠ (7 : Int32).toInt := fun z => c6_43 (Int32.toInt_inj.mp z)
    have y44 : (7 : Int32).toInt = 7 := by decide
    exact j31_41  g _ _ ls mFr.rf L hJ (lv_sub hl [0, 1, 2, 3] rfl)
  · skip
    have ic6_43 := congrArg Int32.toInt c6_43
    have y45 : (7 : Int32).toInt = 7 := by decide
    have q46 : rg (7) (7) v1 := (rg_eq c6_43 rv1 kc_7).1
    have uq46 : (7 : Int) ≤ v1.toInt ∧ v1.toInt ≤ 7 := q46
    refine lv_aload_n hx hb dX10_progress_9 rfl (lv_at hl 1 rfl) ?_
    refine c_geti x L 1 q1 4 36 hq1 rfl rfl (wk_in kf_X10_39) dX10_progress_10 (fun v47 ev47 wv47 => ?_)
    have rv47 : rg (-2147483648) (2147483647) v47 := rg_any v47
    have uv47 : (-2147483648 : Int) ≤ v47.toInt ∧ v47.toInt ≤ 2147483647 := rv47
    have sv47 := congrArg Int32.toInt ev47
    refine lv_bipush (v := 6) hx hb dX10_progress_13 (by decide) ?_
    have j27_48 : ∀ (g48 : mSt) (H48 : Heap) (k48 : List Loc) (ls : Array Slot), mFr [] g g48 → cL G Z A H0 X g48 H48 k48 → cJ Z g48 → lv_has ls 6 [(0, .ref (Z.ad 10 i0)), (1, .ref (Z.ad 1 q1)), (2, .ref (Z.ad 9 q2)), (3, .int p3)] → W p l e rm_kprogress_10 s m args below meth c H48 k48 0 0 Q (F0 m 27 ls []) := by
      intro  g48 H48 k48 ls hF48 L48 hJ48  hl
      refine lv_iconst (v := 1) hx hb dX10_progress_27 (by decide) ?_
      refine lv_goto (tgt := 32) hx hb dX10_progress_28 (by decide) ?_
      have y49 : (1 : Int32).toInt = 1 := by decide
      exact j32_3 (1 : Int32) g48 _ _ ls (mFr.tr mFr.rf hF48 rfl) L48 hJ48 (rg_w kc_1 rfl) (lv_sub hl [0, 1, 2, 3] rfl)
    refine lv_icmp_eq (tgt := 27) hx hb dX10_progress_15 (by decide) (fun c15_50 => ?_) (fun c15_50 => ?_)
    · skip
      have ic15_50 := congrArg Int32.toInt c15_50
      have y51 : (6 : Int32).toInt = 6 := by decide
      have q52 : rg (6) (6) v47 := (rg_eq c15_50 rv47 kc_6).1
      have uq52 : (6 : Int) ≤ v47.toInt ∧ v47.toInt ≤ 6 := q52
      exact j27_48  g _ _ ls mFr.rf L hJ (lv_sub hl [0, 1, 2, 3] rfl)
    · skip
      have ic15_50 : v47.toInt ≠ (6 : Int32).toInt := fun z => c15_50 (Int32.toInt_inj.mp z)
      have y53 : (6 : Int32).toInt = 6 := by decide
      refine lv_aload_n hx hb dX10_progress_18 rfl (lv_at hl 1 rfl) ?_
      refine c_geti x L 1 q1 4 36 hq1 rfl rfl (wk_in kf_X10_39) dX10_progress_19 (fun v54 ev54 wv54 => ?_)
      refine m_top ((ev47).trans ev54.symm) ?_
      refine lv_bipush (v := 9) hx hb dX10_progress_22 (by decide) ?_
      refine lv_icmp_ne (tgt := 31) hx hb dX10_progress_24 (by decide) (fun c24_55 => ?_) (fun c24_55 => ?_)
      · skip
        have ic24_55 : v47.toInt ≠ (9 : Int32).toInt := fun z => c24_55 (Int32.toInt_inj.mp z)
        have y56 : (9 : Int32).toInt = 9 := by decide
        exact j31_41  g _ _ ls mFr.rf L hJ (lv_sub hl [0, 1, 2, 3] rfl)
      · skip
        have ic24_55 := congrArg Int32.toInt c24_55
        have y57 : (9 : Int32).toInt = 9 := by decide
        have q58 : rg (9) (9) v47 := (rg_eq c24_55 rv47 kc_9).1
        have uq58 : (9 : Int) ≤ v47.toInt ∧ v47.toInt ≤ 9 := q58
        exact j27_48  g _ _ ls mFr.rf L hJ (lv_sub hl [0, 1, 2, 3] rfl)
theorem c_kprogress_10 (l : Launch) {G : cG} {Z : cZ} (X : Int) (g : mSt) (i0 : Nat) (q1 : Nat) (q2 : Nat) (p3 : Int32) (hX : 0 ≤ X ∧ X ≤ 2000000000) (hJ : cJ Z g) (hi0 : i0 < Z.n) (hq1 : Z.al 1 q1) (hq2 : Z.al 9 q2) : Met l yX10_progress (wk (Cond.code yX10_progress cX10_progress 6 none)) rm_kprogress_10 (va_Pc [.ref (Z.ad 10 i0), .ref (Z.ad 1 q1), .ref (Z.ad 9 q2), .int p3] (cPre G Z X g)) (cQv G Z X (fun g1 => mFr [36, 41, 42, 44, 45, 46, 48, 198, 832, 864] g g1 ∧ cJ Z g1 ∧ True)) 0 0 (cAd Z) := by
  refine Met.ofW (cc := cX10_progress) (maxL := 6) (ret := none) (by decide) rfl ?_
  intro p e s m args below meth c s₁ B hml hv
  obtain ⟨rfl, hv⟩ := hv
  have hr := B.returns
  have hlocks := B.notSynchronized
  obtain ⟨x, L⟩ := c_start B rfl (fun w h => wk_in h) hv
  have hl := lv_entry ([.ref (Z.ad 10 i0), .ref (Z.ad 1 q1), .ref (Z.ad 9 q2), .int p3]) (n := 6) (Nat.le_of_ble_eq_true rfl)
  rw [lg_entry_eq]
  generalize (lg_sl ([.ref (Z.ad 10 i0), .ref (Z.ad 1 q1), .ref (Z.ad 9 q2), .int p3]) ++ List.replicate (6 - (lg_sl ([.ref (Z.ad 10 i0), .ref (Z.ad 1 q1), .ref (Z.ad 9 q2), .int p3])).length) Slot.unset).toArray = ls at hl ⊢
  exact w_kprogress_10 x hml L hX i0 q1 q2 p3 hJ hi0 hq1 hq2 hl (fun pc' ls' g1 H1 locs1 hdg L hp => c_vret x L hr hlocks (Int.le_refl _) hp hdg)

def rm_ktimer_10 : Room := { frames := 4, cells := 0, slots := 0, locals := 94 }
theorem hd_ktimer_10 : yX10_timer.cls = cRn 10 ∧ yX10_timer.cls ≠ "java/lang/invoke/MethodHandle" ∧ yX10_timer.cls ≠ "java/lang/invoke/VarHandle" ∧ (parseMethodDescriptor yX10_timer.desc).map (fun d => d.parameters.length) = some 2 := by decide +kernel
set_option maxHeartbeats 4000000 in
set_option maxRecDepth 100000 in
theorem w_ktimer_10 {p : Program} {l : Launch} {e : Env} {s : State} {m : MethodId} {args : Array Value} {below : List Frame} {meth : Method} {c : Code} {H : Heap} {locs : List Loc} {Q : State → Prop} {ls : Array Slot} {G : cG} {Z : cZ} {A : Nat → Prop} {g : mSt} {H0 : Heap} {X : Int} (x : cX p c cX10_timer s args (wk (Cond.code yX10_timer cX10_timer 4 none)) m G Z A RX10 H0) (hml : c.maxLocals = 4) (L : cL G Z A H0 X g H locs) (hX : 0 ≤ X ∧ X ≤ 2000000000) (i0 : Nat) (q1 : Nat) (p2 : Int32) (hJ : cJ Z g) (hi0 : i0 < Z.n) (hq1 : Z.al 1 q1) (hl : lv_has ls 4 [(0, .ref (Z.ad 10 i0)), (1, .ref (Z.ad 1 q1)), (2, .int p2)]) (hQ : ∀ (pc' : Nat) (ls' : Array Slot) (g1 : mSt) (H1 : Heap) (locs1 : List Loc), decode cX10_timer pc' = .ok (.return_, 1) → cL G Z A H0 X g1 H1 locs1 → (mFr [36, 40, 41, 42, 44, 45, 46, 48, 198, 832, 864] g g1 ∧ cJ Z g1 ∧ True) → W p l e rm_ktimer_10 s m args below meth c H1 locs1 0 0 Q (F0 m pc' ls' [])) : W p l e rm_ktimer_10 s m args below meth c H locs 0 0 Q (F0 m 0 ls []) := by
  have hx := x.1
  have hb := x.2.1
  have hz := x.2.2.2.2.2.2.2.1
  have hzn := hz.1
  have hal0 : Z.al 10 i0 := hz.2 10 i0 (show i0 < Z.n from hi0)
  have up2 : (-2147483648 : Int) ≤ p2.toInt ∧ p2.toInt ≤ 2147483647 := (rg_any p2)
  refine lv_aload_n hx hb dX10_timer_0 rfl (lv_at hl 1 rfl) ?_
  refine c_geti x L 1 q1 4 36 hq1 rfl rfl (wk_in kf_X10_39) dX10_timer_1 (fun v1 ev1 wv1 => ?_)
  have rv1 : rg (-2147483648) (2147483647) v1 := rg_any v1
  have uv1 : (-2147483648 : Int) ≤ v1.toInt ∧ v1.toInt ≤ 2147483647 := rv1
  have sv1 := congrArg Int32.toInt ev1
  refine lv_bipush (v := 6) hx hb dX10_timer_4 (by decide) ?_
  have j21_3 : ∀ (b21_0_2 : Int32) (g3 : mSt) (H3 : Heap) (k3 : List Loc) (ls : Array Slot), mFr [] g g3 → cL G Z A H0 X g3 H3 k3 → cJ Z g3 → rg (0) (1) b21_0_2 → lv_has ls 4 [(0, .ref (Z.ad 10 i0)), (1, .ref (Z.ad 1 q1)), (2, .int p2)] → W p l e rm_ktimer_10 s m args below meth c H3 k3 0 0 Q (F0 m 21 ls [.int b21_0_2]) := by
    intro b21_0_2 g3 H3 k3 ls hF3 L3 hJ3 rb21_0_2 hl
    have ub21_0_2 : (0 : Int) ≤ b21_0_2.toInt ∧ b21_0_2.toInt ≤ 1 := rb21_0_2
    refine lv_istore_n (lv' := [(3, .int b21_0_2), (0, .ref (Z.ad 10 i0)), (1, .ref (Z.ad 1 q1)), (2, .int p2)]) hx hb dX10_timer_21 rfl hl (by decide) rfl (fun ls hl => ?_)
    refine lv_iload_n hx hb dX10_timer_22 rfl (lv_at hl 0 rfl) ?_
    refine lv_if_eq (tgt := 40) hx hb dX10_timer_23 (by decide) (fun c23_4 => ?_) (fun c23_4 => ?_)
    · skip
      have ic23_4 := congrArg Int32.toInt c23_4
      have y5 : (0 : Int32).toInt = 0 := by decide
      have q6 : rg (0) (0) b21_0_2 := (rg_eq c23_4 rb21_0_2 kc_0).1
      have uq6 : (0 : Int) ≤ b21_0_2.toInt ∧ b21_0_2.toInt ≤ 0 := q6
      refine lv_aload_n hx hb dX10_timer_40 rfl (lv_at hl 2 rfl) ?_
      refine c_geti x L3 1 q1 4 36 hq1 rfl rfl (wk_in kf_X10_39) dX10_timer_41 (fun v7 ev7 wv7 => ?_)
      refine m_top (((mm_fr ev1 hF3 rfl)).trans ev7.symm) ?_
      refine lv_bipush (v := 9) hx hb dX10_timer_44 (by decide) ?_
      have j65_8 : ∀ (g8 : mSt) (H8 : Heap) (k8 : List Loc) (ls : Array Slot), mFr [36, 40, 41, 42, 44, 45, 46, 48, 198, 832, 864] g3 g8 → cL G Z A H0 X g8 H8 k8 → cJ Z g8 → lv_has ls 4 [(0, .ref (Z.ad 10 i0)), (1, .ref (Z.ad 1 q1)), (2, .int p2)] → W p l e rm_ktimer_10 s m args below meth c H8 k8 0 0 Q (F0 m 65 ls []) := by
        intro  g8 H8 k8 ls hF8 L8 hJ8  hl
        refine lv_aload_n hx hb dX10_timer_65 rfl (lv_at hl 1 rfl) ?_
        obtain ⟨v9, ev9⟩ : ∃ y : Int32, y = g8 43 q1 := ⟨_, rfl⟩
        rcases (show v9.toInt < 0 ∨ 0 ≤ v9.toInt from (by omega)) with hc10 | hc10
        · skip
          have q11 : rg (-2147483648) (-1) v9 := ⟨(rg_any v9).1, by omega⟩
          refine c_geto (w := .null) x L8 1 q1 11 43 hq1 rfl rfl (by show va_rf (cOpt Z 1 (g8 43 q1)) = _; rw [← ev9, cOpt_none (by omega)]; rfl) (wk_in kf_X10_42) dX10_timer_66 ?_
          refine lv_ifnullN (tgt := 82) hx hb dX10_timer_69 (by decide) ?_
          exact hQ _ _ _ _ _ dX10_timer_82 L8 ⟨(mFr.tr (mFr.tr mFr.rf hF3 rfl) hF8 rfl), hJ8, trivial⟩
        · skip
          have q12 : rg (0) (2147483647) v9 := ⟨by omega, (rg_any v9).2⟩
          have hd13 := (hJ8.2.1 q1 hq1).2.1
          rw [← ev9] at hd13
          have al14 : Z.al 1 v9.toInt.toNat := hd13.resolve_left (by omega)
          refine c_geto (w := .ref (Z.ad 1 v9.toInt.toNat)) x L8 1 q1 11 43 hq1 rfl rfl (by show va_rf (cOpt Z 1 (g8 43 q1)) = _; rw [← ev9, cOpt_some (by omega)]; rfl) (wk_in kf_X10_42) dX10_timer_66 ?_
          refine lv_ifnull hx hb dX10_timer_69 ?_
          refine lv_aload_n hx hb dX10_timer_72 rfl (lv_at hl 1 rfl) ?_
          have u15 : 0 ≤ v9.toInt := q12.1
          have hd16 := (hJ8.2.1 q1 hq1).2.1
          rw [← ev9] at hd16
          have al17 : Z.al 1 v9.toInt.toNat := hd16.resolve_left (by omega)
          refine c_geto (w := .ref (Z.ad 1 v9.toInt.toNat)) x L8 1 q1 11 43 hq1 rfl rfl (by show va_rf (cOpt Z 1 (g8 43 q1)) = _; rw [← ev9, cOpt_some (by omega)]; rfl) (wk_in kf_X10_42) dX10_timer_73 ?_
          refine lv_bipush (v := 102) hx hb dX10_timer_76 (by decide) ?_
          refine lv_iload_n hx hb dX10_timer_78 rfl (lv_at hl 2 rfl) ?_
          refine c_cv (As := [.int (102 : Int32), .int p2]) (rest := []) x hml L8 1 v9.toInt.toNat al17 rfl (c_krelease l X g8 v9.toInt.toNat (102 : Int32) p2 hX hJ8 al17) (wk_V kd_X1_release kl_X10_158 ki_X1_release ks_X1_X1_release kn_X1) rfl ⟨rfl, rfl⟩ hd_krelease ⟨Nat.le_of_ble_eq_true rfl, Nat.le_of_ble_eq_true rfl⟩ rfl hl.1 rfl (lv_room (Nat.le_of_ble_eq_true rfl)) dX10_timer_79 (fun  g18 H18 k18 hp18 L18 => ?_)
          exact hQ _ _ _ _ _ dX10_timer_82 L18 ⟨(mFr.tr (mFr.tr (mFr.tr mFr.rf hF3 rfl) hF8 rfl) hp18.1 rfl), hp18.2.1, trivial⟩
      refine lv_icmp_ne (tgt := 59) hx hb dX10_timer_46 (by decide) (fun c46_19 => ?_) (fun c46_19 => ?_)
      · skip
        have ic46_19 : v1.toInt ≠ (9 : Int32).toInt := fun z => c46_19 (Int32.toInt_inj.mp z)
        have y20 : (9 : Int32).toInt = 9 := by decide
        refine lv_aload_n hx hb dX10_timer_59 rfl (lv_at hl 2 rfl) ?_
        refine lv_bipush (v := 102) hx hb dX10_timer_60 (by decide) ?_
        refine c_cv (As := [.int (102 : Int32)]) (rest := []) x hml L3 1 q1 hq1 rfl (c_kfinish l X g3 q1 (102 : Int32) hX hJ3 hq1) (wk_V kd_X1_finish kl_X10_161 ki_X1_finish ks_X1_X1_finish kn_X1) rfl ⟨rfl, rfl⟩ hd_kfinish ⟨Nat.le_of_ble_eq_true rfl, Nat.le_of_ble_eq_true rfl⟩ rfl hl.1 rfl (lv_room (Nat.le_of_ble_eq_true rfl)) dX10_timer_62 (fun  g21 H21 k21 hp21 L21 => ?_)
        exact j65_8  g21 _ _ ls (mFr.tr mFr.rf hp21.1 rfl) L21 hp21.2.1 (lv_sub hl [1, 2, 3] rfl)
      · skip
        have ic46_19 := congrArg Int32.toInt c46_19
        have y22 : (9 : Int32).toInt = 9 := by decide
        have q23 : rg (9) (9) v1 := (rg_eq c46_19 rv1 kc_9).1
        have uq23 : (9 : Int) ≤ v1.toInt ∧ v1.toInt ≤ 9 := q23
        refine lv_aload_n hx hb dX10_timer_49 rfl (lv_at hl 2 rfl) ?_
        refine lv_bipush (v := 102) hx hb dX10_timer_50 (by decide) ?_
        refine lv_iload_n hx hb dX10_timer_52 rfl (lv_at hl 3 rfl) ?_
        refine c_cv (As := [.int (102 : Int32), .int p2]) (rest := []) x hml L3 1 q1 hq1 rfl (c_krelease l X g3 q1 (102 : Int32) p2 hX hJ3 hq1) (wk_V kd_X1_release kl_X10_158 ki_X1_release ks_X1_X1_release kn_X1) rfl ⟨rfl, rfl⟩ hd_krelease ⟨Nat.le_of_ble_eq_true rfl, Nat.le_of_ble_eq_true rfl⟩ rfl hl.1 rfl (lv_room (Nat.le_of_ble_eq_true rfl)) dX10_timer_53 (fun  g24 H24 k24 hp24 L24 => ?_)
        refine lv_goto (tgt := 65) hx hb dX10_timer_56 (by decide) ?_
        exact j65_8  g24 _ _ ls (mFr.tr mFr.rf hp24.1 rfl) L24 hp24.2.1 (lv_sub hl [1, 2, 3] rfl)
    · skip
      have ic23_4 : b21_0_2.toInt ≠ (0 : Int32).toInt := fun z => c23_4 (Int32.toInt_inj.mp z)
      have y25 : (0 : Int32).toInt = 0 := by decide
      have q26 : rg (1) (1) b21_0_2 := rg_neL c23_4 rb21_0_2 kc_0
      have uq26 : (1 : Int) ≤ b21_0_2.toInt ∧ b21_0_2.toInt ≤ 1 := q26
      refine lv_aload_n hx hb dX10_timer_26 rfl (lv_at hl 2 rfl) ?_
      refine lv_iload_n hx hb dX10_timer_27 rfl (lv_at hl 3 rfl) ?_
      refine lv_bipush (v := 8) hx hb dX10_timer_28 (by decide) ?_
      refine lv_iadd hx hb dX10_timer_30 ?_
      refine lv_topi (fun v27 ev27 => ?_)
      have rv27 : rg (-2147483648) (2147483647) v27 := rg_any v27
      have uv27 : (-2147483648 : Int) ≤ v27.toInt ∧ v27.toInt ≤ 2147483647 := rv27
      refine c_cv (As := [.int v27]) (rest := []) x hml L3 1 q1 hq1 rfl (c_krepeat l X g3 q1 v27 hX hq1) (wk_V kd_X1_repeat kl_X10_154 ki_X1_repeat ks_X1_X1_repeat kn_X1) rfl ⟨rfl, rfl⟩ hd_krepeat ⟨Nat.le_of_ble_eq_true rfl, Nat.le_of_ble_eq_true rfl⟩ rfl hl.1 rfl (lv_room (Nat.le_of_ble_eq_true rfl)) dX10_timer_31 (fun  g28 H28 k28 hp28 L28 => ?_)
      refine lv_aload_n hx hb dX10_timer_34 rfl (lv_at hl 1 rfl) ?_
      refine lv_aload_n hx hb dX10_timer_35 rfl (lv_at hl 2 rfl) ?_
      refine c_cv (As := [.ref (Z.ad 1 q1)]) (rest := []) x hml L28 10 i0 hal0 rfl (c_ksaySetup_10 l X g28 i0 q1 hX (show i0 < Z.n from (by omega)) hq1) (wk_V kd_X10_saySetup kl_X10_115 ki_X10_saySetup ks_X10_X10_saySetup kn_X10) rfl ⟨rfl, rfl⟩ hd_ksaySetup_10 ⟨Nat.le_of_ble_eq_true rfl, Nat.le_of_ble_eq_true rfl⟩ rfl hl.1 rfl (lv_room (Nat.le_of_ble_eq_true rfl)) dX10_timer_36 (fun  g29 H29 k29 hp29 L29 => ?_)
      exact hQ _ _ _ _ _ dX10_timer_39 L29 ⟨(mFr.tr (mFr.tr (mFr.tr mFr.rf hF3 rfl) hp28.1 rfl) hp29.1 rfl), (cJ_fr (cJ_fr hJ3 hp28.1 rfl) hp29.1 rfl), trivial⟩
  have j20_30 : ∀ (g30 : mSt) (H30 : Heap) (k30 : List Loc) (ls : Array Slot), mFr [] g g30 → cL G Z A H0 X g30 H30 k30 → cJ Z g30 → lv_has ls 4 [(0, .ref (Z.ad 10 i0)), (1, .ref (Z.ad 1 q1)), (2, .int p2)] → W p l e rm_ktimer_10 s m args below meth c H30 k30 0 0 Q (F0 m 20 ls []) := by
    intro  g30 H30 k30 ls hF30 L30 hJ30  hl
    refine lv_iconst (v := 0) hx hb dX10_timer_20 (by decide) ?_
    have y31 : (0 : Int32).toInt = 0 := by decide
    exact j21_3 (0 : Int32) g30 _ _ ls (mFr.tr mFr.rf hF30 rfl) L30 hJ30 (rg_w kc_0 rfl) (lv_sub hl [0, 1, 2] rfl)
  refine lv_icmp_ne (tgt := 20) hx hb dX10_timer_6 (by decide) (fun c6_32 => ?_) (fun c6_32 => ?_)
  · skip
    have ic6_32 : v1.toInt ≠ (6 : Int32).toInt := fun z => c6_32 (Int32.toInt_inj.mp z)
    have y33 : (6 : Int32).toInt = 6 := by decide
    exact j20_30  g _ _ ls mFr.rf L hJ (lv_sub hl [0, 1, 2] rfl)
  · skip
    have ic6_32 := congrArg Int32.toInt c6_32
    have y34 : (6 : Int32).toInt = 6 := by decide
    have q35 : rg (6) (6) v1 := (rg_eq c6_32 rv1 kc_6).1
    have uq35 : (6 : Int) ≤ v1.toInt ∧ v1.toInt ≤ 6 := q35
    refine lv_aload_n hx hb dX10_timer_9 rfl (lv_at hl 1 rfl) ?_
    refine c_geti x L 1 q1 10 42 hq1 rfl rfl (wk_in kf_X10_151) dX10_timer_10 (fun v36 ev36 wv36 => ?_)
    have rv36 : rg (0) (1) v36 := clj_42 wv36
    have uv36 : (0 : Int) ≤ v36.toInt ∧ v36.toInt ≤ 1 := rv36
    have sv36 := congrArg Int32.toInt ev36
    refine lv_if_ne (tgt := 20) hx hb dX10_timer_13 (by decide) (fun c13_37 => ?_) (fun c13_37 => ?_)
    · skip
      have ic13_37 : v36.toInt ≠ (0 : Int32).toInt := fun z => c13_37 (Int32.toInt_inj.mp z)
      have y38 : (0 : Int32).toInt = 0 := by decide
      have q39 : rg (1) (1) v36 := rg_neL c13_37 rv36 kc_0
      have uq39 : (1 : Int) ≤ v36.toInt ∧ v36.toInt ≤ 1 := q39
      exact j20_30  g _ _ ls mFr.rf L hJ (lv_sub hl [0, 1, 2] rfl)
    · skip
      have ic13_37 := congrArg Int32.toInt c13_37
      have y40 : (0 : Int32).toInt = 0 := by decide
      have q41 : rg (0) (0) v36 := (rg_eq c13_37 rv36 kc_0).1
      have uq41 : (0 : Int) ≤ v36.toInt ∧ v36.toInt ≤ 0 := q41
      refine lv_iconst (v := 1) hx hb dX10_timer_16 (by decide) ?_
      refine lv_goto (tgt := 21) hx hb dX10_timer_17 (by decide) ?_
      have y42 : (1 : Int32).toInt = 1 := by decide
      exact j21_3 (1 : Int32) g _ _ ls mFr.rf L hJ (rg_w kc_1 rfl) (lv_sub hl [0, 1, 2] rfl)
theorem c_ktimer_10 (l : Launch) {G : cG} {Z : cZ} (X : Int) (g : mSt) (i0 : Nat) (q1 : Nat) (p2 : Int32) (hX : 0 ≤ X ∧ X ≤ 2000000000) (hJ : cJ Z g) (hi0 : i0 < Z.n) (hq1 : Z.al 1 q1) : Met l yX10_timer (wk (Cond.code yX10_timer cX10_timer 4 none)) rm_ktimer_10 (va_Pc [.ref (Z.ad 10 i0), .ref (Z.ad 1 q1), .int p2] (cPre G Z X g)) (cQv G Z X (fun g1 => mFr [36, 40, 41, 42, 44, 45, 46, 48, 198, 832, 864] g g1 ∧ cJ Z g1 ∧ True)) 0 0 (cAd Z) := by
  refine Met.ofW (cc := cX10_timer) (maxL := 4) (ret := none) (by decide) rfl ?_
  intro p e s m args below meth c s₁ B hml hv
  obtain ⟨rfl, hv⟩ := hv
  have hr := B.returns
  have hlocks := B.notSynchronized
  obtain ⟨x, L⟩ := c_start B rfl (fun w h => wk_in h) hv
  have hl := lv_entry ([.ref (Z.ad 10 i0), .ref (Z.ad 1 q1), .int p2]) (n := 4) (Nat.le_of_ble_eq_true rfl)
  rw [lg_entry_eq]
  generalize (lg_sl ([.ref (Z.ad 10 i0), .ref (Z.ad 1 q1), .int p2]) ++ List.replicate (4 - (lg_sl ([.ref (Z.ad 10 i0), .ref (Z.ad 1 q1), .int p2])).length) Slot.unset).toArray = ls at hl ⊢
  exact w_ktimer_10 x hml L hX i0 q1 p2 hJ hi0 hq1 hl (fun pc' ls' g1 H1 locs1 hdg L hp => c_vret x L hr hlocks (Int.le_refl _) hp hdg)

def rm_krefusal : Room := { frames := 4, cells := 0, slots := 0, locals := 87 }
theorem hd_krefusal : yX10_refusal.cls = cRn 10 ∧ yX10_refusal.cls ≠ "java/lang/invoke/MethodHandle" ∧ yX10_refusal.cls ≠ "java/lang/invoke/VarHandle" ∧ (parseMethodDescriptor yX10_refusal.desc).map (fun d => d.parameters.length) = some 1 := by decide +kernel
set_option maxHeartbeats 4000000 in
set_option maxRecDepth 100000 in
theorem w_krefusal {p : Program} {l : Launch} {e : Env} {s : State} {m : MethodId} {args : Array Value} {below : List Frame} {meth : Method} {c : Code} {H : Heap} {locs : List Loc} {Q : State → Prop} {ls : Array Slot} {G : cG} {Z : cZ} {A : Nat → Prop} {g : mSt} {H0 : Heap} {X : Int} (x : cX p c cX10_refusal s args (wk (Cond.code yX10_refusal cX10_refusal 4 (some .int))) m G Z A RX10 H0) (hml : c.maxLocals = 4) (L : cL G Z A H0 X g H locs) (hX : 0 ≤ X ∧ X ≤ 2000000000) (i0 : Nat) (q1 : Nat) (hJ : cJ Z g) (hi0 : i0 < Z.n) (hq1 : Z.al 9 q1) (hcl : 0 ≤ (g 291 q1).toInt) (hl : lv_has ls 4 [(0, .ref (Z.ad 10 i0)), (1, .ref (Z.ad 9 q1))]) (hQ : ∀ (pc' : Nat) (ls' : Array Slot) (r : Int32) (g1 : mSt) (H1 : Heap) (locs1 : List Loc), decode cX10_refusal pc' = .ok (.ireturn, 1) → cL G Z A H0 X g1 H1 locs1 → (mFr [] g g1 ∧ rg (0) (96) r ∧ cJ Z g1 ∧ (r.toInt = 0 → (g 291 q1).toInt < (Z.n : Int))) → W p l e rm_krefusal s m args below meth c H1 locs1 0 0 Q (F0 m pc' ls' [.int r])) : W p l e rm_krefusal s m args below meth c H locs 0 0 Q (F0 m 0 ls []) := by
  have hx := x.1
  have hb := x.2.1
  have hz := x.2.2.2.2.2.2.2.1
  have hzn := hz.1
  have hal0 : Z.al 10 i0 := hz.2 10 i0 (show i0 < Z.n from hi0)
  refine lv_aload_n hx hb dX10_refusal_0 rfl (lv_at hl 1 rfl) ?_
  refine c_geti x L 9 q1 3 291 hq1 rfl rfl (wk_in kf_X10_68) dX10_refusal_1 (fun v1 ev1 wv1 => ?_)
  have rv1 : rg (-2147483648) (2147483647) v1 := rg_any v1
  have uv1 : (-2147483648 : Int) ≤ v1.toInt ∧ v1.toInt ≤ 2147483647 := rv1
  have sv1 : v1.toInt = (g 291 q1).toInt := congrArg Int32.toInt (ev1.trans (congrFun ((show mFr [] g g from mFr.rf).at 291 rfl) _))
  refine lv_aload_n hx hb dX10_refusal_4 rfl (lv_at hl 0 rfl) ?_
  have al2 : Z.al 49 0 := hz.2 49 0 (show 0 < 1 from (by omega))
  refine c_getr (a := Z.ad 49 0) x L 10 i0 4 hal0 rfl rfl (wk_in kf_X10_9) dX10_refusal_5 ?_
  refine c_lenr x L 49 0 al2 rfl (show Z.n ≤ 2147483647 from (by omega)) dX10_refusal_8 (fun v3 ev3 => ?_)
  have tv3 : v3.toInt = ((Z.n : Nat) : Int) := ev3
  have rv3 : rg (2) (4) v3 := ⟨by omega, by omega⟩
  refine lv_icmp_ge (tgt := 23) hx hb dX10_refusal_9 (by decide) (fun c9_4 => ?_) (fun c9_4 => ?_)
  · skip
    have ic9_4 := Int32.le_iff_toInt_le.mp c9_4
    have q5 : rg (2) (2147483647) v1 := (rg_le c9_4 rv3 rv1).2
    have uq5 : (2 : Int) ≤ v1.toInt ∧ v1.toInt ≤ 2147483647 := q5
    refine lv_iconst (v := 1) hx hb dX10_refusal_23 (by decide) ?_
    exact hQ _ _ (1 : Int32) _ _ _ dX10_refusal_24 L ⟨mFr.rf, rg_w kc_1 rfl, hJ, (by have : (1 : Int32).toInt = 1 := (by decide); omega)⟩
  · skip
    have ic9_4 := Int32.lt_iff_toInt_lt.mp (rg_nle c9_4)
    have q6 : rg (-2147483648) (3) v1 := (rg_lt (rg_nle c9_4) rv1 rv3).1
    have uq6 : (-2147483648 : Int) ≤ v1.toInt ∧ v1.toInt ≤ 3 := q6
    refine lv_aload_n hx hb dX10_refusal_12 rfl (lv_at hl 1 rfl) ?_
    refine c_geti x L 9 q1 3 291 hq1 rfl rfl (wk_in kf_X10_68) dX10_refusal_13 (fun v7 ev7 wv7 => ?_)
    refine m_top ((ev1).trans ev7.symm) ?_
    refine lv_aload_n hx hb dX10_refusal_16 rfl (lv_at hl 0 rfl) ?_
    refine c_getcS x L 10 i0 0 hal0 rfl (wk_in kf_X10_73) (fun y h => u_same (x.2.2.1 _ (wk_in ke_CellSwitchSwitchSide_CellSwitchSide_link)) y h) dX10_refusal_17 (fun v8 ev8 => ?_)
    have tv8 : v8.toInt = ((i0 : Nat) : Int) := cCv_s ev8 rfl (by omega)
    have rv8 : rg (0) (3) v8 := ⟨by omega, by omega⟩
    refine lv_icmp_ne (tgt := 25) hx hb dX10_refusal_20 (by decide) (fun c20_9 => ?_) (fun c20_9 => ?_)
    · skip
      have ic20_9 : v1.toInt ≠ v8.toInt := fun z => c20_9 (Int32.toInt_inj.mp z)
      refine lv_aload_n hx hb dX10_refusal_25 rfl (lv_at hl 1 rfl) ?_
      refine c_geti x L 9 q1 5 293 hq1 rfl rfl (wk_in kf_X10_74) dX10_refusal_26 (fun v10 ev10 wv10 => ?_)
      have rv10 : rg (-2147483648) (2147483647) v10 := rg_any v10
      have uv10 : (-2147483648 : Int) ≤ v10.toInt ∧ v10.toInt ≤ 2147483647 := rv10
      have sv10 : v10.toInt = (g 293 q1).toInt := congrArg Int32.toInt (ev10.trans (congrFun ((show mFr [] g g from mFr.rf).at 293 rfl) _))
      refine lv_iconst (v := 1) hx hb dX10_refusal_29 (by decide) ?_
      refine lv_icmp_lt (tgt := 41) hx hb dX10_refusal_30 (by decide) (fun c30_11 => ?_) (fun c30_11 => ?_)
      · skip
        have ic30_11 := Int32.lt_iff_toInt_lt.mp c30_11
        have q12 : rg (-2147483648) (0) v10 := (rg_lt c30_11 rv10 kc_1).1
        have uq12 : (-2147483648 : Int) ≤ v10.toInt ∧ v10.toInt ≤ 0 := q12
        refine lv_bipush (v := 96) hx hb dX10_refusal_41 (by decide) ?_
        exact hQ _ _ (96 : Int32) _ _ _ dX10_refusal_43 L ⟨mFr.rf, rg_w kc_96 rfl, hJ, (by have : (96 : Int32).toInt = 96 := (by decide); omega)⟩
      · skip
        have ic30_11 := Int32.le_iff_toInt_le.mp (rg_nlt c30_11)
        have q13 : rg (1) (2147483647) v10 := (rg_le (rg_nlt c30_11) kc_1 rv10).2
        have uq13 : (1 : Int) ≤ v10.toInt ∧ v10.toInt ≤ 2147483647 := q13
        refine lv_aload_n hx hb dX10_refusal_33 rfl (lv_at hl 1 rfl) ?_
        refine c_geti x L 9 q1 5 293 hq1 rfl rfl (wk_in kf_X10_74) dX10_refusal_34 (fun v14 ev14 wv14 => ?_)
        refine m_top ((ev10).trans ev14.symm) ?_
        refine lv_iconst (v := 3) hx hb dX10_refusal_37 (by decide) ?_
        refine lv_icmp_le (tgt := 44) hx hb dX10_refusal_38 (by decide) (fun c38_15 => ?_) (fun c38_15 => ?_)
        · skip
          have ic38_15 := Int32.le_iff_toInt_le.mp c38_15
          have q16 : rg (1) (3) v10 := (rg_le c38_15 q13 kc_3).1
          have uq16 : (1 : Int) ≤ v10.toInt ∧ v10.toInt ≤ 3 := q16
          refine lv_aload_n hx hb dX10_refusal_44 rfl (lv_at hl 0 rfl) ?_
          refine c_getr (a := Z.ad 49 0) x L 10 i0 4 hal0 rfl rfl (wk_in kf_X10_9) dX10_refusal_45 ?_
          refine lv_aload_n hx hb dX10_refusal_48 rfl (lv_at hl 1 rfl) ?_
          refine c_geti x L 9 q1 3 291 hq1 rfl rfl (wk_in kf_X10_68) dX10_refusal_49 (fun v17 ev17 wv17 => ?_)
          refine m_top ((ev1).trans ev17.symm) ?_
          refine c_ldr (a := Z.ad 10 v1.toInt.toNat) x L 49 0 al2 rfl (by omega) (show v1.toInt < ((Z.n : Nat) : Int) from (by omega)) rfl dX10_refusal_52 ?_
          have al18 : Z.al 10 v1.toInt.toNat := hz.2 10 v1.toInt.toNat (show v1.toInt.toNat < Z.n from (by omega))
          refine lv_astore_n (lv' := [(2, .ref (Z.ad 10 v1.toInt.toNat)), (0, .ref (Z.ad 10 i0)), (1, .ref (Z.ad 9 q1))]) hx hb dX10_refusal_53 rfl hl (by decide) rfl (fun ls hl => ?_)
          refine lv_aload_n hx hb dX10_refusal_54 rfl (lv_at hl 1 rfl) ?_
          refine c_ciU (n := 0) (owner := "CellSwitch$Side") (x0 := ⟨"CellSwitch$SwitchSide", "openCalls", "()I"⟩) (As := []) (rest := []) x hml L 10 i0 hal0 rfl (c_kopenCalls_10 l X g i0 hX hJ (show i0 < Z.n from (by omega))) (wk_U kd_X8_openCalls kl_X10_75 km_CellSwitchSwitchSide_CellSwitchSide_openCalls ks_X10_CellSwitchSwitchSide_X8_openCalls ki_X8_openCalls kn_X8) rfl ⟨rfl, rfl⟩ rfl (by decide +kernel) ⟨Nat.le_of_ble_eq_true rfl, Nat.le_of_ble_eq_true rfl⟩ rfl hl.1 rfl (lv_room (Nat.le_of_ble_eq_true rfl)) dX10_refusal_55 (fun v20 g19 H19 k19 hp19 L19 => ?_)
          have rv20 : rg (-2147483648) (2147483647) v20 := hp19.2.1
          have uv20 : (-2147483648 : Int) ≤ v20.toInt ∧ v20.toInt ≤ 2147483647 := rv20
          refine lv_bipush (v := 8) hx hb dX10_refusal_58 (by decide) ?_
          refine lv_icmp_ge (tgt := 72) hx hb dX10_refusal_60 (by decide) (fun c60_21 => ?_) (fun c60_21 => ?_)
          · skip
            have ic60_21 := Int32.le_iff_toInt_le.mp c60_21
            have q22 : rg (8) (2147483647) v20 := (rg_le c60_21 kc_8 rv20).2
            have uq22 : (8 : Int) ≤ v20.toInt ∧ v20.toInt ≤ 2147483647 := q22
            refine lv_bipush (v := 47) hx hb dX10_refusal_72 (by decide) ?_
            exact hQ _ _ (47 : Int32) _ _ _ dX10_refusal_74 L19 ⟨(mFr.tr mFr.rf hp19.1 rfl), rg_w kc_47 rfl, hp19.2.2.1, (by have : (47 : Int32).toInt = 47 := (by decide); omega)⟩
          · skip
            have ic60_21 := Int32.lt_iff_toInt_lt.mp (rg_nle c60_21)
            have q23 : rg (-2147483648) (7) v20 := (rg_lt (rg_nle c60_21) rv20 kc_8).1
            have uq23 : (-2147483648 : Int) ≤ v20.toInt ∧ v20.toInt ≤ 7 := q23
            refine lv_aload_n hx hb dX10_refusal_63 rfl (lv_at hl 0 rfl) ?_
            refine c_ciU (n := 0) (owner := "CellSwitch$Side") (x0 := ⟨"CellSwitch$SwitchSide", "openCalls", "()I"⟩) (As := []) (rest := []) x hml L19 10 v1.toInt.toNat al18 rfl (c_kopenCalls_10 l X g19 v1.toInt.toNat hX hp19.2.2.1 (show v1.toInt.toNat < Z.n from (by omega))) (wk_U kd_X8_openCalls kl_X10_75 km_CellSwitchSwitchSide_CellSwitchSide_openCalls ks_X10_CellSwitchSwitchSide_X8_openCalls ki_X8_openCalls kn_X8) rfl ⟨rfl, rfl⟩ rfl (by decide +kernel) ⟨Nat.le_of_ble_eq_true rfl, Nat.le_of_ble_eq_true rfl⟩ rfl hl.1 rfl (lv_room (Nat.le_of_ble_eq_true rfl)) dX10_refusal_64 (fun v25 g24 H24 k24 hp24 L24 => ?_)
            have rv25 : rg (-2147483648) (2147483647) v25 := hp24.2.1
            have uv25 : (-2147483648 : Int) ≤ v25.toInt ∧ v25.toInt ≤ 2147483647 := rv25
            refine lv_bipush (v := 8) hx hb dX10_refusal_67 (by decide) ?_
            refine lv_icmp_lt (tgt := 75) hx hb dX10_refusal_69 (by decide) (fun c69_26 => ?_) (fun c69_26 => ?_)
            · skip
              have ic69_26 := Int32.lt_iff_toInt_lt.mp c69_26
              have q27 : rg (-2147483648) (7) v25 := (rg_lt c69_26 rv25 kc_8).1
              have uq27 : (-2147483648 : Int) ≤ v25.toInt ∧ v25.toInt ≤ 7 := q27
              refine lv_aload_n hx hb dX10_refusal_75 rfl (lv_at hl 1 rfl) ?_
              refine c_ci (As := []) (rest := []) x hml L24 10 i0 hal0 rfl (c_krates l X g24 i0 hX hp24.2.2.1 (show i0 < Z.n from (by omega))) (wk_V kd_X10_rates kl_X10_78 ki_X10_rates ks_X10_X10_rates kn_X10) rfl ⟨rfl, rfl⟩ hd_krates ⟨Nat.le_of_ble_eq_true rfl, Nat.le_of_ble_eq_true rfl⟩ rfl hl.1 rfl (lv_room (Nat.le_of_ble_eq_true rfl)) dX10_refusal_76 (fun v29 g28 H28 k28 hp28 L28 => ?_)
              have rv29 : rg (-2147483648) (2147483647) v29 := hp28.2.1
              have uv29 : (-2147483648 : Int) ≤ v29.toInt ∧ v29.toInt ≤ 2147483647 := rv29
              refine lv_aload_n hx hb dX10_refusal_79 rfl (lv_at hl 2 rfl) ?_
              refine c_geti x L28 9 q1 5 293 hq1 rfl rfl (wk_in kf_X10_74) dX10_refusal_80 (fun v30 ev30 wv30 => ?_)
              refine m_top (((mm_fr (mm_fr (mm_fr ev10 hp19.1 rfl) hp24.1 rfl) hp28.1 rfl)).trans ev30.symm) ?_
              refine lv_iadd hx hb dX10_refusal_83 ?_
              refine lv_topi (fun v31 ev31 => ?_)
              have rv31 : rg (-2147483648) (2147483647) v31 := rg_any v31
              have uv31 : (-2147483648 : Int) ≤ v31.toInt ∧ v31.toInt ≤ 2147483647 := rv31
              refine lv_iconst (v := 3) hx hb dX10_refusal_84 (by decide) ?_
              refine lv_icmp_gt (tgt := 105) hx hb dX10_refusal_85 (by decide) (fun c85_32 => ?_) (fun c85_32 => ?_)
              · skip
                have ic85_32 := Int32.lt_iff_toInt_lt.mp c85_32
                have q33 : rg (4) (2147483647) v31 := (rg_lt c85_32 kc_3 rv31).2
                have uq33 : (4 : Int) ≤ v31.toInt ∧ v31.toInt ≤ 2147483647 := q33
                refine lv_iconst (v := 0) hx hb dX10_refusal_105 (by decide) ?_
                refine lv_istore_n (lv' := [(3, .int (0 : Int32)), (2, .ref (Z.ad 10 v1.toInt.toNat)), (0, .ref (Z.ad 10 i0)), (1, .ref (Z.ad 9 q1))]) hx hb dX10_refusal_106 rfl hl (by decide) rfl (fun ls hl => ?_)
                refine lv_iload_n hx hb dX10_refusal_107 rfl (lv_at hl 0 rfl) ?_
                refine lv_if_eq (tgt := 115) hx hb dX10_refusal_108 (by decide) (fun c108_34 => ?_) (fun c108_34 => ?_)
                · skip
                  refine lv_bipush (v := 37) hx hb dX10_refusal_115 (by decide) ?_
                  exact hQ _ _ (37 : Int32) _ _ _ dX10_refusal_117 L28 ⟨(mFr.tr (mFr.tr (mFr.tr mFr.rf hp19.1 rfl) hp24.1 rfl) hp28.1 rfl), rg_w kc_37 rfl, hp28.2.2.1, (by have : (37 : Int32).toInt = 37 := (by decide); omega)⟩
                · skip
                  exact absurd c108_34 (by decide)
              · skip
                have ic85_32 := Int32.le_iff_toInt_le.mp (rg_nlt c85_32)
                have q35 : rg (-2147483648) (3) v31 := (rg_le (rg_nlt c85_32) rv31 kc_3).1
                have uq35 : (-2147483648 : Int) ≤ v31.toInt ∧ v31.toInt ≤ 3 := q35
                refine lv_aload_n hx hb dX10_refusal_88 rfl (lv_at hl 0 rfl) ?_
                refine c_ci (As := []) (rest := []) x hml L28 10 v1.toInt.toNat al18 rfl (c_krates l X g28 v1.toInt.toNat hX hp28.2.2.1 (show v1.toInt.toNat < Z.n from (by omega))) (wk_V kd_X10_rates kl_X10_78 ki_X10_rates ks_X10_X10_rates kn_X10) rfl ⟨rfl, rfl⟩ hd_krates ⟨Nat.le_of_ble_eq_true rfl, Nat.le_of_ble_eq_true rfl⟩ rfl hl.1 rfl (lv_room (Nat.le_of_ble_eq_true rfl)) dX10_refusal_89 (fun v37 g36 H36 k36 hp36 L36 => ?_)
                have rv37 : rg (-2147483648) (2147483647) v37 := hp36.2.1
                have uv37 : (-2147483648 : Int) ≤ v37.toInt ∧ v37.toInt ≤ 2147483647 := rv37
                refine lv_aload_n hx hb dX10_refusal_92 rfl (lv_at hl 2 rfl) ?_
                refine c_geti x L36 9 q1 5 293 hq1 rfl rfl (wk_in kf_X10_74) dX10_refusal_93 (fun v38 ev38 wv38 => ?_)
                refine m_top (((mm_fr (mm_fr (mm_fr (mm_fr ev10 hp19.1 rfl) hp24.1 rfl) hp28.1 rfl) hp36.1 rfl)).trans ev38.symm) ?_
                refine lv_iadd hx hb dX10_refusal_96 ?_
                refine lv_topi (fun v39 ev39 => ?_)
                have rv39 : rg (-2147483648) (2147483647) v39 := rg_any v39
                have uv39 : (-2147483648 : Int) ≤ v39.toInt ∧ v39.toInt ≤ 2147483647 := rv39
                refine lv_iconst (v := 3) hx hb dX10_refusal_97 (by decide) ?_
                refine lv_icmp_gt (tgt := 105) hx hb dX10_refusal_98 (by decide) (fun c98_40 => ?_) (fun c98_40 => ?_)
                · skip
                  have ic98_40 := Int32.lt_iff_toInt_lt.mp c98_40
                  have q41 : rg (4) (2147483647) v39 := (rg_lt c98_40 kc_3 rv39).2
                  have uq41 : (4 : Int) ≤ v39.toInt ∧ v39.toInt ≤ 2147483647 := q41
                  refine lv_iconst (v := 0) hx hb dX10_refusal_105 (by decide) ?_
                  refine lv_istore_n (lv' := [(3, .int (0 : Int32)), (2, .ref (Z.ad 10 v1.toInt.toNat)), (0, .ref (Z.ad 10 i0)), (1, .ref (Z.ad 9 q1))]) hx hb dX10_refusal_106 rfl hl (by decide) rfl (fun ls hl => ?_)
                  refine lv_iload_n hx hb dX10_refusal_107 rfl (lv_at hl 0 rfl) ?_
                  refine lv_if_eq (tgt := 115) hx hb dX10_refusal_108 (by decide) (fun c108_42 => ?_) (fun c108_42 => ?_)
                  · skip
                    refine lv_bipush (v := 37) hx hb dX10_refusal_115 (by decide) ?_
                    exact hQ _ _ (37 : Int32) _ _ _ dX10_refusal_117 L36 ⟨(mFr.tr (mFr.tr (mFr.tr (mFr.tr mFr.rf hp19.1 rfl) hp24.1 rfl) hp28.1 rfl) hp36.1 rfl), rg_w kc_37 rfl, hp36.2.2.1, (by have : (37 : Int32).toInt = 37 := (by decide); omega)⟩
                  · skip
                    exact absurd c108_42 (by decide)
                · skip
                  have ic98_40 := Int32.le_iff_toInt_le.mp (rg_nlt c98_40)
                  have q43 : rg (-2147483648) (3) v39 := (rg_le (rg_nlt c98_40) rv39 kc_3).1
                  have uq43 : (-2147483648 : Int) ≤ v39.toInt ∧ v39.toInt ≤ 3 := q43
                  refine lv_iconst (v := 1) hx hb dX10_refusal_101 (by decide) ?_
                  refine lv_goto (tgt := 106) hx hb dX10_refusal_102 (by decide) ?_
                  refine lv_istore_n (lv' := [(3, .int (1 : Int32)), (2, .ref (Z.ad 10 v1.toInt.toNat)), (0, .ref (Z.ad 10 i0)), (1, .ref (Z.ad 9 q1))]) hx hb dX10_refusal_106 rfl hl (by decide) rfl (fun ls hl => ?_)
                  refine lv_iload_n hx hb dX10_refusal_107 rfl (lv_at hl 0 rfl) ?_
                  refine lv_if_eq (tgt := 115) hx hb dX10_refusal_108 (by decide) (fun c108_44 => ?_) (fun c108_44 => ?_)
                  · skip
                    exact absurd c108_44 (by decide)
                  · skip
                    refine lv_iconst (v := 0) hx hb dX10_refusal_111 (by decide) ?_
                    refine lv_goto (tgt := 117) hx hb dX10_refusal_112 (by decide) ?_
                    exact hQ _ _ (0 : Int32) _ _ _ dX10_refusal_117 L36 ⟨(mFr.tr (mFr.tr (mFr.tr (mFr.tr mFr.rf hp19.1 rfl) hp24.1 rfl) hp28.1 rfl) hp36.1 rfl), rg_w kc_0 rfl, hp36.2.2.1, (by have : (0 : Int32).toInt = 0 := (by decide); omega)⟩
            · skip
              have ic69_26 := Int32.le_iff_toInt_le.mp (rg_nlt c69_26)
              have q45 : rg (8) (2147483647) v25 := (rg_le (rg_nlt c69_26) kc_8 rv25).2
              have uq45 : (8 : Int) ≤ v25.toInt ∧ v25.toInt ≤ 2147483647 := q45
              refine lv_bipush (v := 47) hx hb dX10_refusal_72 (by decide) ?_
              exact hQ _ _ (47 : Int32) _ _ _ dX10_refusal_74 L24 ⟨(mFr.tr (mFr.tr mFr.rf hp19.1 rfl) hp24.1 rfl), rg_w kc_47 rfl, hp24.2.2.1, (by have : (47 : Int32).toInt = 47 := (by decide); omega)⟩
        · skip
          have ic38_15 := Int32.lt_iff_toInt_lt.mp (rg_nle c38_15)
          have q46 : rg (4) (2147483647) v10 := (rg_lt (rg_nle c38_15) kc_3 q13).2
          have uq46 : (4 : Int) ≤ v10.toInt ∧ v10.toInt ≤ 2147483647 := q46
          refine lv_bipush (v := 96) hx hb dX10_refusal_41 (by decide) ?_
          exact hQ _ _ (96 : Int32) _ _ _ dX10_refusal_43 L ⟨mFr.rf, rg_w kc_96 rfl, hJ, (by have : (96 : Int32).toInt = 96 := (by decide); omega)⟩
    · skip
      have ic20_9 := congrArg Int32.toInt c20_9
      have q47 : rg (0) (3) v1 := (rg_eq c20_9 q6 rv8).1
      have uq47 : (0 : Int) ≤ v1.toInt ∧ v1.toInt ≤ 3 := q47
      refine lv_iconst (v := 1) hx hb dX10_refusal_23 (by decide) ?_
      exact hQ _ _ (1 : Int32) _ _ _ dX10_refusal_24 L ⟨mFr.rf, rg_w kc_1 rfl, hJ, (by have : (1 : Int32).toInt = 1 := (by decide); omega)⟩
theorem c_krefusal (l : Launch) {G : cG} {Z : cZ} (X : Int) (g : mSt) (i0 : Nat) (q1 : Nat) (hX : 0 ≤ X ∧ X ≤ 2000000000) (hJ : cJ Z g) (hi0 : i0 < Z.n) (hq1 : Z.al 9 q1) (hcl : 0 ≤ (g 291 q1).toInt) : Met l yX10_refusal (wk (Cond.code yX10_refusal cX10_refusal 4 (some .int))) rm_krefusal (va_Pc [.ref (Z.ad 10 i0), .ref (Z.ad 9 q1)] (cPre G Z X g)) (cQi G Z X (fun r g1 => mFr [] g g1 ∧ rg (0) (96) r ∧ cJ Z g1 ∧ (r.toInt = 0 → (g 291 q1).toInt < (Z.n : Int)))) 0 0 (cAd Z) := by
  refine Met.ofW (cc := cX10_refusal) (maxL := 4) (ret := (some .int)) (by decide) rfl ?_
  intro p e s m args below meth c s₁ B hml hv
  obtain ⟨rfl, hv⟩ := hv
  have hr := B.returns
  have hlocks := B.notSynchronized
  obtain ⟨x, L⟩ := c_start B rfl (fun w h => wk_in h) hv
  have hl := lv_entry ([.ref (Z.ad 10 i0), .ref (Z.ad 9 q1)]) (n := 4) (Nat.le_of_ble_eq_true rfl)
  rw [lg_entry_eq]
  generalize (lg_sl ([.ref (Z.ad 10 i0), .ref (Z.ad 9 q1)]) ++ List.replicate (4 - (lg_sl ([.ref (Z.ad 10 i0), .ref (Z.ad 9 q1)])).length) Slot.unset).toArray = ls at hl ⊢
  exact w_krefusal x hml L hX i0 q1 hJ hi0 hq1 hcl hl (fun pc' ls' r g1 H1 locs1 hdg L hp => c_iret x L hr hlocks (Int.le_refl _) hp hdg)
