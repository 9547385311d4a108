def rm_kjoined : Room := { frames := 3, cells := 0, slots := 0, locals := 64 }
theorem hd_kjoined : yX10_joined.cls = cRn 10 ∧ yX10_joined.cls ≠ "java/lang/invoke/MethodHandle" ∧ yX10_joined.cls ≠ "java/lang/invoke/VarHandle" ∧ (parseMethodDescriptor yX10_joined.desc).map (fun d => d.parameters.length) = some 1 := by decide +kernel
set_option maxHeartbeats 4000000 in
set_option maxRecDepth 100000 in
theorem w_kjoined {p : Program} {l : Launch} {e : Env} {s : State} {m : MethodId} {args : Array Value} {below : List Frame} {meth : Method} {c : Code} {H : Heap} {locs : List Loc} {Q : State → Prop} {ls : Array Slot} {G : cG} {Z : cZ} {A : Nat → Prop} {g : mSt} {H0 : Heap} {X : Int} (x : cX p c cX10_joined s args (wk (Cond.code yX10_joined cX10_joined 4 (some (.object "CellSwitch$Call")))) m G Z A RX10 H0) (hml : c.maxLocals = 4) (L : cL G Z A H0 X g H locs) (hX : 0 ≤ X ∧ X ≤ 2000000000) (i0 : Nat) (p1 : Int32) (hJ : cJ Z g) (hi0 : i0 < Z.n) (hl : lv_has ls 4 [(0, .ref (Z.ad 10 i0)), (1, .int p1)]) (hQ : ∀ (pc' : Nat) (ls' : Array Slot) (r : Int32) (a : Nat) (g1 : mSt) (H1 : Heap) (locs1 : List Loc), decode cX10_joined pc' = .ok (.areturn, 1) → cOpt Z 1 r = some a → cL G Z A H0 X g1 H1 locs1 → (mFr [] g g1 ∧ cJ Z g1 ∧ (0 ≤ r.toInt → Z.al 1 r.toInt.toNat ∧ True)) → W p l e rm_kjoined s m args below meth c H1 locs1 0 0 Q (F0 m pc' ls' [.ref a])) (hN : ∀ (pc' : Nat) (ls' : Array Slot) (g1 : mSt) (H1 : Heap) (locs1 : List Loc), decode cX10_joined pc' = .ok (.areturn, 1) → cL G Z A H0 X g1 H1 locs1 → (mFr [] g g1 ∧ cJ Z g1 ∧ (0 ≤ (-1 : Int32).toInt → Z.al 1 (-1 : Int32).toInt.toNat ∧ True)) → W p l e rm_kjoined s m args below meth c H1 locs1 0 0 Q (F0 m pc' ls' [.null])) : W p l e rm_kjoined s m args below meth c H locs 0 0 Q (F0 m 0 ls []) := by
  have hx := x.1
  have hb := x.2.1
  have hz := x.2.2.2.2.2.2.2.1
  have hzn := hz.1
  have hal0 : Z.al 10 i0 := hz.2 10 i0 (show i0 < Z.n from hi0)
  have up1 : (-2147483648 : Int) ≤ p1.toInt ∧ p1.toInt ≤ 2147483647 := (rg_any p1)
  refine lv_iconst (v := 0) hx hb dX10_joined_0 (by decide) ?_
  refine lv_istore_n (lv' := [(2, .int (0 : Int32)), (0, .ref (Z.ad 10 i0)), (1, .int p1)]) hx hb dX10_joined_1 rfl hl (by decide) rfl (fun ls hl => ?_)
  have j2_2 : ∀ (n : Nat) (a2_2_1 : Int32) (g2 : mSt) (H2 : Heap) (k2 : List Loc) (ls : Array Slot), mFr [] g g2 → cL G Z A H0 X g2 H2 k2 → cJ Z g2 → rg (0) (2147483647) a2_2_1 → lv_has ls 4 [(0, .ref (Z.ad 10 i0)), (1, .int p1), (2, .int a2_2_1)] → ((2147483647 : Int) - a2_2_1.toInt).toNat = n → W p l e rm_kjoined s m args below meth c H2 k2 0 0 Q (F0 m 2 ls []) := by
    intro n
    induction n using Nat.strongRecOn with
    | _ n ih2 =>
      intro a2_2_1 g2 H2 k2 ls hF2 L2 hJ2 ra2_2_1 hl hn2
      subst hn2
      have ua2_2_1 : (0 : Int) ≤ a2_2_1.toInt ∧ a2_2_1.toInt ≤ 2147483647 := ra2_2_1
      refine lv_iload_n hx hb dX10_joined_2 rfl (lv_at hl 2 rfl) ?_
      refine lv_aload_n hx hb dX10_joined_3 rfl (lv_at hl 0 rfl) ?_
      have al3 : Z.al 12 (Z.n + i0) := hz.2 12 (Z.n + i0) (show (Z.n + i0) < 2 * Z.n from (by omega))
      refine c_getrS (a := Z.ad 12 (Z.n + i0)) x L2 10 i0 2 hal0 rfl rfl (wk_in kf_X10_15) (fun y h => u_same (x.2.2.1 _ (wk_in ke_CellSwitchSwitchSide_CellSwitchSide_references)) y h) dX10_joined_4 ?_
      refine c_ci (As := []) (rest := [.int a2_2_1]) x hml L2 12 (Z.n + i0) al3 rfl (c_klsize l X g2 (Z.n + i0) hX (show (Z.n + i0) < 2 * Z.n from (by omega))) (wk_V kd_Jx4a65c_size_8abf5 kl_X10_19 ki_Jx4a65c_size_8abf5 ks_Jx4a65c_Jx4a65c_size_8abf5 kn_Jx4a65c) rfl ⟨rfl, rfl⟩ hd_klsize ⟨Nat.le_of_ble_eq_true rfl, Nat.le_of_ble_eq_true rfl⟩ rfl hl.1 rfl (lv_room (Nat.le_of_ble_eq_true rfl)) dX10_joined_7 (fun v5 g4 H4 k4 hp4 L4 => ?_)
      have rv5 : rg (-2147483648) (2147483647) v5 := hp4.2.1
      have uv5 : (-2147483648 : Int) ≤ v5.toInt ∧ v5.toInt ≤ 2147483647 := rv5
      refine lv_icmp_ge (tgt := 48) hx hb dX10_joined_10 (by decide) (fun c10_6 => ?_) (fun c10_6 => ?_)
      · skip
        have ic10_6 := Int32.le_iff_toInt_le.mp c10_6
        refine lv_null hx hb dX10_joined_48 ?_
        exact hN _ _ _ _ _ dX10_joined_49 L4 ⟨(mFr.tr (mFr.tr mFr.rf hF2 rfl) hp4.1 rfl), (cJ_fr hJ2 hp4.1 rfl), (fun h => by have : (-1 : Int32).toInt = -1 := (by decide); omega)⟩
      · skip
        have ic10_6 := Int32.lt_iff_toInt_lt.mp (rg_nle c10_6)
        have q7 : rg (0) (2147483646) a2_2_1 := (rg_lt (rg_nle c10_6) ra2_2_1 rv5).1
        have uq7 : (0 : Int) ≤ a2_2_1.toInt ∧ a2_2_1.toInt ≤ 2147483646 := q7
        have q8 : rg (1) (2147483647) v5 := (rg_lt (rg_nle c10_6) ra2_2_1 rv5).2
        have uq8 : (1 : Int) ≤ v5.toInt ∧ v5.toInt ≤ 2147483647 := q8
        refine lv_aload_n hx hb dX10_joined_13 rfl (lv_at hl 0 rfl) ?_
        refine c_getrS (a := Z.ad 12 (Z.n + i0)) x L4 10 i0 2 hal0 rfl rfl (wk_in kf_X10_15) (fun y h => u_same (x.2.2.1 _ (wk_in ke_CellSwitchSwitchSide_CellSwitchSide_references)) y h) dX10_joined_14 ?_
        refine lv_iload_n hx hb dX10_joined_17 rfl (lv_at hl 2 rfl) ?_
        have y9 := congrArg Int32.toInt hp4.2.2
        refine c_cr (As := [.int a2_2_1]) (rest := []) x hml L4 12 (Z.n + i0) al3 rfl (c_klget l X g4 (Z.n + i0) a2_2_1 hX (cJ_fr hJ2 hp4.1 rfl) (show (Z.n + i0) < 2 * Z.n from (by omega)) (by omega)) (wk_V kd_Jx4a65c_get_915e3 kl_X10_25 ki_Jx4a65c_get_915e3 ks_Jx4a65c_Jx4a65c_get_915e3 kn_Jx4a65c) rfl ⟨rfl, rfl⟩ hd_klget ⟨Nat.le_of_ble_eq_true rfl, Nat.le_of_ble_eq_true rfl⟩ rfl hl.1 rfl (lv_room (Nat.le_of_ble_eq_true rfl)) dX10_joined_18 (fun v11 g10 H10 k10 hp10 L10 => ?_)
        have hvv11 := hp10.2.2
        rw [(show mFr [] g g4 from (mFr.tr (mFr.tr mFr.rf hF2 rfl) hp4.1 rfl)).at 32 rfl] at hvv11
        refine c_top (show Value.ref (Z.ad 1 v11.toInt.toNat) = va_rf (cOpt Z 1 v11) from (by rw [cOpt_some hvv11.1]; rfl)) ?_
        refine c_cast x L10 1 v11.toInt.toNat hvv11.2.1 rfl (wk_in kc_lX10_29) dX10_joined_21 ?_
        refine lv_astore_n (lv' := [(3, .ref (Z.ad 1 v11.toInt.toNat)), (0, .ref (Z.ad 10 i0)), (1, .int p1), (2, .int a2_2_1)]) hx hb dX10_joined_24 rfl hl (by decide) rfl (fun ls hl => ?_)
        refine lv_aload_n hx hb dX10_joined_25 rfl (lv_at hl 0 rfl) ?_
        refine c_geti x L10 1 v11.toInt.toNat 5 37 hvv11.2.1 rfl rfl (wk_in kf_X10_50) dX10_joined_26 (fun v12 ev12 wv12 => ?_)
        have rv12 : rg (-2147483648) (2147483647) v12 := rg_any v12
        have uv12 : (-2147483648 : Int) ≤ v12.toInt ∧ v12.toInt ≤ 2147483647 := rv12
        have sv12 : v12.toInt = (g 37 v11.toInt.toNat).toInt := congrArg Int32.toInt (ev12.trans (congrFun ((show mFr [] g g10 from (mFr.tr (mFr.tr (mFr.tr mFr.rf hF2 rfl) hp4.1 rfl) hp10.1 rfl)).at 37 rfl) _))
        refine lv_iload_n hx hb dX10_joined_29 rfl (lv_at hl 2 rfl) ?_
        have j42_13 : ∀ (g13 : mSt) (H13 : Heap) (k13 : List Loc) (ls : Array Slot), mFr [] g10 g13 → cL G Z A H0 X g13 H13 k13 → cJ Z g13 → lv_has ls 4 [(0, .ref (Z.ad 10 i0)), (1, .int p1), (2, .int a2_2_1)] → W p l e rm_kjoined s m args below meth c H13 k13 0 0 Q (F0 m 42 ls []) := by
          intro  g13 H13 k13 ls hF13 L13 hJ13  hl
          obtain ⟨v14, ev14, fv14⟩ := inc_ex a2_2_1 (1) (1 : Int32) (by decide)
          have rv14 : rg (1) (2147483647) v14 := (rg_add ev14 q7 kc_1 rfl).1
          have tv14 := (rg_add ev14 q7 kc_1 rfl).2
          have yv14 : (1 : Int32).toInt = 1 := by decide
          refine lv_iinc (v := v14) (lv' := [(2, .int v14), (0, .ref (Z.ad 10 i0)), (1, .int p1)]) hx hb dX10_joined_42 hl (k := 2) rfl fv14 (by decide) rfl (fun ls hl => ?_)
          refine lv_goto (tgt := 2) hx hb dX10_joined_45 (by decide) ?_
          exact ih2 _ (ms_up tv14 kc_1 q7 rfl rfl) v14 g13 _ _ ls (mFr.tr (mFr.tr (mFr.tr hF2 hp4.1 rfl) hp10.1 rfl) hF13 rfl) L13 hJ13 (rg_w rv14 rfl) (lv_sub hl [1, 2, 0] rfl) rfl
        refine lv_icmp_ne (tgt := 42) hx hb dX10_joined_30 (by decide) (fun c30_15 => ?_) (fun c30_15 => ?_)
        · skip
          have ic30_15 : v12.toInt ≠ p1.toInt := fun z => c30_15 (Int32.toInt_inj.mp z)
          exact j42_13  g10 _ _ ls mFr.rf L10 hp10.2.1 (lv_sub hl [1, 2, 3] rfl)
        · skip
          have ic30_15 := congrArg Int32.toInt c30_15
          refine lv_aload_n hx hb dX10_joined_33 rfl (lv_at hl 0 rfl) ?_
          refine c_si (As := [.ref (Z.ad 1 v11.toInt.toNat)]) (rest := []) x hml L10 (c_kisJoined l X g10 v11.toInt.toNat hX hp10.2.1 hvv11.2.1) (wk_T kt_X10_isJoined kl_X10_46 kn_X10 (wk_all kd_X10_isJoined)) rfl ⟨rfl, rfl⟩ hd_kisJoined ⟨Nat.le_of_ble_eq_true rfl, Nat.le_of_ble_eq_true rfl⟩ rfl hl.1 rfl (lv_room (Nat.le_of_ble_eq_true rfl)) dX10_joined_34 (fun v17 g16 H16 k16 hp16 L16 => ?_)
          have rv17 : rg (0) (1) v17 := hp16.2.1
          have uv17 : (0 : Int) ≤ v17.toInt ∧ v17.toInt ≤ 1 := rv17
          refine lv_if_eq (tgt := 42) hx hb dX10_joined_37 (by decide) (fun c37_18 => ?_) (fun c37_18 => ?_)
          · skip
            have ic37_18 := congrArg Int32.toInt c37_18
            have y19 : (0 : Int32).toInt = 0 := by decide
            have q20 : rg (0) (0) v17 := (rg_eq c37_18 rv17 kc_0).1
            have uq20 : (0 : Int) ≤ v17.toInt ∧ v17.toInt ≤ 0 := q20
            exact j42_13  g16 _ _ ls (mFr.tr mFr.rf hp16.1 rfl) L16 hp16.2.2.1 (lv_sub hl [1, 2, 3] rfl)
          · skip
            have ic37_18 : v17.toInt ≠ (0 : Int32).toInt := fun z => c37_18 (Int32.toInt_inj.mp z)
            have y21 : (0 : Int32).toInt = 0 := by decide
            have q22 : rg (1) (1) v17 := rg_neL c37_18 rv17 kc_0
            have uq22 : (1 : Int) ≤ v17.toInt ∧ v17.toInt ≤ 1 := q22
            refine lv_aload_n hx hb dX10_joined_40 rfl (lv_at hl 0 rfl) ?_
            exact hQ _ _ v11 _ _ _ _ dX10_joined_41 (cOpt_some hvv11.1) L16 ⟨(mFr.tr (mFr.tr (mFr.tr (mFr.tr mFr.rf hF2 rfl) hp4.1 rfl) hp10.1 rfl) hp16.1 rfl), hp16.2.2.1, (fun _ => ⟨hvv11.2.1, trivial⟩)⟩
  have y23 : (0 : Int32).toInt = 0 := by decide
  exact j2_2 _ (0 : Int32) g _ _ ls mFr.rf L hJ (rg_w kc_0 rfl) (lv_sub hl [1, 2, 0] rfl) rfl
theorem c_kjoined (l : Launch) {G : cG} {Z : cZ} (X : Int) (g : mSt) (i0 : Nat) (p1 : Int32) (hX : 0 ≤ X ∧ X ≤ 2000000000) (hJ : cJ Z g) (hi0 : i0 < Z.n) : Met l yX10_joined (wk (Cond.code yX10_joined cX10_joined 4 (some (.object "CellSwitch$Call")))) rm_kjoined (va_Pc [.ref (Z.ad 10 i0), .int p1] (cPre G Z X g)) (cQr G Z X 1 (fun r g1 => mFr [] g g1 ∧ cJ Z g1 ∧ (0 ≤ r.toInt → Z.al 1 r.toInt.toNat ∧ True))) 0 0 (cAd Z) := by
  refine Met.ofW (cc := cX10_joined) (maxL := 4) (ret := (some (.object "CellSwitch$Call"))) (by decide) rfl ?_
  intro p e s m args below meth c s₁ B hml hv
  obtain ⟨rfl, hv⟩ := hv
  have hr := B.returns
  have hlocks := B.notSynchronized
  obtain ⟨x, L⟩ := c_start B rfl (fun w h => wk_in h) hv
  have hl := lv_entry ([.ref (Z.ad 10 i0), .int p1]) (n := 4) (Nat.le_of_ble_eq_true rfl)
  rw [lg_entry_eq]
  generalize (lg_sl ([.ref (Z.ad 10 i0), .int p1]) ++ List.replicate (4 - (lg_sl ([.ref (Z.ad 10 i0), .int p1])).length) Slot.unset).toArray = ls at hl ⊢
  exact w_kjoined x hml L hX i0 p1 hJ hi0 hl (fun pc' ls' r a g1 H1 locs1 hdg ha L hp => c_aret x L hr (Or.inl ⟨_, rfl⟩) hlocks (Int.le_refl _) ha hp hdg) (fun pc' ls' g1 H1 locs1 hdg L hp => c_nret (r := -1) x L hr (Or.inl ⟨_, rfl⟩) hlocks (Int.le_refl _) (cOpt_none (by decide)) hp hdg)

def rm_kactive : Room := { frames := 0, cells := 0, slots := 0, locals := 0 }
theorem hd_kactive : yX4_active.cls = cRn 4 ∧ yX4_active.cls ≠ "java/lang/invoke/MethodHandle" ∧ yX4_active.cls ≠ "java/lang/invoke/VarHandle" ∧ (parseMethodDescriptor yX4_active.desc).map (fun d => d.parameters.length) = some 1 := by decide +kernel
set_option maxHeartbeats 4000000 in
set_option maxRecDepth 100000 in
theorem w_kactive {p : Program} {l : Launch} {e : Env} {s : State} {m : MethodId} {args : Array Value} {below : List Frame} {meth : Method} {c : Code} {H : Heap} {locs : List Loc} {Q : State → Prop} {ls : Array Slot} {G : cG} {Z : cZ} {A : Nat → Prop} {g : mSt} {H0 : Heap} {X : Int} (x : cX p c cX4_active s args (wk (Cond.code yX4_active cX4_active 3 (some (.object "CellSwitch$Call")))) m G Z A RX4 H0) (hml : c.maxLocals = 3) (L : cL G Z A H0 X g H locs) (hX : 0 ≤ X ∧ X ≤ 2000000000) (i0 : Nat) (p1 : Int32) (hJ : cJ Z g) (hi0 : i0 < Z.n) (hl : lv_has ls 3 [(0, .ref (Z.ad 4 i0)), (1, .int p1)]) (hQ : ∀ (pc' : Nat) (ls' : Array Slot) (r : Int32) (a : Nat) (g1 : mSt) (H1 : Heap) (locs1 : List Loc), decode cX4_active pc' = .ok (.areturn, 1) → cOpt Z 1 r = some a → cL G Z A H0 X g1 H1 locs1 → (mFr [] g g1 ∧ cJ Z g1 ∧ (0 ≤ r.toInt → Z.al 1 r.toInt.toNat ∧ True)) → W p l e rm_kactive s m args below meth c H1 locs1 0 0 Q (F0 m pc' ls' [.ref a])) (hN : ∀ (pc' : Nat) (ls' : Array Slot) (g1 : mSt) (H1 : Heap) (locs1 : List Loc), decode cX4_active pc' = .ok (.areturn, 1) → cL G Z A H0 X g1 H1 locs1 → (mFr [] g g1 ∧ cJ Z g1 ∧ (0 ≤ (-1 : Int32).toInt → Z.al 1 (-1 : Int32).toInt.toNat ∧ True)) → W p l e rm_kactive s m args below meth c H1 locs1 0 0 Q (F0 m pc' ls' [.null])) : W p l e rm_kactive s m args below meth c H locs 0 0 Q (F0 m 0 ls []) := by
  have hx := x.1
  have hb := x.2.1
  have hz := x.2.2.2.2.2.2.2.1
  have hzn := hz.1
  have hal0 : Z.al 4 i0 := hz.2 4 i0 (show i0 < Z.n from hi0)
  have up1 : (-2147483648 : Int) ≤ p1.toInt ∧ p1.toInt ≤ 2147483647 := (rg_any p1)
  refine lv_iconst (v := 0) hx hb dX4_active_0 (by decide) ?_
  refine lv_istore_n (lv' := [(2, .int (0 : Int32)), (0, .ref (Z.ad 4 i0)), (1, .int p1)]) hx hb dX4_active_1 rfl hl (by decide) rfl (fun ls hl => ?_)
  have j2_2 : ∀ (n : Nat) (a2_2_1 : Int32) (g2 : mSt) (H2 : Heap) (k2 : List Loc) (ls : Array Slot), mFr [] g g2 → cL G Z A H0 X g2 H2 k2 → cJ Z g2 → rg (0) (40) a2_2_1 → lv_has ls 3 [(0, .ref (Z.ad 4 i0)), (1, .int p1), (2, .int a2_2_1)] → ((40 : Int) - a2_2_1.toInt).toNat = n → W p l e rm_kactive s m args below meth c H2 k2 0 0 Q (F0 m 2 ls []) := by
    intro n
    induction n using Nat.strongRecOn with
    | _ n ih2 =>
      intro a2_2_1 g2 H2 k2 ls hF2 L2 hJ2 ra2_2_1 hl hn2
      subst hn2
      have ua2_2_1 : (0 : Int) ≤ a2_2_1.toInt ∧ a2_2_1.toInt ≤ 40 := ra2_2_1
      refine lv_iload_n hx hb dX4_active_2 rfl (lv_at hl 2 rfl) ?_
      refine lv_aload_n hx hb dX4_active_3 rfl (lv_at hl 0 rfl) ?_
      refine c_geti x L2 4 i0 7 135 hal0 rfl rfl (wk_in kf_X4_37) dX4_active_4 (fun v3 ev3 wv3 => ?_)
      have rv3 : rg (0) (40) v3 := clj_135 wv3
      have uv3 : (0 : Int) ≤ v3.toInt ∧ v3.toInt ≤ 40 := rv3
      have sv3 : v3.toInt = (g 135 i0).toInt := congrArg Int32.toInt (ev3.trans (congrFun ((show mFr [] g g2 from (mFr.tr mFr.rf hF2 rfl)).at 135 rfl) _))
      refine lv_icmp_ge (tgt := 50) hx hb dX4_active_7 (by decide) (fun c7_4 => ?_) (fun c7_4 => ?_)
      · skip
        have ic7_4 := Int32.le_iff_toInt_le.mp c7_4
        refine lv_null hx hb dX4_active_50 ?_
        exact hN _ _ _ _ _ dX4_active_51 L2 ⟨(mFr.tr mFr.rf hF2 rfl), hJ2, (fun h => by have : (-1 : Int32).toInt = -1 := (by decide); omega)⟩
      · skip
        have ic7_4 := Int32.lt_iff_toInt_lt.mp (rg_nle c7_4)
        have q5 : rg (0) (39) a2_2_1 := (rg_lt (rg_nle c7_4) ra2_2_1 rv3).1
        have uq5 : (0 : Int) ≤ a2_2_1.toInt ∧ a2_2_1.toInt ≤ 39 := q5
        have q6 : rg (1) (40) v3 := (rg_lt (rg_nle c7_4) ra2_2_1 rv3).2
        have uq6 : (1 : Int) ≤ v3.toInt ∧ v3.toInt ≤ 40 := q6
        refine lv_aload_n hx hb dX4_active_10 rfl (lv_at hl 0 rfl) ?_
        have al7 : Z.al 48 i0 := hz.2 48 i0 (show i0 < Z.n from (by omega))
        refine c_getr (a := Z.ad 48 i0) x L2 4 i0 6 hal0 rfl rfl (wk_in kf_X4_20) dX4_active_11 ?_
        refine lv_iload_n hx hb dX4_active_14 rfl (lv_at hl 2 rfl) ?_
        obtain ⟨v8, ev8⟩ : ∃ y : Int32, y = g2 1536 (16777216 * i0 + a2_2_1.toNatClampNeg) := ⟨_, rfl⟩
        have hn10 : ((a2_2_1.toInt.toNat : Nat) : Int) = a2_2_1.toInt := Int.toNat_of_nonneg (by omega)
        have hd9c := hJ2.2.2.2.1 i0 (by omega) a2_2_1.toInt.toNat (by rw [hn10]; rw [← ev3]; omega)
        have hd9e : v8 = g2 1536 (16777216 * i0 + a2_2_1.toInt.toNat) := ev8
        rw [← hd9e] at hd9c
        refine c_ldr (a := Z.ad 1 v8.toInt.toNat) x L2 48 i0 al7 rfl (by omega) (show a2_2_1.toInt < ((40 : Nat) : Int) from (by omega)) (by show cOpt Z 1 (g2 1536 (16777216 * i0 + a2_2_1.toNatClampNeg)) = _; rw [← ev8]; exact cOpt_some hd9c.1) dX4_active_15 ?_
        refine c_geti x L2 1 v8.toInt.toNat 4 36 hd9c.2.1 rfl rfl (wk_in kf_X4_140) dX4_active_16 (fun v11 ev11 wv11 => ?_)
        have rv11 : rg (-2147483648) (2147483647) v11 := rg_any v11
        have uv11 : (-2147483648 : Int) ≤ v11.toInt ∧ v11.toInt ≤ 2147483647 := rv11
        have sv11 : v11.toInt = (g 36 v8.toInt.toNat).toInt := congrArg Int32.toInt (ev11.trans (congrFun ((show mFr [] g g2 from (mFr.tr mFr.rf hF2 rfl)).at 36 rfl) _))
        refine lv_bipush (v := 10) hx hb dX4_active_19 (by decide) ?_
        have j44_12 : ∀ (g12 : mSt) (H12 : Heap) (k12 : List Loc) (ls : Array Slot), mFr [] g2 g12 → cL G Z A H0 X g12 H12 k12 → cJ Z g12 → lv_has ls 3 [(0, .ref (Z.ad 4 i0)), (1, .int p1), (2, .int a2_2_1)] → W p l e rm_kactive s m args below meth c H12 k12 0 0 Q (F0 m 44 ls []) := by
          intro  g12 H12 k12 ls hF12 L12 hJ12  hl
          obtain ⟨v13, ev13, fv13⟩ := inc_ex a2_2_1 (1) (1 : Int32) (by decide)
          have rv13 : rg (1) (40) v13 := (rg_add ev13 q5 kc_1 rfl).1
          have tv13 := (rg_add ev13 q5 kc_1 rfl).2
          have yv13 : (1 : Int32).toInt = 1 := by decide
          refine lv_iinc (v := v13) (lv' := [(2, .int v13), (0, .ref (Z.ad 4 i0)), (1, .int p1)]) hx hb dX4_active_44 hl (k := 2) rfl fv13 (by decide) rfl (fun ls hl => ?_)
          refine lv_goto (tgt := 2) hx hb dX4_active_47 (by decide) ?_
          exact ih2 _ (ms_up tv13 kc_1 q5 rfl rfl) v13 g12 _ _ ls (mFr.tr hF2 hF12 rfl) L12 hJ12 (rg_w rv13 rfl) (lv_sub hl [1, 2, 0] rfl) rfl
        refine lv_icmp_ne (tgt := 44) hx hb dX4_active_21 (by decide) (fun c21_14 => ?_) (fun c21_14 => ?_)
        · skip
          have ic21_14 : v11.toInt ≠ (10 : Int32).toInt := fun z => c21_14 (Int32.toInt_inj.mp z)
          have y15 : (10 : Int32).toInt = 10 := by decide
          exact j44_12  g2 _ _ ls mFr.rf L2 hJ2 (lv_sub hl [0, 1, 2] rfl)
        · skip
          have ic21_14 := congrArg Int32.toInt c21_14
          have y16 : (10 : Int32).toInt = 10 := by decide
          have q17 : rg (10) (10) v11 := (rg_eq c21_14 rv11 kc_10).1
          have uq17 : (10 : Int) ≤ v11.toInt ∧ v11.toInt ≤ 10 := q17
          refine lv_aload_n hx hb dX4_active_24 rfl (lv_at hl 0 rfl) ?_
          refine c_getr (a := Z.ad 48 i0) x L2 4 i0 6 hal0 rfl rfl (wk_in kf_X4_20) dX4_active_25 ?_
          refine lv_iload_n hx hb dX4_active_28 rfl (lv_at hl 2 rfl) ?_
          have hn19 : ((a2_2_1.toInt.toNat : Nat) : Int) = a2_2_1.toInt := Int.toNat_of_nonneg (by omega)
          have hd18c := hJ2.2.2.2.1 i0 (by omega) a2_2_1.toInt.toNat (by rw [hn19]; rw [← ev3]; omega)
          have hd18e : v8 = g2 1536 (16777216 * i0 + a2_2_1.toInt.toNat) := ev8
          rw [← hd18e] at hd18c
          refine c_ldr (a := Z.ad 1 v8.toInt.toNat) x L2 48 i0 al7 rfl (by omega) (show a2_2_1.toInt < ((40 : Nat) : Int) from (by omega)) (by show cOpt Z 1 (g2 1536 (16777216 * i0 + a2_2_1.toNatClampNeg)) = _; rw [← ev8]; exact cOpt_some hd18c.1) dX4_active_29 ?_
          refine c_geti x L2 1 v8.toInt.toNat 5 37 hd18c.2.1 rfl rfl (wk_in kf_X4_124) dX4_active_30 (fun v20 ev20 wv20 => ?_)
          have rv20 : rg (-2147483648) (2147483647) v20 := rg_any v20
          have uv20 : (-2147483648 : Int) ≤ v20.toInt ∧ v20.toInt ≤ 2147483647 := rv20
          have sv20 : v20.toInt = (g 37 v8.toInt.toNat).toInt := congrArg Int32.toInt (ev20.trans (congrFun ((show mFr [] g g2 from (mFr.tr mFr.rf hF2 rfl)).at 37 rfl) _))
          refine lv_iload_n hx hb dX4_active_33 rfl (lv_at hl 1 rfl) ?_
          refine lv_icmp_ne (tgt := 44) hx hb dX4_active_34 (by decide) (fun c34_21 => ?_) (fun c34_21 => ?_)
          · skip
            have ic34_21 : v20.toInt ≠ p1.toInt := fun z => c34_21 (Int32.toInt_inj.mp z)
            exact j44_12  g2 _ _ ls mFr.rf L2 hJ2 (lv_sub hl [0, 1, 2] rfl)
          · skip
            have ic34_21 := congrArg Int32.toInt c34_21
            refine lv_aload_n hx hb dX4_active_37 rfl (lv_at hl 0 rfl) ?_
            refine c_getr (a := Z.ad 48 i0) x L2 4 i0 6 hal0 rfl rfl (wk_in kf_X4_20) dX4_active_38 ?_
            refine lv_iload_n hx hb dX4_active_41 rfl (lv_at hl 2 rfl) ?_
            have hn23 : ((a2_2_1.toInt.toNat : Nat) : Int) = a2_2_1.toInt := Int.toNat_of_nonneg (by omega)
            have hd22c := hJ2.2.2.2.1 i0 (by omega) a2_2_1.toInt.toNat (by rw [hn23]; rw [← ev3]; omega)
            have hd22e : v8 = g2 1536 (16777216 * i0 + a2_2_1.toInt.toNat) := ev8
            rw [← hd22e] at hd22c
            refine c_ldr (a := Z.ad 1 v8.toInt.toNat) x L2 48 i0 al7 rfl (by omega) (show a2_2_1.toInt < ((40 : Nat) : Int) from (by omega)) (by show cOpt Z 1 (g2 1536 (16777216 * i0 + a2_2_1.toNatClampNeg)) = _; rw [← ev8]; exact cOpt_some hd22c.1) dX4_active_42 ?_
            exact hQ _ _ v8 _ _ _ _ dX4_active_43 (cOpt_some hd22c.1) L2 ⟨(mFr.tr mFr.rf hF2 rfl), hJ2, (fun _ => ⟨hd22c.2.1, trivial⟩)⟩
  have y24 : (0 : Int32).toInt = 0 := by decide
  exact j2_2 _ (0 : Int32) g _ _ ls mFr.rf L hJ (rg_w kc_0 rfl) (lv_sub hl [1, 2, 0] rfl) rfl
theorem c_kactive (l : Launch) {G : cG} {Z : cZ} (X : Int) (g : mSt) (i0 : Nat) (p1 : Int32) (hX : 0 ≤ X ∧ X ≤ 2000000000) (hJ : cJ Z g) (hi0 : i0 < Z.n) : Met l yX4_active (wk (Cond.code yX4_active cX4_active 3 (some (.object "CellSwitch$Call")))) rm_kactive (va_Pc [.ref (Z.ad 4 i0), .int p1] (cPre G Z X g)) (cQr G Z X 1 (fun r g1 => mFr [] g g1 ∧ cJ Z g1 ∧ (0 ≤ r.toInt → Z.al 1 r.toInt.toNat ∧ True))) 0 0 (cAd Z) := by
  refine Met.ofW (cc := cX4_active) (maxL := 3) (ret := (some (.object "CellSwitch$Call"))) (by decide) rfl ?_
  intro p e s m args below meth c s₁ B hml hv
  obtain ⟨rfl, hv⟩ := hv
  have hr := B.returns
  have hlocks := B.notSynchronized
  obtain ⟨x, L⟩ := c_start B rfl (fun w h => wk_in h) hv
  have hl := lv_entry ([.ref (Z.ad 4 i0), .int p1]) (n := 3) (Nat.le_of_ble_eq_true rfl)
  rw [lg_entry_eq]
  generalize (lg_sl ([.ref (Z.ad 4 i0), .int p1]) ++ List.replicate (3 - (lg_sl ([.ref (Z.ad 4 i0), .int p1])).length) Slot.unset).toArray = ls at hl ⊢
  exact w_kactive x hml L hX i0 p1 hJ hi0 hl (fun pc' ls' r a g1 H1 locs1 hdg ha L hp => c_aret x L hr (Or.inl ⟨_, rfl⟩) hlocks (Int.le_refl _) ha hp hdg) (fun pc' ls' g1 H1 locs1 hdg L hp => c_nret (r := -1) x L hr (Or.inl ⟨_, rfl⟩) hlocks (Int.le_refl _) (cOpt_none (by decide)) hp hdg)

def rm_kcallAt : Room := { frames := 1, cells := 0, slots := 0, locals := 21 }
theorem hd_kcallAt : yX11_callAt.cls = cRn 11 ∧ yX11_callAt.cls ≠ "java/lang/invoke/MethodHandle" ∧ yX11_callAt.cls ≠ "java/lang/invoke/VarHandle" ∧ (parseMethodDescriptor yX11_callAt.desc).map (fun d => d.parameters.length) = some 2 := by decide +kernel
set_option maxHeartbeats 4000000 in
set_option maxRecDepth 100000 in
theorem w_kcallAt {p : Program} {l : Launch} {e : Env} {s : State} {m : MethodId} {args : Array Value} {below : List Frame} {meth : Method} {c : Code} {H : Heap} {locs : List Loc} {Q : State → Prop} {ls : Array Slot} {G : cG} {Z : cZ} {A : Nat → Prop} {g : mSt} {H0 : Heap} {X : Int} (x : cX p c cX11_callAt s args (wk (Cond.code yX11_callAt cX11_callAt 3 (some (.object "CellSwitch$Call")))) m G Z A RX11 H0) (hml : c.maxLocals = 3) (L : cL G Z A H0 X g H locs) (hX : 0 ≤ X ∧ X ≤ 2000000000) (i0 : Nat) (p1 : Int32) (p2 : Int32) (hJ : cJ Z g) (hal0 : Z.al 11 i0) (hl : lv_has ls 3 [(0, .ref (Z.ad 11 i0)), (1, .int p1), (2, .int p2)]) (hQ : ∀ (pc' : Nat) (ls' : Array Slot) (r : Int32) (a : Nat) (g1 : mSt) (H1 : Heap) (locs1 : List Loc), decode cX11_callAt pc' = .ok (.areturn, 1) → cOpt Z 1 r = some a → cL G Z A H0 X g1 H1 locs1 → (mFr [] g g1 ∧ cJ Z g1 ∧ (0 ≤ r.toInt → Z.al 1 r.toInt.toNat ∧ True)) → W p l e rm_kcallAt s m args below meth c H1 locs1 0 0 Q (F0 m pc' ls' [.ref a])) (hN : ∀ (pc' : Nat) (ls' : Array Slot) (g1 : mSt) (H1 : Heap) (locs1 : List Loc), decode cX11_callAt pc' = .ok (.areturn, 1) → cL G Z A H0 X g1 H1 locs1 → (mFr [] g g1 ∧ cJ Z g1 ∧ (0 ≤ (-1 : Int32).toInt → Z.al 1 (-1 : Int32).toInt.toNat ∧ True)) → W p l e rm_kcallAt s m args below meth c H1 locs1 0 0 Q (F0 m pc' ls' [.null])) : W p l e rm_kcallAt s m args below meth c H locs 0 0 Q (F0 m 0 ls []) := by
  have hx := x.1
  have hb := x.2.1
  have hz := x.2.2.2.2.2.2.2.1
  have hzn := hz.1
  have up1 : (-2147483648 : Int) ≤ p1.toInt ∧ p1.toInt ≤ 2147483647 := (rg_any p1)
  have up2 : (-2147483648 : Int) ≤ p2.toInt ∧ p2.toInt ≤ 2147483647 := (rg_any p2)
  refine lv_aload_n hx hb dX11_callAt_0 rfl (lv_at hl 0 rfl) ?_
  refine lv_iload_n hx hb dX11_callAt_1 rfl (lv_at hl 1 rfl) ?_
  refine c_ci (As := [.int p1]) (rest := []) x hml L 11 i0 hal0 rfl (c_kisEnd l X g i0 p1 hX hal0) (wk_V kd_X11_isEnd kl_X11_223 ki_X11_isEnd ks_X11_X11_isEnd kn_X11) rfl ⟨rfl, rfl⟩ hd_kisEnd ⟨Nat.le_of_ble_eq_true rfl, Nat.le_of_ble_eq_true rfl⟩ rfl hl.1 rfl (lv_room (Nat.le_of_ble_eq_true rfl)) dX11_callAt_2 (fun v2 g1 H1 k1 hp1 L1 => ?_)
  have rv2 : rg (0) (1) v2 := hp1.2.1
  have uv2 : (0 : Int) ≤ v2.toInt ∧ v2.toInt ≤ 1 := rv2
  have hw3 := hp1.2.2
  refine lv_if_eq (tgt := 25) hx hb dX11_callAt_5 (by decide) (fun c5_4 => ?_) (fun c5_4 => ?_)
  · skip
    have ic5_4 := congrArg Int32.toInt c5_4
    have y5 : (0 : Int32).toInt = 0 := by decide
    have q6 : rg (0) (0) v2 := (rg_eq c5_4 rv2 kc_0).1
    have uq6 : (0 : Int) ≤ v2.toInt ∧ v2.toInt ≤ 0 := q6
    refine lv_null hx hb dX11_callAt_25 ?_
    exact hN _ _ _ _ _ dX11_callAt_26 L1 ⟨(mFr.tr mFr.rf hp1.1 rfl), (cJ_fr hJ hp1.1 rfl), (fun h => by have : (-1 : Int32).toInt = -1 := (by decide); omega)⟩
  · skip
    have ic5_4 : v2.toInt ≠ (0 : Int32).toInt := fun z => c5_4 (Int32.toInt_inj.mp z)
    have y7 : (0 : Int32).toInt = 0 := by decide
    have q8 : rg (1) (1) v2 := rg_neL c5_4 rv2 kc_0
    have uq8 : (1 : Int) ≤ v2.toInt ∧ v2.toInt ≤ 1 := q8
    refine lv_iload_n hx hb dX11_callAt_8 rfl (lv_at hl 2 rfl) ?_
    refine lv_if_lt (tgt := 25) hx hb dX11_callAt_9 (by decide) (fun c9_9 => ?_) (fun c9_9 => ?_)
    · skip
      have ic9_9 := Int32.lt_iff_toInt_lt.mp c9_9
      have q10 : rg (-2147483648) (-1) p2 := (rg_lt c9_9 (rg_any p2) kc_0).1
      have uq10 : (-2147483648 : Int) ≤ p2.toInt ∧ p2.toInt ≤ -1 := q10
      refine lv_null hx hb dX11_callAt_25 ?_
      exact hN _ _ _ _ _ dX11_callAt_26 L1 ⟨(mFr.tr mFr.rf hp1.1 rfl), (cJ_fr hJ hp1.1 rfl), (fun h => by have : (-1 : Int32).toInt = -1 := (by decide); omega)⟩
    · skip
      have ic9_9 := Int32.le_iff_toInt_le.mp (rg_nlt c9_9)
      have q11 : rg (0) (2147483647) p2 := (rg_le (rg_nlt c9_9) kc_0 (rg_any p2)).2
      have uq11 : (0 : Int) ≤ p2.toInt ∧ p2.toInt ≤ 2147483647 := q11
      refine lv_iload_n hx hb dX11_callAt_12 rfl (lv_at hl 2 rfl) ?_
      refine lv_aload_n hx hb dX11_callAt_13 rfl (lv_at hl 0 rfl) ?_
      have al12 : Z.al 51 0 := hz.2 51 0 (show 0 < 1 from (by omega))
      refine c_getr (a := Z.ad 51 0) x L1 11 i0 2 hal0 rfl rfl (wk_in kf_X11_63) dX11_callAt_14 ?_
      refine lv_iload_n hx hb dX11_callAt_17 rfl (lv_at hl 1 rfl) ?_
      refine c_ldr (a := Z.ad 4 p1.toInt.toNat) x L1 51 0 al12 rfl (by omega) (show p1.toInt < ((Z.n : Nat) : Int) from (by omega)) rfl dX11_callAt_18 ?_
      have al13 : Z.al 4 p1.toInt.toNat := hz.2 4 p1.toInt.toNat (show p1.toInt.toNat < Z.n from (by omega))
      refine c_geti x L1 4 p1.toInt.toNat 7 135 al13 rfl rfl (wk_in kf_X11_268) dX11_callAt_19 (fun v14 ev14 wv14 => ?_)
      have rv14 : rg (0) (40) v14 := clj_135 wv14
      have uv14 : (0 : Int) ≤ v14.toInt ∧ v14.toInt ≤ 40 := rv14
      have sv14 : v14.toInt = (g 135 p1.toInt.toNat).toInt := congrArg Int32.toInt (ev14.trans (congrFun ((show mFr [] g g1 from (mFr.tr mFr.rf hp1.1 rfl)).at 135 rfl) _))
      refine lv_icmp_lt (tgt := 27) hx hb dX11_callAt_22 (by decide) (fun c22_15 => ?_) (fun c22_15 => ?_)
      · skip
        have ic22_15 := Int32.lt_iff_toInt_lt.mp c22_15
        have q16 : rg (0) (39) p2 := (rg_lt c22_15 q11 rv14).1
        have uq16 : (0 : Int) ≤ p2.toInt ∧ p2.toInt ≤ 39 := q16
        have q17 : rg (1) (40) v14 := (rg_lt c22_15 q11 rv14).2
        have uq17 : (1 : Int) ≤ v14.toInt ∧ v14.toInt ≤ 40 := q17
        refine lv_aload_n hx hb dX11_callAt_27 rfl (lv_at hl 0 rfl) ?_
        refine c_getr (a := Z.ad 51 0) x L1 11 i0 2 hal0 rfl rfl (wk_in kf_X11_63) dX11_callAt_28 ?_
        refine lv_iload_n hx hb dX11_callAt_31 rfl (lv_at hl 1 rfl) ?_
        refine c_ldr (a := Z.ad 4 p1.toInt.toNat) x L1 51 0 al12 rfl (by omega) (show p1.toInt < ((Z.n : Nat) : Int) from (by omega)) rfl dX11_callAt_32 ?_
        have al18 : Z.al 48 p1.toInt.toNat := hz.2 48 p1.toInt.toNat (show p1.toInt.toNat < Z.n from (by omega))
        refine c_getr (a := Z.ad 48 p1.toInt.toNat) x L1 4 p1.toInt.toNat 6 al13 rfl rfl (wk_in kf_X11_290) dX11_callAt_33 ?_
        refine lv_iload_n hx hb dX11_callAt_36 rfl (lv_at hl 2 rfl) ?_
        obtain ⟨v19, ev19⟩ : ∃ y : Int32, y = g1 1536 (16777216 * p1.toInt.toNat + p2.toNatClampNeg) := ⟨_, rfl⟩
        have hn21 : ((p2.toInt.toNat : Nat) : Int) = p2.toInt := Int.toNat_of_nonneg (by omega)
        have hd20c := (cJ_fr hJ hp1.1 rfl).2.2.2.1 p1.toInt.toNat (by omega) p2.toInt.toNat (by rw [hn21]; rw [← ev14]; omega)
        have hd20e : v19 = g1 1536 (16777216 * p1.toInt.toNat + p2.toInt.toNat) := ev19
        rw [← hd20e] at hd20c
        refine c_ldr (a := Z.ad 1 v19.toInt.toNat) x L1 48 p1.toInt.toNat al18 rfl (by omega) (show p2.toInt < ((40 : Nat) : Int) from (by omega)) (by show cOpt Z 1 (g1 1536 (16777216 * p1.toInt.toNat + p2.toNatClampNeg)) = _; rw [← ev19]; exact cOpt_some hd20c.1) dX11_callAt_37 ?_
        exact hQ _ _ v19 _ _ _ _ dX11_callAt_38 (cOpt_some hd20c.1) L1 ⟨(mFr.tr mFr.rf hp1.1 rfl), (cJ_fr hJ hp1.1 rfl), (fun _ => ⟨hd20c.2.1, trivial⟩)⟩
      · skip
        have ic22_15 := Int32.le_iff_toInt_le.mp (rg_nlt c22_15)
        refine lv_null hx hb dX11_callAt_25 ?_
        exact hN _ _ _ _ _ dX11_callAt_26 L1 ⟨(mFr.tr mFr.rf hp1.1 rfl), (cJ_fr hJ hp1.1 rfl), (fun h => by have : (-1 : Int32).toInt = -1 := (by decide); omega)⟩
theorem c_kcallAt (l : Launch) {G : cG} {Z : cZ} (X : Int) (g : mSt) (i0 : Nat) (p1 : Int32) (p2 : Int32) (hX : 0 ≤ X ∧ X ≤ 2000000000) (hJ : cJ Z g) (hal0 : Z.al 11 i0) : Met l yX11_callAt (wk (Cond.code yX11_callAt cX11_callAt 3 (some (.object "CellSwitch$Call")))) rm_kcallAt (va_Pc [.ref (Z.ad 11 i0), .int p1, .int p2] (cPre G Z X g)) (cQr G Z X 1 (fun r g1 => mFr [] g g1 ∧ cJ Z g1 ∧ (0 ≤ r.toInt → Z.al 1 r.toInt.toNat ∧ True))) 0 0 (cAd Z) := by
  refine Met.ofW (cc := cX11_callAt) (maxL := 3) (ret := (some (.object "CellSwitch$Call"))) (by decide) rfl ?_
  intro p e s m args below meth c s₁ B hml hv
  obtain ⟨rfl, hv⟩ := hv
  have hr := B.returns
  have hlocks := B.notSynchronized
  obtain ⟨x, L⟩ := c_start B rfl (fun w h => wk_in h) hv
  have hl := lv_entry ([.ref (Z.ad 11 i0), .int p1, .int p2]) (n := 3) (Nat.le_of_ble_eq_true rfl)
  rw [lg_entry_eq]
  generalize (lg_sl ([.ref (Z.ad 11 i0), .int p1, .int p2]) ++ List.replicate (3 - (lg_sl ([.ref (Z.ad 11 i0), .int p1, .int p2])).length) Slot.unset).toArray = ls at hl ⊢
  exact w_kcallAt x hml L hX i0 p1 p2 hJ hal0 hl (fun pc' ls' r a g1 H1 locs1 hdg ha L hp => c_aret x L hr (Or.inl ⟨_, rfl⟩) hlocks (Int.le_refl _) ha hp hdg) (fun pc' ls' g1 H1 locs1 hdg L hp => c_nret (r := -1) x L hr (Or.inl ⟨_, rfl⟩) hlocks (Int.le_refl _) (cOpt_none (by decide)) hp hdg)

def rm_khang : Room := { frames := 4, cells := 0, slots := 0, locals := 94 }
theorem hd_khang : yX11_hang.cls = cRn 11 ∧ yX11_hang.cls ≠ "java/lang/invoke/MethodHandle" ∧ yX11_hang.cls ≠ "java/lang/invoke/VarHandle" ∧ (parseMethodDescriptor yX11_hang.desc).map (fun d => d.parameters.length) = some 2 := by decide +kernel
set_option maxHeartbeats 4000000 in
set_option maxRecDepth 100000 in
theorem w_khang {p : Program} {l : Launch} {e : Env} {s : State} {m : MethodId} {args : Array Value} {below : List Frame} {meth : Method} {c : Code} {H : Heap} {locs : List Loc} {Q : State → Prop} {ls : Array Slot} {G : cG} {Z : cZ} {A : Nat → Prop} {g : mSt} {H0 : Heap} {X : Int} (x : cX p c cX11_hang s args (wk (Cond.code yX11_hang cX11_hang 4 (some .int))) m G Z A RX11 H0) (hml : c.maxLocals = 4) (L : cL G Z A H0 X g H locs) (hX : 0 ≤ X ∧ X ≤ 2000000000) (i0 : Nat) (p1 : Int32) (p2 : Int32) (hJ : cJ Z g) (hal0 : Z.al 11 i0) (hl : lv_has ls 4 [(0, .ref (Z.ad 11 i0)), (1, .int p1), (2, .int p2)]) (hQ : ∀ (pc' : Nat) (ls' : Array Slot) (r : Int32) (g1 : mSt) (H1 : Heap) (locs1 : List Loc), decode cX11_hang pc' = .ok (.ireturn, 1) → cL G Z A H0 X g1 H1 locs1 → (mFr [36, 40, 41, 42, 44, 45, 46, 48, 198, 832, 864] g g1 ∧ rg (-1) (1) r ∧ cJ Z g1 ∧ True) → W p l e rm_khang s m args below meth c H1 locs1 0 0 Q (F0 m pc' ls' [.int r])) : W p l e rm_khang s m args below meth c H locs 0 0 Q (F0 m 0 ls []) := by
  have hx := x.1
  have hb := x.2.1
  have hz := x.2.2.2.2.2.2.2.1
  have hzn := hz.1
  have up1 : (-2147483648 : Int) ≤ p1.toInt ∧ p1.toInt ≤ 2147483647 := (rg_any p1)
  have up2 : (-2147483648 : Int) ≤ p2.toInt ∧ p2.toInt ≤ 2147483647 := (rg_any p2)
  refine lv_aload_n hx hb dX11_hang_0 rfl (lv_at hl 0 rfl) ?_
  refine lv_iload_n hx hb dX11_hang_1 rfl (lv_at hl 1 rfl) ?_
  refine lv_iload_n hx hb dX11_hang_2 rfl (lv_at hl 2 rfl) ?_
  refine c_cr (As := [.int p1, .int p2]) (rest := []) x hml L 11 i0 hal0 rfl (c_kcallAt l X g i0 p1 p2 hX hJ hal0) (wk_V kd_X11_callAt kl_X11_229 ki_X11_callAt ks_X11_X11_callAt kn_X11) rfl ⟨rfl, rfl⟩ hd_kcallAt ⟨Nat.le_of_ble_eq_true rfl, Nat.le_of_ble_eq_true rfl⟩ rfl hl.1 rfl (lv_room (Nat.le_of_ble_eq_true rfl)) dX11_hang_3 (fun v2 g1 H1 k1 hp1 L1 => ?_)
  have hvv2 := hp1.2.2
  rcases (show v2.toInt < 0 ∨ 0 ≤ v2.toInt from (by omega)) with hc3 | hc3
  · skip
    refine c_top (show Value.null = va_rf (cOpt Z 1 v2) from (by rw [cOpt_none hc3]; rfl)) ?_
    refine lv_astore_nN (lv' := [(3, .null), (0, .ref (Z.ad 11 i0)), (1, .int p1), (2, .int p2)]) hx hb dX11_hang_6 rfl hl (by decide) rfl (fun ls hl => ?_)
    refine lv_aload_nN hx hb dX11_hang_7 rfl (lv_at hl 0 rfl) ?_
    refine lv_ifnonnullN hx hb dX11_hang_8 ?_
    refine lv_iconst (v := (-1)) hx hb dX11_hang_11 (by decide) ?_
    exact hQ _ _ (-1 : Int32) _ _ _ dX11_hang_12 L1 ⟨(mFr.tr mFr.rf hp1.1 rfl), rg_w kc_m1 rfl, hp1.2.1, trivial⟩
  · skip
    refine c_top (show Value.ref (Z.ad 1 v2.toInt.toNat) = va_rf (cOpt Z 1 v2) from (by rw [cOpt_some hc3]; rfl)) ?_
    have hwv2 := hvv2 hc3
    refine lv_astore_n (lv' := [(3, .ref (Z.ad 1 v2.toInt.toNat)), (0, .ref (Z.ad 11 i0)), (1, .int p1), (2, .int p2)]) hx hb dX11_hang_6 rfl hl (by decide) rfl (fun ls hl => ?_)
    refine lv_aload_n hx hb dX11_hang_7 rfl (lv_at hl 0 rfl) ?_
    refine lv_ifnonnull (tgt := 13) hx hb dX11_hang_8 (by decide) ?_
    refine lv_aload_n hx hb dX11_hang_13 rfl (lv_at hl 0 rfl) ?_
    refine c_geti x L1 1 v2.toInt.toNat 4 36 hwv2.1 rfl rfl (wk_in kf_X11_233) dX11_hang_14 (fun v4 ev4 wv4 => ?_)
    have rv4 : rg (-2147483648) (2147483647) v4 := rg_any v4
    have uv4 : (-2147483648 : Int) ≤ v4.toInt ∧ v4.toInt ≤ 2147483647 := rv4
    refine lv_if_eq (tgt := 29) hx hb dX11_hang_17 (by decide) (fun c17_5 => ?_) (fun c17_5 => ?_)
    · skip
      have ic17_5 := congrArg Int32.toInt c17_5
      have y6 : (0 : Int32).toInt = 0 := by decide
      have q7 : rg (0) (0) v4 := (rg_eq c17_5 rv4 kc_0).1
      have uq7 : (0 : Int) ≤ v4.toInt ∧ v4.toInt ≤ 0 := q7
      refine lv_iconst (v := 0) hx hb dX11_hang_29 (by decide) ?_
      exact hQ _ _ (0 : Int32) _ _ _ dX11_hang_30 L1 ⟨(mFr.tr mFr.rf hp1.1 rfl), rg_w kc_0 rfl, hp1.2.1, trivial⟩
    · skip
      have ic17_5 : v4.toInt ≠ (0 : Int32).toInt := fun z => c17_5 (Int32.toInt_inj.mp z)
      have y8 : (0 : Int32).toInt = 0 := by decide
      refine lv_aload_n hx hb dX11_hang_20 rfl (lv_at hl 0 rfl) ?_
      refine c_geti x L1 1 v2.toInt.toNat 4 36 hwv2.1 rfl rfl (wk_in kf_X11_233) dX11_hang_21 (fun v9 ev9 wv9 => ?_)
      refine m_top ((ev4).trans ev9.symm) ?_
      refine lv_bipush (v := 11) hx hb dX11_hang_24 (by decide) ?_
      refine lv_icmp_ne (tgt := 31) hx hb dX11_hang_26 (by decide) (fun c26_10 => ?_) (fun c26_10 => ?_)
      · skip
        have ic26_10 : v4.toInt ≠ (11 : Int32).toInt := fun z => c26_10 (Int32.toInt_inj.mp z)
        have y11 : (11 : Int32).toInt = 11 := by decide
        refine lv_aload_n hx hb dX11_hang_31 rfl (lv_at hl 0 rfl) ?_
        refine lv_bipush (v := 16) hx hb dX11_hang_32 (by decide) ?_
        refine lv_aload_n hx hb dX11_hang_34 rfl (lv_at hl 1 rfl) ?_
        refine c_geti x L1 11 i0 10 362 hal0 rfl rfl (wk_in kf_X11_82) dX11_hang_35 (fun v12 ev12 wv12 => ?_)
        have rv12 : rg (-2147483648) (2147483647) v12 := rg_any v12
        have uv12 : (-2147483648 : Int) ≤ v12.toInt ∧ v12.toInt ≤ 2147483647 := rv12
        have sv12 : v12.toInt = (g 362 i0).toInt := congrArg Int32.toInt (ev12.trans (congrFun ((show mFr [36, 40, 41, 42, 44, 45, 46, 48, 198, 832, 864] g g1 from (mFr.tr mFr.rf hp1.1 rfl)).at 362 rfl) _))
        refine c_cv (As := [.int (16 : Int32), .int v12]) (rest := []) x hml L1 1 v2.toInt.toNat hwv2.1 rfl (c_krelease l X g1 v2.toInt.toNat (16 : Int32) v12 hX hp1.2.1 hwv2.1) (wk_V kd_X1_release kl_X11_236 ki_X1_release ks_X1_X1_release kn_X1) rfl ⟨rfl, rfl⟩ hd_krelease ⟨Nat.le_of_ble_eq_true rfl, Nat.le_of_ble_eq_true rfl⟩ rfl hl.1 rfl (lv_room (Nat.le_of_ble_eq_true rfl)) dX11_hang_38 (fun  g13 H13 k13 hp13 L13 => ?_)
        refine lv_iconst (v := 1) hx hb dX11_hang_41 (by decide) ?_
        exact hQ _ _ (1 : Int32) _ _ _ dX11_hang_42 L13 ⟨(mFr.tr (mFr.tr mFr.rf hp1.1 rfl) hp13.1 rfl), rg_w kc_1 rfl, hp13.2.1, trivial⟩
      · skip
        have ic26_10 := congrArg Int32.toInt c26_10
        have y14 : (11 : Int32).toInt = 11 := by decide
        have q15 : rg (11) (11) v4 := (rg_eq c26_10 rv4 kc_11).1
        have uq15 : (11 : Int) ≤ v4.toInt ∧ v4.toInt ≤ 11 := q15
        refine lv_iconst (v := 0) hx hb dX11_hang_29 (by decide) ?_
        exact hQ _ _ (0 : Int32) _ _ _ dX11_hang_30 L1 ⟨(mFr.tr mFr.rf hp1.1 rfl), rg_w kc_0 rfl, hp1.2.1, trivial⟩
theorem c_khang (l : Launch) {G : cG} {Z : cZ} (X : Int) (g : mSt) (i0 : Nat) (p1 : Int32) (p2 : Int32) (hX : 0 ≤ X ∧ X ≤ 2000000000) (hJ : cJ Z g) (hal0 : Z.al 11 i0) : Met l yX11_hang (wk (Cond.code yX11_hang cX11_hang 4 (some .int))) rm_khang (va_Pc [.ref (Z.ad 11 i0), .int p1, .int p2] (cPre G Z X g)) (cQi G Z X (fun r g1 => mFr [36, 40, 41, 42, 44, 45, 46, 48, 198, 832, 864] g g1 ∧ rg (-1) (1) r ∧ cJ Z g1 ∧ True)) 0 0 (cAd Z) := by
  refine Met.ofW (cc := cX11_hang) (maxL := 4) (ret := (some .int)) (by decide) rfl ?_
  intro p e s m args below meth c s₁ B hml hv
  obtain ⟨rfl, hv⟩ := hv
  have hr := B.returns
  have hlocks := B.notSynchronized
  obtain ⟨x, L⟩ := c_start B rfl (fun w h => wk_in h) hv
  have hl := lv_entry ([.ref (Z.ad 11 i0), .int p1, .int p2]) (n := 4) (Nat.le_of_ble_eq_true rfl)
  rw [lg_entry_eq]
  generalize (lg_sl ([.ref (Z.ad 11 i0), .int p1, .int p2]) ++ List.replicate (4 - (lg_sl ([.ref (Z.ad 11 i0), .int p1, .int p2])).length) Slot.unset).toArray = ls at hl ⊢
  exact w_khang x hml L hX i0 p1 p2 hJ hal0 hl (fun pc' ls' r g1 H1 locs1 hdg L hp => c_iret x L hr hlocks (Int.le_refl _) hp hdg)

def rm_kabout : Room := { frames := 2, cells := 0, slots := 0, locals := 43 }
theorem hd_kabout : yX11_about.cls = cRn 11 ∧ yX11_about.cls ≠ "java/lang/invoke/MethodHandle" ∧ yX11_about.cls ≠ "java/lang/invoke/VarHandle" ∧ (parseMethodDescriptor yX11_about.desc).map (fun d => d.parameters.length) = some 3 := by decide +kernel
set_option maxHeartbeats 4000000 in
set_option maxRecDepth 100000 in
theorem w_kabout {p : Program} {l : Launch} {e : Env} {s : State} {m : MethodId} {args : Array Value} {below : List Frame} {meth : Method} {c : Code} {H : Heap} {locs : List Loc} {Q : State → Prop} {ls : Array Slot} {G : cG} {Z : cZ} {A : Nat → Prop} {g : mSt} {H0 : Heap} {X : Int} (x : cX p c cX11_about s args (wk (Cond.code yX11_about cX11_about 5 (some .int))) m G Z A RX11 H0) (hml : c.maxLocals = 5) (L : cL G Z A H0 X g H locs) (hX : 0 ≤ X ∧ X ≤ 2000000000) (i0 : Nat) (p1 : Int32) (p2 : Int32) (p3 : Int32) (hJ : cJ Z g) (hal0 : Z.al 11 i0) (hl : lv_has ls 5 [(0, .ref (Z.ad 11 i0)), (1, .int p1), (2, .int p2), (3, .int p3)]) (hQ : ∀ (pc' : Nat) (ls' : Array Slot) (r : Int32) (g1 : mSt) (H1 : Heap) (locs1 : List Loc), decode cX11_about pc' = .ok (.ireturn, 1) → cL G Z A H0 X g1 H1 locs1 → (mFr [] g g1 ∧ rg (-2147483648) (2147483647) r ∧ cJ Z g1 ∧ True) → W p l e rm_kabout s m args below meth c H1 locs1 0 0 Q (F0 m pc' ls' [.int r])) : W p l e rm_kabout s m args below meth c H locs 0 0 Q (F0 m 0 ls []) := by
  have hx := x.1
  have hb := x.2.1
  have hz := x.2.2.2.2.2.2.2.1
  have hzn := hz.1
  have up1 : (-2147483648 : Int) ≤ p1.toInt ∧ p1.toInt ≤ 2147483647 := (rg_any p1)
  have up2 : (-2147483648 : Int) ≤ p2.toInt ∧ p2.toInt ≤ 2147483647 := (rg_any p2)
  have up3 : (-2147483648 : Int) ≤ p3.toInt ∧ p3.toInt ≤ 2147483647 := (rg_any p3)
  refine lv_aload_n hx hb dX11_about_0 rfl (lv_at hl 0 rfl) ?_
  refine lv_iload_n hx hb dX11_about_1 rfl (lv_at hl 1 rfl) ?_
  refine lv_iload_n hx hb dX11_about_2 rfl (lv_at hl 2 rfl) ?_
  refine c_cr (As := [.int p1, .int p2]) (rest := []) x hml L 11 i0 hal0 rfl (c_kcallAt l X g i0 p1 p2 hX hJ hal0) (wk_V kd_X11_callAt kl_X11_229 ki_X11_callAt ks_X11_X11_callAt kn_X11) rfl ⟨rfl, rfl⟩ hd_kcallAt ⟨Nat.le_of_ble_eq_true rfl, Nat.le_of_ble_eq_true rfl⟩ rfl hl.1 rfl (lv_room (Nat.le_of_ble_eq_true rfl)) dX11_about_3 (fun v2 g1 H1 k1 hp1 L1 => ?_)
  have hvv2 := hp1.2.2
  rcases (show v2.toInt < 0 ∨ 0 ≤ v2.toInt from (by omega)) with hc3 | hc3
  · skip
    refine c_top (show Value.null = va_rf (cOpt Z 1 v2) from (by rw [cOpt_none hc3]; rfl)) ?_
    refine lv_astoreN (lv' := [(4, .null), (0, .ref (Z.ad 11 i0)), (1, .int p1), (2, .int p2), (3, .int p3)]) hx hb dX11_about_6 hl (by decide) rfl (fun ls hl => ?_)
    refine lv_aloadN hx hb dX11_about_8 (lv_at hl 0 rfl) ?_
    refine lv_ifnonnullN hx hb dX11_about_10 ?_
    refine lv_iconst (v := (-1)) hx hb dX11_about_13 (by decide) ?_
    exact hQ _ _ (-1 : Int32) _ _ _ dX11_about_14 L1 ⟨(mFr.tr mFr.rf hp1.1 rfl), rg_w kc_m1 rfl, hp1.2.1, trivial⟩
  · skip
    refine c_top (show Value.ref (Z.ad 1 v2.toInt.toNat) = va_rf (cOpt Z 1 v2) from (by rw [cOpt_some hc3]; rfl)) ?_
    have hwv2 := hvv2 hc3
    refine lv_astore (lv' := [(4, .ref (Z.ad 1 v2.toInt.toNat)), (0, .ref (Z.ad 11 i0)), (1, .int p1), (2, .int p2), (3, .int p3)]) hx hb dX11_about_6 hl (by decide) rfl (fun ls hl => ?_)
    refine lv_aload hx hb dX11_about_8 (lv_at hl 0 rfl) ?_
    refine lv_ifnonnull (tgt := 15) hx hb dX11_about_10 (by decide) ?_
    refine lv_iload_n hx hb dX11_about_15 rfl (lv_at hl 4 rfl) ?_
    rcases (show p3.toInt < 0 ∨ 6 < p3.toInt ∨ p3.toInt = 0 ∨ p3.toInt = 1 ∨ p3.toInt = 2 ∨ p3.toInt = 3 ∨ p3.toInt = 4 ∨ p3.toInt = 5 ∨ p3.toInt = 6 by omega) with c16_4 | c16_4 | c16_4 | c16_4 | c16_4 | c16_4 | c16_4 | c16_4 | c16_4
    · skip
      refine lv_tableOut (tgt := 122) hx hb dX11_about_16 (Or.inl c16_4) (by decide) ?_
      refine lv_iconst (v := (-1)) hx hb dX11_about_122 (by decide) ?_
      exact hQ _ _ (-1 : Int32) _ _ _ dX11_about_123 L1 ⟨(mFr.tr mFr.rf hp1.1 rfl), rg_w kc_m1 rfl, hp1.2.1, trivial⟩
    · skip
      refine lv_tableOut (tgt := 122) hx hb dX11_about_16 (Or.inr c16_4) (by decide) ?_
      refine lv_iconst (v := (-1)) hx hb dX11_about_122 (by decide) ?_
      exact hQ _ _ (-1 : Int32) _ _ _ dX11_about_123 L1 ⟨(mFr.tr mFr.rf hp1.1 rfl), rg_w kc_m1 rfl, hp1.2.1, trivial⟩
    · skip
      have q5 : rg (0) (0) p3 := ⟨by omega, by omega⟩
      refine lv_tableIn (off := 44) (tgt := 60) hx hb dX11_about_16 (by omega) (by omega) (by rw [c16_4]; rfl) (by decide) ?_
      refine lv_aload hx hb dX11_about_60 (lv_at hl 0 rfl) ?_
      refine c_geti x L1 1 v2.toInt.toNat 4 36 hwv2.1 rfl rfl (wk_in kf_X11_233) dX11_about_62 (fun v6 ev6 wv6 => ?_)
      have rv6 : rg (-2147483648) (2147483647) v6 := rg_any v6
      have uv6 : (-2147483648 : Int) ≤ v6.toInt ∧ v6.toInt ≤ 2147483647 := rv6
      have sv6 : v6.toInt = (g 36 v2.toInt.toNat).toInt := congrArg Int32.toInt (ev6.trans (congrFun ((show mFr [] g g1 from (mFr.tr mFr.rf hp1.1 rfl)).at 36 rfl) _))
      exact hQ _ _ v6 _ _ _ dX11_about_65 L1 ⟨(mFr.tr mFr.rf hp1.1 rfl), rg_w rv6 rfl, hp1.2.1, trivial⟩
    · skip
      have q7 : rg (1) (1) p3 := ⟨by omega, by omega⟩
      refine lv_tableIn (off := 50) (tgt := 66) hx hb dX11_about_16 (by omega) (by omega) (by rw [c16_4]; rfl) (by decide) ?_
      refine lv_aload hx hb dX11_about_66 (lv_at hl 0 rfl) ?_
      refine c_geti x L1 1 v2.toInt.toNat 2 34 hwv2.1 rfl rfl (wk_in kf_X11_253) dX11_about_68 (fun v8 ev8 wv8 => ?_)
      have rv8 : rg (0) (1) v8 := clj_34 wv8
      have uv8 : (0 : Int) ≤ v8.toInt ∧ v8.toInt ≤ 1 := rv8
      have sv8 : v8.toInt = (g 34 v2.toInt.toNat).toInt := congrArg Int32.toInt (ev8.trans (congrFun ((show mFr [] g g1 from (mFr.tr mFr.rf hp1.1 rfl)).at 34 rfl) _))
      refine lv_if_eq (tgt := 82) hx hb dX11_about_71 (by decide) (fun c71_9 => ?_) (fun c71_9 => ?_)
      · skip
        have ic71_9 := congrArg Int32.toInt c71_9
        have y10 : (0 : Int32).toInt = 0 := by decide
        have q11 : rg (0) (0) v8 := (rg_eq c71_9 rv8 kc_0).1
        have uq11 : (0 : Int) ≤ v8.toInt ∧ v8.toInt ≤ 0 := q11
        refine lv_aload hx hb dX11_about_82 (lv_at hl 0 rfl) ?_
        refine c_geti x L1 1 v2.toInt.toNat 1 33 hwv2.1 rfl rfl (wk_in kf_X11_256) dX11_about_84 (fun v12 ev12 wv12 => ?_)
        have rv12 : rg (-2147483648) (2147483647) v12 := rg_any v12
        have uv12 : (-2147483648 : Int) ≤ v12.toInt ∧ v12.toInt ≤ 2147483647 := rv12
        have sv12 : v12.toInt = (g 33 v2.toInt.toNat).toInt := congrArg Int32.toInt (ev12.trans (congrFun ((show mFr [] g g1 from (mFr.tr mFr.rf hp1.1 rfl)).at 33 rfl) _))
        refine lv_sipush (v := 1000) hx hb dX11_about_87 (by decide) ?_
        refine lv_iadd hx hb dX11_about_90 ?_
        refine lv_topi (fun v13 ev13 => ?_)
        have rv13 : rg (-2147483648) (2147483647) v13 := rg_any v13
        have uv13 : (-2147483648 : Int) ≤ v13.toInt ∧ v13.toInt ≤ 2147483647 := rv13
        exact hQ _ _ v13 _ _ _ dX11_about_91 L1 ⟨(mFr.tr mFr.rf hp1.1 rfl), rg_w rv13 rfl, hp1.2.1, trivial⟩
      · skip
        have ic71_9 : v8.toInt ≠ (0 : Int32).toInt := fun z => c71_9 (Int32.toInt_inj.mp z)
        have y14 : (0 : Int32).toInt = 0 := by decide
        have q15 : rg (1) (1) v8 := rg_neL c71_9 rv8 kc_0
        have uq15 : (1 : Int) ≤ v8.toInt ∧ v8.toInt ≤ 1 := q15
        refine lv_aload hx hb dX11_about_74 (lv_at hl 0 rfl) ?_
        refine c_geti x L1 1 v2.toInt.toNat 1 33 hwv2.1 rfl rfl (wk_in kf_X11_256) dX11_about_76 (fun v16 ev16 wv16 => ?_)
        have rv16 : rg (-2147483648) (2147483647) v16 := rg_any v16
        have uv16 : (-2147483648 : Int) ≤ v16.toInt ∧ v16.toInt ≤ 2147483647 := rv16
        have sv16 : v16.toInt = (g 33 v2.toInt.toNat).toInt := congrArg Int32.toInt (ev16.trans (congrFun ((show mFr [] g g1 from (mFr.tr mFr.rf hp1.1 rfl)).at 33 rfl) _))
        refine lv_goto (tgt := 91) hx hb dX11_about_79 (by decide) ?_
        exact hQ _ _ v16 _ _ _ dX11_about_91 L1 ⟨(mFr.tr mFr.rf hp1.1 rfl), rg_w rv16 rfl, hp1.2.1, trivial⟩
    · skip
      have q17 : rg (2) (2) p3 := ⟨by omega, by omega⟩
      refine lv_tableIn (off := 76) (tgt := 92) hx hb dX11_about_16 (by omega) (by omega) (by rw [c16_4]; rfl) (by decide) ?_
      refine lv_aload hx hb dX11_about_92 (lv_at hl 0 rfl) ?_
      refine c_geti x L1 1 v2.toInt.toNat 5 37 hwv2.1 rfl rfl (wk_in kf_X11_216) dX11_about_94 (fun v18 ev18 wv18 => ?_)
      have rv18 : rg (-2147483648) (2147483647) v18 := rg_any v18
      have uv18 : (-2147483648 : Int) ≤ v18.toInt ∧ v18.toInt ≤ 2147483647 := rv18
      have sv18 : v18.toInt = (g 37 v2.toInt.toNat).toInt := congrArg Int32.toInt (ev18.trans (congrFun ((show mFr [] g g1 from (mFr.tr mFr.rf hp1.1 rfl)).at 37 rfl) _))
      exact hQ _ _ v18 _ _ _ dX11_about_97 L1 ⟨(mFr.tr mFr.rf hp1.1 rfl), rg_w rv18 rfl, hp1.2.1, trivial⟩
    · skip
      have q19 : rg (3) (3) p3 := ⟨by omega, by omega⟩
      refine lv_tableIn (off := 82) (tgt := 98) hx hb dX11_about_16 (by omega) (by omega) (by rw [c16_4]; rfl) (by decide) ?_
      refine lv_aload hx hb dX11_about_98 (lv_at hl 0 rfl) ?_
      refine c_geti x L1 1 v2.toInt.toNat 6 38 hwv2.1 rfl rfl (wk_in kf_X11_259) dX11_about_100 (fun v20 ev20 wv20 => ?_)
      have rv20 : rg (-2147483648) (2147483647) v20 := rg_any v20
      have uv20 : (-2147483648 : Int) ≤ v20.toInt ∧ v20.toInt ≤ 2147483647 := rv20
      have sv20 : v20.toInt = (g 38 v2.toInt.toNat).toInt := congrArg Int32.toInt (ev20.trans (congrFun ((show mFr [] g g1 from (mFr.tr mFr.rf hp1.1 rfl)).at 38 rfl) _))
      exact hQ _ _ v20 _ _ _ dX11_about_103 L1 ⟨(mFr.tr mFr.rf hp1.1 rfl), rg_w rv20 rfl, hp1.2.1, trivial⟩
    · skip
      have q21 : rg (4) (4) p3 := ⟨by omega, by omega⟩
      refine lv_tableIn (off := 88) (tgt := 104) hx hb dX11_about_16 (by omega) (by omega) (by rw [c16_4]; rfl) (by decide) ?_
      refine lv_aload hx hb dX11_about_104 (lv_at hl 0 rfl) ?_
      refine c_geti x L1 1 v2.toInt.toNat 7 39 hwv2.1 rfl rfl (wk_in kf_X11_262) dX11_about_106 (fun v22 ev22 wv22 => ?_)
      have rv22 : rg (-2147483648) (2147483647) v22 := rg_any v22
      have uv22 : (-2147483648 : Int) ≤ v22.toInt ∧ v22.toInt ≤ 2147483647 := rv22
      have sv22 : v22.toInt = (g 39 v2.toInt.toNat).toInt := congrArg Int32.toInt (ev22.trans (congrFun ((show mFr [] g g1 from (mFr.tr mFr.rf hp1.1 rfl)).at 39 rfl) _))
      exact hQ _ _ v22 _ _ _ dX11_about_109 L1 ⟨(mFr.tr mFr.rf hp1.1 rfl), rg_w rv22 rfl, hp1.2.1, trivial⟩
    · skip
      have q23 : rg (5) (5) p3 := ⟨by omega, by omega⟩
      refine lv_tableIn (off := 94) (tgt := 110) hx hb dX11_about_16 (by omega) (by omega) (by rw [c16_4]; rfl) (by decide) ?_
      refine lv_aload hx hb dX11_about_110 (lv_at hl 0 rfl) ?_
      refine c_geti x L1 1 v2.toInt.toNat 8 40 hwv2.1 rfl rfl (wk_in kf_X11_265) dX11_about_112 (fun v24 ev24 wv24 => ?_)
      have rv24 : rg (-2147483648) (2147483647) v24 := rg_any v24
      have uv24 : (-2147483648 : Int) ≤ v24.toInt ∧ v24.toInt ≤ 2147483647 := rv24
      have sv24 : v24.toInt = (g 40 v2.toInt.toNat).toInt := congrArg Int32.toInt (ev24.trans (congrFun ((show mFr [] g g1 from (mFr.tr mFr.rf hp1.1 rfl)).at 40 rfl) _))
      exact hQ _ _ v24 _ _ _ dX11_about_115 L1 ⟨(mFr.tr mFr.rf hp1.1 rfl), rg_w rv24 rfl, hp1.2.1, trivial⟩
    · skip
      have q25 : rg (6) (6) p3 := ⟨by omega, by omega⟩
      refine lv_tableIn (off := 100) (tgt := 116) hx hb dX11_about_16 (by omega) (by omega) (by rw [c16_4]; rfl) (by decide) ?_
      refine lv_aload hx hb dX11_about_116 (lv_at hl 0 rfl) ?_
      refine c_geti x L1 1 v2.toInt.toNat 16 48 hwv2.1 rfl rfl (wk_in kf_X11_250) dX11_about_118 (fun v26 ev26 wv26 => ?_)
      have rv26 : rg (0) (4) v26 := clj_48 wv26
      have uv26 : (0 : Int) ≤ v26.toInt ∧ v26.toInt ≤ 4 := rv26
      have sv26 : v26.toInt = (g 48 v2.toInt.toNat).toInt := congrArg Int32.toInt (ev26.trans (congrFun ((show mFr [] g g1 from (mFr.tr mFr.rf hp1.1 rfl)).at 48 rfl) _))
      exact hQ _ _ v26 _ _ _ dX11_about_121 L1 ⟨(mFr.tr mFr.rf hp1.1 rfl), rg_w rv26 rfl, hp1.2.1, trivial⟩
theorem c_kabout (l : Launch) {G : cG} {Z : cZ} (X : Int) (g : mSt) (i0 : Nat) (p1 : Int32) (p2 : Int32) (p3 : Int32) (hX : 0 ≤ X ∧ X ≤ 2000000000) (hJ : cJ Z g) (hal0 : Z.al 11 i0) : Met l yX11_about (wk (Cond.code yX11_about cX11_about 5 (some .int))) rm_kabout (va_Pc [.ref (Z.ad 11 i0), .int p1, .int p2, .int p3] (cPre G Z X g)) (cQi G Z X (fun r g1 => mFr [] g g1 ∧ rg (-2147483648) (2147483647) r ∧ cJ Z g1 ∧ True)) 0 0 (cAd Z) := by
  refine Met.ofW (cc := cX11_about) (maxL := 5) (ret := (some .int)) (by decide) rfl ?_
  intro p e s m args below meth c s₁ B hml hv
  obtain ⟨rfl, hv⟩ := hv
  have hr := B.returns
  have hlocks := B.notSynchronized
  obtain ⟨x, L⟩ := c_start B rfl (fun w h => wk_in h) hv
  have hl := lv_entry ([.ref (Z.ad 11 i0), .int p1, .int p2, .int p3]) (n := 5) (Nat.le_of_ble_eq_true rfl)
  rw [lg_entry_eq]
  generalize (lg_sl ([.ref (Z.ad 11 i0), .int p1, .int p2, .int p3]) ++ List.replicate (5 - (lg_sl ([.ref (Z.ad 11 i0), .int p1, .int p2, .int p3])).length) Slot.unset).toArray = ls at hl ⊢
  exact w_kabout x hml L hX i0 p1 p2 p3 hJ hal0 hl (fun pc' ls' r g1 H1 locs1 hdg L hp => c_iret x L hr hlocks (Int.le_refl _) hp hdg)

def rm_kfarChannel : Room := { frames := 4, cells := 0, slots := 0, locals := 87 }
theorem hd_kfarChannel : yX10_farChannel.cls = cRn 10 ∧ yX10_farChannel.cls ≠ "java/lang/invoke/MethodHandle" ∧ yX10_farChannel.cls ≠ "java/lang/invoke/VarHandle" ∧ (parseMethodDescriptor yX10_farChannel.desc).map (fun d => d.parameters.length) = some 1 := by decide +kernel
set_option maxHeartbeats 4000000 in
set_option maxRecDepth 100000 in
theorem w_kfarChannel {p : Program} {l : Launch} {e : Env} {s : State} {m : MethodId} {args : Array Value} {below : List Frame} {meth : Method} {c : Code} {H : Heap} {locs : List Loc} {Q : State → Prop} {ls : Array Slot} {G : cG} {Z : cZ} {A : Nat → Prop} {g : mSt} {H0 : Heap} {X : Int} (x : cX p c cX10_farChannel s args (wk (Cond.code yX10_farChannel cX10_farChannel 3 (some .int))) m G Z A RX10 H0) (hml : c.maxLocals = 3) (L : cL G Z A H0 X g H locs) (hX : 0 ≤ X ∧ X ≤ 2000000000) (i0 : Nat) (p1 : Int32) (hJ : cJ Z g) (hi0 : i0 < Z.n) (hl : lv_has ls 3 [(0, .ref (Z.ad 10 i0)), (1, .int p1)]) (hQ : ∀ (pc' : Nat) (ls' : Array Slot) (r : Int32) (g1 : mSt) (H1 : Heap) (locs1 : List Loc), decode cX10_farChannel pc' = .ok (.ireturn, 1) → cL G Z A H0 X g1 H1 locs1 → (mFr [] g g1 ∧ rg (-2147483648) (2147483647) r ∧ cJ Z g1 ∧ True) → W p l e rm_kfarChannel s m args below meth c H1 locs1 0 0 Q (F0 m pc' ls' [.int r])) : W p l e rm_kfarChannel s m args below meth c H locs 0 0 Q (F0 m 0 ls []) := by
  have hx := x.1
  have hb := x.2.1
  have hz := x.2.2.2.2.2.2.2.1
  have hzn := hz.1
  have hal0 : Z.al 10 i0 := hz.2 10 i0 (show i0 < Z.n from hi0)
  have up1 : (-2147483648 : Int) ≤ p1.toInt ∧ p1.toInt ≤ 2147483647 := (rg_any p1)
  refine lv_aload_n hx hb dX10_farChannel_0 rfl (lv_at hl 0 rfl) ?_
  refine lv_iload_n hx hb dX10_farChannel_1 rfl (lv_at hl 1 rfl) ?_
  refine c_cr (As := [.int p1]) (rest := []) x hml L 10 i0 hal0 rfl (c_kjoined l X g i0 p1 hX hJ (show i0 < Z.n from (by omega))) (wk_V kd_X10_joined kl_X10_53 ki_X10_joined ks_X10_X10_joined kn_X10) rfl ⟨rfl, rfl⟩ hd_kjoined ⟨Nat.le_of_ble_eq_true rfl, Nat.le_of_ble_eq_true rfl⟩ rfl hl.1 rfl (lv_room (Nat.le_of_ble_eq_true rfl)) dX10_farChannel_2 (fun v2 g1 H1 k1 hp1 L1 => ?_)
  have hvv2 := hp1.2.2
  rcases (show v2.toInt < 0 ∨ 0 ≤ v2.toInt from (by omega)) with hc3 | hc3
  · skip
    refine c_top (show Value.null = va_rf (cOpt Z 1 v2) from (by rw [cOpt_none hc3]; rfl)) ?_
    refine lv_astore_nN (lv' := [(2, .null), (0, .ref (Z.ad 10 i0)), (1, .int p1)]) hx hb dX10_farChannel_5 rfl hl (by decide) rfl (fun ls hl => ?_)
    refine lv_aload_nN hx hb dX10_farChannel_6 rfl (lv_at hl 0 rfl) ?_
    refine lv_ifnullN (tgt := 17) hx hb dX10_farChannel_7 (by decide) ?_
    refine lv_bipush (v := (-2)) hx hb dX10_farChannel_17 (by decide) ?_
    exact hQ _ _ (-2 : Int32) _ _ _ dX10_farChannel_19 L1 ⟨(mFr.tr mFr.rf hp1.1 rfl), rg_w kc_m2 rfl, hp1.2.1, trivial⟩
  · skip
    refine c_top (show Value.ref (Z.ad 1 v2.toInt.toNat) = va_rf (cOpt Z 1 v2) from (by rw [cOpt_some hc3]; rfl)) ?_
    have hwv2 := hvv2 hc3
    refine lv_astore_n (lv' := [(2, .ref (Z.ad 1 v2.toInt.toNat)), (0, .ref (Z.ad 10 i0)), (1, .int p1)]) hx hb dX10_farChannel_5 rfl hl (by decide) rfl (fun ls hl => ?_)
    refine lv_aload_n hx hb dX10_farChannel_6 rfl (lv_at hl 0 rfl) ?_
    refine lv_ifnull hx hb dX10_farChannel_7 ?_
    refine lv_aload_n hx hb dX10_farChannel_10 rfl (lv_at hl 0 rfl) ?_
    obtain ⟨v4, ev4⟩ : ∃ y : Int32, y = g1 43 v2.toInt.toNat := ⟨_, rfl⟩
    rcases (show v4.toInt < 0 ∨ 0 ≤ v4.toInt from (by omega)) with hc5 | hc5
    · skip
      have q6 : rg (-2147483648) (-1) v4 := ⟨(rg_any v4).1, by omega⟩
      refine c_geto (w := .null) x L1 1 v2.toInt.toNat 11 43 hwv2.1 rfl rfl (by show va_rf (cOpt Z 1 (g1 43 v2.toInt.toNat)) = _; rw [← ev4, cOpt_none (by omega)]; rfl) (wk_in kf_X10_42) dX10_farChannel_11 ?_
      refine lv_ifnonnullN hx hb dX10_farChannel_14 ?_
      refine lv_bipush (v := (-2)) hx hb dX10_farChannel_17 (by decide) ?_
      exact hQ _ _ (-2 : Int32) _ _ _ dX10_farChannel_19 L1 ⟨(mFr.tr mFr.rf hp1.1 rfl), rg_w kc_m2 rfl, hp1.2.1, trivial⟩
    · skip
      have q7 : rg (0) (2147483647) v4 := ⟨by omega, (rg_any v4).2⟩
      have hd8 := (hp1.2.1.2.1 v2.toInt.toNat hwv2.1).2.1
      rw [← ev4] at hd8
      have al9 : Z.al 1 v4.toInt.toNat := hd8.resolve_left (by omega)
      refine c_geto (w := .ref (Z.ad 1 v4.toInt.toNat)) x L1 1 v2.toInt.toNat 11 43 hwv2.1 rfl rfl (by show va_rf (cOpt Z 1 (g1 43 v2.toInt.toNat)) = _; rw [← ev4, cOpt_some (by omega)]; rfl) (wk_in kf_X10_42) dX10_farChannel_11 ?_
      refine lv_ifnonnull (tgt := 20) hx hb dX10_farChannel_14 (by decide) ?_
      refine lv_sipush (v := 1000) hx hb dX10_farChannel_20 (by decide) ?_
      refine lv_aload_n hx hb dX10_farChannel_23 rfl (lv_at hl 0 rfl) ?_
      have u10 : 0 ≤ v4.toInt := q7.1
      have hd11 := (hp1.2.1.2.1 v2.toInt.toNat hwv2.1).2.1
      rw [← ev4] at hd11
      have al12 : Z.al 1 v4.toInt.toNat := hd11.resolve_left (by omega)
      refine c_geto (w := .ref (Z.ad 1 v4.toInt.toNat)) x L1 1 v2.toInt.toNat 11 43 hwv2.1 rfl rfl (by show va_rf (cOpt Z 1 (g1 43 v2.toInt.toNat)) = _; rw [← ev4, cOpt_some (by omega)]; rfl) (wk_in kf_X10_42) dX10_farChannel_24 ?_
      obtain ⟨v13, ev13⟩ : ∃ y : Int32, y = g1 32 v4.toInt.toNat := ⟨_, rfl⟩
      have hsv13 := (hp1.2.1.2.1 v4.toInt.toNat al12).1
      rw [← ev13] at hsv13
      rcases Nat.lt_or_ge v13.toInt.toNat Z.n with hc14 | hc14
      · skip
        have al15 : Z.al 4 v13.toInt.toNat := hz.2 4 v13.toInt.toNat (show v13.toInt.toNat < Z.n from (by omega))
        refine c_geto (w := .ref (Z.ad 4 v13.toInt.toNat)) x L1 1 v4.toInt.toNat 0 32 al12 rfl rfl (by show va_rf (some (cSd Z (g1 32 v4.toInt.toNat).toInt.toNat)) = _; rw [← ev13]; unfold cSd; rw [if_pos hc14]; rfl) (wk_in kf_X10_57) dX10_farChannel_27 ?_
        refine c_getc x L1 4 v13.toInt.toNat 0 al15 rfl (wk_in kf_X10_61) dX10_farChannel_30 (fun v17 ev17 => ?_)
        have tv17 : v17.toInt = ((v13.toInt.toNat : Nat) : Int) := cCv_s ev17 rfl (by omega)
        have rv17 : rg (0) (3) v17 := ⟨by omega, by omega⟩
        refine lv_imul hx hb dX10_farChannel_33 ?_
        refine lv_topi (fun v18 ev18 => ?_)
        have rv18 : rg (0) (3000) v18 := (rg_mulL ev18 kc_1000 rv17 rfl).1
        have tv18 := (rg_mulL ev18 kc_1000 rv17 rfl).2
        have y19 : (1000 : Int32).toInt = 1000 := by decide
        have uv18 : (0 : Int) ≤ v18.toInt ∧ v18.toInt ≤ 3000 := rv18
        refine lv_aload_n hx hb dX10_farChannel_34 rfl (lv_at hl 0 rfl) ?_
        have u20 : 0 ≤ v4.toInt := q7.1
        have hd21 := (hp1.2.1.2.1 v2.toInt.toNat hwv2.1).2.1
        rw [← ev4] at hd21
        have al22 : Z.al 1 v4.toInt.toNat := hd21.resolve_left (by omega)
        refine c_geto (w := .ref (Z.ad 1 v4.toInt.toNat)) x L1 1 v2.toInt.toNat 11 43 hwv2.1 rfl rfl (by show va_rf (cOpt Z 1 (g1 43 v2.toInt.toNat)) = _; rw [← ev4, cOpt_some (by omega)]; rfl) (wk_in kf_X10_42) dX10_farChannel_35 ?_
        refine c_geti x L1 1 v4.toInt.toNat 5 37 al22 rfl rfl (wk_in kf_X10_50) dX10_farChannel_38 (fun v23 ev23 wv23 => ?_)
        have rv23 : rg (-2147483648) (2147483647) v23 := rg_any v23
        have uv23 : (-2147483648 : Int) ≤ v23.toInt ∧ v23.toInt ≤ 2147483647 := rv23
        have sv23 : v23.toInt = (g 37 v4.toInt.toNat).toInt := congrArg Int32.toInt (ev23.trans (congrFun ((show mFr [] g g1 from (mFr.tr mFr.rf hp1.1 rfl)).at 37 rfl) _))
        refine lv_iadd hx hb dX10_farChannel_41 ?_
        refine lv_topi (fun v24 ev24 => ?_)
        have rv24 : rg (-2147483648) (2147483647) v24 := rg_any v24
        have uv24 : (-2147483648 : Int) ≤ v24.toInt ∧ v24.toInt ≤ 2147483647 := rv24
        exact hQ _ _ v24 _ _ _ dX10_farChannel_42 L1 ⟨(mFr.tr mFr.rf hp1.1 rfl), rg_w rv24 rfl, hp1.2.1, trivial⟩
      · skip
        have al16 : Z.al 10 (v13.toInt.toNat - Z.n) := hz.2 10 (v13.toInt.toNat - Z.n) (show (v13.toInt.toNat - Z.n) < Z.n from (by omega))
        refine c_geto (w := .ref (Z.ad 10 (v13.toInt.toNat - Z.n))) x L1 1 v4.toInt.toNat 0 32 al12 rfl rfl (by show va_rf (some (cSd Z (g1 32 v4.toInt.toNat).toInt.toNat)) = _; rw [← ev13]; unfold cSd; rw [if_neg (Nat.not_lt.mpr hc14)]; rfl) (wk_in kf_X10_57) dX10_farChannel_27 ?_
        refine c_getc x L1 10 (v13.toInt.toNat - Z.n) 0 al16 rfl (wk_in kf_X10_61) dX10_farChannel_30 (fun v25 ev25 => ?_)
        have tv25 : v25.toInt = (((v13.toInt.toNat - Z.n) : Nat) : Int) := cCv_s ev25 rfl (by omega)
        have rv25 : rg (0) (3) v25 := ⟨by omega, by omega⟩
        refine lv_imul hx hb dX10_farChannel_33 ?_
        refine lv_topi (fun v26 ev26 => ?_)
        have rv26 : rg (0) (3000) v26 := (rg_mulL ev26 kc_1000 rv25 rfl).1
        have tv26 := (rg_mulL ev26 kc_1000 rv25 rfl).2
        have y27 : (1000 : Int32).toInt = 1000 := by decide
        have uv26 : (0 : Int) ≤ v26.toInt ∧ v26.toInt ≤ 3000 := rv26
        refine lv_aload_n hx hb dX10_farChannel_34 rfl (lv_at hl 0 rfl) ?_
        have u28 : 0 ≤ v4.toInt := q7.1
        have hd29 := (hp1.2.1.2.1 v2.toInt.toNat hwv2.1).2.1
        rw [← ev4] at hd29
        have al30 : Z.al 1 v4.toInt.toNat := hd29.resolve_left (by omega)
        refine c_geto (w := .ref (Z.ad 1 v4.toInt.toNat)) x L1 1 v2.toInt.toNat 11 43 hwv2.1 rfl rfl (by show va_rf (cOpt Z 1 (g1 43 v2.toInt.toNat)) = _; rw [← ev4, cOpt_some (by omega)]; rfl) (wk_in kf_X10_42) dX10_farChannel_35 ?_
        refine c_geti x L1 1 v4.toInt.toNat 5 37 al30 rfl rfl (wk_in kf_X10_50) dX10_farChannel_38 (fun v31 ev31 wv31 => ?_)
        have rv31 : rg (-2147483648) (2147483647) v31 := rg_any v31
        have uv31 : (-2147483648 : Int) ≤ v31.toInt ∧ v31.toInt ≤ 2147483647 := rv31
        have sv31 : v31.toInt = (g 37 v4.toInt.toNat).toInt := congrArg Int32.toInt (ev31.trans (congrFun ((show mFr [] g g1 from (mFr.tr mFr.rf hp1.1 rfl)).at 37 rfl) _))
        refine lv_iadd hx hb dX10_farChannel_41 ?_
        refine lv_topi (fun v32 ev32 => ?_)
        have rv32 : rg (-2147483648) (2147483647) v32 := rg_any v32
        have uv32 : (-2147483648 : Int) ≤ v32.toInt ∧ v32.toInt ≤ 2147483647 := rv32
        exact hQ _ _ v32 _ _ _ dX10_farChannel_42 L1 ⟨(mFr.tr mFr.rf hp1.1 rfl), rg_w rv32 rfl, hp1.2.1, trivial⟩
theorem c_kfarChannel (l : Launch) {G : cG} {Z : cZ} (X : Int) (g : mSt) (i0 : Nat) (p1 : Int32) (hX : 0 ≤ X ∧ X ≤ 2000000000) (hJ : cJ Z g) (hi0 : i0 < Z.n) : Met l yX10_farChannel (wk (Cond.code yX10_farChannel cX10_farChannel 3 (some .int))) rm_kfarChannel (va_Pc [.ref (Z.ad 10 i0), .int p1] (cPre G Z X g)) (cQi G Z X (fun r g1 => mFr [] g g1 ∧ rg (-2147483648) (2147483647) r ∧ cJ Z g1 ∧ True)) 0 0 (cAd Z) := by
  refine Met.ofW (cc := cX10_farChannel) (maxL := 3) (ret := (some .int)) (by decide) rfl ?_
  intro p e s m args below meth c s₁ B hml hv
  obtain ⟨rfl, hv⟩ := hv
  have hr := B.returns
  have hlocks := B.notSynchronized
  obtain ⟨x, L⟩ := c_start B rfl (fun w h => wk_in h) hv
  have hl := lv_entry ([.ref (Z.ad 10 i0), .int p1]) (n := 3) (Nat.le_of_ble_eq_true rfl)
  rw [lg_entry_eq]
  generalize (lg_sl ([.ref (Z.ad 10 i0), .int p1]) ++ List.replicate (3 - (lg_sl ([.ref (Z.ad 10 i0), .int p1])).length) Slot.unset).toArray = ls at hl ⊢
  exact w_kfarChannel x hml L hX i0 p1 hJ hi0 hl (fun pc' ls' r g1 H1 locs1 hdg L hp => c_iret x L hr hlocks (Int.le_refl _) hp hdg)

def rm_klink : Room := { frames := 5, cells := 0, slots := 0, locals := 109 }
theorem hd_klink : yX11_link.cls = cRn 11 ∧ yX11_link.cls ≠ "java/lang/invoke/MethodHandle" ∧ yX11_link.cls ≠ "java/lang/invoke/VarHandle" ∧ (parseMethodDescriptor yX11_link.desc).map (fun d => d.parameters.length) = some 3 := by decide +kernel
set_option maxHeartbeats 4000000 in
set_option maxRecDepth 100000 in
theorem w_klink {p : Program} {l : Launch} {e : Env} {s : State} {m : MethodId} {args : Array Value} {below : List Frame} {meth : Method} {c : Code} {H : Heap} {locs : List Loc} {Q : State → Prop} {ls : Array Slot} {G : cG} {Z : cZ} {A : Nat → Prop} {g : mSt} {H0 : Heap} {X : Int} (x : cX p c cX11_link s args (wk (Cond.code yX11_link cX11_link 5 (some .int))) m G Z A RX11 H0) (hml : c.maxLocals = 5) (L : cL G Z A H0 X g H locs) (hX : 0 ≤ X ∧ X ≤ 2000000000) (i0 : Nat) (p1 : Int32) (p2 : Int32) (p3 : Int32) (hJ : cJ Z g) (hal0 : Z.al 11 i0) (hl : lv_has ls 5 [(0, .ref (Z.ad 11 i0)), (1, .int p1), (2, .int p2), (3, .int p3)]) (hQ : ∀ (pc' : Nat) (ls' : Array Slot) (r : Int32) (g1 : mSt) (H1 : Heap) (locs1 : List Loc), decode cX11_link pc' = .ok (.ireturn, 1) → cL G Z A H0 X g1 H1 locs1 → (mFr [] g g1 ∧ rg (-2147483648) (2147483647) r ∧ cJ Z g1 ∧ True) → W p l e rm_klink s m args below meth c H1 locs1 0 0 Q (F0 m pc' ls' [.int r])) : W p l e rm_klink s m args below meth c H locs 0 0 Q (F0 m 0 ls []) := by
  have hx := x.1
  have hb := x.2.1
  have hz := x.2.2.2.2.2.2.2.1
  have hzn := hz.1
  have up1 : (-2147483648 : Int) ≤ p1.toInt ∧ p1.toInt ≤ 2147483647 := (rg_any p1)
  have up2 : (-2147483648 : Int) ≤ p2.toInt ∧ p2.toInt ≤ 2147483647 := (rg_any p2)
  have up3 : (-2147483648 : Int) ≤ p3.toInt ∧ p3.toInt ≤ 2147483647 := (rg_any p3)
  refine lv_aload_n hx hb dX11_link_0 rfl (lv_at hl 0 rfl) ?_
  refine lv_iload_n hx hb dX11_link_1 rfl (lv_at hl 1 rfl) ?_
  refine c_ci (As := [.int p1]) (rest := []) x hml L 11 i0 hal0 rfl (c_kisEnd l X g i0 p1 hX hal0) (wk_V kd_X11_isEnd kl_X11_223 ki_X11_isEnd ks_X11_X11_isEnd kn_X11) rfl ⟨rfl, rfl⟩ hd_kisEnd ⟨Nat.le_of_ble_eq_true rfl, Nat.le_of_ble_eq_true rfl⟩ rfl hl.1 rfl (lv_room (Nat.le_of_ble_eq_true rfl)) dX11_link_2 (fun v2 g1 H1 k1 hp1 L1 => ?_)
  have rv2 : rg (0) (1) v2 := hp1.2.1
  have uv2 : (0 : Int) ≤ v2.toInt ∧ v2.toInt ≤ 1 := rv2
  have hw3 := hp1.2.2
  refine lv_if_ne (tgt := 10) hx hb dX11_link_5 (by decide) (fun c5_4 => ?_) (fun c5_4 => ?_)
  · skip
    have ic5_4 : v2.toInt ≠ (0 : Int32).toInt := fun z => c5_4 (Int32.toInt_inj.mp z)
    have y5 : (0 : Int32).toInt = 0 := by decide
    have q6 : rg (1) (1) v2 := rg_neL c5_4 rv2 kc_0
    have uq6 : (1 : Int) ≤ v2.toInt ∧ v2.toInt ≤ 1 := q6
    refine lv_aload_n hx hb dX11_link_10 rfl (lv_at hl 0 rfl) ?_
    have al7 : Z.al 49 0 := hz.2 49 0 (show 0 < 1 from (by omega))
    refine c_getr (a := Z.ad 49 0) x L1 11 i0 3 hal0 rfl rfl (wk_in kf_X11_67) dX11_link_11 ?_
    refine lv_iload_n hx hb dX11_link_14 rfl (lv_at hl 1 rfl) ?_
    refine c_ldr (a := Z.ad 10 p1.toInt.toNat) x L1 49 0 al7 rfl (by omega) (show p1.toInt < ((Z.n : Nat) : Int) from (by omega)) rfl dX11_link_15 ?_
    have al8 : Z.al 10 p1.toInt.toNat := hz.2 10 p1.toInt.toNat (show p1.toInt.toNat < Z.n from (by omega))
    refine lv_astore (lv' := [(4, .ref (Z.ad 10 p1.toInt.toNat)), (0, .ref (Z.ad 11 i0)), (1, .int p1), (2, .int p2), (3, .int p3)]) hx hb dX11_link_16 hl (by decide) rfl (fun ls hl => ?_)
    refine lv_iload_n hx hb dX11_link_18 rfl (lv_at hl 3 rfl) ?_
    rcases (show p2.toInt < 0 ∨ 3 < p2.toInt ∨ p2.toInt = 0 ∨ p2.toInt = 1 ∨ p2.toInt = 2 ∨ p2.toInt = 3 by omega) with c19_9 | c19_9 | c19_9 | c19_9 | c19_9 | c19_9
    · skip
      refine lv_tableOut (tgt := 73) hx hb dX11_link_19 (Or.inl c19_9) (by decide) ?_
      refine lv_iconst (v := (-1)) hx hb dX11_link_73 (by decide) ?_
      exact hQ _ _ (-1 : Int32) _ _ _ dX11_link_74 L1 ⟨(mFr.tr mFr.rf hp1.1 rfl), rg_w kc_m1 rfl, (cJ_fr hJ hp1.1 rfl), trivial⟩
    · skip
      refine lv_tableOut (tgt := 73) hx hb dX11_link_19 (Or.inr c19_9) (by decide) ?_
      refine lv_iconst (v := (-1)) hx hb dX11_link_73 (by decide) ?_
      exact hQ _ _ (-1 : Int32) _ _ _ dX11_link_74 L1 ⟨(mFr.tr mFr.rf hp1.1 rfl), rg_w kc_m1 rfl, (cJ_fr hJ hp1.1 rfl), trivial⟩
    · skip
      have q10 : rg (0) (0) p2 := ⟨by omega, by omega⟩
      refine lv_tableIn (off := 29) (tgt := 48) hx hb dX11_link_19 (by omega) (by omega) (by rw [c19_9]; rfl) (by decide) ?_
      refine lv_aload hx hb dX11_link_48 (lv_at hl 0 rfl) ?_
      refine c_ciU (n := 0) (owner := "CellSwitch$Side") (x0 := ⟨"CellSwitch$SwitchSide", "openCalls", "()I"⟩) (As := []) (rest := []) x hml L1 10 p1.toInt.toNat al8 rfl (c_kopenCalls_10 l X g1 p1.toInt.toNat hX (cJ_fr hJ hp1.1 rfl) (show p1.toInt.toNat < Z.n from (by omega))) (wk_U kd_X8_openCalls kl_X11_294 km_CellSwitchSwitchSide_CellSwitchSide_openCalls ks_X10_CellSwitchSwitchSide_X8_openCalls ki_X8_openCalls kn_X8) rfl ⟨rfl, rfl⟩ rfl (by decide +kernel) ⟨Nat.le_of_ble_eq_true rfl, Nat.le_of_ble_eq_true rfl⟩ rfl hl.1 rfl (lv_room (Nat.le_of_ble_eq_true rfl)) dX11_link_50 (fun v12 g11 H11 k11 hp11 L11 => ?_)
      have rv12 : rg (-2147483648) (2147483647) v12 := hp11.2.1
      have uv12 : (-2147483648 : Int) ≤ v12.toInt ∧ v12.toInt ≤ 2147483647 := rv12
      exact hQ _ _ v12 _ _ _ dX11_link_53 L11 ⟨(mFr.tr (mFr.tr mFr.rf hp1.1 rfl) hp11.1 rfl), rg_w rv12 rfl, hp11.2.2.1, trivial⟩
    · skip
      have q13 : rg (1) (1) p2 := ⟨by omega, by omega⟩
      refine lv_tableIn (off := 35) (tgt := 54) hx hb dX11_link_19 (by omega) (by omega) (by rw [c19_9]; rfl) (by decide) ?_
      refine lv_aload hx hb dX11_link_54 (lv_at hl 0 rfl) ?_
      refine c_ci (As := []) (rest := []) x hml L1 10 p1.toInt.toNat al8 rfl (c_krates l X g1 p1.toInt.toNat hX (cJ_fr hJ hp1.1 rfl) (show p1.toInt.toNat < Z.n from (by omega))) (wk_V kd_X10_rates kl_X11_297 ki_X10_rates ks_X10_X10_rates kn_X10) rfl ⟨rfl, rfl⟩ hd_krates ⟨Nat.le_of_ble_eq_true rfl, Nat.le_of_ble_eq_true rfl⟩ rfl hl.1 rfl (lv_room (Nat.le_of_ble_eq_true rfl)) dX11_link_56 (fun v15 g14 H14 k14 hp14 L14 => ?_)
      have rv15 : rg (-2147483648) (2147483647) v15 := hp14.2.1
      have uv15 : (-2147483648 : Int) ≤ v15.toInt ∧ v15.toInt ≤ 2147483647 := rv15
      exact hQ _ _ v15 _ _ _ dX11_link_59 L14 ⟨(mFr.tr (mFr.tr mFr.rf hp1.1 rfl) hp14.1 rfl), rg_w rv15 rfl, hp14.2.2.1, trivial⟩
    · skip
      have q16 : rg (2) (2) p2 := ⟨by omega, by omega⟩
      refine lv_tableIn (off := 41) (tgt := 60) hx hb dX11_link_19 (by omega) (by omega) (by rw [c19_9]; rfl) (by decide) ?_
      refine lv_aload hx hb dX11_link_60 (lv_at hl 0 rfl) ?_
      refine c_ci (As := []) (rest := []) x hml L1 10 p1.toInt.toNat al8 rfl (c_kjoinedChannels l X g1 p1.toInt.toNat hX (cJ_fr hJ hp1.1 rfl) (show p1.toInt.toNat < Z.n from (by omega))) (wk_V kd_X10_joinedChannels kl_X11_300 ki_X10_joinedChannels ks_X10_X10_joinedChannels kn_X10) rfl ⟨rfl, rfl⟩ hd_kjoinedChannels ⟨Nat.le_of_ble_eq_true rfl, Nat.le_of_ble_eq_true rfl⟩ rfl hl.1 rfl (lv_room (Nat.le_of_ble_eq_true rfl)) dX11_link_62 (fun v18 g17 H17 k17 hp17 L17 => ?_)
      have rv18 : rg (-2147483648) (2147483647) v18 := hp17.2.1
      have uv18 : (-2147483648 : Int) ≤ v18.toInt ∧ v18.toInt ≤ 2147483647 := rv18
      exact hQ _ _ v18 _ _ _ dX11_link_65 L17 ⟨(mFr.tr (mFr.tr mFr.rf hp1.1 rfl) hp17.1 rfl), rg_w rv18 rfl, hp17.2.2.1, trivial⟩
    · skip
      have q19 : rg (3) (3) p2 := ⟨by omega, by omega⟩
      refine lv_tableIn (off := 47) (tgt := 66) hx hb dX11_link_19 (by omega) (by omega) (by rw [c19_9]; rfl) (by decide) ?_
      refine lv_aload hx hb dX11_link_66 (lv_at hl 0 rfl) ?_
      refine lv_iload_n hx hb dX11_link_68 rfl (lv_at hl 4 rfl) ?_
      refine c_ci (As := [.int p3]) (rest := []) x hml L1 10 p1.toInt.toNat al8 rfl (c_kfarChannel l X g1 p1.toInt.toNat p3 hX (cJ_fr hJ hp1.1 rfl) (show p1.toInt.toNat < Z.n from (by omega))) (wk_V kd_X10_farChannel kl_X11_303 ki_X10_farChannel ks_X10_X10_farChannel kn_X10) rfl ⟨rfl, rfl⟩ hd_kfarChannel ⟨Nat.le_of_ble_eq_true rfl, Nat.le_of_ble_eq_true rfl⟩ rfl hl.1 rfl (lv_room (Nat.le_of_ble_eq_true rfl)) dX11_link_69 (fun v21 g20 H20 k20 hp20 L20 => ?_)
      have rv21 : rg (-2147483648) (2147483647) v21 := hp20.2.1
      have uv21 : (-2147483648 : Int) ≤ v21.toInt ∧ v21.toInt ≤ 2147483647 := rv21
      exact hQ _ _ v21 _ _ _ dX11_link_72 L20 ⟨(mFr.tr (mFr.tr mFr.rf hp1.1 rfl) hp20.1 rfl), rg_w rv21 rfl, hp20.2.2.1, trivial⟩
  · skip
    have ic5_4 := congrArg Int32.toInt c5_4
    have y22 : (0 : Int32).toInt = 0 := by decide
    have q23 : rg (0) (0) v2 := (rg_eq c5_4 rv2 kc_0).1
    have uq23 : (0 : Int) ≤ v2.toInt ∧ v2.toInt ≤ 0 := q23
    refine lv_iconst (v := (-1)) hx hb dX11_link_8 (by decide) ?_
    exact hQ _ _ (-1 : Int32) _ _ _ dX11_link_9 L1 ⟨(mFr.tr mFr.rf hp1.1 rfl), rg_w kc_m1 rfl, (cJ_fr hJ hp1.1 rfl), trivial⟩
theorem c_klink (l : Launch) {G : cG} {Z : cZ} (X : Int) (g : mSt) (i0 : Nat) (p1 : Int32) (p2 : Int32) (p3 : Int32) (hX : 0 ≤ X ∧ X ≤ 2000000000) (hJ : cJ Z g) (hal0 : Z.al 11 i0) : Met l yX11_link (wk (Cond.code yX11_link cX11_link 5 (some .int))) rm_klink (va_Pc [.ref (Z.ad 11 i0), .int p1, .int p2, .int p3] (cPre G Z X g)) (cQi G Z X (fun r g1 => mFr [] g g1 ∧ rg (-2147483648) (2147483647) r ∧ cJ Z g1 ∧ True)) 0 0 (cAd Z) := by
  refine Met.ofW (cc := cX11_link) (maxL := 5) (ret := (some .int)) (by decide) rfl ?_
  intro p e s m args below meth c s₁ B hml hv
  obtain ⟨rfl, hv⟩ := hv
  have hr := B.returns
  have hlocks := B.notSynchronized
  obtain ⟨x, L⟩ := c_start B rfl (fun w h => wk_in h) hv
  have hl := lv_entry ([.ref (Z.ad 11 i0), .int p1, .int p2, .int p3]) (n := 5) (Nat.le_of_ble_eq_true rfl)
  rw [lg_entry_eq]
  generalize (lg_sl ([.ref (Z.ad 11 i0), .int p1, .int p2, .int p3]) ++ List.replicate (5 - (lg_sl ([.ref (Z.ad 11 i0), .int p1, .int p2, .int p3])).length) Slot.unset).toArray = ls at hl ⊢
  exact w_klink x hml L hX i0 p1 p2 p3 hJ hal0 hl (fun pc' ls' r g1 H1 locs1 hdg L hp => c_iret x L hr hlocks (Int.le_refl _) hp hdg)

def rm_kline : Room := { frames := 2, cells := 0, slots := 0, locals := 43 }
theorem hd_kline : yX11_line.cls = cRn 11 ∧ yX11_line.cls ≠ "java/lang/invoke/MethodHandle" ∧ yX11_line.cls ≠ "java/lang/invoke/VarHandle" ∧ (parseMethodDescriptor yX11_line.desc).map (fun d => d.parameters.length) = some 2 := by decide +kernel
set_option maxHeartbeats 4000000 in
set_option maxRecDepth 100000 in
theorem w_kline {p : Program} {l : Launch} {e : Env} {s : State} {m : MethodId} {args : Array Value} {below : List Frame} {meth : Method} {c : Code} {H : Heap} {locs : List Loc} {Q : State → Prop} {ls : Array Slot} {G : cG} {Z : cZ} {A : Nat → Prop} {g : mSt} {H0 : Heap} {X : Int} (x : cX p c cX11_line s args (wk (Cond.code yX11_line cX11_line 3 (some .int))) m G Z A RX11 H0) (hml : c.maxLocals = 3) (L : cL G Z A H0 X g H locs) (hX : 0 ≤ X ∧ X ≤ 2000000000) (i0 : Nat) (p1 : Int32) (p2 : Int32) (hJ : cJ Z g) (hal0 : Z.al 11 i0) (hl : lv_has ls 3 [(0, .ref (Z.ad 11 i0)), (1, .int p1), (2, .int p2)]) (hQ : ∀ (pc' : Nat) (ls' : Array Slot) (r : Int32) (g1 : mSt) (H1 : Heap) (locs1 : List Loc), decode cX11_line pc' = .ok (.ireturn, 1) → cL G Z A H0 X g1 H1 locs1 → (mFr [] g g1 ∧ rg (-2147483648) (2147483647) r ∧ cJ Z g1 ∧ True) → W p l e rm_kline s m args below meth c H1 locs1 0 0 Q (F0 m pc' ls' [.int r])) : W p l e rm_kline s m args below meth c H locs 0 0 Q (F0 m 0 ls []) := by
  have hx := x.1
  have hb := x.2.1
  have hz := x.2.2.2.2.2.2.2.1
  have hzn := hz.1
  have up1 : (-2147483648 : Int) ≤ p1.toInt ∧ p1.toInt ≤ 2147483647 := (rg_any p1)
  have up2 : (-2147483648 : Int) ≤ p2.toInt ∧ p2.toInt ≤ 2147483647 := (rg_any p2)
  refine lv_aload_n hx hb dX11_line_0 rfl (lv_at hl 0 rfl) ?_
  refine lv_iload_n hx hb dX11_line_1 rfl (lv_at hl 1 rfl) ?_
  refine c_ci (As := [.int p1]) (rest := []) x hml L 11 i0 hal0 rfl (c_kisSide l X g i0 p1 hX hal0) (wk_V kd_X11_isSide kl_X11_306 ki_X11_isSide ks_X11_X11_isSide kn_X11) rfl ⟨rfl, rfl⟩ hd_kisSide ⟨Nat.le_of_ble_eq_true rfl, Nat.le_of_ble_eq_true rfl⟩ rfl hl.1 rfl (lv_room (Nat.le_of_ble_eq_true rfl)) dX11_line_2 (fun v2 g1 H1 k1 hp1 L1 => ?_)
  have rv2 : rg (0) (1) v2 := hp1.2.1
  have uv2 : (0 : Int) ≤ v2.toInt ∧ v2.toInt ≤ 1 := rv2
  have hw3 := hp1.2.2
  refine lv_if_eq (tgt := 24) hx hb dX11_line_5 (by decide) (fun c5_4 => ?_) (fun c5_4 => ?_)
  · skip
    have ic5_4 := congrArg Int32.toInt c5_4
    have y5 : (0 : Int32).toInt = 0 := by decide
    have q6 : rg (0) (0) v2 := (rg_eq c5_4 rv2 kc_0).1
    have uq6 : (0 : Int) ≤ v2.toInt ∧ v2.toInt ≤ 0 := q6
    refine lv_iconst (v := (-1)) hx hb dX11_line_24 (by decide) ?_
    exact hQ _ _ (-1 : Int32) _ _ _ dX11_line_25 L1 ⟨(mFr.tr mFr.rf hp1.1 rfl), rg_w kc_m1 rfl, (cJ_fr hJ hp1.1 rfl), trivial⟩
  · skip
    have ic5_4 : v2.toInt ≠ (0 : Int32).toInt := fun z => c5_4 (Int32.toInt_inj.mp z)
    have y7 : (0 : Int32).toInt = 0 := by decide
    have q8 : rg (1) (1) v2 := rg_neL c5_4 rv2 kc_0
    have uq8 : (1 : Int) ≤ v2.toInt ∧ v2.toInt ≤ 1 := q8
    refine lv_aload_n hx hb dX11_line_8 rfl (lv_at hl 0 rfl) ?_
    have al9 : Z.al 52 0 := hz.2 52 0 (show 0 < 1 from (by omega))
    refine c_getr (a := Z.ad 52 0) x L1 11 i0 4 hal0 rfl rfl (wk_in kf_X11_71) dX11_line_9 ?_
    refine lv_iload_n hx hb dX11_line_12 rfl (lv_at hl 1 rfl) ?_
    rcases Nat.lt_or_ge p1.toInt.toNat Z.n with hc10 | hc10
    · skip
      have al11 : Z.al 4 p1.toInt.toNat := hz.2 4 p1.toInt.toNat (show p1.toInt.toNat < Z.n from (by omega))
      refine c_ldr (a := Z.ad 4 p1.toInt.toNat) x L1 52 0 al9 rfl (by omega) (show p1.toInt < (((2 * Z.n) : Nat) : Int) from (by omega)) (by show some (cSd Z p1.toInt.toNat) = _; unfold cSd; rw [if_pos hc10]) dX11_line_13 ?_
      have al13 : Z.al 5 p1.toInt.toNat := hz.2 5 p1.toInt.toNat (show p1.toInt.toNat < 2 * Z.n from (by omega))
      refine c_getr (a := Z.ad 5 p1.toInt.toNat) x L1 4 p1.toInt.toNat 1 al11 rfl rfl (wk_in kf_X11_85) dX11_line_14 ?_
      refine lv_iload_n hx hb dX11_line_17 rfl (lv_at hl 2 rfl) ?_
      refine c_ci (As := [.int p2]) (rest := []) x hml L1 5 p1.toInt.toNat al13 rfl (c_kltell l X g1 p1.toInt.toNat p2 hX (show p1.toInt.toNat < 2 * Z.n from (by omega))) (wk_V kd_X5_tell kl_X11_309 ki_X5_tell ks_X5_X5_tell kn_X5) rfl ⟨rfl, rfl⟩ hd_kltell ⟨Nat.le_of_ble_eq_true rfl, Nat.le_of_ble_eq_true rfl⟩ rfl hl.1 rfl (lv_room (Nat.le_of_ble_eq_true rfl)) dX11_line_18 (fun v15 g14 H14 k14 hp14 L14 => ?_)
      have rv15 : rg (-2147483648) (2147483647) v15 := hp14.2.1
      have uv15 : (-2147483648 : Int) ≤ v15.toInt ∧ v15.toInt ≤ 2147483647 := rv15
      refine lv_goto (tgt := 25) hx hb dX11_line_21 (by decide) ?_
      exact hQ _ _ v15 _ _ _ dX11_line_25 L14 ⟨(mFr.tr (mFr.tr mFr.rf hp1.1 rfl) hp14.1 rfl), rg_w rv15 rfl, (cJ_fr (cJ_fr hJ hp1.1 rfl) hp14.1 rfl), trivial⟩
    · skip
      have al12 : Z.al 10 (p1.toInt.toNat - Z.n) := hz.2 10 (p1.toInt.toNat - Z.n) (show (p1.toInt.toNat - Z.n) < Z.n from (by omega))
      refine c_ldr (a := Z.ad 10 (p1.toInt.toNat - Z.n)) x L1 52 0 al9 rfl (by omega) (show p1.toInt < (((2 * Z.n) : Nat) : Int) from (by omega)) (by show some (cSd Z p1.toInt.toNat) = _; unfold cSd; rw [if_neg (Nat.not_lt.mpr hc10)]) dX11_line_13 ?_
      have al16 : Z.al 5 (Z.n + (p1.toInt.toNat - Z.n)) := hz.2 5 (Z.n + (p1.toInt.toNat - Z.n)) (show (Z.n + (p1.toInt.toNat - Z.n)) < 2 * Z.n from (by omega))
      refine c_getr (a := Z.ad 5 (Z.n + (p1.toInt.toNat - Z.n))) x L1 10 (p1.toInt.toNat - Z.n) 1 al12 rfl rfl (wk_in kf_X11_85) dX11_line_14 ?_
      refine lv_iload_n hx hb dX11_line_17 rfl (lv_at hl 2 rfl) ?_
      refine c_ci (As := [.int p2]) (rest := []) x hml L1 5 (Z.n + (p1.toInt.toNat - Z.n)) al16 rfl (c_kltell l X g1 (Z.n + (p1.toInt.toNat - Z.n)) p2 hX (show (Z.n + (p1.toInt.toNat - Z.n)) < 2 * Z.n from (by omega))) (wk_V kd_X5_tell kl_X11_309 ki_X5_tell ks_X5_X5_tell kn_X5) rfl ⟨rfl, rfl⟩ hd_kltell ⟨Nat.le_of_ble_eq_true rfl, Nat.le_of_ble_eq_true rfl⟩ rfl hl.1 rfl (lv_room (Nat.le_of_ble_eq_true rfl)) dX11_line_18 (fun v18 g17 H17 k17 hp17 L17 => ?_)
      have rv18 : rg (-2147483648) (2147483647) v18 := hp17.2.1
      have uv18 : (-2147483648 : Int) ≤ v18.toInt ∧ v18.toInt ≤ 2147483647 := rv18
      refine lv_goto (tgt := 25) hx hb dX11_line_21 (by decide) ?_
      exact hQ _ _ v18 _ _ _ dX11_line_25 L17 ⟨(mFr.tr (mFr.tr mFr.rf hp1.1 rfl) hp17.1 rfl), rg_w rv18 rfl, (cJ_fr (cJ_fr hJ hp1.1 rfl) hp17.1 rfl), trivial⟩
theorem c_kline (l : Launch) {G : cG} {Z : cZ} (X : Int) (g : mSt) (i0 : Nat) (p1 : Int32) (p2 : Int32) (hX : 0 ≤ X ∧ X ≤ 2000000000) (hJ : cJ Z g) (hal0 : Z.al 11 i0) : Met l yX11_line (wk (Cond.code yX11_line cX11_line 3 (some .int))) rm_kline (va_Pc [.ref (Z.ad 11 i0), .int p1, .int p2] (cPre G Z X g)) (cQi G Z X (fun r g1 => mFr [] g g1 ∧ rg (-2147483648) (2147483647) r ∧ cJ Z g1 ∧ True)) 0 0 (cAd Z) := by
  refine Met.ofW (cc := cX11_line) (maxL := 3) (ret := (some .int)) (by decide) rfl ?_
  intro p e s m args below meth c s₁ B hml hv
  obtain ⟨rfl, hv⟩ := hv
  have hr := B.returns
  have hlocks := B.notSynchronized
  obtain ⟨x, L⟩ := c_start B rfl (fun w h => wk_in h) hv
  have hl := lv_entry ([.ref (Z.ad 11 i0), .int p1, .int p2]) (n := 3) (Nat.le_of_ble_eq_true rfl)
  rw [lg_entry_eq]
  generalize (lg_sl ([.ref (Z.ad 11 i0), .int p1, .int p2]) ++ List.replicate (3 - (lg_sl ([.ref (Z.ad 11 i0), .int p1, .int p2])).length) Slot.unset).toArray = ls at hl ⊢
  exact w_kline x hml L hX i0 p1 p2 hJ hal0 hl (fun pc' ls' r g1 H1 locs1 hdg L hp => c_iret x L hr hlocks (Int.le_refl _) hp hdg)

def rm_kreset : Room := { frames := 6, cells := 0, slots := 0, locals := 140 }
theorem hd_kreset : yX11_reset.cls = cRn 11 ∧ yX11_reset.cls ≠ "java/lang/invoke/MethodHandle" ∧ yX11_reset.cls ≠ "java/lang/invoke/VarHandle" ∧ (parseMethodDescriptor yX11_reset.desc).map (fun d => d.parameters.length) = some 1 := by decide +kernel
set_option maxHeartbeats 4000000 in
set_option maxRecDepth 100000 in
theorem w_kreset {p : Program} {l : Launch} {e : Env} {s : State} {m : MethodId} {args : Array Value} {below : List Frame} {meth : Method} {c : Code} {H : Heap} {locs : List Loc} {Q : State → Prop} {ls : Array Slot} {G : cG} {Z : cZ} {A : Nat → Prop} {g : mSt} {H0 : Heap} {X : Int} (x : cX p c cX11_reset s args (wk (Cond.code yX11_reset cX11_reset 3 (some .int))) m G Z A RX11 H0) (hml : c.maxLocals = 3) (L : cL G Z A H0 X g H locs) (hX : 0 ≤ X ∧ X ≤ 2000000000) (i0 : Nat) (p1 : Int32) (hal0 : Z.al 11 i0) (hl : lv_has ls 3 [(0, .ref (Z.ad 11 i0)), (1, .int p1)]) (hQ : ∀ (pc' : Nat) (ls' : Array Slot) (r : Int32) (g1 : mSt) (H1 : Heap) (locs1 : List Loc), decode cX11_reset pc' = .ok (.ireturn, 1) → cL G Z A H0 X g1 H1 locs1 → (mFr [67, 108, 111, 164, 173, 176, 177, 178, 544, 576, 768] g g1 ∧ rg (-1) (1) r ∧ True) → W p l e rm_kreset s m args below meth c H1 locs1 0 0 Q (F0 m pc' ls' [.int r])) : W p l e rm_kreset s m args below meth c H locs 0 0 Q (F0 m 0 ls []) := by
  have hx := x.1
  have hb := x.2.1
  have hz := x.2.2.2.2.2.2.2.1
  have hzn := hz.1
  have up1 : (-2147483648 : Int) ≤ p1.toInt ∧ p1.toInt ≤ 2147483647 := (rg_any p1)
  refine lv_aload_n hx hb dX11_reset_0 rfl (lv_at hl 0 rfl) ?_
  refine lv_iload_n hx hb dX11_reset_1 rfl (lv_at hl 1 rfl) ?_
  refine c_ci (As := [.int p1]) (rest := []) x hml L 11 i0 hal0 rfl (c_kisSide l X g i0 p1 hX hal0) (wk_V kd_X11_isSide kl_X11_306 ki_X11_isSide ks_X11_X11_isSide kn_X11) rfl ⟨rfl, rfl⟩ hd_kisSide ⟨Nat.le_of_ble_eq_true rfl, Nat.le_of_ble_eq_true rfl⟩ rfl hl.1 rfl (lv_room (Nat.le_of_ble_eq_true rfl)) dX11_reset_2 (fun v2 g1 H1 k1 hp1 L1 => ?_)
  have rv2 : rg (0) (1) v2 := hp1.2.1
  have uv2 : (0 : Int) ≤ v2.toInt ∧ v2.toInt ≤ 1 := rv2
  have hw3 := hp1.2.2
  refine lv_if_ne (tgt := 10) hx hb dX11_reset_5 (by decide) (fun c5_4 => ?_) (fun c5_4 => ?_)
  · skip
    have ic5_4 : v2.toInt ≠ (0 : Int32).toInt := fun z => c5_4 (Int32.toInt_inj.mp z)
    have y5 : (0 : Int32).toInt = 0 := by decide
    have q6 : rg (1) (1) v2 := rg_neL c5_4 rv2 kc_0
    have uq6 : (1 : Int) ≤ v2.toInt ∧ v2.toInt ≤ 1 := q6
    refine lv_aload_n hx hb dX11_reset_10 rfl (lv_at hl 0 rfl) ?_
    have al7 : Z.al 52 0 := hz.2 52 0 (show 0 < 1 from (by omega))
    refine c_getr (a := Z.ad 52 0) x L1 11 i0 4 hal0 rfl rfl (wk_in kf_X11_71) dX11_reset_11 ?_
    refine lv_iload_n hx hb dX11_reset_14 rfl (lv_at hl 1 rfl) ?_
    rcases Nat.lt_or_ge p1.toInt.toNat Z.n with hc8 | hc8
    · skip
      have al9 : Z.al 4 p1.toInt.toNat := hz.2 4 p1.toInt.toNat (show p1.toInt.toNat < Z.n from (by omega))
      refine c_ldr (a := Z.ad 4 p1.toInt.toNat) x L1 52 0 al7 rfl (by omega) (show p1.toInt < (((2 * Z.n) : Nat) : Int) from (by omega)) (by show some (cSd Z p1.toInt.toNat) = _; unfold cSd; rw [if_pos hc8]) dX11_reset_15 ?_
      have al11 : Z.al 5 p1.toInt.toNat := hz.2 5 p1.toInt.toNat (show p1.toInt.toNat < 2 * Z.n from (by omega))
      refine c_getr (a := Z.ad 5 p1.toInt.toNat) x L1 4 p1.toInt.toNat 1 al9 rfl rfl (wk_in kf_X11_85) dX11_reset_16 ?_
      refine lv_astore_n (lv' := [(2, .ref (Z.ad 5 p1.toInt.toNat)), (0, .ref (Z.ad 11 i0)), (1, .int p1)]) hx hb dX11_reset_19 rfl hl (by decide) rfl (fun ls hl => ?_)
      refine lv_aload_n hx hb dX11_reset_20 rfl (lv_at hl 0 rfl) ?_
      refine c_geti x L1 5 p1.toInt.toNat 4 164 al11 rfl rfl (wk_in kf_X11_312) dX11_reset_21 (fun v12 ev12 wv12 => ?_)
      have rv12 : rg (0) (4) v12 := clj_164 wv12
      have uv12 : (0 : Int) ≤ v12.toInt ∧ v12.toInt ≤ 4 := rv12
      refine lv_iconst (v := 2) hx hb dX11_reset_24 (by decide) ?_
      refine lv_icmp_eq (tgt := 30) hx hb dX11_reset_25 (by decide) (fun c25_13 => ?_) (fun c25_13 => ?_)
      · skip
        have ic25_13 := congrArg Int32.toInt c25_13
        have y14 : (2 : Int32).toInt = 2 := by decide
        have q15 : rg (2) (2) v12 := (rg_eq c25_13 rv12 kc_2).1
        have uq15 : (2 : Int) ≤ v12.toInt ∧ v12.toInt ≤ 2 := q15
        refine lv_aload_n hx hb dX11_reset_30 rfl (lv_at hl 0 rfl) ?_
        refine lv_iconst (v := 3) hx hb dX11_reset_31 (by decide) ?_
        refine lv_iconst (v := 5) hx hb dX11_reset_32 (by decide) ?_
        refine lv_aload_n hx hb dX11_reset_33 rfl (lv_at hl 1 rfl) ?_
        refine c_geti x L1 11 i0 10 362 hal0 rfl rfl (wk_in kf_X11_82) dX11_reset_34 (fun v16 ev16 wv16 => ?_)
        have rv16 : rg (-2147483648) (2147483647) v16 := rg_any v16
        have uv16 : (-2147483648 : Int) ≤ v16.toInt ∧ v16.toInt ≤ 2147483647 := rv16
        have sv16 : v16.toInt = (g 362 i0).toInt := congrArg Int32.toInt (ev16.trans (congrFun ((show mFr [67, 108, 111, 164, 173, 176, 177, 178, 544, 576, 768] g g1 from (mFr.tr mFr.rf hp1.1 rfl)).at 362 rfl) _))
        refine c_cv (As := [.int (3 : Int32), .int (5 : Int32), .int v16]) (rest := []) x hml L1 5 p1.toInt.toNat al11 rfl (c_kask l X g1 p1.toInt.toNat (3 : Int32) (5 : Int32) v16 hX (show p1.toInt.toNat < 2 * Z.n from (by omega)) (rg_w kc_3 rfl)) (wk_V kd_X5_ask kl_X11_155 ki_X5_ask ks_X5_X5_ask kn_X5) rfl ⟨rfl, rfl⟩ hd_kask ⟨Nat.le_of_ble_eq_true rfl, Nat.le_of_ble_eq_true rfl⟩ rfl hl.1 rfl (lv_room (Nat.le_of_ble_eq_true rfl)) dX11_reset_37 (fun  g17 H17 k17 hp17 L17 => ?_)
        refine lv_iconst (v := 1) hx hb dX11_reset_40 (by decide) ?_
        exact hQ _ _ (1 : Int32) _ _ _ dX11_reset_41 L17 ⟨(mFr.tr (mFr.tr mFr.rf hp1.1 rfl) hp17.1 rfl), rg_w kc_1 rfl, trivial⟩
      · skip
        have ic25_13 : v12.toInt ≠ (2 : Int32).toInt := fun z => c25_13 (Int32.toInt_inj.mp z)
        have y18 : (2 : Int32).toInt = 2 := by decide
        refine lv_iconst (v := 0) hx hb dX11_reset_28 (by decide) ?_
        exact hQ _ _ (0 : Int32) _ _ _ dX11_reset_29 L1 ⟨(mFr.tr mFr.rf hp1.1 rfl), rg_w kc_0 rfl, trivial⟩
    · skip
      have al10 : Z.al 10 (p1.toInt.toNat - Z.n) := hz.2 10 (p1.toInt.toNat - Z.n) (show (p1.toInt.toNat - Z.n) < Z.n from (by omega))
      refine c_ldr (a := Z.ad 10 (p1.toInt.toNat - Z.n)) x L1 52 0 al7 rfl (by omega) (show p1.toInt < (((2 * Z.n) : Nat) : Int) from (by omega)) (by show some (cSd Z p1.toInt.toNat) = _; unfold cSd; rw [if_neg (Nat.not_lt.mpr hc8)]) dX11_reset_15 ?_
      have al19 : Z.al 5 (Z.n + (p1.toInt.toNat - Z.n)) := hz.2 5 (Z.n + (p1.toInt.toNat - Z.n)) (show (Z.n + (p1.toInt.toNat - Z.n)) < 2 * Z.n from (by omega))
      refine c_getr (a := Z.ad 5 (Z.n + (p1.toInt.toNat - Z.n))) x L1 10 (p1.toInt.toNat - Z.n) 1 al10 rfl rfl (wk_in kf_X11_85) dX11_reset_16 ?_
      refine lv_astore_n (lv' := [(2, .ref (Z.ad 5 (Z.n + (p1.toInt.toNat - Z.n)))), (0, .ref (Z.ad 11 i0)), (1, .int p1)]) hx hb dX11_reset_19 rfl hl (by decide) rfl (fun ls hl => ?_)
      refine lv_aload_n hx hb dX11_reset_20 rfl (lv_at hl 0 rfl) ?_
      refine c_geti x L1 5 (Z.n + (p1.toInt.toNat - Z.n)) 4 164 al19 rfl rfl (wk_in kf_X11_312) dX11_reset_21 (fun v20 ev20 wv20 => ?_)
      have rv20 : rg (0) (4) v20 := clj_164 wv20
      have uv20 : (0 : Int) ≤ v20.toInt ∧ v20.toInt ≤ 4 := rv20
      refine lv_iconst (v := 2) hx hb dX11_reset_24 (by decide) ?_
      refine lv_icmp_eq (tgt := 30) hx hb dX11_reset_25 (by decide) (fun c25_21 => ?_) (fun c25_21 => ?_)
      · skip
        have ic25_21 := congrArg Int32.toInt c25_21
        have y22 : (2 : Int32).toInt = 2 := by decide
        have q23 : rg (2) (2) v20 := (rg_eq c25_21 rv20 kc_2).1
        have uq23 : (2 : Int) ≤ v20.toInt ∧ v20.toInt ≤ 2 := q23
        refine lv_aload_n hx hb dX11_reset_30 rfl (lv_at hl 0 rfl) ?_
        refine lv_iconst (v := 3) hx hb dX11_reset_31 (by decide) ?_
        refine lv_iconst (v := 5) hx hb dX11_reset_32 (by decide) ?_
        refine lv_aload_n hx hb dX11_reset_33 rfl (lv_at hl 1 rfl) ?_
        refine c_geti x L1 11 i0 10 362 hal0 rfl rfl (wk_in kf_X11_82) dX11_reset_34 (fun v24 ev24 wv24 => ?_)
        have rv24 : rg (-2147483648) (2147483647) v24 := rg_any v24
        have uv24 : (-2147483648 : Int) ≤ v24.toInt ∧ v24.toInt ≤ 2147483647 := rv24
        have sv24 : v24.toInt = (g 362 i0).toInt := congrArg Int32.toInt (ev24.trans (congrFun ((show mFr [67, 108, 111, 164, 173, 176, 177, 178, 544, 576, 768] g g1 from (mFr.tr mFr.rf hp1.1 rfl)).at 362 rfl) _))
        refine c_cv (As := [.int (3 : Int32), .int (5 : Int32), .int v24]) (rest := []) x hml L1 5 (Z.n + (p1.toInt.toNat - Z.n)) al19 rfl (c_kask l X g1 (Z.n + (p1.toInt.toNat - Z.n)) (3 : Int32) (5 : Int32) v24 hX (show (Z.n + (p1.toInt.toNat - Z.n)) < 2 * Z.n from (by omega)) (rg_w kc_3 rfl)) (wk_V kd_X5_ask kl_X11_155 ki_X5_ask ks_X5_X5_ask kn_X5) rfl ⟨rfl, rfl⟩ hd_kask ⟨Nat.le_of_ble_eq_true rfl, Nat.le_of_ble_eq_true rfl⟩ rfl hl.1 rfl (lv_room (Nat.le_of_ble_eq_true rfl)) dX11_reset_37 (fun  g25 H25 k25 hp25 L25 => ?_)
        refine lv_iconst (v := 1) hx hb dX11_reset_40 (by decide) ?_
        exact hQ _ _ (1 : Int32) _ _ _ dX11_reset_41 L25 ⟨(mFr.tr (mFr.tr mFr.rf hp1.1 rfl) hp25.1 rfl), rg_w kc_1 rfl, trivial⟩
      · skip
        have ic25_21 : v20.toInt ≠ (2 : Int32).toInt := fun z => c25_21 (Int32.toInt_inj.mp z)
        have y26 : (2 : Int32).toInt = 2 := by decide
        refine lv_iconst (v := 0) hx hb dX11_reset_28 (by decide) ?_
        exact hQ _ _ (0 : Int32) _ _ _ dX11_reset_29 L1 ⟨(mFr.tr mFr.rf hp1.1 rfl), rg_w kc_0 rfl, trivial⟩
  · skip
    have ic5_4 := congrArg Int32.toInt c5_4
    have y27 : (0 : Int32).toInt = 0 := by decide
    have q28 : rg (0) (0) v2 := (rg_eq c5_4 rv2 kc_0).1
    have uq28 : (0 : Int) ≤ v2.toInt ∧ v2.toInt ≤ 0 := q28
    refine lv_iconst (v := (-1)) hx hb dX11_reset_8 (by decide) ?_
    exact hQ _ _ (-1 : Int32) _ _ _ dX11_reset_9 L1 ⟨(mFr.tr mFr.rf hp1.1 rfl), rg_w kc_m1 rfl, trivial⟩
theorem c_kreset (l : Launch) {G : cG} {Z : cZ} (X : Int) (g : mSt) (i0 : Nat) (p1 : Int32) (hX : 0 ≤ X ∧ X ≤ 2000000000) (hal0 : Z.al 11 i0) : Met l yX11_reset (wk (Cond.code yX11_reset cX11_reset 3 (some .int))) rm_kreset (va_Pc [.ref (Z.ad 11 i0), .int p1] (cPre G Z X g)) (cQi G Z X (fun r g1 => mFr [67, 108, 111, 164, 173, 176, 177, 178, 544, 576, 768] g g1 ∧ rg (-1) (1) r ∧ True)) 0 0 (cAd Z) := by
  refine Met.ofW (cc := cX11_reset) (maxL := 3) (ret := (some .int)) (by decide) rfl ?_
  intro p e s m args below meth c s₁ B hml hv
  obtain ⟨rfl, hv⟩ := hv
  have hr := B.returns
  have hlocks := B.notSynchronized
  obtain ⟨x, L⟩ := c_start B rfl (fun w h => wk_in h) hv
  have hl := lv_entry ([.ref (Z.ad 11 i0), .int p1]) (n := 3) (Nat.le_of_ble_eq_true rfl)
  rw [lg_entry_eq]
  generalize (lg_sl ([.ref (Z.ad 11 i0), .int p1]) ++ List.replicate (3 - (lg_sl ([.ref (Z.ad 11 i0), .int p1])).length) Slot.unset).toArray = ls at hl ⊢
  exact w_kreset x hml L hX i0 p1 hal0 hl (fun pc' ls' r g1 H1 locs1 hdg L hp => c_iret x L hr hlocks (Int.le_refl _) hp hdg)

def rm_kquit : Room := { frames := 6, cells := 0, slots := 0, locals := 140 }
theorem hd_kquit : yX11_quit.cls = cRn 11 ∧ yX11_quit.cls ≠ "java/lang/invoke/MethodHandle" ∧ yX11_quit.cls ≠ "java/lang/invoke/VarHandle" ∧ (parseMethodDescriptor yX11_quit.desc).map (fun d => d.parameters.length) = some 1 := by decide +kernel
set_option maxHeartbeats 4000000 in
set_option maxRecDepth 100000 in
theorem w_kquit {p : Program} {l : Launch} {e : Env} {s : State} {m : MethodId} {args : Array Value} {below : List Frame} {meth : Method} {c : Code} {H : Heap} {locs : List Loc} {Q : State → Prop} {ls : Array Slot} {G : cG} {Z : cZ} {A : Nat → Prop} {g : mSt} {H0 : Heap} {X : Int} (x : cX p c cX11_quit s args (wk (Cond.code yX11_quit cX11_quit 3 (some .int))) m G Z A RX11 H0) (hml : c.maxLocals = 3) (L : cL G Z A H0 X g H locs) (hX : 0 ≤ X ∧ X ≤ 2000000000) (i0 : Nat) (p1 : Int32) (hJ : cJ Z g) (hal0 : Z.al 11 i0) (hl : lv_has ls 3 [(0, .ref (Z.ad 11 i0)), (1, .int p1)]) (hQ : ∀ (pc' : Nat) (ls' : Array Slot) (r : Int32) (g1 : mSt) (H1 : Heap) (locs1 : List Loc), decode cX11_quit pc' = .ok (.ireturn, 1) → cL G Z A H0 X g1 H1 locs1 → (mFr [36, 40, 41, 42, 44, 45, 46, 48, 67, 108, 111, 164, 173, 176, 177, 178, 197, 198, 544, 576, 768, 832, 864, 928] g g1 ∧ rg (-1) (1) r ∧ cJ Z g1 ∧ True) → W p l e rm_kquit s m args below meth c H1 locs1 0 0 Q (F0 m pc' ls' [.int r])) : W p l e rm_kquit s m args below meth c H locs 0 0 Q (F0 m 0 ls []) := by
  have hx := x.1
  have hb := x.2.1
  have hz := x.2.2.2.2.2.2.2.1
  have hzn := hz.1
  have up1 : (-2147483648 : Int) ≤ p1.toInt ∧ p1.toInt ≤ 2147483647 := (rg_any p1)
  refine lv_aload_n hx hb dX11_quit_0 rfl (lv_at hl 0 rfl) ?_
  refine lv_iload_n hx hb dX11_quit_1 rfl (lv_at hl 1 rfl) ?_
  refine c_ci (As := [.int p1]) (rest := []) x hml L 11 i0 hal0 rfl (c_kisSide l X g i0 p1 hX hal0) (wk_V kd_X11_isSide kl_X11_306 ki_X11_isSide ks_X11_X11_isSide kn_X11) rfl ⟨rfl, rfl⟩ hd_kisSide ⟨Nat.le_of_ble_eq_true rfl, Nat.le_of_ble_eq_true rfl⟩ rfl hl.1 rfl (lv_room (Nat.le_of_ble_eq_true rfl)) dX11_quit_2 (fun v2 g1 H1 k1 hp1 L1 => ?_)
  have rv2 : rg (0) (1) v2 := hp1.2.1
  have uv2 : (0 : Int) ≤ v2.toInt ∧ v2.toInt ≤ 1 := rv2
  have hw3 := hp1.2.2
  refine lv_if_ne (tgt := 10) hx hb dX11_quit_5 (by decide) (fun c5_4 => ?_) (fun c5_4 => ?_)
  · skip
    have ic5_4 : v2.toInt ≠ (0 : Int32).toInt := fun z => c5_4 (Int32.toInt_inj.mp z)
    have y5 : (0 : Int32).toInt = 0 := by decide
    have q6 : rg (1) (1) v2 := rg_neL c5_4 rv2 kc_0
    have uq6 : (1 : Int) ≤ v2.toInt ∧ v2.toInt ≤ 1 := q6
    refine lv_aload_n hx hb dX11_quit_10 rfl (lv_at hl 0 rfl) ?_
    have al7 : Z.al 52 0 := hz.2 52 0 (show 0 < 1 from (by omega))
    refine c_getr (a := Z.ad 52 0) x L1 11 i0 4 hal0 rfl rfl (wk_in kf_X11_71) dX11_quit_11 ?_
    refine lv_iload_n hx hb dX11_quit_14 rfl (lv_at hl 1 rfl) ?_
    rcases Nat.lt_or_ge p1.toInt.toNat Z.n with hc8 | hc8
    · skip
      have al9 : Z.al 4 p1.toInt.toNat := hz.2 4 p1.toInt.toNat (show p1.toInt.toNat < Z.n from (by omega))
      refine c_ldr (a := Z.ad 4 p1.toInt.toNat) x L1 52 0 al7 rfl (by omega) (show p1.toInt < (((2 * Z.n) : Nat) : Int) from (by omega)) (by show some (cSd Z p1.toInt.toNat) = _; unfold cSd; rw [if_pos hc8]) dX11_quit_15 ?_
      have al11 : Z.al 5 p1.toInt.toNat := hz.2 5 p1.toInt.toNat (show p1.toInt.toNat < 2 * Z.n from (by omega))
      refine c_getr (a := Z.ad 5 p1.toInt.toNat) x L1 4 p1.toInt.toNat 1 al9 rfl rfl (wk_in kf_X11_85) dX11_quit_16 ?_
      refine lv_astore_n (lv' := [(2, .ref (Z.ad 5 p1.toInt.toNat)), (0, .ref (Z.ad 11 i0)), (1, .int p1)]) hx hb dX11_quit_19 rfl hl (by decide) rfl (fun ls hl => ?_)
      refine lv_aload_n hx hb dX11_quit_20 rfl (lv_at hl 0 rfl) ?_
      refine c_geti x L1 5 p1.toInt.toNat 4 164 al11 rfl rfl (wk_in kf_X11_312) dX11_quit_21 (fun v12 ev12 wv12 => ?_)
      have rv12 : rg (0) (4) v12 := clj_164 wv12
      have uv12 : (0 : Int) ≤ v12.toInt ∧ v12.toInt ≤ 4 := rv12
      refine lv_iconst (v := 2) hx hb dX11_quit_24 (by decide) ?_
      refine lv_icmp_eq (tgt := 30) hx hb dX11_quit_25 (by decide) (fun c25_13 => ?_) (fun c25_13 => ?_)
      · skip
        have ic25_13 := congrArg Int32.toInt c25_13
        have y14 : (2 : Int32).toInt = 2 := by decide
        have q15 : rg (2) (2) v12 := (rg_eq c25_13 rv12 kc_2).1
        have uq15 : (2 : Int) ≤ v12.toInt ∧ v12.toInt ≤ 2 := q15
        refine lv_aload_n hx hb dX11_quit_30 rfl (lv_at hl 0 rfl) ?_
        have al16 : Z.al 6 p1.toInt.toNat := hz.2 6 p1.toInt.toNat (show p1.toInt.toNat < 2 * Z.n from (by omega))
        refine c_getr (a := Z.ad 6 p1.toInt.toNat) x L1 5 p1.toInt.toNat 1 al11 rfl rfl (wk_in kf_X11_313) dX11_quit_31 ?_
        refine c_cv (As := []) (rest := []) x hml L1 6 p1.toInt.toNat al16 rfl (c_kclearAll_6 l X g1 p1.toInt.toNat hX (show p1.toInt.toNat < 2 * Z.n from (by omega))) (wk_V kd_X6_clearAll kl_X11_317 ki_X6_clearAll ks_X6_X6_clearAll kn_X6) rfl ⟨rfl, rfl⟩ hd_kclearAll_6 ⟨Nat.le_of_ble_eq_true rfl, Nat.le_of_ble_eq_true rfl⟩ rfl hl.1 rfl (lv_room (Nat.le_of_ble_eq_true rfl)) dX11_quit_34 (fun  g17 H17 k17 hp17 L17 => ?_)
        refine lv_aload_n hx hb dX11_quit_37 rfl (lv_at hl 0 rfl) ?_
        refine lv_iconst (v := 4) hx hb dX11_quit_38 (by decide) ?_
        refine lv_iconst (v := 3) hx hb dX11_quit_39 (by decide) ?_
        refine lv_aload_n hx hb dX11_quit_40 rfl (lv_at hl 1 rfl) ?_
        refine c_geti x L17 11 i0 10 362 hal0 rfl rfl (wk_in kf_X11_82) dX11_quit_41 (fun v18 ev18 wv18 => ?_)
        have rv18 : rg (-2147483648) (2147483647) v18 := rg_any v18
        have uv18 : (-2147483648 : Int) ≤ v18.toInt ∧ v18.toInt ≤ 2147483647 := rv18
        have sv18 : v18.toInt = (g 362 i0).toInt := congrArg Int32.toInt (ev18.trans (congrFun ((show mFr [36, 40, 41, 42, 44, 45, 46, 48, 67, 108, 111, 164, 173, 176, 177, 178, 197, 198, 544, 576, 768, 832, 864, 928] g g17 from (mFr.tr (mFr.tr mFr.rf hp1.1 rfl) hp17.1 rfl)).at 362 rfl) _))
        refine c_cv (As := [.int (4 : Int32), .int (3 : Int32), .int v18]) (rest := []) x hml L17 5 p1.toInt.toNat al11 rfl (c_kask l X g17 p1.toInt.toNat (4 : Int32) (3 : Int32) v18 hX (show p1.toInt.toNat < 2 * Z.n from (by omega)) (rg_w kc_4 rfl)) (wk_V kd_X5_ask kl_X11_155 ki_X5_ask ks_X5_X5_ask kn_X5) rfl ⟨rfl, rfl⟩ hd_kask ⟨Nat.le_of_ble_eq_true rfl, Nat.le_of_ble_eq_true rfl⟩ rfl hl.1 rfl (lv_room (Nat.le_of_ble_eq_true rfl)) dX11_quit_44 (fun  g19 H19 k19 hp19 L19 => ?_)
        refine lv_aload_n hx hb dX11_quit_47 rfl (lv_at hl 1 rfl) ?_
        refine c_getr (a := Z.ad 52 0) x L19 11 i0 4 hal0 rfl rfl (wk_in kf_X11_71) dX11_quit_48 ?_
        refine lv_iload_n hx hb dX11_quit_51 rfl (lv_at hl 2 rfl) ?_
        have al21 : Z.al 4 p1.toInt.toNat := hz.2 4 p1.toInt.toNat (show p1.toInt.toNat < Z.n from (by omega))
        refine c_ldr (a := Z.ad 4 p1.toInt.toNat) x L19 52 0 al7 rfl (by omega) (show p1.toInt < (((2 * Z.n) : Nat) : Int) from (by omega)) (by show some (cSd Z p1.toInt.toNat) = _; unfold cSd; rw [if_pos hc8]) dX11_quit_52 ?_
        refine lv_aload_n hx hb dX11_quit_53 rfl (lv_at hl 1 rfl) ?_
        refine c_geti x L19 11 i0 10 362 hal0 rfl rfl (wk_in kf_X11_82) dX11_quit_54 (fun v22 ev22 wv22 => ?_)
        refine m_top (((mm_fr ev18 hp19.1 rfl)).trans ev22.symm) ?_
        refine c_cvU (n := 1) (owner := "CellSwitch$Side") (x0 := ⟨"CellSwitch$Side", "allOver", "(I)V"⟩) (As := [.int v18]) (rest := []) x hml L19 4 p1.toInt.toNat al21 rfl (c_kallOver_4 l X g19 p1.toInt.toNat v18 hX (cJ_fr (cJ_fr (cJ_fr hJ hp1.1 rfl) hp17.1 rfl) hp19.1 rfl) (show p1.toInt.toNat < Z.n from (by omega))) (wk_U kd_X8_allOver kl_X11_93 km_CellSwitchSide_CellSwitchSide_allOver ks_X4_CellSwitchSide_X8_allOver ki_X8_allOver kn_X8) rfl ⟨rfl, rfl⟩ rfl (by decide +kernel) ⟨Nat.le_of_ble_eq_true rfl, Nat.le_of_ble_eq_true rfl⟩ rfl hl.1 rfl (lv_room (Nat.le_of_ble_eq_true rfl)) dX11_quit_57 (fun  g23 H23 k23 hp23 L23 => ?_)
        refine lv_iconst (v := 1) hx hb dX11_quit_60 (by decide) ?_
        exact hQ _ _ (1 : Int32) _ _ _ dX11_quit_61 L23 ⟨(mFr.tr (mFr.tr (mFr.tr (mFr.tr mFr.rf hp1.1 rfl) hp17.1 rfl) hp19.1 rfl) hp23.1 rfl), rg_w kc_1 rfl, hp23.2.1, trivial⟩
      · skip
        have ic25_13 : v12.toInt ≠ (2 : Int32).toInt := fun z => c25_13 (Int32.toInt_inj.mp z)
        have y24 : (2 : Int32).toInt = 2 := by decide
        refine lv_iconst (v := 0) hx hb dX11_quit_28 (by decide) ?_
        exact hQ _ _ (0 : Int32) _ _ _ dX11_quit_29 L1 ⟨(mFr.tr mFr.rf hp1.1 rfl), rg_w kc_0 rfl, (cJ_fr hJ hp1.1 rfl), trivial⟩
    · skip
      have al10 : Z.al 10 (p1.toInt.toNat - Z.n) := hz.2 10 (p1.toInt.toNat - Z.n) (show (p1.toInt.toNat - Z.n) < Z.n from (by omega))
      refine c_ldr (a := Z.ad 10 (p1.toInt.toNat - Z.n)) x L1 52 0 al7 rfl (by omega) (show p1.toInt < (((2 * Z.n) : Nat) : Int) from (by omega)) (by show some (cSd Z p1.toInt.toNat) = _; unfold cSd; rw [if_neg (Nat.not_lt.mpr hc8)]) dX11_quit_15 ?_
      have al25 : Z.al 5 (Z.n + (p1.toInt.toNat - Z.n)) := hz.2 5 (Z.n + (p1.toInt.toNat - Z.n)) (show (Z.n + (p1.toInt.toNat - Z.n)) < 2 * Z.n from (by omega))
      refine c_getr (a := Z.ad 5 (Z.n + (p1.toInt.toNat - Z.n))) x L1 10 (p1.toInt.toNat - Z.n) 1 al10 rfl rfl (wk_in kf_X11_85) dX11_quit_16 ?_
      refine lv_astore_n (lv' := [(2, .ref (Z.ad 5 (Z.n + (p1.toInt.toNat - Z.n)))), (0, .ref (Z.ad 11 i0)), (1, .int p1)]) hx hb dX11_quit_19 rfl hl (by decide) rfl (fun ls hl => ?_)
      refine lv_aload_n hx hb dX11_quit_20 rfl (lv_at hl 0 rfl) ?_
      refine c_geti x L1 5 (Z.n + (p1.toInt.toNat - Z.n)) 4 164 al25 rfl rfl (wk_in kf_X11_312) dX11_quit_21 (fun v26 ev26 wv26 => ?_)
      have rv26 : rg (0) (4) v26 := clj_164 wv26
      have uv26 : (0 : Int) ≤ v26.toInt ∧ v26.toInt ≤ 4 := rv26
      refine lv_iconst (v := 2) hx hb dX11_quit_24 (by decide) ?_
      refine lv_icmp_eq (tgt := 30) hx hb dX11_quit_25 (by decide) (fun c25_27 => ?_) (fun c25_27 => ?_)
      · skip
        have ic25_27 := congrArg Int32.toInt c25_27
        have y28 : (2 : Int32).toInt = 2 := by decide
        have q29 : rg (2) (2) v26 := (rg_eq c25_27 rv26 kc_2).1
        have uq29 : (2 : Int) ≤ v26.toInt ∧ v26.toInt ≤ 2 := q29
        refine lv_aload_n hx hb dX11_quit_30 rfl (lv_at hl 0 rfl) ?_
        have al30 : Z.al 6 (Z.n + (p1.toInt.toNat - Z.n)) := hz.2 6 (Z.n + (p1.toInt.toNat - Z.n)) (show (Z.n + (p1.toInt.toNat - Z.n)) < 2 * Z.n from (by omega))
        refine c_getr (a := Z.ad 6 (Z.n + (p1.toInt.toNat - Z.n))) x L1 5 (Z.n + (p1.toInt.toNat - Z.n)) 1 al25 rfl rfl (wk_in kf_X11_313) dX11_quit_31 ?_
        refine c_cv (As := []) (rest := []) x hml L1 6 (Z.n + (p1.toInt.toNat - Z.n)) al30 rfl (c_kclearAll_6 l X g1 (Z.n + (p1.toInt.toNat - Z.n)) hX (show (Z.n + (p1.toInt.toNat - Z.n)) < 2 * Z.n from (by omega))) (wk_V kd_X6_clearAll kl_X11_317 ki_X6_clearAll ks_X6_X6_clearAll kn_X6) rfl ⟨rfl, rfl⟩ hd_kclearAll_6 ⟨Nat.le_of_ble_eq_true rfl, Nat.le_of_ble_eq_true rfl⟩ rfl hl.1 rfl (lv_room (Nat.le_of_ble_eq_true rfl)) dX11_quit_34 (fun  g31 H31 k31 hp31 L31 => ?_)
        refine lv_aload_n hx hb dX11_quit_37 rfl (lv_at hl 0 rfl) ?_
        refine lv_iconst (v := 4) hx hb dX11_quit_38 (by decide) ?_
        refine lv_iconst (v := 3) hx hb dX11_quit_39 (by decide) ?_
        refine lv_aload_n hx hb dX11_quit_40 rfl (lv_at hl 1 rfl) ?_
        refine c_geti x L31 11 i0 10 362 hal0 rfl rfl (wk_in kf_X11_82) dX11_quit_41 (fun v32 ev32 wv32 => ?_)
        have rv32 : rg (-2147483648) (2147483647) v32 := rg_any v32
        have uv32 : (-2147483648 : Int) ≤ v32.toInt ∧ v32.toInt ≤ 2147483647 := rv32
        have sv32 : v32.toInt = (g 362 i0).toInt := congrArg Int32.toInt (ev32.trans (congrFun ((show mFr [36, 40, 41, 42, 44, 45, 46, 48, 67, 108, 111, 164, 173, 176, 177, 178, 197, 198, 544, 576, 768, 832, 864, 928] g g31 from (mFr.tr (mFr.tr mFr.rf hp1.1 rfl) hp31.1 rfl)).at 362 rfl) _))
        refine c_cv (As := [.int (4 : Int32), .int (3 : Int32), .int v32]) (rest := []) x hml L31 5 (Z.n + (p1.toInt.toNat - Z.n)) al25 rfl (c_kask l X g31 (Z.n + (p1.toInt.toNat - Z.n)) (4 : Int32) (3 : Int32) v32 hX (show (Z.n + (p1.toInt.toNat - Z.n)) < 2 * Z.n from (by omega)) (rg_w kc_4 rfl)) (wk_V kd_X5_ask kl_X11_155 ki_X5_ask ks_X5_X5_ask kn_X5) rfl ⟨rfl, rfl⟩ hd_kask ⟨Nat.le_of_ble_eq_true rfl, Nat.le_of_ble_eq_true rfl⟩ rfl hl.1 rfl (lv_room (Nat.le_of_ble_eq_true rfl)) dX11_quit_44 (fun  g33 H33 k33 hp33 L33 => ?_)
        refine lv_aload_n hx hb dX11_quit_47 rfl (lv_at hl 1 rfl) ?_
        refine c_getr (a := Z.ad 52 0) x L33 11 i0 4 hal0 rfl rfl (wk_in kf_X11_71) dX11_quit_48 ?_
        refine lv_iload_n hx hb dX11_quit_51 rfl (lv_at hl 2 rfl) ?_
        have al35 : Z.al 10 (p1.toInt.toNat - Z.n) := hz.2 10 (p1.toInt.toNat - Z.n) (show (p1.toInt.toNat - Z.n) < Z.n from (by omega))
        refine c_ldr (a := Z.ad 10 (p1.toInt.toNat - Z.n)) x L33 52 0 al7 rfl (by omega) (show p1.toInt < (((2 * Z.n) : Nat) : Int) from (by omega)) (by show some (cSd Z p1.toInt.toNat) = _; unfold cSd; rw [if_neg (Nat.not_lt.mpr hc8)]) dX11_quit_52 ?_
        refine lv_aload_n hx hb dX11_quit_53 rfl (lv_at hl 1 rfl) ?_
        refine c_geti x L33 11 i0 10 362 hal0 rfl rfl (wk_in kf_X11_82) dX11_quit_54 (fun v36 ev36 wv36 => ?_)
        refine m_top (((mm_fr ev32 hp33.1 rfl)).trans ev36.symm) ?_
        refine c_cvU (n := 1) (owner := "CellSwitch$Side") (x0 := ⟨"CellSwitch$Side", "allOver", "(I)V"⟩) (As := [.int v32]) (rest := []) x hml L33 10 (p1.toInt.toNat - Z.n) al35 rfl (c_kallOver_10 l X g33 (p1.toInt.toNat - Z.n) v32 hX (cJ_fr (cJ_fr (cJ_fr hJ hp1.1 rfl) hp31.1 rfl) hp33.1 rfl) (show (p1.toInt.toNat - Z.n) < Z.n from (by omega))) (wk_U kd_X8_allOver kl_X11_93 km_CellSwitchSide_CellSwitchSide_allOver ks_X10_CellSwitchSide_X8_allOver ki_X8_allOver kn_X8) rfl ⟨rfl, rfl⟩ rfl (by decide +kernel) ⟨Nat.le_of_ble_eq_true rfl, Nat.le_of_ble_eq_true rfl⟩ rfl hl.1 rfl (lv_room (Nat.le_of_ble_eq_true rfl)) dX11_quit_57 (fun  g37 H37 k37 hp37 L37 => ?_)
        refine lv_iconst (v := 1) hx hb dX11_quit_60 (by decide) ?_
        exact hQ _ _ (1 : Int32) _ _ _ dX11_quit_61 L37 ⟨(mFr.tr (mFr.tr (mFr.tr (mFr.tr mFr.rf hp1.1 rfl) hp31.1 rfl) hp33.1 rfl) hp37.1 rfl), rg_w kc_1 rfl, hp37.2.1, trivial⟩
      · skip
        have ic25_27 : v26.toInt ≠ (2 : Int32).toInt := fun z => c25_27 (Int32.toInt_inj.mp z)
        have y38 : (2 : Int32).toInt = 2 := by decide
        refine lv_iconst (v := 0) hx hb dX11_quit_28 (by decide) ?_
        exact hQ _ _ (0 : Int32) _ _ _ dX11_quit_29 L1 ⟨(mFr.tr mFr.rf hp1.1 rfl), rg_w kc_0 rfl, (cJ_fr hJ hp1.1 rfl), trivial⟩
  · skip
    have ic5_4 := congrArg Int32.toInt c5_4
    have y39 : (0 : Int32).toInt = 0 := by decide
    have q40 : rg (0) (0) v2 := (rg_eq c5_4 rv2 kc_0).1
    have uq40 : (0 : Int) ≤ v2.toInt ∧ v2.toInt ≤ 0 := q40
    refine lv_iconst (v := (-1)) hx hb dX11_quit_8 (by decide) ?_
    exact hQ _ _ (-1 : Int32) _ _ _ dX11_quit_9 L1 ⟨(mFr.tr mFr.rf hp1.1 rfl), rg_w kc_m1 rfl, (cJ_fr hJ hp1.1 rfl), trivial⟩
theorem c_kquit (l : Launch) {G : cG} {Z : cZ} (X : Int) (g : mSt) (i0 : Nat) (p1 : Int32) (hX : 0 ≤ X ∧ X ≤ 2000000000) (hJ : cJ Z g) (hal0 : Z.al 11 i0) : Met l yX11_quit (wk (Cond.code yX11_quit cX11_quit 3 (some .int))) rm_kquit (va_Pc [.ref (Z.ad 11 i0), .int p1] (cPre G Z X g)) (cQi G Z X (fun r g1 => mFr [36, 40, 41, 42, 44, 45, 46, 48, 67, 108, 111, 164, 173, 176, 177, 178, 197, 198, 544, 576, 768, 832, 864, 928] g g1 ∧ rg (-1) (1) r ∧ cJ Z g1 ∧ True)) 0 0 (cAd Z) := by
  refine Met.ofW (cc := cX11_quit) (maxL := 3) (ret := (some .int)) (by decide) rfl ?_
  intro p e s m args below meth c s₁ B hml hv
  obtain ⟨rfl, hv⟩ := hv
  have hr := B.returns
  have hlocks := B.notSynchronized
  obtain ⟨x, L⟩ := c_start B rfl (fun w h => wk_in h) hv
  have hl := lv_entry ([.ref (Z.ad 11 i0), .int p1]) (n := 3) (Nat.le_of_ble_eq_true rfl)
  rw [lg_entry_eq]
  generalize (lg_sl ([.ref (Z.ad 11 i0), .int p1]) ++ List.replicate (3 - (lg_sl ([.ref (Z.ad 11 i0), .int p1])).length) Slot.unset).toArray = ls at hl ⊢
  exact w_kquit x hml L hX i0 p1 hJ hal0 hl (fun pc' ls' r g1 H1 locs1 hdg L hp => c_iret x L hr hlocks (Int.le_refl _) hp hdg)

def rm_kcallTimers_4 : Room := { frames := 5, cells := 0, slots := 0, locals := 116 }
theorem hd_kcallTimers_4 : yX8_callTimers.cls ≠ "java/lang/invoke/MethodHandle" ∧ yX8_callTimers.cls ≠ "java/lang/invoke/VarHandle" ∧ (parseMethodDescriptor yX8_callTimers.desc).map (fun d => d.parameters.length) = some 1 := by decide +kernel
set_option maxHeartbeats 4000000 in
set_option maxRecDepth 100000 in
theorem w_kcallTimers_4 {p : Program} {l : Launch} {e : Env} {s : State} {m : MethodId} {args : Array Value} {below : List Frame} {meth : Method} {c : Code} {H : Heap} {locs : List Loc} {Q : State → Prop} {ls : Array Slot} {G : cG} {Z : cZ} {A : Nat → Prop} {g : mSt} {H0 : Heap} {X : Int} (x : cX p c cX8_callTimers s args (wk (Cond.code yX8_callTimers cX8_callTimers 4 none)) m G Z A RX8 H0) (hml : c.maxLocals = 4) (L : cL G Z A H0 X g H locs) (hX : 0 ≤ X ∧ X ≤ 2000000000) (i0 : Nat) (p1 : Int32) (hJ : cJ Z g) (hi0 : i0 < Z.n) (hl : lv_has ls 4 [(0, .ref (Z.ad 4 i0)), (1, .int p1)]) (hQ : ∀ (pc' : Nat) (ls' : Array Slot) (g1 : mSt) (H1 : Heap) (locs1 : List Loc), decode cX8_callTimers pc' = .ok (.return_, 1) → cL G Z A H0 X g1 H1 locs1 → (mFr [36, 40, 41, 42, 44, 45, 46, 48, 198, 832, 864] g g1 ∧ cJ Z g1 ∧ True) → W p l e rm_kcallTimers_4 s m args below meth c H1 locs1 0 0 Q (F0 m pc' ls' [])) : W p l e rm_kcallTimers_4 s m args below meth c H locs 0 0 Q (F0 m 0 ls []) := by
  have hx := x.1
  have hb := x.2.1
  have hz := x.2.2.2.2.2.2.2.1
  have hzn := hz.1
  have hal0 : Z.al 4 i0 := hz.2 4 i0 (show i0 < Z.n from hi0)
  have up1 : (-2147483648 : Int) ≤ p1.toInt ∧ p1.toInt ≤ 2147483647 := (rg_any p1)
  refine lv_iconst (v := 0) hx hb dX8_callTimers_0 (by decide) ?_
  refine lv_istore_n (lv' := [(2, .int (0 : Int32)), (0, .ref (Z.ad 4 i0)), (1, .int p1)]) hx hb dX8_callTimers_1 rfl hl (by decide) rfl (fun ls hl => ?_)
  have j2_2 : ∀ (n : Nat) (a2_2_1 : Int32) (g2 : mSt) (H2 : Heap) (k2 : List Loc) (ls : Array Slot), mFr [36, 40, 41, 42, 44, 45, 46, 48, 198, 832, 864] g g2 → cL G Z A H0 X g2 H2 k2 → cJ Z g2 → rg (0) (2147483647) a2_2_1 → lv_has ls 4 [(0, .ref (Z.ad 4 i0)), (1, .int p1), (2, .int a2_2_1)] → ((2147483647 : Int) - a2_2_1.toInt).toNat = n → W p l e rm_kcallTimers_4 s m args below meth c H2 k2 0 0 Q (F0 m 2 ls []) := by
    intro n
    induction n using Nat.strongRecOn with
    | _ n ih2 =>
      intro a2_2_1 g2 H2 k2 ls hF2 L2 hJ2 ra2_2_1 hl hn2
      subst hn2
      have ua2_2_1 : (0 : Int) ≤ a2_2_1.toInt ∧ a2_2_1.toInt ≤ 2147483647 := ra2_2_1
      refine lv_iload_n hx hb dX8_callTimers_2 rfl (lv_at hl 2 rfl) ?_
      refine lv_aload_n hx hb dX8_callTimers_3 rfl (lv_at hl 0 rfl) ?_
      have al3 : Z.al 12 i0 := hz.2 12 i0 (show i0 < 2 * Z.n from (by omega))
      refine c_getr (a := Z.ad 12 i0) x L2 4 i0 2 hal0 rfl rfl (wk_in kf_X8_10) dX8_callTimers_4 ?_
      refine c_ci (As := []) (rest := [.int a2_2_1]) x hml L2 12 i0 al3 rfl (c_klsize l X g2 i0 hX (show i0 < 2 * Z.n from (by omega))) (wk_V kd_Jx4a65c_size_8abf5 kl_X8_24 ki_Jx4a65c_size_8abf5 ks_Jx4a65c_Jx4a65c_size_8abf5 kn_Jx4a65c) rfl ⟨rfl, rfl⟩ hd_klsize ⟨Nat.le_of_ble_eq_true rfl, Nat.le_of_ble_eq_true rfl⟩ rfl hl.1 rfl (lv_room (Nat.le_of_ble_eq_true rfl)) dX8_callTimers_7 (fun v5 g4 H4 k4 hp4 L4 => ?_)
      have rv5 : rg (-2147483648) (2147483647) v5 := hp4.2.1
      have uv5 : (-2147483648 : Int) ≤ v5.toInt ∧ v5.toInt ≤ 2147483647 := rv5
      refine lv_icmp_ge (tgt := 111) hx hb dX8_callTimers_10 (by decide) (fun c10_6 => ?_) (fun c10_6 => ?_)
      · skip
        have ic10_6 := Int32.le_iff_toInt_le.mp c10_6
        exact hQ _ _ _ _ _ dX8_callTimers_111 L4 ⟨(mFr.tr (mFr.tr mFr.rf hF2 rfl) hp4.1 rfl), (cJ_fr hJ2 hp4.1 rfl), trivial⟩
      · skip
        have ic10_6 := Int32.lt_iff_toInt_lt.mp (rg_nle c10_6)
        have q7 : rg (0) (2147483646) a2_2_1 := (rg_lt (rg_nle c10_6) ra2_2_1 rv5).1
        have uq7 : (0 : Int) ≤ a2_2_1.toInt ∧ a2_2_1.toInt ≤ 2147483646 := q7
        have q8 : rg (1) (2147483647) v5 := (rg_lt (rg_nle c10_6) ra2_2_1 rv5).2
        have uq8 : (1 : Int) ≤ v5.toInt ∧ v5.toInt ≤ 2147483647 := q8
        refine lv_aload_n hx hb dX8_callTimers_13 rfl (lv_at hl 0 rfl) ?_
        refine c_getr (a := Z.ad 12 i0) x L4 4 i0 2 hal0 rfl rfl (wk_in kf_X8_10) dX8_callTimers_14 ?_
        refine lv_iload_n hx hb dX8_callTimers_17 rfl (lv_at hl 2 rfl) ?_
        have y9 := congrArg Int32.toInt hp4.2.2
        refine c_cr (As := [.int a2_2_1]) (rest := []) x hml L4 12 i0 al3 rfl (c_klget l X g4 i0 a2_2_1 hX (cJ_fr hJ2 hp4.1 rfl) (show i0 < 2 * Z.n from (by omega)) (by omega)) (wk_V kd_Jx4a65c_get_915e3 kl_X8_28 ki_Jx4a65c_get_915e3 ks_Jx4a65c_Jx4a65c_get_915e3 kn_Jx4a65c) rfl ⟨rfl, rfl⟩ hd_klget ⟨Nat.le_of_ble_eq_true rfl, Nat.le_of_ble_eq_true rfl⟩ rfl hl.1 rfl (lv_room (Nat.le_of_ble_eq_true rfl)) dX8_callTimers_18 (fun v11 g10 H10 k10 hp10 L10 => ?_)
        have hvv11 := hp10.2.2
        rw [(show mFr [36, 40, 41, 42, 44, 45, 46, 48, 198, 832, 864] g g4 from (mFr.tr (mFr.tr mFr.rf hF2 rfl) hp4.1 rfl)).at 32 rfl] at hvv11
        refine c_top (show Value.ref (Z.ad 1 v11.toInt.toNat) = va_rf (cOpt Z 1 v11) from (by rw [cOpt_some hvv11.1]; rfl)) ?_
        refine c_cast x L10 1 v11.toInt.toNat hvv11.2.1 rfl (wk_in kc_lX8_32) dX8_callTimers_21 ?_
        refine lv_astore_n (lv' := [(3, .ref (Z.ad 1 v11.toInt.toNat)), (0, .ref (Z.ad 4 i0)), (1, .int p1), (2, .int a2_2_1)]) hx hb dX8_callTimers_24 rfl hl (by decide) rfl (fun ls hl => ?_)
        refine lv_aload_n hx hb dX8_callTimers_25 rfl (lv_at hl 0 rfl) ?_
        refine c_ci (As := []) (rest := []) x hml L10 1 v11.toInt.toNat hvv11.2.1 rfl (c_kisOpen l X g10 v11.toInt.toNat hX hvv11.2.1) (wk_V kd_X1_isOpen kl_X8_34 ki_X1_isOpen ks_X1_X1_isOpen kn_X1) rfl ⟨rfl, rfl⟩ hd_kisOpen ⟨Nat.le_of_ble_eq_true rfl, Nat.le_of_ble_eq_true rfl⟩ rfl hl.1 rfl (lv_room (Nat.le_of_ble_eq_true rfl)) dX8_callTimers_26 (fun v13 g12 H12 k12 hp12 L12 => ?_)
        have rv13 : rg (0) (1) v13 := hp12.2.1
        have uv13 : (0 : Int) ≤ v13.toInt ∧ v13.toInt ≤ 1 := rv13
        have j105_14 : ∀ (g14 : mSt) (H14 : Heap) (k14 : List Loc) (ls : Array Slot), mFr [36, 40, 41, 42, 44, 45, 46, 48, 198, 832, 864] g12 g14 → cL G Z A H0 X g14 H14 k14 → cJ Z g14 → lv_has ls 4 [(0, .ref (Z.ad 4 i0)), (1, .int p1), (2, .int a2_2_1)] → W p l e rm_kcallTimers_4 s m args below meth c H14 k14 0 0 Q (F0 m 105 ls []) := by
          intro  g14 H14 k14 ls hF14 L14 hJ14  hl
          obtain ⟨v15, ev15, fv15⟩ := inc_ex a2_2_1 (1) (1 : Int32) (by decide)
          have rv15 : rg (1) (2147483647) v15 := (rg_add ev15 q7 kc_1 rfl).1
          have tv15 := (rg_add ev15 q7 kc_1 rfl).2
          have yv15 : (1 : Int32).toInt = 1 := by decide
          refine lv_iinc (v := v15) (lv' := [(2, .int v15), (0, .ref (Z.ad 4 i0)), (1, .int p1)]) hx hb dX8_callTimers_105 hl (k := 2) rfl fv15 (by decide) rfl (fun ls hl => ?_)
          refine lv_goto (tgt := 2) hx hb dX8_callTimers_108 (by decide) ?_
          exact ih2 _ (ms_up tv15 kc_1 q7 rfl rfl) v15 g14 _ _ ls (mFr.tr (mFr.tr (mFr.tr (mFr.tr hF2 hp4.1 rfl) hp10.1 rfl) hp12.1 rfl) hF14 rfl) L14 hJ14 (rg_w rv15 rfl) (lv_sub hl [1, 2, 0] rfl) rfl
        refine lv_if_eq (tgt := 105) hx hb dX8_callTimers_29 (by decide) (fun c29_16 => ?_) (fun c29_16 => ?_)
        · skip
          have ic29_16 := congrArg Int32.toInt c29_16
          have y17 : (0 : Int32).toInt = 0 := by decide
          have q18 : rg (0) (0) v13 := (rg_eq c29_16 rv13 kc_0).1
          have uq18 : (0 : Int) ≤ v13.toInt ∧ v13.toInt ≤ 0 := q18
          exact j105_14  g12 _ _ ls mFr.rf L12 (cJ_fr hp10.2.1 hp12.1 rfl) (lv_sub hl [1, 2, 3] rfl)
        · skip
          have ic29_16 : v13.toInt ≠ (0 : Int32).toInt := fun z => c29_16 (Int32.toInt_inj.mp z)
          have y19 : (0 : Int32).toInt = 0 := by decide
          have q20 : rg (1) (1) v13 := rg_neL c29_16 rv13 kc_0
          have uq20 : (1 : Int) ≤ v13.toInt ∧ v13.toInt ≤ 1 := q20
          refine lv_aload_n hx hb dX8_callTimers_32 rfl (lv_at hl 0 rfl) ?_
          refine c_geti x L12 1 v11.toInt.toNat 9 41 hvv11.2.1 rfl rfl (wk_in kf_X8_100) dX8_callTimers_33 (fun v21 ev21 wv21 => ?_)
          have rv21 : rg (-2147483648) (2147483647) v21 := rg_any v21
          have uv21 : (-2147483648 : Int) ≤ v21.toInt ∧ v21.toInt ≤ 2147483647 := rv21
          refine lv_iload_n hx hb dX8_callTimers_36 rfl (lv_at hl 2 rfl) ?_
          refine lv_icmp_eq (tgt := 43) hx hb dX8_callTimers_37 (by decide) (fun c37_22 => ?_) (fun c37_22 => ?_)
          · skip
            have ic37_22 := congrArg Int32.toInt c37_22
            refine lv_aload_n hx hb dX8_callTimers_43 rfl (lv_at hl 0 rfl) ?_
            refine c_geti x L12 1 v11.toInt.toNat 4 36 hvv11.2.1 rfl rfl (wk_in kf_X8_84) dX8_callTimers_44 (fun v23 ev23 wv23 => ?_)
            have rv23 : rg (-2147483648) (2147483647) v23 := rg_any v23
            have uv23 : (-2147483648 : Int) ≤ v23.toInt ∧ v23.toInt ≤ 2147483647 := rv23
            refine lv_bipush (v := 11) hx hb dX8_callTimers_47 (by decide) ?_
            refine lv_icmp_eq (tgt := 61) hx hb dX8_callTimers_49 (by decide) (fun c49_24 => ?_) (fun c49_24 => ?_)
            · skip
              have ic49_24 := congrArg Int32.toInt c49_24
              have y25 : (11 : Int32).toInt = 11 := by decide
              have q26 : rg (11) (11) v23 := (rg_eq c49_24 rv23 kc_11).1
              have uq26 : (11 : Int) ≤ v23.toInt ∧ v23.toInt ≤ 11 := q26
              refine lv_aload_n hx hb dX8_callTimers_61 rfl (lv_at hl 0 rfl) ?_
              refine c_geti x L12 1 v11.toInt.toNat 10 42 hvv11.2.1 rfl rfl (wk_in kf_X8_107) dX8_callTimers_62 (fun v27 ev27 wv27 => ?_)
              have rv27 : rg (0) (1) v27 := clj_42 wv27
              have uv27 : (0 : Int) ≤ v27.toInt ∧ v27.toInt ≤ 1 := rv27
              refine lv_if_eq (tgt := 79) hx hb dX8_callTimers_65 (by decide) (fun c65_28 => ?_) (fun c65_28 => ?_)
              · skip
                have ic65_28 := congrArg Int32.toInt c65_28
                have y29 : (0 : Int32).toInt = 0 := by decide
                have q30 : rg (0) (0) v27 := (rg_eq c65_28 rv27 kc_0).1
                have uq30 : (0 : Int) ≤ v27.toInt ∧ v27.toInt ≤ 0 := q30
                refine lv_aload_n hx hb dX8_callTimers_79 rfl (lv_at hl 0 rfl) ?_
                refine lv_iload_n hx hb dX8_callTimers_80 rfl (lv_at hl 2 rfl) ?_
                refine lv_bipush (v := 10) hx hb dX8_callTimers_81 (by decide) ?_
                refine lv_iadd hx hb dX8_callTimers_83 ?_
                refine lv_topi (fun v31 ev31 => ?_)
                have rv31 : rg (-2147483648) (2147483647) v31 := rg_any v31
                have uv31 : (-2147483648 : Int) ≤ v31.toInt ∧ v31.toInt ≤ 2147483647 := rv31
                refine c_cv (As := [.int v31]) (rest := []) x hml L12 1 v11.toInt.toNat hvv11.2.1 rfl (c_krepeat l X g12 v11.toInt.toNat v31 hX hvv11.2.1) (wk_V kd_X1_repeat kl_X8_110 ki_X1_repeat ks_X1_X1_repeat kn_X1) rfl ⟨rfl, rfl⟩ hd_krepeat ⟨Nat.le_of_ble_eq_true rfl, Nat.le_of_ble_eq_true rfl⟩ rfl hl.1 rfl (lv_room (Nat.le_of_ble_eq_true rfl)) dX8_callTimers_84 (fun  g32 H32 k32 hp32 L32 => ?_)
                refine lv_aload_n hx hb dX8_callTimers_87 rfl (lv_at hl 1 rfl) ?_
                refine lv_bipush (v := 77) hx hb dX8_callTimers_88 (by decide) ?_
                refine lv_aload_n hx hb dX8_callTimers_90 rfl (lv_at hl 0 rfl) ?_
                refine c_geti x L32 1 v11.toInt.toNat 1 33 hvv11.2.1 rfl rfl (wk_in kf_X8_38) dX8_callTimers_91 (fun v33 ev33 wv33 => ?_)
                have rv33 : rg (-2147483648) (2147483647) v33 := rg_any v33
                have uv33 : (-2147483648 : Int) ≤ v33.toInt ∧ v33.toInt ≤ 2147483647 := rv33
                have sv33 : v33.toInt = (g 33 v11.toInt.toNat).toInt := congrArg Int32.toInt (ev33.trans (congrFun ((show mFr [36, 40, 41, 42, 44, 45, 46, 48, 198, 832, 864] g g32 from (mFr.tr (mFr.tr (mFr.tr (mFr.tr (mFr.tr mFr.rf hF2 rfl) hp4.1 rfl) hp10.1 rfl) hp12.1 rfl) hp32.1 rfl)).at 33 rfl) _))
                refine lv_aload_n hx hb dX8_callTimers_94 rfl (lv_at hl 0 rfl) ?_
                refine c_geti x L32 1 v11.toInt.toNat 2 34 hvv11.2.1 rfl rfl (wk_in kf_X8_41) dX8_callTimers_95 (fun v34 ev34 wv34 => ?_)
                have rv34 : rg (0) (1) v34 := clj_34 wv34
                have uv34 : (0 : Int) ≤ v34.toInt ∧ v34.toInt ≤ 1 := rv34
                have sv34 : v34.toInt = (g 34 v11.toInt.toNat).toInt := congrArg Int32.toInt (ev34.trans (congrFun ((show mFr [36, 40, 41, 42, 44, 45, 46, 48, 198, 832, 864] g g32 from (mFr.tr (mFr.tr (mFr.tr (mFr.tr (mFr.tr mFr.rf hF2 rfl) hp4.1 rfl) hp10.1 rfl) hp12.1 rfl) hp32.1 rfl)).at 34 rfl) _))
                refine lv_aload_n hx hb dX8_callTimers_98 rfl (lv_at hl 0 rfl) ?_
                refine c_geti x L32 1 v11.toInt.toNat 8 40 hvv11.2.1 rfl rfl (wk_in kf_X8_87) dX8_callTimers_99 (fun v35 ev35 wv35 => ?_)
                have rv35 : rg (-2147483648) (2147483647) v35 := rg_any v35
                have uv35 : (-2147483648 : Int) ≤ v35.toInt ∧ v35.toInt ≤ 2147483647 := rv35
                refine c_cvU (n := 4) (owner := "CellSwitch$Side") (x0 := ⟨"CellSwitch$Side", "sayCause", "(IIZI)V"⟩) (As := [.int (77 : Int32), .int v33, .int v34, .int v35]) (rest := []) x hml L32 4 i0 hal0 rfl (c_ksayCause_4 l X g32 i0 (77 : Int32) v33 v34 v35 hX (show i0 < Z.n from (by omega)) (rg_w rv34 rfl)) (wk_U kd_X8_sayCause kl_X8_70 km_CellSwitchSide_CellSwitchSide_sayCause ks_X4_CellSwitchSide_X8_sayCause ki_X8_sayCause kn_X8) rfl ⟨rfl, rfl⟩ rfl (by decide +kernel) ⟨Nat.le_of_ble_eq_true rfl, Nat.le_of_ble_eq_true rfl⟩ rfl hl.1 rfl (lv_room (Nat.le_of_ble_eq_true rfl)) dX8_callTimers_102 (fun  g36 H36 k36 hp36 L36 => ?_)
                exact j105_14  g36 _ _ ls (mFr.tr (mFr.tr mFr.rf hp32.1 rfl) hp36.1 rfl) L36 (cJ_fr (cJ_fr (cJ_fr hp10.2.1 hp12.1 rfl) hp32.1 rfl) hp36.1 rfl) (lv_sub hl [1, 2, 3] rfl)
              · skip
                have ic65_28 : v27.toInt ≠ (0 : Int32).toInt := fun z => c65_28 (Int32.toInt_inj.mp z)
                have y37 : (0 : Int32).toInt = 0 := by decide
                have q38 : rg (1) (1) v27 := rg_neL c65_28 rv27 kc_0
                have uq38 : (1 : Int) ≤ v27.toInt ∧ v27.toInt ≤ 1 := q38
                refine lv_aload_n hx hb dX8_callTimers_68 rfl (lv_at hl 0 rfl) ?_
                refine lv_aload_n hx hb dX8_callTimers_69 rfl (lv_at hl 0 rfl) ?_
                refine c_geti x L12 1 v11.toInt.toNat 8 40 hvv11.2.1 rfl rfl (wk_in kf_X8_87) dX8_callTimers_70 (fun v39 ev39 wv39 => ?_)
                have rv39 : rg (-2147483648) (2147483647) v39 := rg_any v39
                have uv39 : (-2147483648 : Int) ≤ v39.toInt ∧ v39.toInt ≤ 2147483647 := rv39
                refine c_cv (As := [.int v39]) (rest := []) x hml L12 1 v11.toInt.toNat hvv11.2.1 rfl (c_kfinish l X g12 v11.toInt.toNat v39 hX (cJ_fr hp10.2.1 hp12.1 rfl) hvv11.2.1) (wk_V kd_X1_finish kl_X8_88 ki_X1_finish ks_X1_X1_finish kn_X1) rfl ⟨rfl, rfl⟩ hd_kfinish ⟨Nat.le_of_ble_eq_true rfl, Nat.le_of_ble_eq_true rfl⟩ rfl hl.1 rfl (lv_room (Nat.le_of_ble_eq_true rfl)) dX8_callTimers_73 (fun  g40 H40 k40 hp40 L40 => ?_)
                refine lv_goto (tgt := 105) hx hb dX8_callTimers_76 (by decide) ?_
                exact j105_14  g40 _ _ ls (mFr.tr mFr.rf hp40.1 rfl) L40 hp40.2.1 (lv_sub hl [1, 2, 3] rfl)
            · skip
              have ic49_24 : v23.toInt ≠ (11 : Int32).toInt := fun z => c49_24 (Int32.toInt_inj.mp z)
              have y41 : (11 : Int32).toInt = 11 := by decide
              refine lv_aload_n hx hb dX8_callTimers_52 rfl (lv_at hl 1 rfl) ?_
              refine lv_aload_n hx hb dX8_callTimers_53 rfl (lv_at hl 0 rfl) ?_
              refine lv_iload_n hx hb dX8_callTimers_54 rfl (lv_at hl 2 rfl) ?_
              refine c_cvA (n := 2) (owner := "CellSwitch$Side") (x0 := ⟨"CellSwitch$Side", "timer", "(LCellSwitch$Call;I)V"⟩) (As := [.ref (Z.ad 1 v11.toInt.toNat), .int p1]) (rest := []) x hml L12 4 i0 hal0 rfl (c_ktimer_4 l X g12 i0 v11.toInt.toNat p1 hX (cJ_fr hp10.2.1 hp12.1 rfl) (show i0 < Z.n from (by omega)) hvv11.2.1) (wk_U kd_X4_timer kl_X8_103 km_CellSwitchSide_CellSwitchSide_timer ks_X4_CellSwitchSide_X4_timer ki_X4_timer kn_X4) rfl ⟨rfl, rfl⟩ (List.mem_of_getElem? (i := 0) rfl) (by decide +kernel) ⟨Nat.le_of_ble_eq_true rfl, Nat.le_of_ble_eq_true rfl⟩ rfl hl.1 rfl (lv_room (Nat.le_of_ble_eq_true rfl)) dX8_callTimers_55 (fun  g42 H42 k42 hp42 L42 => ?_)
              refine lv_goto (tgt := 105) hx hb dX8_callTimers_58 (by decide) ?_
              exact j105_14  g42 _ _ ls (mFr.tr mFr.rf hp42.1 rfl) L42 hp42.2.1 (lv_sub hl [1, 2, 3] rfl)
          · skip
            have ic37_22 : v21.toInt ≠ p1.toInt := fun z => c37_22 (Int32.toInt_inj.mp z)
            refine lv_goto (tgt := 105) hx hb dX8_callTimers_40 (by decide) ?_
            exact j105_14  g12 _ _ ls mFr.rf L12 (cJ_fr hp10.2.1 hp12.1 rfl) (lv_sub hl [1, 2, 3] rfl)
  have y43 : (0 : Int32).toInt = 0 := by decide
  exact j2_2 _ (0 : Int32) g _ _ ls mFr.rf L hJ (rg_w kc_0 rfl) (lv_sub hl [1, 2, 0] rfl) rfl
theorem c_kcallTimers_4 (l : Launch) {G : cG} {Z : cZ} (X : Int) (g : mSt) (i0 : Nat) (p1 : Int32) (hX : 0 ≤ X ∧ X ≤ 2000000000) (hJ : cJ Z g) (hi0 : i0 < Z.n) : Met l yX8_callTimers (wk (Cond.code yX8_callTimers cX8_callTimers 4 none)) rm_kcallTimers_4 (va_Pc [.ref (Z.ad 4 i0), .int p1] (cPre G Z X g)) (cQv G Z X (fun g1 => mFr [36, 40, 41, 42, 44, 45, 46, 48, 198, 832, 864] g g1 ∧ cJ Z g1 ∧ True)) 0 0 (cAd Z) := by
  refine Met.ofW (cc := cX8_callTimers) (maxL := 4) (ret := none) (by decide) rfl ?_
  intro p e s m args below meth c s₁ B hml hv
  obtain ⟨rfl, hv⟩ := hv
  have hr := B.returns
  have hlocks := B.notSynchronized
  obtain ⟨x, L⟩ := c_start B rfl (fun w h => wk_in h) hv
  have hl := lv_entry ([.ref (Z.ad 4 i0), .int p1]) (n := 4) (Nat.le_of_ble_eq_true rfl)
  rw [lg_entry_eq]
  generalize (lg_sl ([.ref (Z.ad 4 i0), .int p1]) ++ List.replicate (4 - (lg_sl ([.ref (Z.ad 4 i0), .int p1])).length) Slot.unset).toArray = ls at hl ⊢
  exact w_kcallTimers_4 x hml L hX i0 p1 hJ hi0 hl (fun pc' ls' g1 H1 locs1 hdg L hp => c_vret x L hr hlocks (Int.le_refl _) hp hdg)

def rm_kcallTimers_10 : Room := { frames := 5, cells := 0, slots := 0, locals := 117 }
theorem hd_kcallTimers_10 : yX8_callTimers.cls ≠ "java/lang/invoke/MethodHandle" ∧ yX8_callTimers.cls ≠ "java/lang/invoke/VarHandle" ∧ (parseMethodDescriptor yX8_callTimers.desc).map (fun d => d.parameters.length) = some 1 := by decide +kernel
set_option maxHeartbeats 4000000 in
set_option maxRecDepth 100000 in
theorem w_kcallTimers_10 {p : Program} {l : Launch} {e : Env} {s : State} {m : MethodId} {args : Array Value} {below : List Frame} {meth : Method} {c : Code} {H : Heap} {locs : List Loc} {Q : State → Prop} {ls : Array Slot} {G : cG} {Z : cZ} {A : Nat → Prop} {g : mSt} {H0 : Heap} {X : Int} (x : cX p c cX8_callTimers s args (wk (Cond.code yX8_callTimers cX8_callTimers 4 none)) m G Z A RX8 H0) (hml : c.maxLocals = 4) (L : cL G Z A H0 X g H locs) (hX : 0 ≤ X ∧ X ≤ 2000000000) (i0 : Nat) (p1 : Int32) (hJ : cJ Z g) (hi0 : i0 < Z.n) (hl : lv_has ls 4 [(0, .ref (Z.ad 10 i0)), (1, .int p1)]) (hQ : ∀ (pc' : Nat) (ls' : Array Slot) (g1 : mSt) (H1 : Heap) (locs1 : List Loc), decode cX8_callTimers pc' = .ok (.return_, 1) → cL G Z A H0 X g1 H1 locs1 → (mFr [36, 40, 41, 42, 44, 45, 46, 48, 198, 832, 864] g g1 ∧ cJ Z g1 ∧ True) → W p l e rm_kcallTimers_10 s m args below meth c H1 locs1 0 0 Q (F0 m pc' ls' [])) : W p l e rm_kcallTimers_10 s m args below meth c H locs 0 0 Q (F0 m 0 ls []) := by
  have hx := x.1
  have hb := x.2.1
  have hz := x.2.2.2.2.2.2.2.1
  have hzn := hz.1
  have hal0 : Z.al 10 i0 := hz.2 10 i0 (show i0 < Z.n from hi0)
  have up1 : (-2147483648 : Int) ≤ p1.toInt ∧ p1.toInt ≤ 2147483647 := (rg_any p1)
  refine lv_iconst (v := 0) hx hb dX8_callTimers_0 (by decide) ?_
  refine lv_istore_n (lv' := [(2, .int (0 : Int32)), (0, .ref (Z.ad 10 i0)), (1, .int p1)]) hx hb dX8_callTimers_1 rfl hl (by decide) rfl (fun ls hl => ?_)
  have j2_2 : ∀ (n : Nat) (a2_2_1 : Int32) (g2 : mSt) (H2 : Heap) (k2 : List Loc) (ls : Array Slot), mFr [36, 40, 41, 42, 44, 45, 46, 48, 198, 832, 864] g g2 → cL G Z A H0 X g2 H2 k2 → cJ Z g2 → rg (0) (2147483647) a2_2_1 → lv_has ls 4 [(0, .ref (Z.ad 10 i0)), (1, .int p1), (2, .int a2_2_1)] → ((2147483647 : Int) - a2_2_1.toInt).toNat = n → W p l e rm_kcallTimers_10 s m args below meth c H2 k2 0 0 Q (F0 m 2 ls []) := by
    intro n
    induction n using Nat.strongRecOn with
    | _ n ih2 =>
      intro a2_2_1 g2 H2 k2 ls hF2 L2 hJ2 ra2_2_1 hl hn2
      subst hn2
      have ua2_2_1 : (0 : Int) ≤ a2_2_1.toInt ∧ a2_2_1.toInt ≤ 2147483647 := ra2_2_1
      refine lv_iload_n hx hb dX8_callTimers_2 rfl (lv_at hl 2 rfl) ?_
      refine lv_aload_n hx hb dX8_callTimers_3 rfl (lv_at hl 0 rfl) ?_
      have al3 : Z.al 12 (Z.n + i0) := hz.2 12 (Z.n + i0) (show (Z.n + i0) < 2 * Z.n from (by omega))
      refine c_getr (a := Z.ad 12 (Z.n + i0)) x L2 10 i0 2 hal0 rfl rfl (wk_in kf_X8_10) dX8_callTimers_4 ?_
      refine c_ci (As := []) (rest := [.int a2_2_1]) x hml L2 12 (Z.n + i0) al3 rfl (c_klsize l X g2 (Z.n + i0) hX (show (Z.n + i0) < 2 * Z.n from (by omega))) (wk_V kd_Jx4a65c_size_8abf5 kl_X8_24 ki_Jx4a65c_size_8abf5 ks_Jx4a65c_Jx4a65c_size_8abf5 kn_Jx4a65c) rfl ⟨rfl, rfl⟩ hd_klsize ⟨Nat.le_of_ble_eq_true rfl, Nat.le_of_ble_eq_true rfl⟩ rfl hl.1 rfl (lv_room (Nat.le_of_ble_eq_true rfl)) dX8_callTimers_7 (fun v5 g4 H4 k4 hp4 L4 => ?_)
      have rv5 : rg (-2147483648) (2147483647) v5 := hp4.2.1
      have uv5 : (-2147483648 : Int) ≤ v5.toInt ∧ v5.toInt ≤ 2147483647 := rv5
      refine lv_icmp_ge (tgt := 111) hx hb dX8_callTimers_10 (by decide) (fun c10_6 => ?_) (fun c10_6 => ?_)
      · skip
        have ic10_6 := Int32.le_iff_toInt_le.mp c10_6
        exact hQ _ _ _ _ _ dX8_callTimers_111 L4 ⟨(mFr.tr (mFr.tr mFr.rf hF2 rfl) hp4.1 rfl), (cJ_fr hJ2 hp4.1 rfl), trivial⟩
      · skip
        have ic10_6 := Int32.lt_iff_toInt_lt.mp (rg_nle c10_6)
        have q7 : rg (0) (2147483646) a2_2_1 := (rg_lt (rg_nle c10_6) ra2_2_1 rv5).1
        have uq7 : (0 : Int) ≤ a2_2_1.toInt ∧ a2_2_1.toInt ≤ 2147483646 := q7
        have q8 : rg (1) (2147483647) v5 := (rg_lt (rg_nle c10_6) ra2_2_1 rv5).2
        have uq8 : (1 : Int) ≤ v5.toInt ∧ v5.toInt ≤ 2147483647 := q8
        refine lv_aload_n hx hb dX8_callTimers_13 rfl (lv_at hl 0 rfl) ?_
        refine c_getr (a := Z.ad 12 (Z.n + i0)) x L4 10 i0 2 hal0 rfl rfl (wk_in kf_X8_10) dX8_callTimers_14 ?_
        refine lv_iload_n hx hb dX8_callTimers_17 rfl (lv_at hl 2 rfl) ?_
        have y9 := congrArg Int32.toInt hp4.2.2
        refine c_cr (As := [.int a2_2_1]) (rest := []) x hml L4 12 (Z.n + i0) al3 rfl (c_klget l X g4 (Z.n + i0) a2_2_1 hX (cJ_fr hJ2 hp4.1 rfl) (show (Z.n + i0) < 2 * Z.n from (by omega)) (by omega)) (wk_V kd_Jx4a65c_get_915e3 kl_X8_28 ki_Jx4a65c_get_915e3 ks_Jx4a65c_Jx4a65c_get_915e3 kn_Jx4a65c) rfl ⟨rfl, rfl⟩ hd_klget ⟨Nat.le_of_ble_eq_true rfl, Nat.le_of_ble_eq_true rfl⟩ rfl hl.1 rfl (lv_room (Nat.le_of_ble_eq_true rfl)) dX8_callTimers_18 (fun v11 g10 H10 k10 hp10 L10 => ?_)
        have hvv11 := hp10.2.2
        rw [(show mFr [36, 40, 41, 42, 44, 45, 46, 48, 198, 832, 864] g g4 from (mFr.tr (mFr.tr mFr.rf hF2 rfl) hp4.1 rfl)).at 32 rfl] at hvv11
        refine c_top (show Value.ref (Z.ad 1 v11.toInt.toNat) = va_rf (cOpt Z 1 v11) from (by rw [cOpt_some hvv11.1]; rfl)) ?_
        refine c_cast x L10 1 v11.toInt.toNat hvv11.2.1 rfl (wk_in kc_lX8_32) dX8_callTimers_21 ?_
        refine lv_astore_n (lv' := [(3, .ref (Z.ad 1 v11.toInt.toNat)), (0, .ref (Z.ad 10 i0)), (1, .int p1), (2, .int a2_2_1)]) hx hb dX8_callTimers_24 rfl hl (by decide) rfl (fun ls hl => ?_)
        refine lv_aload_n hx hb dX8_callTimers_25 rfl (lv_at hl 0 rfl) ?_
        refine c_ci (As := []) (rest := []) x hml L10 1 v11.toInt.toNat hvv11.2.1 rfl (c_kisOpen l X g10 v11.toInt.toNat hX hvv11.2.1) (wk_V kd_X1_isOpen kl_X8_34 ki_X1_isOpen ks_X1_X1_isOpen kn_X1) rfl ⟨rfl, rfl⟩ hd_kisOpen ⟨Nat.le_of_ble_eq_true rfl, Nat.le_of_ble_eq_true rfl⟩ rfl hl.1 rfl (lv_room (Nat.le_of_ble_eq_true rfl)) dX8_callTimers_26 (fun v13 g12 H12 k12 hp12 L12 => ?_)
        have rv13 : rg (0) (1) v13 := hp12.2.1
        have uv13 : (0 : Int) ≤ v13.toInt ∧ v13.toInt ≤ 1 := rv13
        have j105_14 : ∀ (g14 : mSt) (H14 : Heap) (k14 : List Loc) (ls : Array Slot), mFr [36, 40, 41, 42, 44, 45, 46, 48, 198, 832, 864] g12 g14 → cL G Z A H0 X g14 H14 k14 → cJ Z g14 → lv_has ls 4 [(0, .ref (Z.ad 10 i0)), (1, .int p1), (2, .int a2_2_1)] → W p l e rm_kcallTimers_10 s m args below meth c H14 k14 0 0 Q (F0 m 105 ls []) := by
          intro  g14 H14 k14 ls hF14 L14 hJ14  hl
          obtain ⟨v15, ev15, fv15⟩ := inc_ex a2_2_1 (1) (1 : Int32) (by decide)
          have rv15 : rg (1) (2147483647) v15 := (rg_add ev15 q7 kc_1 rfl).1
          have tv15 := (rg_add ev15 q7 kc_1 rfl).2
          have yv15 : (1 : Int32).toInt = 1 := by decide
          refine lv_iinc (v := v15) (lv' := [(2, .int v15), (0, .ref (Z.ad 10 i0)), (1, .int p1)]) hx hb dX8_callTimers_105 hl (k := 2) rfl fv15 (by decide) rfl (fun ls hl => ?_)
          refine lv_goto (tgt := 2) hx hb dX8_callTimers_108 (by decide) ?_
          exact ih2 _ (ms_up tv15 kc_1 q7 rfl rfl) v15 g14 _ _ ls (mFr.tr (mFr.tr (mFr.tr (mFr.tr hF2 hp4.1 rfl) hp10.1 rfl) hp12.1 rfl) hF14 rfl) L14 hJ14 (rg_w rv15 rfl) (lv_sub hl [1, 2, 0] rfl) rfl
        refine lv_if_eq (tgt := 105) hx hb dX8_callTimers_29 (by decide) (fun c29_16 => ?_) (fun c29_16 => ?_)
        · skip
          have ic29_16 := congrArg Int32.toInt c29_16
          have y17 : (0 : Int32).toInt = 0 := by decide
          have q18 : rg (0) (0) v13 := (rg_eq c29_16 rv13 kc_0).1
          have uq18 : (0 : Int) ≤ v13.toInt ∧ v13.toInt ≤ 0 := q18
          exact j105_14  g12 _ _ ls mFr.rf L12 (cJ_fr hp10.2.1 hp12.1 rfl) (lv_sub hl [1, 2, 3] rfl)
        · skip
          have ic29_16 : v13.toInt ≠ (0 : Int32).toInt := fun z => c29_16 (Int32.toInt_inj.mp z)
          have y19 : (0 : Int32).toInt = 0 := by decide
          have q20 : rg (1) (1) v13 := rg_neL c29_16 rv13 kc_0
          have uq20 : (1 : Int) ≤ v13.toInt ∧ v13.toInt ≤ 1 := q20
          refine lv_aload_n hx hb dX8_callTimers_32 rfl (lv_at hl 0 rfl) ?_
          refine c_geti x L12 1 v11.toInt.toNat 9 41 hvv11.2.1 rfl rfl (wk_in kf_X8_100) dX8_callTimers_33 (fun v21 ev21 wv21 => ?_)
          have rv21 : rg (-2147483648) (2147483647) v21 := rg_any v21
          have uv21 : (-2147483648 : Int) ≤ v21.toInt ∧ v21.toInt ≤ 2147483647 := rv21
          refine lv_iload_n hx hb dX8_callTimers_36 rfl (lv_at hl 2 rfl) ?_
          refine lv_icmp_eq (tgt := 43) hx hb dX8_callTimers_37 (by decide) (fun c37_22 => ?_) (fun c37_22 => ?_)
          · skip
            have ic37_22 := congrArg Int32.toInt c37_22
            refine lv_aload_n hx hb dX8_callTimers_43 rfl (lv_at hl 0 rfl) ?_
            refine c_geti x L12 1 v11.toInt.toNat 4 36 hvv11.2.1 rfl rfl (wk_in kf_X8_84) dX8_callTimers_44 (fun v23 ev23 wv23 => ?_)
            have rv23 : rg (-2147483648) (2147483647) v23 := rg_any v23
            have uv23 : (-2147483648 : Int) ≤ v23.toInt ∧ v23.toInt ≤ 2147483647 := rv23
            refine lv_bipush (v := 11) hx hb dX8_callTimers_47 (by decide) ?_
            refine lv_icmp_eq (tgt := 61) hx hb dX8_callTimers_49 (by decide) (fun c49_24 => ?_) (fun c49_24 => ?_)
            · skip
              have ic49_24 := congrArg Int32.toInt c49_24
              have y25 : (11 : Int32).toInt = 11 := by decide
              have q26 : rg (11) (11) v23 := (rg_eq c49_24 rv23 kc_11).1
              have uq26 : (11 : Int) ≤ v23.toInt ∧ v23.toInt ≤ 11 := q26
              refine lv_aload_n hx hb dX8_callTimers_61 rfl (lv_at hl 0 rfl) ?_
              refine c_geti x L12 1 v11.toInt.toNat 10 42 hvv11.2.1 rfl rfl (wk_in kf_X8_107) dX8_callTimers_62 (fun v27 ev27 wv27 => ?_)
              have rv27 : rg (0) (1) v27 := clj_42 wv27
              have uv27 : (0 : Int) ≤ v27.toInt ∧ v27.toInt ≤ 1 := rv27
              refine lv_if_eq (tgt := 79) hx hb dX8_callTimers_65 (by decide) (fun c65_28 => ?_) (fun c65_28 => ?_)
              · skip
                have ic65_28 := congrArg Int32.toInt c65_28
                have y29 : (0 : Int32).toInt = 0 := by decide
                have q30 : rg (0) (0) v27 := (rg_eq c65_28 rv27 kc_0).1
                have uq30 : (0 : Int) ≤ v27.toInt ∧ v27.toInt ≤ 0 := q30
                refine lv_aload_n hx hb dX8_callTimers_79 rfl (lv_at hl 0 rfl) ?_
                refine lv_iload_n hx hb dX8_callTimers_80 rfl (lv_at hl 2 rfl) ?_
                refine lv_bipush (v := 10) hx hb dX8_callTimers_81 (by decide) ?_
                refine lv_iadd hx hb dX8_callTimers_83 ?_
                refine lv_topi (fun v31 ev31 => ?_)
                have rv31 : rg (-2147483648) (2147483647) v31 := rg_any v31
                have uv31 : (-2147483648 : Int) ≤ v31.toInt ∧ v31.toInt ≤ 2147483647 := rv31
                refine c_cv (As := [.int v31]) (rest := []) x hml L12 1 v11.toInt.toNat hvv11.2.1 rfl (c_krepeat l X g12 v11.toInt.toNat v31 hX hvv11.2.1) (wk_V kd_X1_repeat kl_X8_110 ki_X1_repeat ks_X1_X1_repeat kn_X1) rfl ⟨rfl, rfl⟩ hd_krepeat ⟨Nat.le_of_ble_eq_true rfl, Nat.le_of_ble_eq_true rfl⟩ rfl hl.1 rfl (lv_room (Nat.le_of_ble_eq_true rfl)) dX8_callTimers_84 (fun  g32 H32 k32 hp32 L32 => ?_)
                refine lv_aload_n hx hb dX8_callTimers_87 rfl (lv_at hl 1 rfl) ?_
                refine lv_bipush (v := 77) hx hb dX8_callTimers_88 (by decide) ?_
                refine lv_aload_n hx hb dX8_callTimers_90 rfl (lv_at hl 0 rfl) ?_
                refine c_geti x L32 1 v11.toInt.toNat 1 33 hvv11.2.1 rfl rfl (wk_in kf_X8_38) dX8_callTimers_91 (fun v33 ev33 wv33 => ?_)
                have rv33 : rg (-2147483648) (2147483647) v33 := rg_any v33
                have uv33 : (-2147483648 : Int) ≤ v33.toInt ∧ v33.toInt ≤ 2147483647 := rv33
                have sv33 : v33.toInt = (g 33 v11.toInt.toNat).toInt := congrArg Int32.toInt (ev33.trans (congrFun ((show mFr [36, 40, 41, 42, 44, 45, 46, 48, 198, 832, 864] g g32 from (mFr.tr (mFr.tr (mFr.tr (mFr.tr (mFr.tr mFr.rf hF2 rfl) hp4.1 rfl) hp10.1 rfl) hp12.1 rfl) hp32.1 rfl)).at 33 rfl) _))
                refine lv_aload_n hx hb dX8_callTimers_94 rfl (lv_at hl 0 rfl) ?_
                refine c_geti x L32 1 v11.toInt.toNat 2 34 hvv11.2.1 rfl rfl (wk_in kf_X8_41) dX8_callTimers_95 (fun v34 ev34 wv34 => ?_)
                have rv34 : rg (0) (1) v34 := clj_34 wv34
                have uv34 : (0 : Int) ≤ v34.toInt ∧ v34.toInt ≤ 1 := rv34
                have sv34 : v34.toInt = (g 34 v11.toInt.toNat).toInt := congrArg Int32.toInt (ev34.trans (congrFun ((show mFr [36, 40, 41, 42, 44, 45, 46, 48, 198, 832, 864] g g32 from (mFr.tr (mFr.tr (mFr.tr (mFr.tr (mFr.tr mFr.rf hF2 rfl) hp4.1 rfl) hp10.1 rfl) hp12.1 rfl) hp32.1 rfl)).at 34 rfl) _))
                refine lv_aload_n hx hb dX8_callTimers_98 rfl (lv_at hl 0 rfl) ?_
                refine c_geti x L32 1 v11.toInt.toNat 8 40 hvv11.2.1 rfl rfl (wk_in kf_X8_87) dX8_callTimers_99 (fun v35 ev35 wv35 => ?_)
                have rv35 : rg (-2147483648) (2147483647) v35 := rg_any v35
                have uv35 : (-2147483648 : Int) ≤ v35.toInt ∧ v35.toInt ≤ 2147483647 := rv35
                refine c_cvU (n := 4) (owner := "CellSwitch$Side") (x0 := ⟨"CellSwitch$Side", "sayCause", "(IIZI)V"⟩) (As := [.int (77 : Int32), .int v33, .int v34, .int v35]) (rest := []) x hml L32 10 i0 hal0 rfl (c_ksayCause_10 l X g32 i0 (77 : Int32) v33 v34 v35 hX (show i0 < Z.n from (by omega)) (rg_w rv34 rfl)) (wk_U kd_X8_sayCause kl_X8_70 km_CellSwitchSide_CellSwitchSide_sayCause ks_X10_CellSwitchSide_X8_sayCause ki_X8_sayCause kn_X8) rfl ⟨rfl, rfl⟩ rfl (by decide +kernel) ⟨Nat.le_of_ble_eq_true rfl, Nat.le_of_ble_eq_true rfl⟩ rfl hl.1 rfl (lv_room (Nat.le_of_ble_eq_true rfl)) dX8_callTimers_102 (fun  g36 H36 k36 hp36 L36 => ?_)
                exact j105_14  g36 _ _ ls (mFr.tr (mFr.tr mFr.rf hp32.1 rfl) hp36.1 rfl) L36 (cJ_fr (cJ_fr (cJ_fr hp10.2.1 hp12.1 rfl) hp32.1 rfl) hp36.1 rfl) (lv_sub hl [1, 2, 3] rfl)
              · skip
                have ic65_28 : v27.toInt ≠ (0 : Int32).toInt := fun z => c65_28 (Int32.toInt_inj.mp z)
                have y37 : (0 : Int32).toInt = 0 := by decide
                have q38 : rg (1) (1) v27 := rg_neL c65_28 rv27 kc_0
                have uq38 : (1 : Int) ≤ v27.toInt ∧ v27.toInt ≤ 1 := q38
                refine lv_aload_n hx hb dX8_callTimers_68 rfl (lv_at hl 0 rfl) ?_
                refine lv_aload_n hx hb dX8_callTimers_69 rfl (lv_at hl 0 rfl) ?_
                refine c_geti x L12 1 v11.toInt.toNat 8 40 hvv11.2.1 rfl rfl (wk_in kf_X8_87) dX8_callTimers_70 (fun v39 ev39 wv39 => ?_)
                have rv39 : rg (-2147483648) (2147483647) v39 := rg_any v39
                have uv39 : (-2147483648 : Int) ≤ v39.toInt ∧ v39.toInt ≤ 2147483647 := rv39
                refine c_cv (As := [.int v39]) (rest := []) x hml L12 1 v11.toInt.toNat hvv11.2.1 rfl (c_kfinish l X g12 v11.toInt.toNat v39 hX (cJ_fr hp10.2.1 hp12.1 rfl) hvv11.2.1) (wk_V kd_X1_finish kl_X8_88 ki_X1_finish ks_X1_X1_finish kn_X1) rfl ⟨rfl, rfl⟩ hd_kfinish ⟨Nat.le_of_ble_eq_true rfl, Nat.le_of_ble_eq_true rfl⟩ rfl hl.1 rfl (lv_room (Nat.le_of_ble_eq_true rfl)) dX8_callTimers_73 (fun  g40 H40 k40 hp40 L40 => ?_)
                refine lv_goto (tgt := 105) hx hb dX8_callTimers_76 (by decide) ?_
                exact j105_14  g40 _ _ ls (mFr.tr mFr.rf hp40.1 rfl) L40 hp40.2.1 (lv_sub hl [1, 2, 3] rfl)
            · skip
              have ic49_24 : v23.toInt ≠ (11 : Int32).toInt := fun z => c49_24 (Int32.toInt_inj.mp z)
              have y41 : (11 : Int32).toInt = 11 := by decide
              refine lv_aload_n hx hb dX8_callTimers_52 rfl (lv_at hl 1 rfl) ?_
              refine lv_aload_n hx hb dX8_callTimers_53 rfl (lv_at hl 0 rfl) ?_
              refine lv_iload_n hx hb dX8_callTimers_54 rfl (lv_at hl 2 rfl) ?_
              refine c_cvA (n := 2) (owner := "CellSwitch$Side") (x0 := ⟨"CellSwitch$Side", "timer", "(LCellSwitch$Call;I)V"⟩) (As := [.ref (Z.ad 1 v11.toInt.toNat), .int p1]) (rest := []) x hml L12 10 i0 hal0 rfl (c_ktimer_10 l X g12 i0 v11.toInt.toNat p1 hX (cJ_fr hp10.2.1 hp12.1 rfl) (show i0 < Z.n from (by omega)) hvv11.2.1) (wk_U kd_X10_timer kl_X8_103 km_CellSwitchSide_CellSwitchSide_timer ks_X10_CellSwitchSide_X10_timer ki_X10_timer kn_X10) rfl ⟨rfl, rfl⟩ (List.mem_of_getElem? (i := 0) rfl) (by decide +kernel) ⟨Nat.le_of_ble_eq_true rfl, Nat.le_of_ble_eq_true rfl⟩ rfl hl.1 rfl (lv_room (Nat.le_of_ble_eq_true rfl)) dX8_callTimers_55 (fun  g42 H42 k42 hp42 L42 => ?_)
              refine lv_goto (tgt := 105) hx hb dX8_callTimers_58 (by decide) ?_
              exact j105_14  g42 _ _ ls (mFr.tr mFr.rf hp42.1 rfl) L42 hp42.2.1 (lv_sub hl [1, 2, 3] rfl)
          · skip
            have ic37_22 : v21.toInt ≠ p1.toInt := fun z => c37_22 (Int32.toInt_inj.mp z)
            refine lv_goto (tgt := 105) hx hb dX8_callTimers_40 (by decide) ?_
            exact j105_14  g12 _ _ ls mFr.rf L12 (cJ_fr hp10.2.1 hp12.1 rfl) (lv_sub hl [1, 2, 3] rfl)
  have y43 : (0 : Int32).toInt = 0 := by decide
  exact j2_2 _ (0 : Int32) g _ _ ls mFr.rf L hJ (rg_w kc_0 rfl) (lv_sub hl [1, 2, 0] rfl) rfl
theorem c_kcallTimers_10 (l : Launch) {G : cG} {Z : cZ} (X : Int) (g : mSt) (i0 : Nat) (p1 : Int32) (hX : 0 ≤ X ∧ X ≤ 2000000000) (hJ : cJ Z g) (hi0 : i0 < Z.n) : Met l yX8_callTimers (wk (Cond.code yX8_callTimers cX8_callTimers 4 none)) rm_kcallTimers_10 (va_Pc [.ref (Z.ad 10 i0), .int p1] (cPre G Z X g)) (cQv G Z X (fun g1 => mFr [36, 40, 41, 42, 44, 45, 46, 48, 198, 832, 864] g g1 ∧ cJ Z g1 ∧ True)) 0 0 (cAd Z) := by
  refine Met.ofW (cc := cX8_callTimers) (maxL := 4) (ret := none) (by decide) rfl ?_
  intro p e s m args below meth c s₁ B hml hv
  obtain ⟨rfl, hv⟩ := hv
  have hr := B.returns
  have hlocks := B.notSynchronized
  obtain ⟨x, L⟩ := c_start B rfl (fun w h => wk_in h) hv
  have hl := lv_entry ([.ref (Z.ad 10 i0), .int p1]) (n := 4) (Nat.le_of_ble_eq_true rfl)
  rw [lg_entry_eq]
  generalize (lg_sl ([.ref (Z.ad 10 i0), .int p1]) ++ List.replicate (4 - (lg_sl ([.ref (Z.ad 10 i0), .int p1])).length) Slot.unset).toArray = ls at hl ⊢
  exact w_kcallTimers_10 x hml L hX i0 p1 hJ hi0 hl (fun pc' ls' g1 H1 locs1 hdg L hp => c_vret x L hr hlocks (Int.le_refl _) hp hdg)

def rm_kpassOn : Room := { frames := 3, cells := 0, slots := 0, locals := 95 }
theorem hd_kpassOn : yX11_passOn.cls = cRn 11 ∧ yX11_passOn.cls ≠ "java/lang/invoke/MethodHandle" ∧ yX11_passOn.cls ≠ "java/lang/invoke/VarHandle" ∧ (parseMethodDescriptor yX11_passOn.desc).map (fun d => d.parameters.length) = some 3 := by decide +kernel
set_option maxHeartbeats 4000000 in
set_option maxRecDepth 100000 in
theorem w_kpassOn {p : Program} {l : Launch} {e : Env} {s : State} {m : MethodId} {args : Array Value} {below : List Frame} {meth : Method} {c : Code} {H : Heap} {locs : List Loc} {Q : State → Prop} {ls : Array Slot} {G : cG} {Z : cZ} {A : Nat → Prop} {g : mSt} {H0 : Heap} {X : Int} (x : cX p c cX11_passOn s args (wk (Cond.code yX11_passOn cX11_passOn 5 none)) m G Z A RX11 H0) (hml : c.maxLocals = 5) (L : cL G Z A H0 X g H locs) (hX : 0 ≤ X ∧ X ≤ 2000000000) (i0 : Nat) (q1 : Nat) (p2 : Int32) (q3 : Nat) (hJ : cJ Z g) (hal0 : Z.al 11 i0) (hq1 : Z.al 1 q1) (hq3 : Z.al 25 q3) (hl : lv_has ls 5 [(0, .ref (Z.ad 11 i0)), (1, .ref (Z.ad 1 q1)), (2, .int p2), (3, .ref (Z.ad 25 q3))]) (hQ : ∀ (pc' : Nat) (ls' : Array Slot) (g1 : mSt) (H1 : Heap) (locs1 : List Loc), decode cX11_passOn pc' = .ok (.return_, 1) → cL G Z A H0 X g1 H1 locs1 → (mFr [67, 108, 544, 576] g g1 ∧ cJ Z g1 ∧ True) → W p l e rm_kpassOn s m args below meth c H1 locs1 0 0 Q (F0 m pc' ls' [])) : W p l e rm_kpassOn s m args below meth c H locs 0 0 Q (F0 m 0 ls []) := by
  have hx := x.1
  have hb := x.2.1
  have hz := x.2.2.2.2.2.2.2.1
  have hzn := hz.1
  have up2 : (-2147483648 : Int) ≤ p2.toInt ∧ p2.toInt ≤ 2147483647 := (rg_any p2)
  refine lv_aload_n hx hb dX11_passOn_0 rfl (lv_at hl 1 rfl) ?_
  refine lv_ifnonnull (tgt := 5) hx hb dX11_passOn_1 (by decide) ?_
  refine lv_iconst (v := 2) hx hb dX11_passOn_5 (by decide) ?_
  refine lv_aload_n hx hb dX11_passOn_6 rfl (lv_at hl 1 rfl) ?_
  obtain ⟨v1, ev1⟩ : ∃ y : Int32, y = g 32 q1 := ⟨_, rfl⟩
  have hsv1 := (hJ.2.1 q1 hq1).1
  rw [← ev1] at hsv1
  rcases Nat.lt_or_ge v1.toInt.toNat Z.n with hc2 | hc2
  · skip
    have al3 : Z.al 4 v1.toInt.toNat := hz.2 4 v1.toInt.toNat (show v1.toInt.toNat < Z.n from (by omega))
    refine c_geto (w := .ref (Z.ad 4 v1.toInt.toNat)) x L 1 q1 0 32 hq1 rfl rfl (by show va_rf (some (cSd Z (g 32 q1).toInt.toNat)) = _; rw [← ev1]; unfold cSd; rw [if_pos hc2]; rfl) (wk_in kf_X11_209) dX11_passOn_7 ?_
    refine c_getc x L 4 v1.toInt.toNat 0 al3 rfl (wk_in kf_X11_213) dX11_passOn_10 (fun v5 ev5 => ?_)
    have tv5 : v5.toInt = ((v1.toInt.toNat : Nat) : Int) := cCv_s ev5 rfl (by omega)
    have rv5 : rg (0) (3) v5 := ⟨by omega, by omega⟩
    refine lv_imul hx hb dX11_passOn_13 ?_
    refine lv_topi (fun v6 ev6 => ?_)
    have rv6 : rg (0) (6) v6 := (rg_mulL ev6 kc_2 rv5 rfl).1
    have tv6 := (rg_mulL ev6 kc_2 rv5 rfl).2
    have y7 : (2 : Int32).toInt = 2 := by decide
    have uv6 : (0 : Int) ≤ v6.toInt ∧ v6.toInt ≤ 6 := rv6
    refine lv_iconst (v := 1) hx hb dX11_passOn_14 (by decide) ?_
    refine lv_iadd hx hb dX11_passOn_15 ?_
    refine lv_topi (fun v8 ev8 => ?_)
    have rv8 : rg (1) (7) v8 := (rg_add ev8 rv6 kc_1 rfl).1
    have tv8 := (rg_add ev8 rv6 kc_1 rfl).2
    have y9 : (1 : Int32).toInt = 1 := by decide
    have uv8 : (1 : Int) ≤ v8.toInt ∧ v8.toInt ≤ 7 := rv8
    refine lv_istore (lv' := [(4, .int v8), (0, .ref (Z.ad 11 i0)), (1, .ref (Z.ad 1 q1)), (2, .int p2), (3, .ref (Z.ad 25 q3))]) hx hb dX11_passOn_16 hl (by decide) rfl (fun ls hl => ?_)
    refine lv_iload hx hb dX11_passOn_18 (lv_at hl 0 rfl) ?_
    refine lv_aload_n hx hb dX11_passOn_20 rfl (lv_at hl 1 rfl) ?_
    have al10 : Z.al 50 0 := hz.2 50 0 (show 0 < 1 from (by omega))
    refine c_getr (a := Z.ad 50 0) x L 11 i0 1 hal0 rfl rfl (wk_in kf_X11_59) dX11_passOn_21 ?_
    refine c_lenr x L 50 0 al10 rfl (show (2 * Z.n) ≤ 2147483647 from (by omega)) dX11_passOn_24 (fun v11 ev11 => ?_)
    have tv11 : v11.toInt = (((2 * Z.n) : Nat) : Int) := ev11
    have rv11 : rg (4) (8) v11 := ⟨by omega, by omega⟩
    refine lv_icmp_ge (tgt := 51) hx hb dX11_passOn_25 (by decide) (fun c25_12 => ?_) (fun c25_12 => ?_)
    · skip
      have ic25_12 := Int32.le_iff_toInt_le.mp c25_12
      have q13 : rg (4) (7) v11 := (rg_le c25_12 rv11 rv8).1
      have uq13 : (4 : Int) ≤ v11.toInt ∧ v11.toInt ≤ 7 := q13
      have q14 : rg (4) (7) v8 := (rg_le c25_12 rv11 rv8).2
      have uq14 : (4 : Int) ≤ v8.toInt ∧ v8.toInt ≤ 7 := q14
      exact hQ _ _ _ _ _ dX11_passOn_51 L ⟨mFr.rf, hJ, trivial⟩
    · skip
      have ic25_12 := Int32.lt_iff_toInt_lt.mp (rg_nle c25_12)
      refine lv_aload_n hx hb dX11_passOn_28 rfl (lv_at hl 1 rfl) ?_
      refine c_getr (a := Z.ad 50 0) x L 11 i0 1 hal0 rfl rfl (wk_in kf_X11_59) dX11_passOn_29 ?_
      refine lv_iload hx hb dX11_passOn_32 (lv_at hl 0 rfl) ?_
      refine c_ldr (a := Z.ad 3 v8.toInt.toNat) x L 50 0 al10 rfl (by omega) (show v8.toInt < (((2 * Z.n) : Nat) : Int) from (by omega)) rfl dX11_passOn_34 ?_
      have al15 : Z.al 3 v8.toInt.toNat := hz.2 3 v8.toInt.toNat (show v8.toInt.toNat < 2 * Z.n from (by omega))
      refine lv_aload_n hx hb dX11_passOn_35 rfl (lv_at hl 2 rfl) ?_
      refine c_geti x L 1 q1 5 37 hq1 rfl rfl (wk_in kf_X11_216) dX11_passOn_36 (fun v16 ev16 wv16 => ?_)
      have rv16 : rg (-2147483648) (2147483647) v16 := rg_any v16
      have uv16 : (-2147483648 : Int) ≤ v16.toInt ∧ v16.toInt ≤ 2147483647 := rv16
      have sv16 : v16.toInt = (g 37 q1).toInt := congrArg Int32.toInt (ev16.trans (congrFun ((show mFr [67, 108, 544, 576] g g from mFr.rf).at 37 rfl) _))
      refine lv_iconst (v := 4) hx hb dX11_passOn_39 (by decide) ?_
      refine lv_ishl hx hb dX11_passOn_40 ?_
      refine lv_topi (fun v17 ev17 => ?_)
      have rv17 : rg (-2147483648) (2147483647) v17 := rg_any v17
      have uv17 : (-2147483648 : Int) ≤ v17.toInt ∧ v17.toInt ≤ 2147483647 := rv17
      refine lv_iload_n hx hb dX11_passOn_41 rfl (lv_at hl 3 rfl) ?_
      refine lv_bipush (v := 14) hx hb dX11_passOn_42 (by decide) ?_
      refine lv_iand hx hb dX11_passOn_44 ?_
      refine lv_topi (fun v18 ev18 => ?_)
      have rv18 : rg (-2147483648) (2147483647) v18 := rg_any v18
      have uv18 : (-2147483648 : Int) ≤ v18.toInt ∧ v18.toInt ≤ 2147483647 := rv18
      refine lv_ior hx hb dX11_passOn_45 ?_
      refine lv_topi (fun v19 ev19 => ?_)
      have rv19 : rg (-2147483648) (2147483647) v19 := rg_any v19
      have uv19 : (-2147483648 : Int) ≤ v19.toInt ∧ v19.toInt ≤ 2147483647 := rv19
      refine lv_aload_n hx hb dX11_passOn_46 rfl (lv_at hl 4 rfl) ?_
      refine lv_iconst (v := 0) hx hb dX11_passOn_47 (by decide) ?_
      refine c_cv (As := [.int v19, .ref (Z.ad 25 q3), .int (0 : Int32)]) (rest := []) x hml L 3 v8.toInt.toNat al15 rfl (c_kaddData_25 l X g v8.toInt.toNat v19 q3 (0 : Int32) hX (show v8.toInt.toNat < 2 * Z.n from (by omega)) hq3 (rg_w kc_0 rfl)) (wk_V kd_X3_addData kl_X11_219 ki_X3_addData ks_X3_X3_addData kn_X3) rfl ⟨rfl, rfl⟩ hd_kaddData_25 ⟨Nat.le_of_ble_eq_true rfl, Nat.le_of_ble_eq_true rfl⟩ rfl hl.1 rfl (lv_room (Nat.le_of_ble_eq_true rfl)) dX11_passOn_48 (fun  g20 H20 k20 hp20 L20 => ?_)
      exact hQ _ _ _ _ _ dX11_passOn_51 L20 ⟨(mFr.tr mFr.rf hp20.1 rfl), (cJ_fr hJ hp20.1 rfl), trivial⟩
  · skip
    have al4 : Z.al 10 (v1.toInt.toNat - Z.n) := hz.2 10 (v1.toInt.toNat - Z.n) (show (v1.toInt.toNat - Z.n) < Z.n from (by omega))
    refine c_geto (w := .ref (Z.ad 10 (v1.toInt.toNat - Z.n))) x L 1 q1 0 32 hq1 rfl rfl (by show va_rf (some (cSd Z (g 32 q1).toInt.toNat)) = _; rw [← ev1]; unfold cSd; rw [if_neg (Nat.not_lt.mpr hc2)]; rfl) (wk_in kf_X11_209) dX11_passOn_7 ?_
    refine c_getc x L 10 (v1.toInt.toNat - Z.n) 0 al4 rfl (wk_in kf_X11_213) dX11_passOn_10 (fun v21 ev21 => ?_)
    have tv21 : v21.toInt = (((v1.toInt.toNat - Z.n) : Nat) : Int) := cCv_s ev21 rfl (by omega)
    have rv21 : rg (0) (3) v21 := ⟨by omega, by omega⟩
    refine lv_imul hx hb dX11_passOn_13 ?_
    refine lv_topi (fun v22 ev22 => ?_)
    have rv22 : rg (0) (6) v22 := (rg_mulL ev22 kc_2 rv21 rfl).1
    have tv22 := (rg_mulL ev22 kc_2 rv21 rfl).2
    have y23 : (2 : Int32).toInt = 2 := by decide
    have uv22 : (0 : Int) ≤ v22.toInt ∧ v22.toInt ≤ 6 := rv22
    refine lv_iconst (v := 1) hx hb dX11_passOn_14 (by decide) ?_
    refine lv_iadd hx hb dX11_passOn_15 ?_
    refine lv_topi (fun v24 ev24 => ?_)
    have rv24 : rg (1) (7) v24 := (rg_add ev24 rv22 kc_1 rfl).1
    have tv24 := (rg_add ev24 rv22 kc_1 rfl).2
    have y25 : (1 : Int32).toInt = 1 := by decide
    have uv24 : (1 : Int) ≤ v24.toInt ∧ v24.toInt ≤ 7 := rv24
    refine lv_istore (lv' := [(4, .int v24), (0, .ref (Z.ad 11 i0)), (1, .ref (Z.ad 1 q1)), (2, .int p2), (3, .ref (Z.ad 25 q3))]) hx hb dX11_passOn_16 hl (by decide) rfl (fun ls hl => ?_)
    refine lv_iload hx hb dX11_passOn_18 (lv_at hl 0 rfl) ?_
    refine lv_aload_n hx hb dX11_passOn_20 rfl (lv_at hl 1 rfl) ?_
    have al26 : Z.al 50 0 := hz.2 50 0 (show 0 < 1 from (by omega))
    refine c_getr (a := Z.ad 50 0) x L 11 i0 1 hal0 rfl rfl (wk_in kf_X11_59) dX11_passOn_21 ?_
    refine c_lenr x L 50 0 al26 rfl (show (2 * Z.n) ≤ 2147483647 from (by omega)) dX11_passOn_24 (fun v27 ev27 => ?_)
    have tv27 : v27.toInt = (((2 * Z.n) : Nat) : Int) := ev27
    have rv27 : rg (4) (8) v27 := ⟨by omega, by omega⟩
    refine lv_icmp_ge (tgt := 51) hx hb dX11_passOn_25 (by decide) (fun c25_28 => ?_) (fun c25_28 => ?_)
    · skip
      have ic25_28 := Int32.le_iff_toInt_le.mp c25_28
      have q29 : rg (4) (7) v27 := (rg_le c25_28 rv27 rv24).1
      have uq29 : (4 : Int) ≤ v27.toInt ∧ v27.toInt ≤ 7 := q29
      have q30 : rg (4) (7) v24 := (rg_le c25_28 rv27 rv24).2
      have uq30 : (4 : Int) ≤ v24.toInt ∧ v24.toInt ≤ 7 := q30
      exact hQ _ _ _ _ _ dX11_passOn_51 L ⟨mFr.rf, hJ, trivial⟩
    · skip
      have ic25_28 := Int32.lt_iff_toInt_lt.mp (rg_nle c25_28)
      refine lv_aload_n hx hb dX11_passOn_28 rfl (lv_at hl 1 rfl) ?_
      refine c_getr (a := Z.ad 50 0) x L 11 i0 1 hal0 rfl rfl (wk_in kf_X11_59) dX11_passOn_29 ?_
      refine lv_iload hx hb dX11_passOn_32 (lv_at hl 0 rfl) ?_
      refine c_ldr (a := Z.ad 3 v24.toInt.toNat) x L 50 0 al26 rfl (by omega) (show v24.toInt < (((2 * Z.n) : Nat) : Int) from (by omega)) rfl dX11_passOn_34 ?_
      have al31 : Z.al 3 v24.toInt.toNat := hz.2 3 v24.toInt.toNat (show v24.toInt.toNat < 2 * Z.n from (by omega))
      refine lv_aload_n hx hb dX11_passOn_35 rfl (lv_at hl 2 rfl) ?_
      refine c_geti x L 1 q1 5 37 hq1 rfl rfl (wk_in kf_X11_216) dX11_passOn_36 (fun v32 ev32 wv32 => ?_)
      have rv32 : rg (-2147483648) (2147483647) v32 := rg_any v32
      have uv32 : (-2147483648 : Int) ≤ v32.toInt ∧ v32.toInt ≤ 2147483647 := rv32
      have sv32 : v32.toInt = (g 37 q1).toInt := congrArg Int32.toInt (ev32.trans (congrFun ((show mFr [67, 108, 544, 576] g g from mFr.rf).at 37 rfl) _))
      refine lv_iconst (v := 4) hx hb dX11_passOn_39 (by decide) ?_
      refine lv_ishl hx hb dX11_passOn_40 ?_
      refine lv_topi (fun v33 ev33 => ?_)
      have rv33 : rg (-2147483648) (2147483647) v33 := rg_any v33
      have uv33 : (-2147483648 : Int) ≤ v33.toInt ∧ v33.toInt ≤ 2147483647 := rv33
      refine lv_iload_n hx hb dX11_passOn_41 rfl (lv_at hl 3 rfl) ?_
      refine lv_bipush (v := 14) hx hb dX11_passOn_42 (by decide) ?_
      refine lv_iand hx hb dX11_passOn_44 ?_
      refine lv_topi (fun v34 ev34 => ?_)
      have rv34 : rg (-2147483648) (2147483647) v34 := rg_any v34
      have uv34 : (-2147483648 : Int) ≤ v34.toInt ∧ v34.toInt ≤ 2147483647 := rv34
      refine lv_ior hx hb dX11_passOn_45 ?_
      refine lv_topi (fun v35 ev35 => ?_)
      have rv35 : rg (-2147483648) (2147483647) v35 := rg_any v35
      have uv35 : (-2147483648 : Int) ≤ v35.toInt ∧ v35.toInt ≤ 2147483647 := rv35
      refine lv_aload_n hx hb dX11_passOn_46 rfl (lv_at hl 4 rfl) ?_
      refine lv_iconst (v := 0) hx hb dX11_passOn_47 (by decide) ?_
      refine c_cv (As := [.int v35, .ref (Z.ad 25 q3), .int (0 : Int32)]) (rest := []) x hml L 3 v24.toInt.toNat al31 rfl (c_kaddData_25 l X g v24.toInt.toNat v35 q3 (0 : Int32) hX (show v24.toInt.toNat < 2 * Z.n from (by omega)) hq3 (rg_w kc_0 rfl)) (wk_V kd_X3_addData kl_X11_219 ki_X3_addData ks_X3_X3_addData kn_X3) rfl ⟨rfl, rfl⟩ hd_kaddData_25 ⟨Nat.le_of_ble_eq_true rfl, Nat.le_of_ble_eq_true rfl⟩ rfl hl.1 rfl (lv_room (Nat.le_of_ble_eq_true rfl)) dX11_passOn_48 (fun  g36 H36 k36 hp36 L36 => ?_)
      exact hQ _ _ _ _ _ dX11_passOn_51 L36 ⟨(mFr.tr mFr.rf hp36.1 rfl), (cJ_fr hJ hp36.1 rfl), trivial⟩
theorem c_kpassOn (l : Launch) {G : cG} {Z : cZ} (X : Int) (g : mSt) (i0 : Nat) (q1 : Nat) (p2 : Int32) (q3 : Nat) (hX : 0 ≤ X ∧ X ≤ 2000000000) (hJ : cJ Z g) (hal0 : Z.al 11 i0) (hq1 : Z.al 1 q1) (hq3 : Z.al 25 q3) : Met l yX11_passOn (wk (Cond.code yX11_passOn cX11_passOn 5 none)) rm_kpassOn (va_Pc [.ref (Z.ad 11 i0), .ref (Z.ad 1 q1), .int p2, .ref (Z.ad 25 q3)] (cPre G Z X g)) (cQv G Z X (fun g1 => mFr [67, 108, 544, 576] g g1 ∧ cJ Z g1 ∧ True)) 0 0 (cAd Z) := by
  refine Met.ofW (cc := cX11_passOn) (maxL := 5) (ret := none) (by decide) rfl ?_
  intro p e s m args below meth c s₁ B hml hv
  obtain ⟨rfl, hv⟩ := hv
  have hr := B.returns
  have hlocks := B.notSynchronized
  obtain ⟨x, L⟩ := c_start B rfl (fun w h => wk_in h) hv
  have hl := lv_entry ([.ref (Z.ad 11 i0), .ref (Z.ad 1 q1), .int p2, .ref (Z.ad 25 q3)]) (n := 5) (Nat.le_of_ble_eq_true rfl)
  rw [lg_entry_eq]
  generalize (lg_sl ([.ref (Z.ad 11 i0), .ref (Z.ad 1 q1), .int p2, .ref (Z.ad 25 q3)]) ++ List.replicate (5 - (lg_sl ([.ref (Z.ad 11 i0), .ref (Z.ad 1 q1), .int p2, .ref (Z.ad 25 q3)])).length) Slot.unset).toArray = ls at hl ⊢
  exact w_kpassOn x hml L hX i0 q1 p2 q3 hJ hal0 hq1 hq3 hl (fun pc' ls' g1 H1 locs1 hdg L hp => c_vret x L hr hlocks (Int.le_refl _) hp hdg)

def rm_kpassOn_N : Room := { frames := 0, cells := 0, slots := 0, locals := 0 }
theorem hd_kpassOn_N : yX11_passOn.cls = cRn 11 ∧ yX11_passOn.cls ≠ "java/lang/invoke/MethodHandle" ∧ yX11_passOn.cls ≠ "java/lang/invoke/VarHandle" ∧ (parseMethodDescriptor yX11_passOn.desc).map (fun d => d.parameters.length) = some 3 := by decide +kernel
set_option maxHeartbeats 4000000 in
set_option maxRecDepth 100000 in
theorem w_kpassOn_N {p : Program} {l : Launch} {e : Env} {s : State} {m : MethodId} {args : Array Value} {below : List Frame} {meth : Method} {c : Code} {H : Heap} {locs : List Loc} {Q : State → Prop} {ls : Array Slot} {G : cG} {Z : cZ} {A : Nat → Prop} {g : mSt} {H0 : Heap} {X : Int} (x : cX p c cX11_passOn s args (wk (Cond.code yX11_passOn cX11_passOn 5 none)) m G Z A RX11 H0) (hml : c.maxLocals = 5) (L : cL G Z A H0 X g H locs) (hX : 0 ≤ X ∧ X ≤ 2000000000) (i0 : Nat) (p2 : Int32) (q3 : Nat) (hal0 : Z.al 11 i0) (hq3 : Z.al 25 q3) (hl : lv_has ls 5 [(0, .ref (Z.ad 11 i0)), (1, .null), (2, .int p2), (3, .ref (Z.ad 25 q3))]) (hQ : ∀ (pc' : Nat) (ls' : Array Slot) (g1 : mSt) (H1 : Heap) (locs1 : List Loc), decode cX11_passOn pc' = .ok (.return_, 1) → cL G Z A H0 X g1 H1 locs1 → (mFr [] g g1 ∧ True) → W p l e rm_kpassOn_N s m args below meth c H1 locs1 0 0 Q (F0 m pc' ls' [])) : W p l e rm_kpassOn_N s m args below meth c H locs 0 0 Q (F0 m 0 ls []) := by
  have hx := x.1
  have hb := x.2.1
  have hz := x.2.2.2.2.2.2.2.1
  have hzn := hz.1
  have up2 : (-2147483648 : Int) ≤ p2.toInt ∧ p2.toInt ≤ 2147483647 := (rg_any p2)
  refine lv_aload_nN hx hb dX11_passOn_0 rfl (lv_at hl 1 rfl) ?_
  refine lv_ifnonnullN hx hb dX11_passOn_1 ?_
  exact hQ _ _ _ _ _ dX11_passOn_4 L ⟨mFr.rf, trivial⟩
theorem c_kpassOn_N (l : Launch) {G : cG} {Z : cZ} (X : Int) (g : mSt) (i0 : Nat) (p2 : Int32) (q3 : Nat) (hX : 0 ≤ X ∧ X ≤ 2000000000) (hal0 : Z.al 11 i0) (hq3 : Z.al 25 q3) : Met l yX11_passOn (wk (Cond.code yX11_passOn cX11_passOn 5 none)) rm_kpassOn_N (va_Pc [.ref (Z.ad 11 i0), .null, .int p2, .ref (Z.ad 25 q3)] (cPre G Z X g)) (cQv G Z X (fun g1 => mFr [] g g1 ∧ True)) 0 0 (cAd Z) := by
  refine Met.ofW (cc := cX11_passOn) (maxL := 5) (ret := none) (by decide) rfl ?_
  intro p e s m args below meth c s₁ B hml hv
  obtain ⟨rfl, hv⟩ := hv
  have hr := B.returns
  have hlocks := B.notSynchronized
  obtain ⟨x, L⟩ := c_start B rfl (fun w h => wk_in h) hv
  have hl := lv_entry ([.ref (Z.ad 11 i0), .null, .int p2, .ref (Z.ad 25 q3)]) (n := 5) (Nat.le_of_ble_eq_true rfl)
  rw [lg_entry_eq]
  generalize (lg_sl ([.ref (Z.ad 11 i0), .null, .int p2, .ref (Z.ad 25 q3)]) ++ List.replicate (5 - (lg_sl ([.ref (Z.ad 11 i0), .null, .int p2, .ref (Z.ad 25 q3)])).length) Slot.unset).toArray = ls at hl ⊢
  exact w_kpassOn_N x hml L hX i0 p2 q3 hal0 hq3 hl (fun pc' ls' g1 H1 locs1 hdg L hp => c_vret x L hr hlocks (Int.le_refl _) hp hdg)
