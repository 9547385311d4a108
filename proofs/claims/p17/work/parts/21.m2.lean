def rm_freeChannel : Room := { frames := 1, cells := 0, slots := 0, locals := 23 }
theorem hd_freeChannel : yX12_freeChannel.cls = RX12 ∧ yX12_freeChannel.cls ≠ "java/lang/invoke/MethodHandle" ∧ yX12_freeChannel.cls ≠ "java/lang/invoke/VarHandle" ∧ (parseMethodDescriptor yX12_freeChannel.desc).map (fun d => d.parameters.length) = some 1 := by decide +kernel
set_option maxHeartbeats 4000000 in
set_option maxRecDepth 100000 in
theorem w_freeChannel {p : Program} {l : Launch} {e : Env} {s : State} {m : MethodId} {args : Array Value} {below : List Frame} {meth : Method} {c : Code} {H : Heap} {locs : List Loc} {Q : State → Prop} {ls : Array Slot} {G : mG} {h0 : Nat} {ad : Nat → Nat} {g : mSt} {H0 : Heap} {nn X : Int} (x : mX p c cX12_freeChannel s args (wm (Cond.code yX12_freeChannel cX12_freeChannel 3 (some .int))) m G h0 ad) (hml : c.maxLocals = 3) (L : mL G h0 ad H0 nn X g H locs) (hnn : 2 ≤ nn ∧ nn ≤ 4) (hX : 0 ≤ X ∧ X ≤ 2000000000) (p1 : Int32) (rp1 : rg (0) (7) p1) (hl : lv_has ls 3 [(0, .ref h0), (1, .int p1)]) (hQ : ∀ (pc' : Nat) (ls' : Array Slot) (r : Int32) (g1 : mSt) (H1 : Heap) (locs1 : List Loc), decode cX12_freeChannel pc' = .ok (.ireturn, 1) → mL G h0 ad H0 nn X g1 H1 locs1 → (mFr [] g g1 ∧ rg (32) (72) r ∧ True) → W p l e rm_freeChannel s m args below meth c H1 locs1 0 0 Q (F0 m pc' ls' [.int r])) : W p l e rm_freeChannel s m args below meth c H locs 0 0 Q (F0 m 0 ls []) := by
  have hx := x.1
  have hb := x.2.1
  have up1 : (0 : Int) ≤ p1.toInt ∧ p1.toInt ≤ 7 := rp1
  refine lv_bipush (v := 32) hx hb dX12_freeChannel_0 (by decide) ?_
  refine lv_istore_n (lv' := [(2, .int (32 : Int32)), (0, .ref h0), (1, .int p1)]) hx hb dX12_freeChannel_2 rfl hl (by decide) rfl (fun ls hl => ?_)
  have j3_2 : ∀ (n : Nat) (a3_2_1 : Int32) (g2 : mSt) (H2 : Heap) (k2 : List Loc) (ls : Array Slot), mFr [] g g2 → mL G h0 ad H0 nn X g2 H2 k2 → rg (32) (72) a3_2_1 → a3_2_1.toInt + (cGe g (40 * p1.toInt) a3_2_1.toInt : Int) ≤ 72 → lv_has ls 3 [(0, .ref h0), (1, .int p1), (2, .int a3_2_1)] → cGe g (40 * p1.toInt) a3_2_1.toInt = n → W p l e rm_freeChannel s m args below meth c H2 k2 0 0 Q (F0 m 3 ls []) := by
    intro n
    induction n using Nat.strongRecOn with
    | _ n ih2 =>
      intro a3_2_1 g2 H2 k2 ls hF2 L2 ra3_2_1 hv2_0 hl hn2
      subst hn2
      have ua3_2_1 : (32 : Int) ≤ a3_2_1.toInt ∧ a3_2_1.toInt ≤ 72 := ra3_2_1
      refine lv_aload_n hx hb dX12_freeChannel_3 rfl (lv_at hl 0 rfl) ?_
      refine lv_iload_n hx hb dX12_freeChannel_4 rfl (lv_at hl 1 rfl) ?_
      refine lv_iload_n hx hb dX12_freeChannel_5 rfl (lv_at hl 2 rfl) ?_
      refine m_ci (As := [.int p1, .int a3_2_1]) (rest := []) x hml L2 (c_channelAt l nn X g2 p1 a3_2_1 hnn hX (rg_w rp1 rfl)) (wm_V uc_channelAt ul_366 ui_channelAt us_channelAt u_init) rfl ⟨rfl, rfl⟩ hd_channelAt ⟨Nat.le_of_ble_eq_true rfl, Nat.le_of_ble_eq_true rfl⟩ rfl hl.1 rfl (lv_room (Nat.le_of_ble_eq_true rfl)) dX12_freeChannel_6 (fun v4 g3 H3 k3 hp3 L3 => ?_)
      have rv4 : rg (-2) (319) v4 := hp3.2.1
      have uv4 : (-2 : Int) ≤ v4.toInt ∧ v4.toInt ≤ 319 := rv4
      have hw5 := hp3.2.2
      rw [(show mFr [] g g2 from (mFr.tr mFr.rf hF2 rfl)).at 71 rfl] at hw5
      refine lv_if_lt (tgt := 18) hx hb dX12_freeChannel_9 (by decide) (fun c9_6 => ?_) (fun c9_6 => ?_)
      · skip
        have ic9_6 := Int32.lt_iff_toInt_lt.mp c9_6
        have q7 : rg (-2) (-1) v4 := (rg_lt c9_6 rv4 kc_0).1
        have uq7 : (-2 : Int) ≤ v4.toInt ∧ v4.toInt ≤ -1 := q7
        refine lv_iload_n hx hb dX12_freeChannel_18 rfl (lv_at hl 2 rfl) ?_
        exact hQ _ _ a3_2_1 _ _ _ dX12_freeChannel_19 L3 ⟨(mFr.tr (mFr.tr mFr.rf hF2 rfl) hp3.1 rfl), rg_w ra3_2_1 rfl, trivial⟩
      · skip
        have ic9_6 := Int32.le_iff_toInt_le.mp (rg_nlt c9_6)
        have q8 : rg (0) (319) v4 := (rg_le (rg_nlt c9_6) kc_0 rv4).2
        have uq8 : (0 : Int) ≤ v4.toInt ∧ v4.toInt ≤ 319 := q8
        have hq1 : cGe g (40 * p1.toInt) (a3_2_1.toInt + 1) < cGe g (40 * p1.toInt) a3_2_1.toInt := by have hz := hw5 (by omega); exact cGe_lt (by omega) hz.2.1 hz.2.2 hz.1 rfl
        have q9 : rg (32) (71) a3_2_1 := ⟨by omega, by omega⟩
        obtain ⟨v10, ev10, fv10⟩ := inc_ex a3_2_1 (1) (1 : Int32) (by decide)
        have rv10 : rg (33) (72) v10 := (rg_add ev10 q9 kc_1 rfl).1
        have tv10 := (rg_add ev10 q9 kc_1 rfl).2
        have yv10 : (1 : Int32).toInt = 1 := by decide
        refine lv_iinc (v := v10) (lv' := [(2, .int v10), (0, .ref h0), (1, .int p1)]) hx hb dX12_freeChannel_12 hl (k := 2) rfl fv10 (by decide) rfl (fun ls hl => ?_)
        refine lv_goto (tgt := 3) hx hb dX12_freeChannel_15 (by decide) ?_
        have hdv10 : cGe g (40 * p1.toInt) v10.toInt < cGe g (40 * p1.toInt) a3_2_1.toInt := by have hz := hw5 (by omega); exact cGe_lt (by omega) hz.2.1 hz.2.2 hz.1 (by omega)
        exact ih2 _ (by omega) v10 g3 _ _ ls (mFr.tr hF2 hp3.1 rfl) L3 (rg_w rv10 rfl) (by omega) (lv_sub hl [1, 2, 0] rfl) rfl
  have y11 : (32 : Int32).toInt = 32 := by decide
  have hc0 := cGe_le g (40 * p1.toInt) (32 : Int32).toInt
  exact j3_2 _ (32 : Int32) g _ _ ls mFr.rf L (rg_w kc_32 rfl) (by omega) (lv_sub hl [1, 2, 0] rfl) rfl
theorem c_freeChannel (l : Launch) {G : mG} {h0 : Nat} {ad : Nat → Nat} (nn X : Int) (g : mSt) (p1 : Int32) (hnn : 2 ≤ nn ∧ nn ≤ 4) (hX : 0 ≤ X ∧ X ≤ 2000000000) (rp1 : rg (0) (7) p1) : Met l yX12_freeChannel (wm (Cond.code yX12_freeChannel cX12_freeChannel 3 (some .int))) rm_freeChannel (va_Pc [.ref h0, .int p1] (mPre G h0 ad nn X g)) (mQi G h0 ad nn X (fun r g1 => mFr [] g g1 ∧ rg (32) (72) r ∧ True)) 0 0 (mA h0 ad) := by
  refine Met.ofW (cc := cX12_freeChannel) (maxL := 3) (ret := (some .int)) (by decide) rfl ?_
  intro p e s m args below meth c s₁ B hml hv
  obtain ⟨rfl, hv⟩ := hv
  have hr := B.returns
  have hlocks := B.notSynchronized
  obtain ⟨x, L⟩ := m_start B rfl wm_X hv
  have hl := lv_entry ([.ref h0, .int p1]) (n := 3) (Nat.le_of_ble_eq_true rfl)
  rw [lg_entry_eq]
  generalize (lg_sl ([.ref h0, .int p1]) ++ List.replicate (3 - (lg_sl ([.ref h0, .int p1])).length) Slot.unset).toArray = ls at hl ⊢
  exact w_freeChannel x hml L hnn hX p1 rp1 hl (fun pc' ls' r g1 H1 locs1 hdg L hp => m_iret x L hr hlocks (Int.le_refl _) hp hdg)

def rm_found : Room := { frames := 0, cells := 0, slots := 0, locals := 0 }
theorem hd_found : yX12_found.cls = RX12 ∧ yX12_found.cls ≠ "java/lang/invoke/MethodHandle" ∧ yX12_found.cls ≠ "java/lang/invoke/VarHandle" ∧ (parseMethodDescriptor yX12_found.desc).map (fun d => d.parameters.length) = some 2 := by decide +kernel
set_option maxHeartbeats 4000000 in
set_option maxRecDepth 100000 in
theorem w_found {p : Program} {l : Launch} {e : Env} {s : State} {m : MethodId} {args : Array Value} {below : List Frame} {meth : Method} {c : Code} {H : Heap} {locs : List Loc} {Q : State → Prop} {ls : Array Slot} {G : mG} {h0 : Nat} {ad : Nat → Nat} {g : mSt} {H0 : Heap} {nn X : Int} (x : mX p c cX12_found s args (wm (Cond.code yX12_found cX12_found 5 (some .int))) m G h0 ad) (hml : c.maxLocals = 5) (L : mL G h0 ad H0 nn X g H locs) (hnn : 2 ≤ nn ∧ nn ≤ 4) (hX : 0 ≤ X ∧ X ≤ 2000000000) (p1 : Int32) (p2 : Int32) (rp2 : rg (0) (60) p2) (hch : ∃ n, ch g p2.toInt n 9) (hl : lv_has ls 5 [(0, .ref h0), (1, .int p1), (2, .int p2)]) (hQ : ∀ (pc' : Nat) (ls' : Array Slot) (r : Int32) (g1 : mSt) (H1 : Heap) (locs1 : List Loc), decode cX12_found pc' = .ok (.ireturn, 1) → mL G h0 ad H0 nn X g1 H1 locs1 → (mFr [] g g1 ∧ rg (-2147483648) (2147483647) r ∧ True) → W p l e rm_found s m args below meth c H1 locs1 0 0 Q (F0 m pc' ls' [.int r])) : W p l e rm_found s m args below meth c H locs 0 0 Q (F0 m 0 ls []) := by
  have hx := x.1
  have hb := x.2.1
  have up1 : (-2147483648 : Int) ≤ p1.toInt ∧ p1.toInt ≤ 2147483647 := (rg_any p1)
  have up2 : (0 : Int) ≤ p2.toInt ∧ p2.toInt ≤ 60 := rp2
  refine lv_bipush (v := 9) hx hb dX12_found_0 (by decide) ?_
  refine lv_istore_n (lv' := [(3, .int (9 : Int32)), (0, .ref h0), (1, .int p1), (2, .int p2)]) hx hb dX12_found_2 rfl hl (by decide) rfl (fun ls hl => ?_)
  have j3_2 : ∀ (n : Nat) (a3_3_1 : Int32) (g2 : mSt) (H2 : Heap) (k2 : List Loc) (ls : Array Slot), mFr [] g g2 → mL G h0 ad H0 nn X g2 H2 k2 → rg (9) (63) a3_3_1 → (∃ n, ch g p2.toInt n a3_3_1.toInt) → lv_has ls 5 [(0, .ref h0), (1, .int p1), (2, .int p2), (3, .int a3_3_1)] → (100 - a3_3_1.toInt).toNat = n → W p l e rm_found s m args below meth c H2 k2 0 0 Q (F0 m 3 ls []) := by
    intro n
    induction n using Nat.strongRecOn with
    | _ n ih2 =>
      intro a3_3_1 g2 H2 k2 ls hF2 L2 ra3_3_1 hv2_0 hl hn2
      subst hn2
      have ua3_3_1 : (9 : Int) ≤ a3_3_1.toInt ∧ a3_3_1.toInt ≤ 63 := ra3_3_1
      refine lv_iload_n hx hb dX12_found_3 rfl (lv_at hl 3 rfl) ?_
      refine lv_iconst (v := 4) hx hb dX12_found_4 (by decide) ?_
      refine lv_iadd hx hb dX12_found_5 ?_
      refine lv_topi (fun v3 ev3 => ?_)
      have rv3 : rg (13) (67) v3 := (rg_add ev3 ra3_3_1 kc_4 rfl).1
      have dv3 := (rg_add ev3 ra3_3_1 kc_4 rfl).2
      have tv3 := (rg_add ev3 ra3_3_1 kc_4 rfl).2
      have y4 : (4 : Int32).toInt = 4 := by decide
      have uv3 : (13 : Int) ≤ v3.toInt ∧ v3.toInt ≤ 67 := rv3
      refine lv_iload_n hx hb dX12_found_6 rfl (lv_at hl 2 rfl) ?_
      refine lv_icmp_gt (tgt := 100) hx hb dX12_found_7 (by decide) (fun c7_5 => ?_) (fun c7_5 => ?_)
      · skip
        have ic7_5 := Int32.lt_iff_toInt_lt.mp c7_5
        refine lv_bipush (v := (-2)) hx hb dX12_found_100 (by decide) ?_
        exact hQ _ _ (-2 : Int32) _ _ _ dX12_found_102 L2 ⟨(mFr.tr mFr.rf hF2 rfl), rg_w kc_m2 rfl, trivial⟩
      · skip
        have ic7_5 := Int32.le_iff_toInt_le.mp (rg_nlt c7_5)
        have q6 : rg (13) (60) v3 := (rg_le (rg_nlt c7_5) rv3 rp2).1
        have uq6 : (13 : Int) ≤ v3.toInt ∧ v3.toInt ≤ 60 := q6
        have q7 : rg (9) (56) a3_3_1 := rg_back dv3 kc_4 q6
        have q8 : rg (13) (60) p2 := (rg_le (rg_nlt c7_5) rv3 rp2).2
        have uq8 : (13 : Int) ≤ p2.toInt ∧ p2.toInt ≤ 60 := q8
        refine lv_aload_n hx hb dX12_found_10 rfl (lv_at hl 0 rfl) ?_
        refine m_geta x L2 33 rfl rfl (wm_in uf_89) dX12_found_11 ?_
        refine lv_iload_n hx hb dX12_found_14 rfl (lv_at hl 3 rfl) ?_
        refine lv_iconst (v := 2) hx hb dX12_found_15 (by decide) ?_
        refine lv_iadd hx hb dX12_found_16 ?_
        refine lv_topi (fun v9 ev9 => ?_)
        have rv9 : rg (11) (58) v9 := (rg_add ev9 q7 kc_2 rfl).1
        have dv9 := (rg_add ev9 q7 kc_2 rfl).2
        have tv9 := (rg_add ev9 q7 kc_2 rfl).2
        have y10 : (2 : Int32).toInt = 2 := by decide
        have uv9 : (11 : Int) ≤ v9.toInt ∧ v9.toInt ≤ 58 := rv9
        refine m_ld x L2 33 rfl rv9 rfl dX12_found_17 (fun v11 ev11 wv11 => ?_)
        have rv11 : rg (-2147483648) (2147483647) v11 := lj_33 wv11
        have uv11 : (-2147483648 : Int) ≤ v11.toInt ∧ v11.toInt ≤ 2147483647 := rv11
        have xv11 : wI g (a3_3_1.toInt + 2) = v11.toInt := wI_at (ev11.trans (congrFun ((show mFr [] g g2 from (mFr.tr mFr.rf hF2 rfl)).at 33 rfl) _)) (by have := dv9; have : (2 : Int32).toInt = 2 := (by decide); omega)
        have sv11 : v11.toInt = (g 33 v9.toNatClampNeg).toInt := congrArg Int32.toInt (ev11.trans (congrFun ((show mFr [] g g2 from (mFr.tr mFr.rf hF2 rfl)).at 33 rfl) _))
        refine lv_bipush (v := 8) hx hb dX12_found_18 (by decide) ?_
        refine lv_ishl hx hb dX12_found_20 ?_
        refine lv_topi (fun v12 ev12 => ?_)
        have rv12 : rg (-2147483648) (2147483647) v12 := rg_any v12
        have uv12 : (-2147483648 : Int) ≤ v12.toInt ∧ v12.toInt ≤ 2147483647 := rv12
        refine lv_aload_n hx hb dX12_found_21 rfl (lv_at hl 0 rfl) ?_
        refine m_geta x L2 33 rfl rfl (wm_in uf_89) dX12_found_22 ?_
        refine lv_iload_n hx hb dX12_found_25 rfl (lv_at hl 3 rfl) ?_
        refine lv_iconst (v := 3) hx hb dX12_found_26 (by decide) ?_
        refine lv_iadd hx hb dX12_found_27 ?_
        refine lv_topi (fun v13 ev13 => ?_)
        have rv13 : rg (12) (59) v13 := (rg_add ev13 q7 kc_3 rfl).1
        have dv13 := (rg_add ev13 q7 kc_3 rfl).2
        have tv13 := (rg_add ev13 q7 kc_3 rfl).2
        have y14 : (3 : Int32).toInt = 3 := by decide
        have uv13 : (12 : Int) ≤ v13.toInt ∧ v13.toInt ≤ 59 := rv13
        refine m_ld x L2 33 rfl rv13 rfl dX12_found_28 (fun v15 ev15 wv15 => ?_)
        have rv15 : rg (-2147483648) (2147483647) v15 := lj_33 wv15
        have uv15 : (-2147483648 : Int) ≤ v15.toInt ∧ v15.toInt ≤ 2147483647 := rv15
        have xv15 : wI g (a3_3_1.toInt + 3) = v15.toInt := wI_at (ev15.trans (congrFun ((show mFr [] g g2 from (mFr.tr mFr.rf hF2 rfl)).at 33 rfl) _)) (by have := dv13; have : (3 : Int32).toInt = 3 := (by decide); omega)
        have sv15 : v15.toInt = (g 33 v13.toNatClampNeg).toInt := congrArg Int32.toInt (ev15.trans (congrFun ((show mFr [] g g2 from (mFr.tr mFr.rf hF2 rfl)).at 33 rfl) _))
        refine lv_ior hx hb dX12_found_29 ?_
        refine lv_topi (fun v16 ev16 => ?_)
        have rv16 : rg (-2147483648) (2147483647) v16 := rg_any v16
        have hlv16 := ch_len (g := g) (z := p2.toInt) (a := a3_3_1.toInt) hv2_0 (by omega) xv11 xv15 ev12 ev16
        have q17 : rg (1) (2) v16 := hlv16.1
        have uv16 : (1 : Int) ≤ v16.toInt ∧ v16.toInt ≤ 2 := q17
        refine lv_istore (lv' := [(4, .int v16), (0, .ref h0), (1, .int p1), (2, .int p2), (3, .int a3_3_1)]) hx hb dX12_found_30 hl (by decide) rfl (fun ls hl => ?_)
        refine lv_aload_n hx hb dX12_found_32 rfl (lv_at hl 1 rfl) ?_
        refine m_geta x L2 33 rfl rfl (wm_in uf_89) dX12_found_33 ?_
        refine lv_iload_n hx hb dX12_found_36 rfl (lv_at hl 4 rfl) ?_
        refine m_ld x L2 33 rfl q7 rfl dX12_found_37 (fun v18 ev18 wv18 => ?_)
        have rv18 : rg (-2147483648) (2147483647) v18 := lj_33 wv18
        have uv18 : (-2147483648 : Int) ≤ v18.toInt ∧ v18.toInt ≤ 2147483647 := rv18
        have xv18 : wI g (a3_3_1.toInt) = v18.toInt := wI_at (ev18.trans (congrFun ((show mFr [] g g2 from (mFr.tr mFr.rf hF2 rfl)).at 33 rfl) _)) rfl
        have sv18 : v18.toInt = (g 33 a3_3_1.toNatClampNeg).toInt := congrArg Int32.toInt (ev18.trans (congrFun ((show mFr [] g g2 from (mFr.tr mFr.rf hF2 rfl)).at 33 rfl) _))
        refine lv_iload_n hx hb dX12_found_38 rfl (lv_at hl 2 rfl) ?_
        have j90_19 : ∀ (g19 : mSt) (H19 : Heap) (k19 : List Loc) (ls : Array Slot), mFr [] g2 g19 → mL G h0 ad H0 nn X g19 H19 k19 → lv_has ls 5 [(0, .ref h0), (1, .int p1), (2, .int p2), (3, .int a3_3_1), (4, .int v16)] → W p l e rm_found s m args below meth c H19 k19 0 0 Q (F0 m 90 ls []) := by
          intro  g19 H19 k19 ls hF19 L19  hl
          refine lv_iload_n hx hb dX12_found_90 rfl (lv_at hl 3 rfl) ?_
          refine lv_iconst (v := 4) hx hb dX12_found_91 (by decide) ?_
          refine lv_iload hx hb dX12_found_92 (lv_at hl 4 rfl) ?_
          refine lv_iadd hx hb dX12_found_94 ?_
          refine lv_topi (fun v20 ev20 => ?_)
          have rv20 : rg (5) (6) v20 := (rg_add ev20 kc_4 q17 rfl).1
          have tv20 := (rg_add ev20 kc_4 q17 rfl).2
          have y21 : (4 : Int32).toInt = 4 := by decide
          have uv20 : (5 : Int) ≤ v20.toInt ∧ v20.toInt ≤ 6 := rv20
          refine lv_iadd hx hb dX12_found_95 ?_
          refine lv_topi (fun v22 ev22 => ?_)
          have rv22 : rg (14) (62) v22 := (rg_add ev22 q7 rv20 rfl).1
          have tv22 := (rg_add ev22 q7 rv20 rfl).2
          have uv22 : (14 : Int) ≤ v22.toInt ∧ v22.toInt ≤ 62 := rv22
          refine lv_istore_n (lv' := [(3, .int v22), (0, .ref h0), (1, .int p1), (2, .int p2), (4, .int v16)]) hx hb dX12_found_96 rfl hl (by decide) rfl (fun ls hl => ?_)
          refine lv_goto (tgt := 3) hx hb dX12_found_97 (by decide) ?_
          exact ih2 _ (by omega) v22 g19 _ _ ls (mFr.tr hF2 hF19 rfl) L19 (rg_w rv22 rfl) (by rw [show v22.toInt = a3_3_1.toInt + 4 + v16.toInt from by omega]; exact hlv16.2) (lv_sub hl [1, 2, 3, 0] rfl) rfl
        refine lv_icmp_ne (tgt := 90) hx hb dX12_found_39 (by decide) (fun c39_23 => ?_) (fun c39_23 => ?_)
        · skip
          have ic39_23 : v18.toInt ≠ p1.toInt := fun z => c39_23 (Int32.toInt_inj.mp z)
          exact j90_19  g2 _ _ ls mFr.rf L2  (lv_sub hl [1, 2, 3, 4, 0] rfl)
        · skip
          have ic39_23 := congrArg Int32.toInt c39_23
          refine lv_iload_n hx hb dX12_found_42 rfl (lv_at hl 4 rfl) ?_
          refine lv_iconst (v := 4) hx hb dX12_found_43 (by decide) ?_
          refine lv_iadd hx hb dX12_found_44 ?_
          refine m_top ev3 ?_
          refine lv_iload hx hb dX12_found_45 (lv_at hl 0 rfl) ?_
          refine lv_iadd hx hb dX12_found_47 ?_
          refine lv_topi (fun v24 ev24 => ?_)
          have rv24 : rg (14) (62) v24 := (rg_add ev24 q6 q17 rfl).1
          have tv24 := (rg_add ev24 q6 q17 rfl).2
          have uv24 : (14 : Int) ≤ v24.toInt ∧ v24.toInt ≤ 62 := rv24
          refine lv_iload_n hx hb dX12_found_48 rfl (lv_at hl 3 rfl) ?_
          refine lv_icmp_gt (tgt := 90) hx hb dX12_found_49 (by decide) (fun c49_25 => ?_) (fun c49_25 => ?_)
          · skip
            have ic49_25 := Int32.lt_iff_toInt_lt.mp c49_25
            exact j90_19  g2 _ _ ls mFr.rf L2  (lv_sub hl [1, 2, 3, 4, 0] rfl)
          · skip
            have ic49_25 := Int32.le_iff_toInt_le.mp (rg_nlt c49_25)
            have q26 : rg (14) (60) v24 := (rg_le (rg_nlt c49_25) rv24 q8).1
            have uq26 : (14 : Int) ≤ v24.toInt ∧ v24.toInt ≤ 60 := q26
            have q27 : rg (14) (60) p2 := (rg_le (rg_nlt c49_25) rv24 q8).2
            have uq27 : (14 : Int) ≤ p2.toInt ∧ p2.toInt ≤ 60 := q27
            refine lv_iload hx hb dX12_found_52 (lv_at hl 0 rfl) ?_
            refine lv_iconst (v := 2) hx hb dX12_found_54 (by decide) ?_
            refine lv_icmp_ne (tgt := 81) hx hb dX12_found_55 (by decide) (fun c55_28 => ?_) (fun c55_28 => ?_)
            · skip
              have ic55_28 : v16.toInt ≠ (2 : Int32).toInt := fun z => c55_28 (Int32.toInt_inj.mp z)
              have y29 : (2 : Int32).toInt = 2 := by decide
              have q30 : rg (1) (1) v16 := rg_neH c55_28 q17 kc_2
              have uq30 : (1 : Int) ≤ v16.toInt ∧ v16.toInt ≤ 1 := q30
              refine lv_aload_n hx hb dX12_found_81 rfl (lv_at hl 1 rfl) ?_
              refine m_geta x L2 33 rfl rfl (wm_in uf_89) dX12_found_82 ?_
              refine lv_iload_n hx hb dX12_found_85 rfl (lv_at hl 4 rfl) ?_
              refine lv_iconst (v := 4) hx hb dX12_found_86 (by decide) ?_
              refine lv_iadd hx hb dX12_found_87 ?_
              refine m_top ev3 ?_
              refine m_ld x L2 33 rfl q6 rfl dX12_found_88 (fun v31 ev31 wv31 => ?_)
              have rv31 : rg (-2147483648) (2147483647) v31 := lj_33 wv31
              have uv31 : (-2147483648 : Int) ≤ v31.toInt ∧ v31.toInt ≤ 2147483647 := rv31
              have xv31 : wI g (a3_3_1.toInt + 4) = v31.toInt := wI_at (ev31.trans (congrFun ((show mFr [] g g2 from (mFr.tr mFr.rf hF2 rfl)).at 33 rfl) _)) (by have := dv3; have : (4 : Int32).toInt = 4 := (by decide); omega)
              have sv31 : v31.toInt = (g 33 v3.toNatClampNeg).toInt := congrArg Int32.toInt (ev31.trans (congrFun ((show mFr [] g g2 from (mFr.tr mFr.rf hF2 rfl)).at 33 rfl) _))
              exact hQ _ _ v31 _ _ _ dX12_found_89 L2 ⟨(mFr.tr mFr.rf hF2 rfl), rg_w rv31 rfl, trivial⟩
            · skip
              have ic55_28 := congrArg Int32.toInt c55_28
              have y32 : (2 : Int32).toInt = 2 := by decide
              have q33 : rg (2) (2) v16 := (rg_eq c55_28 q17 kc_2).1
              have uq33 : (2 : Int) ≤ v16.toInt ∧ v16.toInt ≤ 2 := q33
              refine lv_aload_n hx hb dX12_found_58 rfl (lv_at hl 1 rfl) ?_
              refine m_geta x L2 33 rfl rfl (wm_in uf_89) dX12_found_59 ?_
              refine lv_iload_n hx hb dX12_found_62 rfl (lv_at hl 4 rfl) ?_
              refine lv_iconst (v := 4) hx hb dX12_found_63 (by decide) ?_
              refine lv_iadd hx hb dX12_found_64 ?_
              refine m_top ev3 ?_
              refine m_ld x L2 33 rfl q6 rfl dX12_found_65 (fun v34 ev34 wv34 => ?_)
              have rv34 : rg (-2147483648) (2147483647) v34 := lj_33 wv34
              have uv34 : (-2147483648 : Int) ≤ v34.toInt ∧ v34.toInt ≤ 2147483647 := rv34
              have xv34 : wI g (a3_3_1.toInt + 4) = v34.toInt := wI_at (ev34.trans (congrFun ((show mFr [] g g2 from (mFr.tr mFr.rf hF2 rfl)).at 33 rfl) _)) (by have := dv3; have : (4 : Int32).toInt = 4 := (by decide); omega)
              have sv34 : v34.toInt = (g 33 v3.toNatClampNeg).toInt := congrArg Int32.toInt (ev34.trans (congrFun ((show mFr [] g g2 from (mFr.tr mFr.rf hF2 rfl)).at 33 rfl) _))
              refine lv_bipush (v := 8) hx hb dX12_found_66 (by decide) ?_
              refine lv_ishl hx hb dX12_found_68 ?_
              refine lv_topi (fun v35 ev35 => ?_)
              have rv35 : rg (-2147483648) (2147483647) v35 := rg_any v35
              have uv35 : (-2147483648 : Int) ≤ v35.toInt ∧ v35.toInt ≤ 2147483647 := rv35
              refine lv_aload_n hx hb dX12_found_69 rfl (lv_at hl 1 rfl) ?_
              refine m_geta x L2 33 rfl rfl (wm_in uf_89) dX12_found_70 ?_
              refine lv_iload_n hx hb dX12_found_73 rfl (lv_at hl 4 rfl) ?_
              refine lv_iconst (v := 5) hx hb dX12_found_74 (by decide) ?_
              refine lv_iadd hx hb dX12_found_75 ?_
              refine lv_topi (fun v36 ev36 => ?_)
              have rv36 : rg (14) (61) v36 := (rg_add ev36 q7 kc_5 rfl).1
              have dv36 := (rg_add ev36 q7 kc_5 rfl).2
              have tv36 := (rg_add ev36 q7 kc_5 rfl).2
              have y37 : (5 : Int32).toInt = 5 := by decide
              have uv36 : (14 : Int) ≤ v36.toInt ∧ v36.toInt ≤ 61 := rv36
              refine m_ld x L2 33 rfl rv36 rfl dX12_found_76 (fun v38 ev38 wv38 => ?_)
              have rv38 : rg (-2147483648) (2147483647) v38 := lj_33 wv38
              have uv38 : (-2147483648 : Int) ≤ v38.toInt ∧ v38.toInt ≤ 2147483647 := rv38
              have xv38 : wI g (a3_3_1.toInt + 5) = v38.toInt := wI_at (ev38.trans (congrFun ((show mFr [] g g2 from (mFr.tr mFr.rf hF2 rfl)).at 33 rfl) _)) (by have := dv36; have : (5 : Int32).toInt = 5 := (by decide); omega)
              have sv38 : v38.toInt = (g 33 v36.toNatClampNeg).toInt := congrArg Int32.toInt (ev38.trans (congrFun ((show mFr [] g g2 from (mFr.tr mFr.rf hF2 rfl)).at 33 rfl) _))
              refine lv_ior hx hb dX12_found_77 ?_
              refine lv_topi (fun v39 ev39 => ?_)
              have rv39 : rg (-2147483648) (2147483647) v39 := rg_any v39
              have uv39 : (-2147483648 : Int) ≤ v39.toInt ∧ v39.toInt ≤ 2147483647 := rv39
              refine lv_goto (tgt := 89) hx hb dX12_found_78 (by decide) ?_
              exact hQ _ _ v39 _ _ _ dX12_found_89 L2 ⟨(mFr.tr mFr.rf hF2 rfl), rg_w rv39 rfl, trivial⟩
  have y40 : (9 : Int32).toInt = 9 := by decide
  exact j3_2 _ (9 : Int32) g _ _ ls mFr.rf L (rg_w kc_9 rfl) (by have : (9 : Int32).toInt = 9 := (by decide); rw [this]; exact hch) (lv_sub hl [1, 2, 3, 0] rfl) rfl
theorem c_found (l : Launch) {G : mG} {h0 : Nat} {ad : Nat → Nat} (nn X : Int) (g : mSt) (p1 : Int32) (p2 : Int32) (hnn : 2 ≤ nn ∧ nn ≤ 4) (hX : 0 ≤ X ∧ X ≤ 2000000000) (rp2 : rg (0) (60) p2) (hch : ∃ n, ch g p2.toInt n 9) : Met l yX12_found (wm (Cond.code yX12_found cX12_found 5 (some .int))) rm_found (va_Pc [.ref h0, .int p1, .int p2] (mPre G h0 ad nn X g)) (mQi G h0 ad nn X (fun r g1 => mFr [] g g1 ∧ rg (-2147483648) (2147483647) r ∧ True)) 0 0 (mA h0 ad) := by
  refine Met.ofW (cc := cX12_found) (maxL := 5) (ret := (some .int)) (by decide) rfl ?_
  intro p e s m args below meth c s₁ B hml hv
  obtain ⟨rfl, hv⟩ := hv
  have hr := B.returns
  have hlocks := B.notSynchronized
  obtain ⟨x, L⟩ := m_start B rfl wm_X hv
  have hl := lv_entry ([.ref h0, .int p1, .int p2]) (n := 5) (Nat.le_of_ble_eq_true rfl)
  rw [lg_entry_eq]
  generalize (lg_sl ([.ref h0, .int p1, .int p2]) ++ List.replicate (5 - (lg_sl ([.ref h0, .int p1, .int p2])).length) Slot.unset).toArray = ls at hl ⊢
  exact w_found x hml L hnn hX p1 p2 rp2 hch hl (fun pc' ls' r g1 H1 locs1 hdg L hp => m_iret x L hr hlocks (Int.le_refl _) hp hdg)

def rm_isFormed : Room := { frames := 1, cells := 0, slots := 0, locals := 25 }
theorem hd_isFormed : yX12_isFormed.cls = RX12 ∧ yX12_isFormed.cls ≠ "java/lang/invoke/MethodHandle" ∧ yX12_isFormed.cls ≠ "java/lang/invoke/VarHandle" ∧ (parseMethodDescriptor yX12_isFormed.desc).map (fun d => d.parameters.length) = some 2 := by decide +kernel
set_option maxHeartbeats 4000000 in
set_option maxRecDepth 100000 in
theorem w_isFormed {p : Program} {l : Launch} {e : Env} {s : State} {m : MethodId} {args : Array Value} {below : List Frame} {meth : Method} {c : Code} {H : Heap} {locs : List Loc} {Q : State → Prop} {ls : Array Slot} {G : mG} {h0 : Nat} {ad : Nat → Nat} {g : mSt} {H0 : Heap} {nn X : Int} (x : mX p c cX12_isFormed s args (wm (Cond.code yX12_isFormed cX12_isFormed 4 (some .boolean))) m G h0 ad) (hml : c.maxLocals = 4) (L : mL G h0 ad H0 nn X g H locs) (hnn : 2 ≤ nn ∧ nn ≤ 4) (hX : 0 ≤ X ∧ X ≤ 2000000000) (p1 : Int32) (p2 : Int32) (rp1 : rg (0) (60) p1) (rp2 : rg (0) (1) p2) (hl : lv_has ls 4 [(0, .ref h0), (1, .int p1), (2, .int p2)]) (hQ : ∀ (pc' : Nat) (ls' : Array Slot) (r : Int32) (g1 : mSt) (H1 : Heap) (locs1 : List Loc), decode cX12_isFormed pc' = .ok (.ireturn, 1) → mL G h0 ad H0 nn X g1 H1 locs1 → (mFr [] g g1 ∧ rg (0) (1) r ∧ (1 ≤ r.toInt → ∃ n, ch g p1.toInt n 9)) → W p l e rm_isFormed s m args below meth c H1 locs1 0 0 Q (F0 m pc' ls' [.int r])) : W p l e rm_isFormed s m args below meth c H locs 0 0 Q (F0 m 0 ls []) := by
  have hx := x.1
  have hb := x.2.1
  have up1 : (0 : Int) ≤ p1.toInt ∧ p1.toInt ≤ 60 := rp1
  have up2 : (0 : Int) ≤ p2.toInt ∧ p2.toInt ≤ 1 := rp2
  refine lv_iload_n hx hb dX12_isFormed_0 rfl (lv_at hl 1 rfl) ?_
  refine lv_bipush (v := 9) hx hb dX12_isFormed_1 (by decide) ?_
  refine lv_icmp_lt (tgt := 65) hx hb dX12_isFormed_3 (by decide) (fun c3_1 => ?_) (fun c3_1 => ?_)
  · skip
    have ic3_1 := Int32.lt_iff_toInt_lt.mp c3_1
    have q2 : rg (0) (8) p1 := (rg_lt c3_1 rp1 kc_9).1
    have uq2 : (0 : Int) ≤ p1.toInt ∧ p1.toInt ≤ 8 := q2
    refine lv_iconst (v := 0) hx hb dX12_isFormed_65 (by decide) ?_
    exact hQ _ _ (0 : Int32) _ _ _ dX12_isFormed_66 L ⟨mFr.rf, rg_w kc_0 rfl, (by have : (0 : Int32).toInt = 0 := (by decide); omega)⟩
  · skip
    have ic3_1 := Int32.le_iff_toInt_le.mp (rg_nlt c3_1)
    have q3 : rg (9) (60) p1 := (rg_le (rg_nlt c3_1) kc_9 rp1).2
    have uq3 : (9 : Int) ≤ p1.toInt ∧ p1.toInt ≤ 60 := q3
    refine lv_aload_n hx hb dX12_isFormed_6 rfl (lv_at hl 0 rfl) ?_
    refine m_geta x L 33 rfl rfl (wm_in uf_89) dX12_isFormed_7 ?_
    refine lv_iconst (v := 0) hx hb dX12_isFormed_10 (by decide) ?_
    refine m_ld x L 33 rfl kc_0 rfl dX12_isFormed_11 (fun v4 ev4 wv4 => ?_)
    have rv4 : rg (-2147483648) (2147483647) v4 := lj_33 wv4
    have uv4 : (-2147483648 : Int) ≤ v4.toInt ∧ v4.toInt ≤ 2147483647 := rv4
    have sv4 : v4.toInt = (g 33 (0 : Int32).toNatClampNeg).toInt := congrArg Int32.toInt (ev4.trans (congrFun ((show mFr [] g g from mFr.rf).at 33 rfl) _))
    refine lv_bipush (v := 9) hx hb dX12_isFormed_12 (by decide) ?_
    refine lv_icmp_ne (tgt := 65) hx hb dX12_isFormed_14 (by decide) (fun c14_5 => ?_) (fun c14_5 => ?_)
    · skip
      have ic14_5 : v4.toInt ≠ (9 : Int32).toInt := fun z => c14_5 (Int32.toInt_inj.mp z)
      have y6 : (9 : Int32).toInt = 9 := by decide
      refine lv_iconst (v := 0) hx hb dX12_isFormed_65 (by decide) ?_
      exact hQ _ _ (0 : Int32) _ _ _ dX12_isFormed_66 L ⟨mFr.rf, rg_w kc_0 rfl, (by have : (0 : Int32).toInt = 0 := (by decide); omega)⟩
    · skip
      have ic14_5 := congrArg Int32.toInt c14_5
      have y7 : (9 : Int32).toInt = 9 := by decide
      have q8 : rg (9) (9) v4 := (rg_eq c14_5 rv4 kc_9).1
      have uq8 : (9 : Int) ≤ v4.toInt ∧ v4.toInt ≤ 9 := q8
      refine lv_aload_n hx hb dX12_isFormed_17 rfl (lv_at hl 0 rfl) ?_
      refine m_geta x L 33 rfl rfl (wm_in uf_89) dX12_isFormed_18 ?_
      refine lv_iconst (v := 1) hx hb dX12_isFormed_21 (by decide) ?_
      refine m_ld x L 33 rfl kc_1 rfl dX12_isFormed_22 (fun v9 ev9 wv9 => ?_)
      have rv9 : rg (-2147483648) (2147483647) v9 := lj_33 wv9
      have uv9 : (-2147483648 : Int) ≤ v9.toInt ∧ v9.toInt ≤ 2147483647 := rv9
      have sv9 : v9.toInt = (g 33 (1 : Int32).toNatClampNeg).toInt := congrArg Int32.toInt (ev9.trans (congrFun ((show mFr [] g g from mFr.rf).at 33 rfl) _))
      refine lv_iconst (v := 3) hx hb dX12_isFormed_23 (by decide) ?_
      refine lv_icmp_ne (tgt := 65) hx hb dX12_isFormed_24 (by decide) (fun c24_10 => ?_) (fun c24_10 => ?_)
      · skip
        have ic24_10 : v9.toInt ≠ (3 : Int32).toInt := fun z => c24_10 (Int32.toInt_inj.mp z)
        have y11 : (3 : Int32).toInt = 3 := by decide
        refine lv_iconst (v := 0) hx hb dX12_isFormed_65 (by decide) ?_
        exact hQ _ _ (0 : Int32) _ _ _ dX12_isFormed_66 L ⟨mFr.rf, rg_w kc_0 rfl, (by have : (0 : Int32).toInt = 0 := (by decide); omega)⟩
      · skip
        have ic24_10 := congrArg Int32.toInt c24_10
        have y12 : (3 : Int32).toInt = 3 := by decide
        have q13 : rg (3) (3) v9 := (rg_eq c24_10 rv9 kc_3).1
        have uq13 : (3 : Int) ≤ v9.toInt ∧ v9.toInt ≤ 3 := q13
        refine lv_aload_n hx hb dX12_isFormed_27 rfl (lv_at hl 0 rfl) ?_
        refine m_geta x L 33 rfl rfl (wm_in uf_89) dX12_isFormed_28 ?_
        refine lv_bipush (v := 6) hx hb dX12_isFormed_31 (by decide) ?_
        refine m_ld x L 33 rfl kc_6 rfl dX12_isFormed_33 (fun v14 ev14 wv14 => ?_)
        have rv14 : rg (-2147483648) (2147483647) v14 := lj_33 wv14
        have uv14 : (-2147483648 : Int) ≤ v14.toInt ∧ v14.toInt ≤ 2147483647 := rv14
        have sv14 : v14.toInt = (g 33 (6 : Int32).toNatClampNeg).toInt := congrArg Int32.toInt (ev14.trans (congrFun ((show mFr [] g g from mFr.rf).at 33 rfl) _))
        refine lv_sipush (v := 128) hx hb dX12_isFormed_34 (by decide) ?_
        refine lv_icmp_ne (tgt := 65) hx hb dX12_isFormed_37 (by decide) (fun c37_15 => ?_) (fun c37_15 => ?_)
        · skip
          have ic37_15 : v14.toInt ≠ (128 : Int32).toInt := fun z => c37_15 (Int32.toInt_inj.mp z)
          have y16 : (128 : Int32).toInt = 128 := by decide
          refine lv_iconst (v := 0) hx hb dX12_isFormed_65 (by decide) ?_
          exact hQ _ _ (0 : Int32) _ _ _ dX12_isFormed_66 L ⟨mFr.rf, rg_w kc_0 rfl, (by have : (0 : Int32).toInt = 0 := (by decide); omega)⟩
        · skip
          have ic37_15 := congrArg Int32.toInt c37_15
          have y17 : (128 : Int32).toInt = 128 := by decide
          have q18 : rg (128) (128) v14 := (rg_eq c37_15 rv14 kc_128).1
          have uq18 : (128 : Int) ≤ v14.toInt ∧ v14.toInt ≤ 128 := q18
          refine lv_aload_n hx hb dX12_isFormed_40 rfl (lv_at hl 0 rfl) ?_
          refine m_geta x L 33 rfl rfl (wm_in uf_89) dX12_isFormed_41 ?_
          refine lv_bipush (v := 7) hx hb dX12_isFormed_44 (by decide) ?_
          refine m_ld x L 33 rfl kc_7 rfl dX12_isFormed_46 (fun v19 ev19 wv19 => ?_)
          have rv19 : rg (-2147483648) (2147483647) v19 := lj_33 wv19
          have uv19 : (-2147483648 : Int) ≤ v19.toInt ∧ v19.toInt ≤ 2147483647 := rv19
          have sv19 : v19.toInt = (g 33 (7 : Int32).toNatClampNeg).toInt := congrArg Int32.toInt (ev19.trans (congrFun ((show mFr [] g g from mFr.rf).at 33 rfl) _))
          refine lv_bipush (v := 8) hx hb dX12_isFormed_47 (by decide) ?_
          refine lv_ishl hx hb dX12_isFormed_49 ?_
          refine lv_topi (fun v20 ev20 => ?_)
          have rv20 : rg (-2147483648) (2147483647) v20 := rg_any v20
          have uv20 : (-2147483648 : Int) ≤ v20.toInt ∧ v20.toInt ≤ 2147483647 := rv20
          refine lv_aload_n hx hb dX12_isFormed_50 rfl (lv_at hl 0 rfl) ?_
          refine m_geta x L 33 rfl rfl (wm_in uf_89) dX12_isFormed_51 ?_
          refine lv_bipush (v := 8) hx hb dX12_isFormed_54 (by decide) ?_
          refine m_ld x L 33 rfl kc_8 rfl dX12_isFormed_56 (fun v21 ev21 wv21 => ?_)
          have rv21 : rg (-2147483648) (2147483647) v21 := lj_33 wv21
          have uv21 : (-2147483648 : Int) ≤ v21.toInt ∧ v21.toInt ≤ 2147483647 := rv21
          have sv21 : v21.toInt = (g 33 (8 : Int32).toNatClampNeg).toInt := congrArg Int32.toInt (ev21.trans (congrFun ((show mFr [] g g from mFr.rf).at 33 rfl) _))
          refine lv_ior hx hb dX12_isFormed_57 ?_
          refine lv_topi (fun v22 ev22 => ?_)
          have rv22 : rg (-2147483648) (2147483647) v22 := rg_any v22
          have uv22 : (-2147483648 : Int) ≤ v22.toInt ∧ v22.toInt ≤ 2147483647 := rv22
          refine lv_iload_n hx hb dX12_isFormed_58 rfl (lv_at hl 1 rfl) ?_
          refine lv_bipush (v := 9) hx hb dX12_isFormed_59 (by decide) ?_
          refine lv_isub hx hb dX12_isFormed_61 ?_
          refine lv_topi (fun v23 ev23 => ?_)
          have rv23 : rg (0) (51) v23 := (rg_sub ev23 q3 kc_9 rfl).1
          have tv23 := (rg_sub ev23 q3 kc_9 rfl).2
          have y24 : (9 : Int32).toInt = 9 := by decide
          have uv23 : (0 : Int) ≤ v23.toInt ∧ v23.toInt ≤ 51 := rv23
          refine lv_icmp_eq (tgt := 67) hx hb dX12_isFormed_62 (by decide) (fun c62_25 => ?_) (fun c62_25 => ?_)
          · skip
            have ic62_25 := congrArg Int32.toInt c62_25
            have q26 : rg (0) (51) v22 := (rg_eq c62_25 rv22 rv23).1
            have uq26 : (0 : Int) ≤ v22.toInt ∧ v22.toInt ≤ 51 := q26
            refine lv_bipush (v := 9) hx hb dX12_isFormed_67 (by decide) ?_
            refine lv_istore_n (lv' := [(3, .int (9 : Int32)), (0, .ref h0), (1, .int p1), (2, .int p2)]) hx hb dX12_isFormed_69 rfl hl (by decide) rfl (fun ls hl => ?_)
            refine lv_aload_n hx hb dX12_isFormed_70 rfl (lv_at hl 1 rfl) ?_
            refine m_geta x L 33 rfl rfl (wm_in uf_89) dX12_isFormed_71 ?_
            refine lv_iconst (v := 5) hx hb dX12_isFormed_74 (by decide) ?_
            refine m_ld x L 33 rfl kc_5 rfl dX12_isFormed_75 (fun v27 ev27 wv27 => ?_)
            have rv27 : rg (-2147483648) (2147483647) v27 := lj_33 wv27
            have uv27 : (-2147483648 : Int) ≤ v27.toInt ∧ v27.toInt ≤ 2147483647 := rv27
            have sv27 : v27.toInt = (g 33 (5 : Int32).toNatClampNeg).toInt := congrArg Int32.toInt (ev27.trans (congrFun ((show mFr [] g g from mFr.rf).at 33 rfl) _))
            by_cases c76_28_2 : v27.toInt = 2
            · skip
              refine lv_lookup (off := 119) (tgt := 195) hx hb dX12_isFormed_76 (by decide) (by rw [c76_28_2]; rfl) (by decide) ?_
              refine lv_iload_n hx hb dX12_isFormed_195 rfl (lv_at hl 3 rfl) ?_
              refine lv_if_eq (tgt := 211) hx hb dX12_isFormed_196 (by decide) (fun c196_29 => ?_) (fun c196_29 => ?_)
              · skip
                have ic196_29 := congrArg Int32.toInt c196_29
                have y30 : (0 : Int32).toInt = 0 := by decide
                have q31 : rg (0) (0) p2 := (rg_eq c196_29 rp2 kc_0).1
                have uq31 : (0 : Int) ≤ p2.toInt ∧ p2.toInt ≤ 0 := q31
                refine lv_iload_n hx hb dX12_isFormed_211 rfl (lv_at hl 0 rfl) ?_
                refine lv_istore_n (lv' := [(3, .int (9 : Int32)), (0, .ref h0), (1, .int p1), (2, .int p2)]) hx hb dX12_isFormed_212 rfl hl (by decide) rfl (fun ls hl => ?_)
                refine lv_goto (tgt := 234) hx hb dX12_isFormed_213 (by decide) ?_
                refine lv_iload_n hx hb dX12_isFormed_234 rfl (lv_at hl 0 rfl) ?_
                refine lv_iload_n hx hb dX12_isFormed_235 rfl (lv_at hl 2 rfl) ?_
                refine lv_icmp_ne (tgt := 243) hx hb dX12_isFormed_236 (by decide) (fun c236_32 => ?_) (fun c236_32 => ?_)
                · skip
                  have ic236_32 : (9 : Int32).toInt ≠ p1.toInt := fun z => c236_32 (Int32.toInt_inj.mp z)
                  refine lv_iconst (v := 0) hx hb dX12_isFormed_243 (by decide) ?_
                  exact hQ _ _ (0 : Int32) _ _ _ dX12_isFormed_244 L ⟨mFr.rf, rg_w kc_0 rfl, (by have : (0 : Int32).toInt = 0 := (by decide); omega)⟩
                · skip
                  have ic236_32 := congrArg Int32.toInt c236_32
                  have q33 : rg (9) (9) p1 := (rg_eq c236_32 kc_9 q3).2
                  have uq33 : (9 : Int) ≤ p1.toInt ∧ p1.toInt ≤ 9 := q33
                  refine lv_iconst (v := 1) hx hb dX12_isFormed_239 (by decide) ?_
                  refine lv_goto (tgt := 244) hx hb dX12_isFormed_240 (by decide) ?_
                  exact hQ _ _ (1 : Int32) _ _ _ dX12_isFormed_244 L ⟨mFr.rf, rg_w kc_1 rfl, (fun _ => by have k9 : (9 : Int32).toInt = 9 := (by decide); have hh : ∃ n, ch g p1.toInt n (9 : Int32).toInt := ch_end (by omega); rw [k9] at hh; exact hh)⟩
              · skip
                have ic196_29 : p2.toInt ≠ (0 : Int32).toInt := fun z => c196_29 (Int32.toInt_inj.mp z)
                have y34 : (0 : Int32).toInt = 0 := by decide
                have q35 : rg (1) (1) p2 := rg_neL c196_29 rp2 kc_0
                have uq35 : (1 : Int) ≤ p2.toInt ∧ p2.toInt ≤ 1 := q35
                refine lv_aload_n hx hb dX12_isFormed_199 rfl (lv_at hl 1 rfl) ?_
                refine lv_iload_n hx hb dX12_isFormed_200 rfl (lv_at hl 0 rfl) ?_
                refine lv_iload_n hx hb dX12_isFormed_201 rfl (lv_at hl 2 rfl) ?_
                refine lv_bipush (v := 90) hx hb dX12_isFormed_202 (by decide) ?_
                refine lv_iconst (v := 2) hx hb dX12_isFormed_204 (by decide) ?_
                refine m_ci (As := [.int (9 : Int32), .int p1, .int (90 : Int32), .int (2 : Int32)]) (rest := []) x hml L (c_elementAt l nn X g (9 : Int32) p1 (90 : Int32) (2 : Int32) hnn hX (rg_w kc_9 rfl) (rg_w q3 rfl) (rg_w kc_2 rfl)) (wm_V uc_elementAt ul_519 ui_elementAt us_elementAt u_init) rfl ⟨rfl, rfl⟩ hd_elementAt ⟨Nat.le_of_ble_eq_true rfl, Nat.le_of_ble_eq_true rfl⟩ rfl hl.1 rfl (lv_room (Nat.le_of_ble_eq_true rfl)) dX12_isFormed_205 (fun v37 g36 H36 k36 hp36 L36 => ?_)
                have rv37 : rg (0) (60) v37 := hp36.2.1
                have uv37 : (0 : Int) ≤ v37.toInt ∧ v37.toInt ≤ 60 := rv37
                have hw38 := hp36.2.2
                refine lv_goto (tgt := 212) hx hb dX12_isFormed_208 (by decide) ?_
                refine lv_istore_n (lv' := [(3, .int v37), (0, .ref h0), (1, .int p1), (2, .int p2)]) hx hb dX12_isFormed_212 rfl hl (by decide) rfl (fun ls hl => ?_)
                refine lv_goto (tgt := 234) hx hb dX12_isFormed_213 (by decide) ?_
                refine lv_iload_n hx hb dX12_isFormed_234 rfl (lv_at hl 0 rfl) ?_
                refine lv_iload_n hx hb dX12_isFormed_235 rfl (lv_at hl 2 rfl) ?_
                refine lv_icmp_ne (tgt := 243) hx hb dX12_isFormed_236 (by decide) (fun c236_39 => ?_) (fun c236_39 => ?_)
                · skip
                  have ic236_39 : v37.toInt ≠ p1.toInt := fun z => c236_39 (Int32.toInt_inj.mp z)
                  refine lv_iconst (v := 0) hx hb dX12_isFormed_243 (by decide) ?_
                  exact hQ _ _ (0 : Int32) _ _ _ dX12_isFormed_244 L36 ⟨(mFr.tr mFr.rf hp36.1 rfl), rg_w kc_0 rfl, (by have : (0 : Int32).toInt = 0 := (by decide); omega)⟩
                · skip
                  have ic236_39 := congrArg Int32.toInt c236_39
                  have q40 : rg (9) (60) v37 := (rg_eq c236_39 rv37 q3).1
                  have uq40 : (9 : Int) ≤ v37.toInt ∧ v37.toInt ≤ 60 := q40
                  refine lv_iconst (v := 1) hx hb dX12_isFormed_239 (by decide) ?_
                  refine lv_goto (tgt := 244) hx hb dX12_isFormed_240 (by decide) ?_
                  exact hQ _ _ (1 : Int32) _ _ _ dX12_isFormed_244 L36 ⟨(mFr.tr mFr.rf hp36.1 rfl), rg_w kc_1 rfl, (fun _ => by have k9 : (9 : Int32).toInt = 9 := (by decide); have hh : ∃ n, ch g p1.toInt n v37.toInt := ch_end (by omega); have y0_ : (2 : Int32).toInt = 2 := (by decide); have z0_ := hw38 (by omega); have hh : ∃ n, ch g p1.toInt n (9 : Int32).toInt := ch_2 (a := (9 : Int32).toInt) (b := v37.toInt) hh z0_.2.2.2.1 (by omega) (by omega); rw [k9] at hh; exact hh)⟩
            by_cases c76_28_5 : v27.toInt = 5
            · skip
              refine lv_lookup (off := 60) (tgt := 136) hx hb dX12_isFormed_76 (by decide) (by rw [c76_28_5]; rfl) (by decide) ?_
              refine lv_aload_n hx hb dX12_isFormed_136 rfl (lv_at hl 1 rfl) ?_
              refine lv_iload_n hx hb dX12_isFormed_137 rfl (lv_at hl 0 rfl) ?_
              refine lv_iload_n hx hb dX12_isFormed_138 rfl (lv_at hl 2 rfl) ?_
              refine lv_bipush (v := 112) hx hb dX12_isFormed_139 (by decide) ?_
              refine lv_iconst (v := 1) hx hb dX12_isFormed_141 (by decide) ?_
              refine m_ci (As := [.int (9 : Int32), .int p1, .int (112 : Int32), .int (1 : Int32)]) (rest := []) x hml L (c_elementAt l nn X g (9 : Int32) p1 (112 : Int32) (1 : Int32) hnn hX (rg_w kc_9 rfl) (rg_w q3 rfl) (rg_w kc_1 rfl)) (wm_V uc_elementAt ul_519 ui_elementAt us_elementAt u_init) rfl ⟨rfl, rfl⟩ hd_elementAt ⟨Nat.le_of_ble_eq_true rfl, Nat.le_of_ble_eq_true rfl⟩ rfl hl.1 rfl (lv_room (Nat.le_of_ble_eq_true rfl)) dX12_isFormed_142 (fun v42 g41 H41 k41 hp41 L41 => ?_)
              have rv42 : rg (0) (60) v42 := hp41.2.1
              have uv42 : (0 : Int) ≤ v42.toInt ∧ v42.toInt ≤ 60 := rv42
              have hw43 := hp41.2.2
              refine lv_istore_n (lv' := [(3, .int v42), (0, .ref h0), (1, .int p1), (2, .int p2)]) hx hb dX12_isFormed_145 rfl hl (by decide) rfl (fun ls hl => ?_)
              refine lv_aload_n hx hb dX12_isFormed_146 rfl (lv_at hl 1 rfl) ?_
              refine lv_iload_n hx hb dX12_isFormed_147 rfl (lv_at hl 0 rfl) ?_
              refine lv_iload_n hx hb dX12_isFormed_148 rfl (lv_at hl 2 rfl) ?_
              refine lv_bipush (v := 89) hx hb dX12_isFormed_149 (by decide) ?_
              refine lv_iconst (v := 1) hx hb dX12_isFormed_151 (by decide) ?_
              refine m_ci (As := [.int v42, .int p1, .int (89 : Int32), .int (1 : Int32)]) (rest := []) x hml L41 (c_elementAt l nn X g41 v42 p1 (89 : Int32) (1 : Int32) hnn hX (rg_w rv42 rfl) (rg_w q3 rfl) (rg_w kc_1 rfl)) (wm_V uc_elementAt ul_519 ui_elementAt us_elementAt u_init) rfl ⟨rfl, rfl⟩ hd_elementAt ⟨Nat.le_of_ble_eq_true rfl, Nat.le_of_ble_eq_true rfl⟩ rfl hl.1 rfl (lv_room (Nat.le_of_ble_eq_true rfl)) dX12_isFormed_152 (fun v45 g44 H44 k44 hp44 L44 => ?_)
              have rv45 : rg (0) (60) v45 := hp44.2.1
              have uv45 : (0 : Int) ≤ v45.toInt ∧ v45.toInt ≤ 60 := rv45
              have hw46 := hp44.2.2
              rw [wI_fr ((show mFr [] g g41 from (mFr.tr mFr.rf hp41.1 rfl)).at 33 rfl)] at hw46
              refine lv_istore_n (lv' := [(3, .int v45), (0, .ref h0), (1, .int p1), (2, .int p2)]) hx hb dX12_isFormed_155 rfl hl (by decide) rfl (fun ls hl => ?_)
              refine lv_iload_n hx hb dX12_isFormed_156 rfl (lv_at hl 3 rfl) ?_
              refine lv_if_eq (tgt := 172) hx hb dX12_isFormed_157 (by decide) (fun c157_47 => ?_) (fun c157_47 => ?_)
              · skip
                have ic157_47 := congrArg Int32.toInt c157_47
                have y48 : (0 : Int32).toInt = 0 := by decide
                have q49 : rg (0) (0) p2 := (rg_eq c157_47 rp2 kc_0).1
                have uq49 : (0 : Int) ≤ p2.toInt ∧ p2.toInt ≤ 0 := q49
                refine lv_iload_n hx hb dX12_isFormed_172 rfl (lv_at hl 0 rfl) ?_
                refine lv_istore_n (lv' := [(3, .int v45), (0, .ref h0), (1, .int p1), (2, .int p2)]) hx hb dX12_isFormed_173 rfl hl (by decide) rfl (fun ls hl => ?_)
                refine lv_iload_n hx hb dX12_isFormed_174 rfl (lv_at hl 3 rfl) ?_
                refine lv_if_eq (tgt := 190) hx hb dX12_isFormed_175 (by decide) (fun c175_50 => ?_) (fun c175_50 => ?_)
                · skip
                  have ic175_50 := congrArg Int32.toInt c175_50
                  have y51 : (0 : Int32).toInt = 0 := by decide
                  refine lv_iload_n hx hb dX12_isFormed_190 rfl (lv_at hl 0 rfl) ?_
                  refine lv_istore_n (lv' := [(3, .int v45), (0, .ref h0), (1, .int p1), (2, .int p2)]) hx hb dX12_isFormed_191 rfl hl (by decide) rfl (fun ls hl => ?_)
                  refine lv_goto (tgt := 234) hx hb dX12_isFormed_192 (by decide) ?_
                  refine lv_iload_n hx hb dX12_isFormed_234 rfl (lv_at hl 0 rfl) ?_
                  refine lv_iload_n hx hb dX12_isFormed_235 rfl (lv_at hl 2 rfl) ?_
                  refine lv_icmp_ne (tgt := 243) hx hb dX12_isFormed_236 (by decide) (fun c236_52 => ?_) (fun c236_52 => ?_)
                  · skip
                    have ic236_52 : v45.toInt ≠ p1.toInt := fun z => c236_52 (Int32.toInt_inj.mp z)
                    refine lv_iconst (v := 0) hx hb dX12_isFormed_243 (by decide) ?_
                    exact hQ _ _ (0 : Int32) _ _ _ dX12_isFormed_244 L44 ⟨(mFr.tr (mFr.tr mFr.rf hp41.1 rfl) hp44.1 rfl), rg_w kc_0 rfl, (by have : (0 : Int32).toInt = 0 := (by decide); omega)⟩
                  · skip
                    have ic236_52 := congrArg Int32.toInt c236_52
                    have q53 : rg (9) (60) v45 := (rg_eq c236_52 rv45 q3).1
                    have uq53 : (9 : Int) ≤ v45.toInt ∧ v45.toInt ≤ 60 := q53
                    refine lv_iconst (v := 1) hx hb dX12_isFormed_239 (by decide) ?_
                    refine lv_goto (tgt := 244) hx hb dX12_isFormed_240 (by decide) ?_
                    exact hQ _ _ (1 : Int32) _ _ _ dX12_isFormed_244 L44 ⟨(mFr.tr (mFr.tr mFr.rf hp41.1 rfl) hp44.1 rfl), rg_w kc_1 rfl, (fun _ => by have k9 : (9 : Int32).toInt = 9 := (by decide); have hh : ∃ n, ch g p1.toInt n v45.toInt := ch_end (by omega); have y0_ : (1 : Int32).toInt = 1 := (by decide); have z0_ := hw46 (by omega); have hh : ∃ n, ch g p1.toInt n v42.toInt := ch_1 (a := v42.toInt) (b := v45.toInt) hh z0_.2.2.2.1 (by omega) (by omega); have y1_ : (1 : Int32).toInt = 1 := (by decide); have z1_ := hw43 (by omega); have hh : ∃ n, ch g p1.toInt n (9 : Int32).toInt := ch_1 (a := (9 : Int32).toInt) (b := v42.toInt) hh z1_.2.2.2.1 (by omega) (by omega); rw [k9] at hh; exact hh)⟩
                · skip
                  have ic175_50 : p2.toInt ≠ (0 : Int32).toInt := fun z => c175_50 (Int32.toInt_inj.mp z)
                  have y54 : (0 : Int32).toInt = 0 := by decide
                  exact absurd (rg_neH c175_50 q49 kc_0 : rg (0) (-1) p2) (fun q => rg_dead q rfl)
              · skip
                have ic157_47 : p2.toInt ≠ (0 : Int32).toInt := fun z => c157_47 (Int32.toInt_inj.mp z)
                have y55 : (0 : Int32).toInt = 0 := by decide
                have q56 : rg (1) (1) p2 := rg_neL c157_47 rp2 kc_0
                have uq56 : (1 : Int) ≤ p2.toInt ∧ p2.toInt ≤ 1 := q56
                refine lv_aload_n hx hb dX12_isFormed_160 rfl (lv_at hl 1 rfl) ?_
                refine lv_iload_n hx hb dX12_isFormed_161 rfl (lv_at hl 0 rfl) ?_
                refine lv_iload_n hx hb dX12_isFormed_162 rfl (lv_at hl 2 rfl) ?_
                refine lv_bipush (v := 108) hx hb dX12_isFormed_163 (by decide) ?_
                refine lv_iconst (v := 1) hx hb dX12_isFormed_165 (by decide) ?_
                refine m_ci (As := [.int v45, .int p1, .int (108 : Int32), .int (1 : Int32)]) (rest := []) x hml L44 (c_elementAt l nn X g44 v45 p1 (108 : Int32) (1 : Int32) hnn hX (rg_w rv45 rfl) (rg_w q3 rfl) (rg_w kc_1 rfl)) (wm_V uc_elementAt ul_519 ui_elementAt us_elementAt u_init) rfl ⟨rfl, rfl⟩ hd_elementAt ⟨Nat.le_of_ble_eq_true rfl, Nat.le_of_ble_eq_true rfl⟩ rfl hl.1 rfl (lv_room (Nat.le_of_ble_eq_true rfl)) dX12_isFormed_166 (fun v58 g57 H57 k57 hp57 L57 => ?_)
                have rv58 : rg (0) (60) v58 := hp57.2.1
                have uv58 : (0 : Int) ≤ v58.toInt ∧ v58.toInt ≤ 60 := rv58
                have hw59 := hp57.2.2
                rw [wI_fr ((show mFr [] g g44 from (mFr.tr (mFr.tr mFr.rf hp41.1 rfl) hp44.1 rfl)).at 33 rfl)] at hw59
                refine lv_goto (tgt := 173) hx hb dX12_isFormed_169 (by decide) ?_
                refine lv_istore_n (lv' := [(3, .int v58), (0, .ref h0), (1, .int p1), (2, .int p2)]) hx hb dX12_isFormed_173 rfl hl (by decide) rfl (fun ls hl => ?_)
                refine lv_iload_n hx hb dX12_isFormed_174 rfl (lv_at hl 3 rfl) ?_
                refine lv_if_eq (tgt := 190) hx hb dX12_isFormed_175 (by decide) (fun c175_60 => ?_) (fun c175_60 => ?_)
                · skip
                  have ic175_60 := congrArg Int32.toInt c175_60
                  have y61 : (0 : Int32).toInt = 0 := by decide
                  exact absurd ((rg_eq c175_60 q56 kc_0).1 : rg (1) (0) p2) (fun q => rg_dead q rfl)
                · skip
                  have ic175_60 : p2.toInt ≠ (0 : Int32).toInt := fun z => c175_60 (Int32.toInt_inj.mp z)
                  have y62 : (0 : Int32).toInt = 0 := by decide
                  refine lv_aload_n hx hb dX12_isFormed_178 rfl (lv_at hl 1 rfl) ?_
                  refine lv_iload_n hx hb dX12_isFormed_179 rfl (lv_at hl 0 rfl) ?_
                  refine lv_iload_n hx hb dX12_isFormed_180 rfl (lv_at hl 2 rfl) ?_
                  refine lv_bipush (v := 90) hx hb dX12_isFormed_181 (by decide) ?_
                  refine lv_iconst (v := 2) hx hb dX12_isFormed_183 (by decide) ?_
                  refine m_ci (As := [.int v58, .int p1, .int (90 : Int32), .int (2 : Int32)]) (rest := []) x hml L57 (c_elementAt l nn X g57 v58 p1 (90 : Int32) (2 : Int32) hnn hX (rg_w rv58 rfl) (rg_w q3 rfl) (rg_w kc_2 rfl)) (wm_V uc_elementAt ul_519 ui_elementAt us_elementAt u_init) rfl ⟨rfl, rfl⟩ hd_elementAt ⟨Nat.le_of_ble_eq_true rfl, Nat.le_of_ble_eq_true rfl⟩ rfl hl.1 rfl (lv_room (Nat.le_of_ble_eq_true rfl)) dX12_isFormed_184 (fun v64 g63 H63 k63 hp63 L63 => ?_)
                  have rv64 : rg (0) (60) v64 := hp63.2.1
                  have uv64 : (0 : Int) ≤ v64.toInt ∧ v64.toInt ≤ 60 := rv64
                  have hw65 := hp63.2.2
                  rw [wI_fr ((show mFr [] g g57 from (mFr.tr (mFr.tr (mFr.tr mFr.rf hp41.1 rfl) hp44.1 rfl) hp57.1 rfl)).at 33 rfl)] at hw65
                  refine lv_goto (tgt := 191) hx hb dX12_isFormed_187 (by decide) ?_
                  refine lv_istore_n (lv' := [(3, .int v64), (0, .ref h0), (1, .int p1), (2, .int p2)]) hx hb dX12_isFormed_191 rfl hl (by decide) rfl (fun ls hl => ?_)
                  refine lv_goto (tgt := 234) hx hb dX12_isFormed_192 (by decide) ?_
                  refine lv_iload_n hx hb dX12_isFormed_234 rfl (lv_at hl 0 rfl) ?_
                  refine lv_iload_n hx hb dX12_isFormed_235 rfl (lv_at hl 2 rfl) ?_
                  refine lv_icmp_ne (tgt := 243) hx hb dX12_isFormed_236 (by decide) (fun c236_66 => ?_) (fun c236_66 => ?_)
                  · skip
                    have ic236_66 : v64.toInt ≠ p1.toInt := fun z => c236_66 (Int32.toInt_inj.mp z)
                    refine lv_iconst (v := 0) hx hb dX12_isFormed_243 (by decide) ?_
                    exact hQ _ _ (0 : Int32) _ _ _ dX12_isFormed_244 L63 ⟨(mFr.tr (mFr.tr (mFr.tr (mFr.tr mFr.rf hp41.1 rfl) hp44.1 rfl) hp57.1 rfl) hp63.1 rfl), rg_w kc_0 rfl, (by have : (0 : Int32).toInt = 0 := (by decide); omega)⟩
                  · skip
                    have ic236_66 := congrArg Int32.toInt c236_66
                    have q67 : rg (9) (60) v64 := (rg_eq c236_66 rv64 q3).1
                    have uq67 : (9 : Int) ≤ v64.toInt ∧ v64.toInt ≤ 60 := q67
                    refine lv_iconst (v := 1) hx hb dX12_isFormed_239 (by decide) ?_
                    refine lv_goto (tgt := 244) hx hb dX12_isFormed_240 (by decide) ?_
                    exact hQ _ _ (1 : Int32) _ _ _ dX12_isFormed_244 L63 ⟨(mFr.tr (mFr.tr (mFr.tr (mFr.tr mFr.rf hp41.1 rfl) hp44.1 rfl) hp57.1 rfl) hp63.1 rfl), rg_w kc_1 rfl, (fun _ => by have k9 : (9 : Int32).toInt = 9 := (by decide); have hh : ∃ n, ch g p1.toInt n v64.toInt := ch_end (by omega); have y0_ : (2 : Int32).toInt = 2 := (by decide); have z0_ := hw65 (by omega); have hh : ∃ n, ch g p1.toInt n v58.toInt := ch_2 (a := v58.toInt) (b := v64.toInt) hh z0_.2.2.2.1 (by omega) (by omega); have y1_ : (1 : Int32).toInt = 1 := (by decide); have z1_ := hw59 (by omega); have hh : ∃ n, ch g p1.toInt n v45.toInt := ch_1 (a := v45.toInt) (b := v58.toInt) hh z1_.2.2.2.1 (by omega) (by omega); have y2_ : (1 : Int32).toInt = 1 := (by decide); have z2_ := hw46 (by omega); have hh : ∃ n, ch g p1.toInt n v42.toInt := ch_1 (a := v42.toInt) (b := v45.toInt) hh z2_.2.2.2.1 (by omega) (by omega); have y3_ : (1 : Int32).toInt = 1 := (by decide); have z3_ := hw43 (by omega); have hh : ∃ n, ch g p1.toInt n (9 : Int32).toInt := ch_1 (a := (9 : Int32).toInt) (b := v42.toInt) hh z3_.2.2.2.1 (by omega) (by omega); rw [k9] at hh; exact hh)⟩
            by_cases c76_28_7 : v27.toInt = 7
            · skip
              refine lv_lookup (off := 153) (tgt := 229) hx hb dX12_isFormed_76 (by decide) (by rw [c76_28_7]; rfl) (by decide) ?_
              refine lv_goto (tgt := 234) hx hb dX12_isFormed_229 (by decide) ?_
              refine lv_iload_n hx hb dX12_isFormed_234 rfl (lv_at hl 0 rfl) ?_
              refine lv_iload_n hx hb dX12_isFormed_235 rfl (lv_at hl 2 rfl) ?_
              refine lv_icmp_ne (tgt := 243) hx hb dX12_isFormed_236 (by decide) (fun c236_68 => ?_) (fun c236_68 => ?_)
              · skip
                have ic236_68 : (9 : Int32).toInt ≠ p1.toInt := fun z => c236_68 (Int32.toInt_inj.mp z)
                refine lv_iconst (v := 0) hx hb dX12_isFormed_243 (by decide) ?_
                exact hQ _ _ (0 : Int32) _ _ _ dX12_isFormed_244 L ⟨mFr.rf, rg_w kc_0 rfl, (by have : (0 : Int32).toInt = 0 := (by decide); omega)⟩
              · skip
                have ic236_68 := congrArg Int32.toInt c236_68
                have q69 : rg (9) (9) p1 := (rg_eq c236_68 kc_9 q3).2
                have uq69 : (9 : Int) ≤ p1.toInt ∧ p1.toInt ≤ 9 := q69
                refine lv_iconst (v := 1) hx hb dX12_isFormed_239 (by decide) ?_
                refine lv_goto (tgt := 244) hx hb dX12_isFormed_240 (by decide) ?_
                exact hQ _ _ (1 : Int32) _ _ _ dX12_isFormed_244 L ⟨mFr.rf, rg_w kc_1 rfl, (fun _ => by have k9 : (9 : Int32).toInt = 9 := (by decide); have hh : ∃ n, ch g p1.toInt n (9 : Int32).toInt := ch_end (by omega); rw [k9] at hh; exact hh)⟩
            by_cases c76_28_15 : v27.toInt = 15
            · skip
              refine lv_lookup (off := 153) (tgt := 229) hx hb dX12_isFormed_76 (by decide) (by rw [c76_28_15]; rfl) (by decide) ?_
              refine lv_goto (tgt := 234) hx hb dX12_isFormed_229 (by decide) ?_
              refine lv_iload_n hx hb dX12_isFormed_234 rfl (lv_at hl 0 rfl) ?_
              refine lv_iload_n hx hb dX12_isFormed_235 rfl (lv_at hl 2 rfl) ?_
              refine lv_icmp_ne (tgt := 243) hx hb dX12_isFormed_236 (by decide) (fun c236_70 => ?_) (fun c236_70 => ?_)
              · skip
                have ic236_70 : (9 : Int32).toInt ≠ p1.toInt := fun z => c236_70 (Int32.toInt_inj.mp z)
                refine lv_iconst (v := 0) hx hb dX12_isFormed_243 (by decide) ?_
                exact hQ _ _ (0 : Int32) _ _ _ dX12_isFormed_244 L ⟨mFr.rf, rg_w kc_0 rfl, (by have : (0 : Int32).toInt = 0 := (by decide); omega)⟩
              · skip
                have ic236_70 := congrArg Int32.toInt c236_70
                have q71 : rg (9) (9) p1 := (rg_eq c236_70 kc_9 q3).2
                have uq71 : (9 : Int) ≤ p1.toInt ∧ p1.toInt ≤ 9 := q71
                refine lv_iconst (v := 1) hx hb dX12_isFormed_239 (by decide) ?_
                refine lv_goto (tgt := 244) hx hb dX12_isFormed_240 (by decide) ?_
                exact hQ _ _ (1 : Int32) _ _ _ dX12_isFormed_244 L ⟨mFr.rf, rg_w kc_1 rfl, (fun _ => by have k9 : (9 : Int32).toInt = 9 := (by decide); have hh : ∃ n, ch g p1.toInt n (9 : Int32).toInt := ch_end (by omega); rw [k9] at hh; exact hh)⟩
            by_cases c76_28_77 : v27.toInt = 77
            · skip
              refine lv_lookup (off := 140) (tgt := 216) hx hb dX12_isFormed_76 (by decide) (by rw [c76_28_77]; rfl) (by decide) ?_
              refine lv_aload_n hx hb dX12_isFormed_216 rfl (lv_at hl 1 rfl) ?_
              refine lv_iload_n hx hb dX12_isFormed_217 rfl (lv_at hl 0 rfl) ?_
              refine lv_iload_n hx hb dX12_isFormed_218 rfl (lv_at hl 2 rfl) ?_
              refine lv_bipush (v := 8) hx hb dX12_isFormed_219 (by decide) ?_
              refine lv_iconst (v := 1) hx hb dX12_isFormed_221 (by decide) ?_
              refine m_ci (As := [.int (9 : Int32), .int p1, .int (8 : Int32), .int (1 : Int32)]) (rest := []) x hml L (c_elementAt l nn X g (9 : Int32) p1 (8 : Int32) (1 : Int32) hnn hX (rg_w kc_9 rfl) (rg_w q3 rfl) (rg_w kc_1 rfl)) (wm_V uc_elementAt ul_519 ui_elementAt us_elementAt u_init) rfl ⟨rfl, rfl⟩ hd_elementAt ⟨Nat.le_of_ble_eq_true rfl, Nat.le_of_ble_eq_true rfl⟩ rfl hl.1 rfl (lv_room (Nat.le_of_ble_eq_true rfl)) dX12_isFormed_222 (fun v73 g72 H72 k72 hp72 L72 => ?_)
              have rv73 : rg (0) (60) v73 := hp72.2.1
              have uv73 : (0 : Int) ≤ v73.toInt ∧ v73.toInt ≤ 60 := rv73
              have hw74 := hp72.2.2
              refine lv_istore_n (lv' := [(3, .int v73), (0, .ref h0), (1, .int p1), (2, .int p2)]) hx hb dX12_isFormed_225 rfl hl (by decide) rfl (fun ls hl => ?_)
              refine lv_goto (tgt := 234) hx hb dX12_isFormed_226 (by decide) ?_
              refine lv_iload_n hx hb dX12_isFormed_234 rfl (lv_at hl 0 rfl) ?_
              refine lv_iload_n hx hb dX12_isFormed_235 rfl (lv_at hl 2 rfl) ?_
              refine lv_icmp_ne (tgt := 243) hx hb dX12_isFormed_236 (by decide) (fun c236_75 => ?_) (fun c236_75 => ?_)
              · skip
                have ic236_75 : v73.toInt ≠ p1.toInt := fun z => c236_75 (Int32.toInt_inj.mp z)
                refine lv_iconst (v := 0) hx hb dX12_isFormed_243 (by decide) ?_
                exact hQ _ _ (0 : Int32) _ _ _ dX12_isFormed_244 L72 ⟨(mFr.tr mFr.rf hp72.1 rfl), rg_w kc_0 rfl, (by have : (0 : Int32).toInt = 0 := (by decide); omega)⟩
              · skip
                have ic236_75 := congrArg Int32.toInt c236_75
                have q76 : rg (9) (60) v73 := (rg_eq c236_75 rv73 q3).1
                have uq76 : (9 : Int) ≤ v73.toInt ∧ v73.toInt ≤ 60 := q76
                refine lv_iconst (v := 1) hx hb dX12_isFormed_239 (by decide) ?_
                refine lv_goto (tgt := 244) hx hb dX12_isFormed_240 (by decide) ?_
                exact hQ _ _ (1 : Int32) _ _ _ dX12_isFormed_244 L72 ⟨(mFr.tr mFr.rf hp72.1 rfl), rg_w kc_1 rfl, (fun _ => by have k9 : (9 : Int32).toInt = 9 := (by decide); have hh : ∃ n, ch g p1.toInt n v73.toInt := ch_end (by omega); have y0_ : (1 : Int32).toInt = 1 := (by decide); have z0_ := hw74 (by omega); have hh : ∃ n, ch g p1.toInt n (9 : Int32).toInt := ch_1 (a := (9 : Int32).toInt) (b := v73.toInt) hh z0_.2.2.2.1 (by omega) (by omega); rw [k9] at hh; exact hh)⟩
            by_cases c76_28_90 : v27.toInt = 90
            · skip
              refine lv_lookup (off := 140) (tgt := 216) hx hb dX12_isFormed_76 (by decide) (by rw [c76_28_90]; rfl) (by decide) ?_
              refine lv_aload_n hx hb dX12_isFormed_216 rfl (lv_at hl 1 rfl) ?_
              refine lv_iload_n hx hb dX12_isFormed_217 rfl (lv_at hl 0 rfl) ?_
              refine lv_iload_n hx hb dX12_isFormed_218 rfl (lv_at hl 2 rfl) ?_
              refine lv_bipush (v := 8) hx hb dX12_isFormed_219 (by decide) ?_
              refine lv_iconst (v := 1) hx hb dX12_isFormed_221 (by decide) ?_
              refine m_ci (As := [.int (9 : Int32), .int p1, .int (8 : Int32), .int (1 : Int32)]) (rest := []) x hml L (c_elementAt l nn X g (9 : Int32) p1 (8 : Int32) (1 : Int32) hnn hX (rg_w kc_9 rfl) (rg_w q3 rfl) (rg_w kc_1 rfl)) (wm_V uc_elementAt ul_519 ui_elementAt us_elementAt u_init) rfl ⟨rfl, rfl⟩ hd_elementAt ⟨Nat.le_of_ble_eq_true rfl, Nat.le_of_ble_eq_true rfl⟩ rfl hl.1 rfl (lv_room (Nat.le_of_ble_eq_true rfl)) dX12_isFormed_222 (fun v78 g77 H77 k77 hp77 L77 => ?_)
              have rv78 : rg (0) (60) v78 := hp77.2.1
              have uv78 : (0 : Int) ≤ v78.toInt ∧ v78.toInt ≤ 60 := rv78
              have hw79 := hp77.2.2
              refine lv_istore_n (lv' := [(3, .int v78), (0, .ref h0), (1, .int p1), (2, .int p2)]) hx hb dX12_isFormed_225 rfl hl (by decide) rfl (fun ls hl => ?_)
              refine lv_goto (tgt := 234) hx hb dX12_isFormed_226 (by decide) ?_
              refine lv_iload_n hx hb dX12_isFormed_234 rfl (lv_at hl 0 rfl) ?_
              refine lv_iload_n hx hb dX12_isFormed_235 rfl (lv_at hl 2 rfl) ?_
              refine lv_icmp_ne (tgt := 243) hx hb dX12_isFormed_236 (by decide) (fun c236_80 => ?_) (fun c236_80 => ?_)
              · skip
                have ic236_80 : v78.toInt ≠ p1.toInt := fun z => c236_80 (Int32.toInt_inj.mp z)
                refine lv_iconst (v := 0) hx hb dX12_isFormed_243 (by decide) ?_
                exact hQ _ _ (0 : Int32) _ _ _ dX12_isFormed_244 L77 ⟨(mFr.tr mFr.rf hp77.1 rfl), rg_w kc_0 rfl, (by have : (0 : Int32).toInt = 0 := (by decide); omega)⟩
              · skip
                have ic236_80 := congrArg Int32.toInt c236_80
                have q81 : rg (9) (60) v78 := (rg_eq c236_80 rv78 q3).1
                have uq81 : (9 : Int) ≤ v78.toInt ∧ v78.toInt ≤ 60 := q81
                refine lv_iconst (v := 1) hx hb dX12_isFormed_239 (by decide) ?_
                refine lv_goto (tgt := 244) hx hb dX12_isFormed_240 (by decide) ?_
                exact hQ _ _ (1 : Int32) _ _ _ dX12_isFormed_244 L77 ⟨(mFr.tr mFr.rf hp77.1 rfl), rg_w kc_1 rfl, (fun _ => by have k9 : (9 : Int32).toInt = 9 := (by decide); have hh : ∃ n, ch g p1.toInt n v78.toInt := ch_end (by omega); have y0_ : (1 : Int32).toInt = 1 := (by decide); have z0_ := hw79 (by omega); have hh : ∃ n, ch g p1.toInt n (9 : Int32).toInt := ch_1 (a := (9 : Int32).toInt) (b := v78.toInt) hh z0_.2.2.2.1 (by omega) (by omega); rw [k9] at hh; exact hh)⟩
            refine lv_lookup (off := 156) (tgt := 232) hx hb dX12_isFormed_76 (by decide) (lk_def (by simp only [List.all_cons, List.all_nil, Bool.and_true, Bool.and_eq_true, decide_eq_true_eq, ne_eq]; omega)) (by decide) ?_
            refine lv_iconst (v := 0) hx hb dX12_isFormed_232 (by decide) ?_
            refine lv_istore_n (lv' := [(3, .int (0 : Int32)), (0, .ref h0), (1, .int p1), (2, .int p2)]) hx hb dX12_isFormed_233 rfl hl (by decide) rfl (fun ls hl => ?_)
            refine lv_iload_n hx hb dX12_isFormed_234 rfl (lv_at hl 0 rfl) ?_
            refine lv_iload_n hx hb dX12_isFormed_235 rfl (lv_at hl 2 rfl) ?_
            refine lv_icmp_ne (tgt := 243) hx hb dX12_isFormed_236 (by decide) (fun c236_82 => ?_) (fun c236_82 => ?_)
            · skip
              have ic236_82 : (0 : Int32).toInt ≠ p1.toInt := fun z => c236_82 (Int32.toInt_inj.mp z)
              refine lv_iconst (v := 0) hx hb dX12_isFormed_243 (by decide) ?_
              exact hQ _ _ (0 : Int32) _ _ _ dX12_isFormed_244 L ⟨mFr.rf, rg_w kc_0 rfl, (by have : (0 : Int32).toInt = 0 := (by decide); omega)⟩
            · skip
              have ic236_82 := congrArg Int32.toInt c236_82
              exact absurd ((rg_eq c236_82 kc_0 q3).1 : rg (9) (0) (0 : Int32)) (fun q => rg_dead q rfl)
          · skip
            have ic62_25 : v22.toInt ≠ v23.toInt := fun z => c62_25 (Int32.toInt_inj.mp z)
            refine lv_iconst (v := 0) hx hb dX12_isFormed_65 (by decide) ?_
            exact hQ _ _ (0 : Int32) _ _ _ dX12_isFormed_66 L ⟨mFr.rf, rg_w kc_0 rfl, (by have : (0 : Int32).toInt = 0 := (by decide); omega)⟩
theorem c_isFormed (l : Launch) {G : mG} {h0 : Nat} {ad : Nat → Nat} (nn X : Int) (g : mSt) (p1 : Int32) (p2 : Int32) (hnn : 2 ≤ nn ∧ nn ≤ 4) (hX : 0 ≤ X ∧ X ≤ 2000000000) (rp1 : rg (0) (60) p1) (rp2 : rg (0) (1) p2) : Met l yX12_isFormed (wm (Cond.code yX12_isFormed cX12_isFormed 4 (some .boolean))) rm_isFormed (va_Pc [.ref h0, .int p1, .int p2] (mPre G h0 ad nn X g)) (mQi G h0 ad nn X (fun r g1 => mFr [] g g1 ∧ rg (0) (1) r ∧ (1 ≤ r.toInt → ∃ n, ch g p1.toInt n 9))) 0 0 (mA h0 ad) := by
  refine Met.ofW (cc := cX12_isFormed) (maxL := 4) (ret := (some .boolean)) (by decide) rfl ?_
  intro p e s m args below meth c s₁ B hml hv
  obtain ⟨rfl, hv⟩ := hv
  have hr := B.returns
  have hlocks := B.notSynchronized
  obtain ⟨x, L⟩ := m_start B rfl wm_X hv
  have hl := lv_entry ([.ref h0, .int p1, .int p2]) (n := 4) (Nat.le_of_ble_eq_true rfl)
  rw [lg_entry_eq]
  generalize (lg_sl ([.ref h0, .int p1, .int p2]) ++ List.replicate (4 - (lg_sl ([.ref h0, .int p1, .int p2])).length) Slot.unset).toArray = ls at hl ⊢
  exact w_isFormed x hml L hnn hX p1 p2 rp1 rp2 hl (fun pc' ls' r g1 H1 locs1 hdg L hp => m_zret x L hr hlocks (nar01 (rg_w hp.2.1 rfl)) (Int.le_refl _) hp hdg)

def rm_status : Room := { frames := 8, cells := 0, slots := 0, locals := 185 }
theorem hd_status : yX12_status.cls = RX12 ∧ yX12_status.cls ≠ "java/lang/invoke/MethodHandle" ∧ yX12_status.cls ≠ "java/lang/invoke/VarHandle" ∧ (parseMethodDescriptor yX12_status.desc).map (fun d => d.parameters.length) = some 4 := by decide +kernel
set_option maxHeartbeats 4000000 in
set_option maxRecDepth 100000 in
theorem w_status {p : Program} {l : Launch} {e : Env} {s : State} {m : MethodId} {args : Array Value} {below : List Frame} {meth : Method} {c : Code} {H : Heap} {locs : List Loc} {Q : State → Prop} {ls : Array Slot} {G : mG} {h0 : Nat} {ad : Nat → Nat} {g : mSt} {H0 : Heap} {nn X : Int} (x : mX p c cX12_status s args (wm (Cond.code yX12_status cX12_status 13 none)) m G h0 ad) (hml : c.maxLocals = 13) (L : mL G h0 ad H0 nn X g H locs) (hnn : 2 ≤ nn ∧ nn ≤ 4) (hX : 0 ≤ X ∧ X ≤ 2000000000) (p1 : Int32) (p2 : Int32) (p3 : Int32) (p4 : Int32) (rp1 : rg (0) (7) p1) (np1 : p1.toInt < 2 * nn) (rp2 : rg (0) (16777215) p2) (rp3 : rg (3) (15) p3) (hl : lv_has ls 13 [(0, .ref h0), (1, .int p1), (2, .int p2), (3, .int p3), (4, .int p4)]) (hQ : ∀ (pc' : Nat) (ls' : Array Slot) (g1 : mSt) (H1 : Heap) (locs1 : List Loc), decode cX12_status pc' = .ok (.return_, 1) → mL G h0 ad H0 nn X g1 H1 locs1 → (mFr [4, 5, 7, 8, 9, 10, 11, 40, 42, 43, 45, 49, 52, 53, 54, 55, 64] g g1 ∧ True) → W p l e rm_status s m args below meth c H1 locs1 0 0 Q (F0 m pc' ls' [])) : W p l e rm_status s m args below meth c H locs 0 0 Q (F0 m 0 ls []) := by
  have hx := x.1
  have hb := x.2.1
  have up1 : (0 : Int) ≤ p1.toInt ∧ p1.toInt ≤ 7 := rp1
  have up2 : (0 : Int) ≤ p2.toInt ∧ p2.toInt ≤ 16777215 := rp2
  have up3 : (3 : Int) ≤ p3.toInt ∧ p3.toInt ≤ 15 := rp3
  have up4 : (-2147483648 : Int) ≤ p4.toInt ∧ p4.toInt ≤ 2147483647 := (rg_any p4)
  refine lv_iload_n hx hb dX12_status_0 rfl (lv_at hl 3 rfl) ?_
  refine lv_iconst (v := 3) hx hb dX12_status_1 (by decide) ?_
  refine lv_isub hx hb dX12_status_2 ?_
  refine lv_topi (fun v1 ev1 => ?_)
  have rv1 : rg (0) (12) v1 := (rg_sub ev1 rp3 kc_3 rfl).1
  have tv1 := (rg_sub ev1 rp3 kc_3 rfl).2
  have y2 : (3 : Int32).toInt = 3 := by decide
  have uv1 : (0 : Int) ≤ v1.toInt ∧ v1.toInt ≤ 12 := rv1
  refine lv_istore (lv' := [(5, .int v1), (0, .ref h0), (1, .int p1), (2, .int p2), (3, .int p3), (4, .int p4)]) hx hb dX12_status_3 hl (by decide) rfl (fun ls hl => ?_)
  refine lv_aload_n hx hb dX12_status_5 rfl (lv_at hl 1 rfl) ?_
  refine lv_iconst (v := 4) hx hb dX12_status_6 (by decide) ?_
  refine lv_iload hx hb dX12_status_7 (lv_at hl 0 rfl) ?_
  refine lv_imul hx hb dX12_status_9 ?_
  refine lv_topi (fun v3 ev3 => ?_)
  have rv3 : rg (0) (48) v3 := (rg_mulL ev3 kc_4 rv1 rfl).1
  have tv3 := (rg_mulL ev3 kc_4 rv1 rfl).2
  have y4 : (4 : Int32).toInt = 4 := by decide
  have uv3 : (0 : Int) ≤ v3.toInt ∧ v3.toInt ≤ 48 := rv3
  refine m_ci (As := [.int v3]) (rest := []) x hml L (c_byteOfWord l nn X g v3 hnn hX (rg_w rv3 rfl)) (wm_V uc_byteOfWord ul_406 ui_byteOfWord us_byteOfWord u_init) rfl ⟨rfl, rfl⟩ hd_byteOfWord ⟨Nat.le_of_ble_eq_true rfl, Nat.le_of_ble_eq_true rfl⟩ rfl hl.1 rfl (lv_room (Nat.le_of_ble_eq_true rfl)) dX12_status_10 (fun v6 g5 H5 k5 hp5 L5 => ?_)
  have rv6 : rg (-2147483648) (2147483647) v6 := hp5.2.1
  have uv6 : (-2147483648 : Int) ≤ v6.toInt ∧ v6.toInt ≤ 2147483647 := rv6
  have hw7 := hp5.2.2
  refine lv_istore (lv' := [(6, .int v6), (5, .int v1), (0, .ref h0), (1, .int p1), (2, .int p2), (3, .int p3), (4, .int p4)]) hx hb dX12_status_13 hl (by decide) rfl (fun ls hl => ?_)
  refine lv_iload_n hx hb dX12_status_15 rfl (lv_at hl 4 rfl) ?_
  refine lv_aload_n hx hb dX12_status_16 rfl (lv_at hl 2 rfl) ?_
  refine m_geta x L5 42 rfl rfl (wm_in uf_113) dX12_status_17 ?_
  refine lv_iload_n hx hb dX12_status_20 rfl (lv_at hl 3 rfl) ?_
  refine m_ld x L5 42 rfl rp1 rfl dX12_status_21 (fun v8 ev8 wv8 => ?_)
  have rv8 : rg (0) (2147483647) v8 := lj_42 wv8
  have uv8 : (0 : Int) ≤ v8.toInt ∧ v8.toInt ≤ 2147483647 := rv8
  have j62_10 : ∀ (b62_0_9 : Int32) (g10 : mSt) (H10 : Heap) (k10 : List Loc) (ls : Array Slot), mFr [] g5 g10 → mL G h0 ad H0 nn X g10 H10 k10 → rg (0) (1) b62_0_9 → lv_has ls 13 [(0, .ref h0), (1, .int p1), (2, .int p2), (4, .int p4), (5, .int v1), (6, .int v6)] → W p l e rm_status s m args below meth c H10 k10 0 0 Q (F0 m 62 ls [.int b62_0_9]) := by
    intro b62_0_9 g10 H10 k10 ls hF10 L10 rb62_0_9 hl
    have ub62_0_9 : (0 : Int) ≤ b62_0_9.toInt ∧ b62_0_9.toInt ≤ 1 := rb62_0_9
    refine lv_istore (lv' := [(7, .int b62_0_9), (0, .ref h0), (1, .int p1), (2, .int p2), (4, .int p4), (5, .int v1), (6, .int v6)]) hx hb dX12_status_62 hl (by decide) rfl (fun ls hl => ?_)
    refine lv_iload_n hx hb dX12_status_64 rfl (lv_at hl 3 rfl) ?_
    refine lv_iconst (v := 1) hx hb dX12_status_65 (by decide) ?_
    refine lv_isub hx hb dX12_status_66 ?_
    refine lv_topi (fun v11 ev11 => ?_)
    have rv11 : rg (-1) (16777214) v11 := (rg_sub ev11 rp2 kc_1 rfl).1
    have tv11 := (rg_sub ev11 rp2 kc_1 rfl).2
    have y12 : (1 : Int32).toInt = 1 := by decide
    have uv11 : (-1 : Int) ≤ v11.toInt ∧ v11.toInt ≤ 16777214 := rv11
    refine lv_istore (lv' := [(8, .int v11), (7, .int b62_0_9), (0, .ref h0), (1, .int p1), (2, .int p2), (4, .int p4), (5, .int v1), (6, .int v6)]) hx hb dX12_status_67 hl (by decide) rfl (fun ls hl => ?_)
    refine lv_iconst (v := 0) hx hb dX12_status_69 (by decide) ?_
    refine lv_istore (lv' := [(9, .int (0 : Int32)), (8, .int v11), (7, .int b62_0_9), (0, .ref h0), (1, .int p1), (2, .int p2), (4, .int p4), (5, .int v1), (6, .int v6)]) hx hb dX12_status_70 hl (by decide) rfl (fun ls hl => ?_)
    have j72_16 : ∀ (n : Nat) (a72_7_13 a72_8_14 a72_9_15 : Int32) (g16 : mSt) (H16 : Heap) (k16 : List Loc) (ls : Array Slot), mFr [] g10 g16 → mL G h0 ad H0 nn X g16 H16 k16 → rg (0) (1) a72_7_13 → rg (-2147483648) (2147483647) a72_8_14 → rg (0) (12) a72_9_15 → (a72_7_13.toInt = 1 → p2.toInt ≤ a72_8_14.toInt + 1 ∧ ∀ i : Nat, (i : Int) < a72_9_15.toInt → 0 ≤ (bW g (4 * (i : Int))).toInt) → lv_has ls 13 [(0, .ref h0), (1, .int p1), (2, .int p2), (4, .int p4), (5, .int v1), (6, .int v6), (7, .int a72_7_13), (8, .int a72_8_14), (9, .int a72_9_15)] → ((12 : Int) - a72_9_15.toInt).toNat = n → W p l e rm_status s m args below meth c H16 k16 0 0 Q (F0 m 72 ls []) := by
      intro n
      induction n using Nat.strongRecOn with
      | _ n ih16 =>
        intro a72_7_13 a72_8_14 a72_9_15 g16 H16 k16 ls hF16 L16 ra72_7_13 ra72_8_14 ra72_9_15 hv16_0 hl hn16
        subst hn16
        have ua72_7_13 : (0 : Int) ≤ a72_7_13.toInt ∧ a72_7_13.toInt ≤ 1 := ra72_7_13
        have ua72_8_14 : (-2147483648 : Int) ≤ a72_8_14.toInt ∧ a72_8_14.toInt ≤ 2147483647 := ra72_8_14
        have ua72_9_15 : (0 : Int) ≤ a72_9_15.toInt ∧ a72_9_15.toInt ≤ 12 := ra72_9_15
        refine lv_iload hx hb dX12_status_72 (lv_at hl 8 rfl) ?_
        refine lv_iload hx hb dX12_status_74 (lv_at hl 4 rfl) ?_
        refine lv_icmp_ge (tgt := 129) hx hb dX12_status_76 (by decide) (fun c76_17 => ?_) (fun c76_17 => ?_)
        · skip
          have ic76_17 := Int32.le_iff_toInt_le.mp c76_17
          refine lv_iload hx hb dX12_status_129 (lv_at hl 6 rfl) ?_
          refine lv_if_ne (tgt := 141) hx hb dX12_status_131 (by decide) (fun c131_18 => ?_) (fun c131_18 => ?_)
          · skip
            have ic131_18 : a72_7_13.toInt ≠ (0 : Int32).toInt := fun z => c131_18 (Int32.toInt_inj.mp z)
            have y19 : (0 : Int32).toInt = 0 := by decide
            have q20 : rg (1) (1) a72_7_13 := rg_neL c131_18 ra72_7_13 kc_0
            have uq20 : (1 : Int) ≤ a72_7_13.toInt ∧ a72_7_13.toInt ≤ 1 := q20
            refine lv_aload_n hx hb dX12_status_141 rfl (lv_at hl 0 rfl) ?_
            refine lv_iload_n hx hb dX12_status_142 rfl (lv_at hl 1 rfl) ?_
            refine lv_iload_n hx hb dX12_status_143 rfl (lv_at hl 2 rfl) ?_
            refine m_cv (As := [.int p1, .int p2]) (rest := []) x hml L16 (c_acknowledge l nn X g16 p1 p2 hnn hX (rg_w rp1 rfl) (rg_w rp2 rfl)) (wm_V uc_acknowledge ul_448 ui_acknowledge us_acknowledge u_init) rfl ⟨rfl, rfl⟩ hd_acknowledge ⟨Nat.le_of_ble_eq_true rfl, Nat.le_of_ble_eq_true rfl⟩ rfl hl.1 rfl (lv_room (Nat.le_of_ble_eq_true rfl)) dX12_status_144 (fun  g21 H21 k21 hp21 L21 => ?_)
            refine lv_aload_n hx hb dX12_status_147 rfl (lv_at hl 0 rfl) ?_
            refine m_geta x L21 45 rfl rfl (wm_in uf_122) dX12_status_148 ?_
            refine lv_iload_n hx hb dX12_status_151 rfl (lv_at hl 1 rfl) ?_
            refine lv_iload hx hb dX12_status_152 (lv_at hl 5 rfl) ?_
            refine m_st x L21 45 rfl rp1 rfl (rj_45 (rg_any v6)) dX12_status_154 (fun g22 H22 k22 eg22 L22 => ?_)
            refine lv_aload_n hx hb dX12_status_155 rfl (lv_at hl 0 rfl) ?_
            refine m_geta x L22 43 rfl rfl (wm_in uf_116) dX12_status_156 ?_
            refine lv_iload_n hx hb dX12_status_159 rfl (lv_at hl 1 rfl) ?_
            refine lv_iload hx hb dX12_status_160 (lv_at hl 3 rfl) ?_
            refine m_st x L22 43 rfl rp1 rfl (rj_43 (rg_any p4)) dX12_status_162 (fun g23 H23 k23 eg23 L23 => ?_)
            refine lv_aload_n hx hb dX12_status_163 rfl (lv_at hl 0 rfl) ?_
            refine m_geta x L23 55 rfl rfl (wm_in uf_153) dX12_status_164 ?_
            refine lv_iload_n hx hb dX12_status_167 rfl (lv_at hl 1 rfl) ?_
            refine lv_aload_n hx hb dX12_status_168 rfl (lv_at hl 0 rfl) ?_
            refine m_geti x L23 1 rfl rfl (wm_in uf_378) dX12_status_169 (fun v24 ev24 wv24 => ?_)
            have rv24 : rg (-2147483648) (2147483647) v24 := lj_1 wv24
            have uv24 : (-2147483648 : Int) ≤ v24.toInt ∧ v24.toInt ≤ 2147483647 := rv24
            have sv24 : v24.toInt = (g 1 0).toInt := congrArg Int32.toInt (ev24.trans (congrFun ((show mFr [4, 5, 7, 8, 9, 10, 11, 40, 42, 43, 45, 49, 52, 53, 54, 55, 64] g g23 from (mFr.upE (mFr.upE (mFr.tr (mFr.tr (mFr.tr (mFr.tr mFr.rf hp5.1 rfl) hF10 rfl) hF16 rfl) hp21.1 rfl) eg22 rfl) eg23 rfl)).at 1 rfl) _))
            refine m_st x L23 55 rfl rp1 rfl (rj_55 (rg_any v24)) dX12_status_172 (fun g25 H25 k25 eg25 L25 => ?_)
            refine lv_iconst (v := 0) hx hb dX12_status_173 (by decide) ?_
            refine lv_istore (lv' := [(9, .int (0 : Int32)), (0, .ref h0), (1, .int p1), (2, .int p2), (4, .int p4), (5, .int v1), (6, .int v6), (7, .int a72_7_13), (8, .int a72_8_14)]) hx hb dX12_status_174 hl (by decide) rfl (fun ls hl => ?_)
            have j176_27 : ∀ (n : Nat) (a176_9_26 : Int32) (g27 : mSt) (H27 : Heap) (k27 : List Loc) (ls : Array Slot), mFr [64] g25 g27 → mL G h0 ad H0 nn X g27 H27 k27 → rg (0) (12) a176_9_26 → lv_has ls 13 [(0, .ref h0), (1, .int p1), (5, .int v1), (6, .int v6), (9, .int a176_9_26)] → ((12 : Int) - a176_9_26.toInt).toNat = n → W p l e rm_status s m args below meth c H27 k27 0 0 Q (F0 m 176 ls []) := by
              intro n
              induction n using Nat.strongRecOn with
              | _ n ih27 =>
                intro a176_9_26 g27 H27 k27 ls hF27 L27 ra176_9_26 hl hn27
                subst hn27
                have ua176_9_26 : (0 : Int) ≤ a176_9_26.toInt ∧ a176_9_26.toInt ≤ 12 := ra176_9_26
                refine lv_iload hx hb dX12_status_176 (lv_at hl 4 rfl) ?_
                refine lv_iconst (v := 1) hx hb dX12_status_178 (by decide) ?_
                refine lv_iadd hx hb dX12_status_179 ?_
                refine lv_topi (fun v28 ev28 => ?_)
                have rv28 : rg (1) (13) v28 := (rg_add ev28 ra176_9_26 kc_1 rfl).1
                have dv28 := (rg_add ev28 ra176_9_26 kc_1 rfl).2
                have tv28 := (rg_add ev28 ra176_9_26 kc_1 rfl).2
                have y29 : (1 : Int32).toInt = 1 := by decide
                have uv28 : (1 : Int) ≤ v28.toInt ∧ v28.toInt ≤ 13 := rv28
                refine lv_iload hx hb dX12_status_180 (lv_at hl 2 rfl) ?_
                refine lv_icmp_ge (tgt := 272) hx hb dX12_status_182 (by decide) (fun c182_30 => ?_) (fun c182_30 => ?_)
                · skip
                  have ic182_30 := Int32.le_iff_toInt_le.mp c182_30
                  exact hQ _ _ _ _ _ dX12_status_272 L27 ⟨(mFr.tr (mFr.upE (mFr.upE (mFr.upE (mFr.tr (mFr.tr (mFr.tr (mFr.tr mFr.rf hp5.1 rfl) hF10 rfl) hF16 rfl) hp21.1 rfl) eg22 rfl) eg23 rfl) eg25 rfl) hF27 rfl), trivial⟩
                · skip
                  have ic182_30 := Int32.lt_iff_toInt_lt.mp (rg_nle c182_30)
                  have q31 : rg (1) (11) v28 := (rg_lt (rg_nle c182_30) rv28 rv1).1
                  have uq31 : (1 : Int) ≤ v28.toInt ∧ v28.toInt ≤ 11 := q31
                  have q32 : rg (0) (10) a176_9_26 := rg_back dv28 kc_1 q31
                  have q33 : rg (2) (12) v1 := (rg_lt (rg_nle c182_30) rv28 rv1).2
                  have uq33 : (2 : Int) ≤ v1.toInt ∧ v1.toInt ≤ 12 := q33
                  refine lv_aload_n hx hb dX12_status_185 rfl (lv_at hl 0 rfl) ?_
                  refine lv_iconst (v := 4) hx hb dX12_status_186 (by decide) ?_
                  refine lv_iload hx hb dX12_status_187 (lv_at hl 4 rfl) ?_
                  refine lv_imul hx hb dX12_status_189 ?_
                  refine lv_topi (fun v34 ev34 => ?_)
                  have rv34 : rg (0) (40) v34 := (rg_mulL ev34 kc_4 q32 rfl).1
                  have tv34 := (rg_mulL ev34 kc_4 q32 rfl).2
                  have y35 : (4 : Int32).toInt = 4 := by decide
                  have uv34 : (0 : Int) ≤ v34.toInt ∧ v34.toInt ≤ 40 := rv34
                  refine lv_iconst (v := 4) hx hb dX12_status_190 (by decide) ?_
                  refine lv_iadd hx hb dX12_status_191 ?_
                  refine lv_topi (fun v36 ev36 => ?_)
                  have rv36 : rg (4) (44) v36 := (rg_add ev36 rv34 kc_4 rfl).1
                  have dv36 := (rg_add ev36 rv34 kc_4 rfl).2
                  have tv36 := (rg_add ev36 rv34 kc_4 rfl).2
                  have y37 : (4 : Int32).toInt = 4 := by decide
                  have uv36 : (4 : Int) ≤ v36.toInt ∧ v36.toInt ≤ 44 := rv36
                  refine m_ci (As := [.int v36]) (rest := []) x hml L27 (c_byteOfWord l nn X g27 v36 hnn hX (rg_w rv36 rfl)) (wm_V uc_byteOfWord ul_406 ui_byteOfWord us_byteOfWord u_init) rfl ⟨rfl, rfl⟩ hd_byteOfWord ⟨Nat.le_of_ble_eq_true rfl, Nat.le_of_ble_eq_true rfl⟩ rfl hl.1 rfl (lv_room (Nat.le_of_ble_eq_true rfl)) dX12_status_192 (fun v39 g38 H38 k38 hp38 L38 => ?_)
                  have rv39 : rg (-2147483648) (2147483647) v39 := hp38.2.1
                  have uv39 : (-2147483648 : Int) ≤ v39.toInt ∧ v39.toInt ≤ 2147483647 := rv39
                  have hw40 := hp38.2.2
                  rw [bW_fr ((show mFr [4, 5, 7, 8, 9, 10, 11, 40, 42, 43, 45, 49, 52, 53, 54, 55, 64] g g27 from (mFr.tr (mFr.upE (mFr.upE (mFr.upE (mFr.tr (mFr.tr (mFr.tr (mFr.tr mFr.rf hp5.1 rfl) hF10 rfl) hF16 rfl) hp21.1 rfl) eg22 rfl) eg23 rfl) eg25 rfl) hF27 rfl)).at 33 rfl)] at hw40
                  refine lv_istore (lv' := [(10, .int v39), (0, .ref h0), (1, .int p1), (5, .int v1), (6, .int v6), (9, .int a176_9_26)]) hx hb dX12_status_195 hl (by decide) rfl (fun ls hl => ?_)
                  refine lv_aload_n hx hb dX12_status_197 rfl (lv_at hl 1 rfl) ?_
                  refine lv_iconst (v := 4) hx hb dX12_status_198 (by decide) ?_
                  refine lv_iload hx hb dX12_status_199 (lv_at hl 5 rfl) ?_
                  refine lv_imul hx hb dX12_status_201 ?_
                  refine m_top ev34 ?_
                  refine m_ci (As := [.int v34]) (rest := []) x hml L38 (c_byteOfWord l nn X g38 v34 hnn hX (rg_w rv34 rfl)) (wm_V uc_byteOfWord ul_406 ui_byteOfWord us_byteOfWord u_init) rfl ⟨rfl, rfl⟩ hd_byteOfWord ⟨Nat.le_of_ble_eq_true rfl, Nat.le_of_ble_eq_true rfl⟩ rfl hl.1 rfl (lv_room (Nat.le_of_ble_eq_true rfl)) dX12_status_202 (fun v42 g41 H41 k41 hp41 L41 => ?_)
                  have rv42 : rg (-2147483648) (2147483647) v42 := hp41.2.1
                  have uv42 : (-2147483648 : Int) ≤ v42.toInt ∧ v42.toInt ≤ 2147483647 := rv42
                  have hw43 := hp41.2.2
                  rw [bW_fr ((show mFr [4, 5, 7, 8, 9, 10, 11, 40, 42, 43, 45, 49, 52, 53, 54, 55, 64] g g38 from (mFr.tr (mFr.tr (mFr.upE (mFr.upE (mFr.upE (mFr.tr (mFr.tr (mFr.tr (mFr.tr mFr.rf hp5.1 rfl) hF10 rfl) hF16 rfl) hp21.1 rfl) eg22 rfl) eg23 rfl) eg25 rfl) hF27 rfl) hp38.1 rfl)).at 33 rfl)] at hw43
                  have q44 : rg (0) (2147483647) v42 := ⟨by have ho := (hv16_0 (by omega)).2 a176_9_26.toInt.toNat (by omega); rw [hw43, show v34.toInt = 4 * ((a176_9_26.toInt.toNat : Nat) : Int) from by omega]; exact ho, i32_le _⟩
                  refine lv_istore (lv' := [(11, .int v42), (10, .int v39), (0, .ref h0), (1, .int p1), (5, .int v1), (6, .int v6), (9, .int a176_9_26)]) hx hb dX12_status_205 hl (by decide) rfl (fun ls hl => ?_)
                  have j207_46 : ∀ (n : Nat) (a207_11_45 : Int32) (g46 : mSt) (H46 : Heap) (k46 : List Loc) (ls : Array Slot), mFr [64] g41 g46 → mL G h0 ad H0 nn X g46 H46 k46 → rg (0) (2147483647) a207_11_45 → lv_has ls 13 [(0, .ref h0), (1, .int p1), (5, .int v1), (6, .int v6), (9, .int a176_9_26), (10, .int v39), (11, .int a207_11_45)] → ((2147483647 : Int) - a207_11_45.toInt).toNat = n → W p l e rm_status s m args below meth c H46 k46 0 0 Q (F0 m 207 ls []) := by
                    intro n
                    induction n using Nat.strongRecOn with
                    | _ n ih46 =>
                      intro a207_11_45 g46 H46 k46 ls hF46 L46 ra207_11_45 hl hn46
                      subst hn46
                      have ua207_11_45 : (0 : Int) ≤ a207_11_45.toInt ∧ a207_11_45.toInt ≤ 2147483647 := ra207_11_45
                      refine lv_iload hx hb dX12_status_207 (lv_at hl 6 rfl) ?_
                      refine lv_iload hx hb dX12_status_209 (lv_at hl 5 rfl) ?_
                      refine lv_icmp_ge (tgt := 266) hx hb dX12_status_211 (by decide) (fun c211_47 => ?_) (fun c211_47 => ?_)
                      · skip
                        have ic211_47 := Int32.le_iff_toInt_le.mp c211_47
                        obtain ⟨v48, ev48, fv48⟩ := inc_ex a176_9_26 (2) (2 : Int32) (by decide)
                        have rv48 : rg (2) (12) v48 := (rg_add ev48 q32 kc_2 rfl).1
                        have tv48 := (rg_add ev48 q32 kc_2 rfl).2
                        have yv48 : (2 : Int32).toInt = 2 := by decide
                        refine lv_iinc (v := v48) (lv' := [(9, .int v48), (0, .ref h0), (1, .int p1), (5, .int v1), (6, .int v6), (10, .int v39), (11, .int a207_11_45)]) hx hb dX12_status_266 hl (k := 4) rfl fv48 (by decide) rfl (fun ls hl => ?_)
                        refine lv_goto (tgt := 176) hx hb dX12_status_269 (by decide) ?_
                        exact ih27 _ (ms_up tv48 kc_2 q32 rfl rfl) v48 g46 _ _ ls (mFr.tr (mFr.tr (mFr.tr hF27 hp38.1 rfl) hp41.1 rfl) hF46 rfl) L46 (rg_w rv48 rfl) (lv_sub hl [1, 2, 3, 4, 0] rfl) rfl
                      · skip
                        have ic211_47 := Int32.lt_iff_toInt_lt.mp (rg_nle c211_47)
                        have q49 : rg (0) (2147483646) a207_11_45 := (rg_lt (rg_nle c211_47) ra207_11_45 rv39).1
                        have uq49 : (0 : Int) ≤ a207_11_45.toInt ∧ a207_11_45.toInt ≤ 2147483646 := q49
                        have q50 : rg (1) (2147483647) v39 := (rg_lt (rg_nle c211_47) ra207_11_45 rv39).2
                        have uq50 : (1 : Int) ≤ v39.toInt ∧ v39.toInt ≤ 2147483647 := q50
                        refine lv_bipush (v := 8) hx hb dX12_status_214 (by decide) ?_
                        refine lv_iload_n hx hb dX12_status_216 rfl (lv_at hl 1 rfl) ?_
                        refine lv_imul hx hb dX12_status_217 ?_
                        refine lv_topi (fun v51 ev51 => ?_)
                        have rv51 : rg (0) (56) v51 := (rg_mulL ev51 kc_8 rp1 rfl).1
                        have tv51 := (rg_mulL ev51 kc_8 rp1 rfl).2
                        have y52 : (8 : Int32).toInt = 8 := by decide
                        have b16v51 : v51.toInt < 16 * nn := by have := np1; have : (8 : Int32).toInt = 8 := (by decide); omega
                        have uv51 : (0 : Int) ≤ v51.toInt ∧ v51.toInt ≤ 56 := rv51
                        refine lv_iload hx hb dX12_status_218 (lv_at hl 6 rfl) ?_
                        refine lv_bipush (v := 8) hx hb dX12_status_220 (by decide) ?_
                        refine lv_irem hx hb dX12_status_222 (by decide) ?_
                        refine lv_topi (fun v53 ev53 => ?_)
                        have rv53 : rg (0) (7) v53 := (rg_rem ev53 q49 kc_8 rfl).1
                        have tv53 := (rg_rem ev53 q49 kc_8 rfl).2
                        have y54 : (8 : Int32).toInt = 8 := by decide
                        have uv53 : (0 : Int) ≤ v53.toInt ∧ v53.toInt ≤ 7 := rv53
                        refine lv_iadd hx hb dX12_status_223 ?_
                        refine lv_topi (fun v55 ev55 => ?_)
                        have rv55 : rg (0) (63) v55 := (rg_add ev55 rv51 rv53 rfl).1
                        have tv55 := (rg_add ev55 rv51 rv53 rfl).2
                        have uv55 : (0 : Int) ≤ v55.toInt ∧ v55.toInt ≤ 63 := rv55
                        refine lv_istore (lv' := [(12, .int v55), (0, .ref h0), (1, .int p1), (5, .int v1), (6, .int v6), (9, .int a176_9_26), (10, .int v39), (11, .int a207_11_45)]) hx hb dX12_status_224 hl (by decide) rfl (fun ls hl => ?_)
                        refine lv_aload_n hx hb dX12_status_226 rfl (lv_at hl 1 rfl) ?_
                        refine m_geta x L46 64 rfl rfl (wm_in uf_180) dX12_status_227 ?_
                        refine lv_iload hx hb dX12_status_230 (lv_at hl 0 rfl) ?_
                        refine lv_aload_n hx hb dX12_status_232 rfl (lv_at hl 1 rfl) ?_
                        refine m_geta x L46 64 rfl rfl (wm_in uf_180) dX12_status_233 ?_
                        refine lv_iload hx hb dX12_status_236 (lv_at hl 0 rfl) ?_
                        refine m_ldz x L46 64 rfl rv55 rfl dX12_status_238 (fun v56 ev56 wv56 => ?_)
                        have rv56 : rg (0) (1) v56 := lj_64 wv56
                        have uv56 : (0 : Int) ≤ v56.toInt ∧ v56.toInt ≤ 1 := rv56
                        have j259_58 : ∀ (b259_2_57 : Int32) (g58 : mSt) (H58 : Heap) (k58 : List Loc) (ls : Array Slot), mFr [] g46 g58 → mL G h0 ad H0 nn X g58 H58 k58 → rg (0) (1) b259_2_57 → lv_has ls 13 [(0, .ref h0), (1, .int p1), (5, .int v1), (6, .int v6), (9, .int a176_9_26), (10, .int v39), (11, .int a207_11_45)] → W p l e rm_status s m args below meth c H58 k58 0 0 Q (F0 m 259 ls [.int b259_2_57, .int v55, .ref (ad 64)]) := by
                          intro b259_2_57 g58 H58 k58 ls hF58 L58 rb259_2_57 hl
                          have ub259_2_57 : (0 : Int) ≤ b259_2_57.toInt ∧ b259_2_57.toInt ≤ 1 := rb259_2_57
                          refine m_stz x L58 64 rfl rv55 rfl (rg_w rb259_2_57 rfl) (rj_64 (rg_w rb259_2_57 rfl)) dX12_status_259 (fun g59 H59 k59 eg59 L59 => ?_)
                          obtain ⟨v60, ev60, fv60⟩ := inc_ex a207_11_45 (1) (1 : Int32) (by decide)
                          have rv60 : rg (1) (2147483647) v60 := (rg_add ev60 q49 kc_1 rfl).1
                          have tv60 := (rg_add ev60 q49 kc_1 rfl).2
                          have yv60 : (1 : Int32).toInt = 1 := by decide
                          refine lv_iinc (v := v60) (lv' := [(11, .int v60), (0, .ref h0), (1, .int p1), (5, .int v1), (6, .int v6), (9, .int a176_9_26), (10, .int v39)]) hx hb dX12_status_260 hl (k := 6) rfl fv60 (by decide) rfl (fun ls hl => ?_)
                          refine lv_goto (tgt := 207) hx hb dX12_status_263 (by decide) ?_
                          exact ih46 _ (ms_up tv60 kc_1 q49 rfl rfl) v60 g59 _ _ ls (mFr.upE (mFr.tr hF46 hF58 rfl) eg59 rfl) L59 (rg_w rv60 rfl) (lv_sub hl [1, 2, 3, 4, 5, 6, 0] rfl) rfl
                        have j254_61 : ∀ (g61 : mSt) (H61 : Heap) (k61 : List Loc) (ls : Array Slot), mFr [] g46 g61 → mL G h0 ad H0 nn X g61 H61 k61 → lv_has ls 13 [(0, .ref h0), (1, .int p1), (5, .int v1), (6, .int v6), (9, .int a176_9_26), (10, .int v39), (11, .int a207_11_45)] → W p l e rm_status s m args below meth c H61 k61 0 0 Q (F0 m 254 ls [.int v55, .ref (ad 64)]) := by
                          intro  g61 H61 k61 ls hF61 L61  hl
                          refine lv_iconst (v := 1) hx hb dX12_status_254 (by decide) ?_
                          refine lv_goto (tgt := 259) hx hb dX12_status_255 (by decide) ?_
                          have y62 : (1 : Int32).toInt = 1 := by decide
                          exact j259_58 (1 : Int32) g61 _ _ ls (mFr.tr mFr.rf hF61 rfl) L61 (rg_w kc_1 rfl) (lv_sub hl [0, 1, 2, 3, 4, 5, 6] rfl)
                        refine lv_if_ne (tgt := 254) hx hb dX12_status_239 (by decide) (fun c239_63 => ?_) (fun c239_63 => ?_)
                        · skip
                          have ic239_63 : v56.toInt ≠ (0 : Int32).toInt := fun z => c239_63 (Int32.toInt_inj.mp z)
                          have y64 : (0 : Int32).toInt = 0 := by decide
                          have q65 : rg (1) (1) v56 := rg_neL c239_63 rv56 kc_0
                          have uq65 : (1 : Int) ≤ v56.toInt ∧ v56.toInt ≤ 1 := q65
                          exact j254_61  g46 _ _ ls mFr.rf L46  (lv_sub hl [1, 2, 3, 4, 5, 6, 7] rfl)
                        · skip
                          have ic239_63 := congrArg Int32.toInt c239_63
                          have y66 : (0 : Int32).toInt = 0 := by decide
                          have q67 : rg (0) (0) v56 := (rg_eq c239_63 rv56 kc_0).1
                          have uq67 : (0 : Int) ≤ v56.toInt ∧ v56.toInt ≤ 0 := q67
                          refine lv_aload_n hx hb dX12_status_242 rfl (lv_at hl 1 rfl) ?_
                          refine m_geta x L46 63 rfl rfl (wm_in uf_177) dX12_status_243 ?_
                          refine lv_iload hx hb dX12_status_246 (lv_at hl 0 rfl) ?_
                          refine m_ld x L46 63 rfl rv55 rfl dX12_status_248 (fun v68 ev68 wv68 => ?_)
                          have rv68 : rg (-2147483648) (2147483647) v68 := lj_63 wv68
                          have uv68 : (-2147483648 : Int) ≤ v68.toInt ∧ v68.toInt ≤ 2147483647 := rv68
                          have sv68 : v68.toInt = (g 63 v55.toNatClampNeg).toInt := congrArg Int32.toInt (ev68.trans (congrFun ((show mFr [4, 5, 7, 8, 9, 10, 11, 40, 42, 43, 45, 49, 52, 53, 54, 55, 64] g g46 from (mFr.tr (mFr.tr (mFr.tr (mFr.tr (mFr.upE (mFr.upE (mFr.upE (mFr.tr (mFr.tr (mFr.tr (mFr.tr mFr.rf hp5.1 rfl) hF10 rfl) hF16 rfl) hp21.1 rfl) eg22 rfl) eg23 rfl) eg25 rfl) hF27 rfl) hp38.1 rfl) hp41.1 rfl) hF46 rfl)).at 63 rfl) _))
                          refine lv_iload hx hb dX12_status_249 (lv_at hl 4 rfl) ?_
                          refine lv_icmp_ge (tgt := 258) hx hb dX12_status_251 (by decide) (fun c251_69 => ?_) (fun c251_69 => ?_)
                          · skip
                            have ic251_69 := Int32.le_iff_toInt_le.mp c251_69
                            refine lv_iconst (v := 0) hx hb dX12_status_258 (by decide) ?_
                            have y70 : (0 : Int32).toInt = 0 := by decide
                            exact j259_58 (0 : Int32) g46 _ _ ls mFr.rf L46 (rg_w kc_0 rfl) (lv_sub hl [1, 2, 3, 4, 5, 6, 7] rfl)
                          · skip
                            have ic251_69 := Int32.lt_iff_toInt_lt.mp (rg_nle c251_69)
                            have q71 : rg (-2147483648) (2147483646) v68 := (rg_lt (rg_nle c251_69) rv68 rv6).1
                            have uq71 : (-2147483648 : Int) ≤ v68.toInt ∧ v68.toInt ≤ 2147483646 := q71
                            have q72 : rg (-2147483647) (2147483647) v6 := (rg_lt (rg_nle c251_69) rv68 rv6).2
                            have uq72 : (-2147483647 : Int) ≤ v6.toInt ∧ v6.toInt ≤ 2147483647 := q72
                            exact j254_61  g46 _ _ ls mFr.rf L46  (lv_sub hl [1, 2, 3, 4, 5, 6, 7] rfl)
                  exact j207_46 _ v42 g41 _ _ ls mFr.rf L41 (rg_w q44 rfl) (lv_sub hl [2, 3, 4, 5, 6, 1, 0] rfl) rfl
            have y73 : (0 : Int32).toInt = 0 := by decide
            exact j176_27 _ (0 : Int32) g25 _ _ ls mFr.rf L25 (rg_w kc_0 rfl) (lv_sub hl [1, 2, 5, 6, 0] rfl) rfl
          · skip
            have ic131_18 := congrArg Int32.toInt c131_18
            have y74 : (0 : Int32).toInt = 0 := by decide
            have q75 : rg (0) (0) a72_7_13 := (rg_eq c131_18 ra72_7_13 kc_0).1
            have uq75 : (0 : Int) ≤ a72_7_13.toInt ∧ a72_7_13.toInt ≤ 0 := q75
            refine lv_aload_n hx hb dX12_status_134 rfl (lv_at hl 0 rfl) ?_
            refine lv_iload_n hx hb dX12_status_135 rfl (lv_at hl 1 rfl) ?_
            refine lv_iconst (v := 1) hx hb dX12_status_136 (by decide) ?_
            refine m_cv (As := [.int p1, .int (1 : Int32)]) (rest := []) x hml L16 (c_askReset l nn X g16 p1 (1 : Int32) hnn hX (rg_w rp1 rfl) np1 (rg_w kc_1 rfl)) (wm_V uc_askReset ul_444 ui_askReset us_askReset u_init) rfl ⟨rfl, rfl⟩ hd_askReset ⟨Nat.le_of_ble_eq_true rfl, Nat.le_of_ble_eq_true rfl⟩ rfl hl.1 rfl (lv_room (Nat.le_of_ble_eq_true rfl)) dX12_status_137 (fun  g76 H76 k76 hp76 L76 => ?_)
            exact hQ _ _ _ _ _ dX12_status_140 L76 ⟨(mFr.tr (mFr.tr (mFr.tr (mFr.tr mFr.rf hp5.1 rfl) hF10 rfl) hF16 rfl) hp76.1 rfl), trivial⟩
        · skip
          have ic76_17 := Int32.lt_iff_toInt_lt.mp (rg_nle c76_17)
          have q77 : rg (0) (11) a72_9_15 := (rg_lt (rg_nle c76_17) ra72_9_15 rv1).1
          have uq77 : (0 : Int) ≤ a72_9_15.toInt ∧ a72_9_15.toInt ≤ 11 := q77
          have q78 : rg (1) (12) v1 := (rg_lt (rg_nle c76_17) ra72_9_15 rv1).2
          have uq78 : (1 : Int) ≤ v1.toInt ∧ v1.toInt ≤ 12 := q78
          refine lv_aload_n hx hb dX12_status_79 rfl (lv_at hl 0 rfl) ?_
          refine lv_iconst (v := 4) hx hb dX12_status_80 (by decide) ?_
          refine lv_iload hx hb dX12_status_81 (lv_at hl 8 rfl) ?_
          refine lv_imul hx hb dX12_status_83 ?_
          refine lv_topi (fun v79 ev79 => ?_)
          have rv79 : rg (0) (44) v79 := (rg_mulL ev79 kc_4 q77 rfl).1
          have tv79 := (rg_mulL ev79 kc_4 q77 rfl).2
          have y80 : (4 : Int32).toInt = 4 := by decide
          have uv79 : (0 : Int) ≤ v79.toInt ∧ v79.toInt ≤ 44 := rv79
          refine m_ci (As := [.int v79]) (rest := []) x hml L16 (c_byteOfWord l nn X g16 v79 hnn hX (rg_w rv79 rfl)) (wm_V uc_byteOfWord ul_406 ui_byteOfWord us_byteOfWord u_init) rfl ⟨rfl, rfl⟩ hd_byteOfWord ⟨Nat.le_of_ble_eq_true rfl, Nat.le_of_ble_eq_true rfl⟩ rfl hl.1 rfl (lv_room (Nat.le_of_ble_eq_true rfl)) dX12_status_84 (fun v82 g81 H81 k81 hp81 L81 => ?_)
          have rv82 : rg (-2147483648) (2147483647) v82 := hp81.2.1
          have uv82 : (-2147483648 : Int) ≤ v82.toInt ∧ v82.toInt ≤ 2147483647 := rv82
          have hw83 := hp81.2.2
          rw [bW_fr ((show mFr [4, 5, 7, 8, 9, 10, 11, 40, 42, 43, 45, 49, 52, 53, 54, 55, 64] g g16 from (mFr.tr (mFr.tr (mFr.tr mFr.rf hp5.1 rfl) hF10 rfl) hF16 rfl)).at 33 rfl)] at hw83
          refine lv_istore (lv' := [(10, .int v82), (0, .ref h0), (1, .int p1), (2, .int p2), (4, .int p4), (5, .int v1), (6, .int v6), (7, .int a72_7_13), (8, .int a72_8_14), (9, .int a72_9_15)]) hx hb dX12_status_87 hl (by decide) rfl (fun ls hl => ?_)
          refine lv_iload hx hb dX12_status_89 (lv_at hl 7 rfl) ?_
          refine lv_if_eq (tgt := 116) hx hb dX12_status_91 (by decide) (fun c91_84 => ?_) (fun c91_84 => ?_)
          · skip
            have ic91_84 := congrArg Int32.toInt c91_84
            have y85 : (0 : Int32).toInt = 0 := by decide
            have q86 : rg (0) (0) a72_7_13 := (rg_eq c91_84 ra72_7_13 kc_0).1
            have uq86 : (0 : Int) ≤ a72_7_13.toInt ∧ a72_7_13.toInt ≤ 0 := q86
            refine lv_iconst (v := 0) hx hb dX12_status_116 (by decide) ?_
            refine lv_istore (lv' := [(7, .int (0 : Int32)), (10, .int v82), (0, .ref h0), (1, .int p1), (2, .int p2), (4, .int p4), (5, .int v1), (6, .int v6), (8, .int a72_8_14), (9, .int a72_9_15)]) hx hb dX12_status_117 hl (by decide) rfl (fun ls hl => ?_)
            refine lv_iload hx hb dX12_status_119 (lv_at hl 1 rfl) ?_
            refine lv_istore (lv' := [(8, .int v82), (7, .int (0 : Int32)), (10, .int v82), (0, .ref h0), (1, .int p1), (2, .int p2), (4, .int p4), (5, .int v1), (6, .int v6), (9, .int a72_9_15)]) hx hb dX12_status_121 hl (by decide) rfl (fun ls hl => ?_)
            obtain ⟨v87, ev87, fv87⟩ := inc_ex a72_9_15 (1) (1 : Int32) (by decide)
            have rv87 : rg (1) (12) v87 := (rg_add ev87 q77 kc_1 rfl).1
            have tv87 := (rg_add ev87 q77 kc_1 rfl).2
            have yv87 : (1 : Int32).toInt = 1 := by decide
            refine lv_iinc (v := v87) (lv' := [(9, .int v87), (8, .int v82), (7, .int (0 : Int32)), (10, .int v82), (0, .ref h0), (1, .int p1), (2, .int p2), (4, .int p4), (5, .int v1), (6, .int v6)]) hx hb dX12_status_123 hl (k := 9) rfl fv87 (by decide) rfl (fun ls hl => ?_)
            refine lv_goto (tgt := 72) hx hb dX12_status_126 (by decide) ?_
            have y88 : (0 : Int32).toInt = 0 := by decide
            exact ih16 _ (ms_up tv87 kc_1 q77 rfl rfl) (0 : Int32) v82 v87 g81 _ _ ls (mFr.tr hF16 hp81.1 rfl) L81 (rg_w kc_0 rfl) (rg_w rv82 rfl) (rg_w rv87 rfl) (fun h => by have : (0 : Int32).toInt = 0 := (by decide); omega) (lv_sub hl [4, 5, 6, 7, 8, 9, 2, 1, 0] rfl) rfl
          · skip
            have ic91_84 : a72_7_13.toInt ≠ (0 : Int32).toInt := fun z => c91_84 (Int32.toInt_inj.mp z)
            have y89 : (0 : Int32).toInt = 0 := by decide
            have q90 : rg (1) (1) a72_7_13 := rg_neL c91_84 ra72_7_13 kc_0
            have uq90 : (1 : Int) ≤ a72_7_13.toInt ∧ a72_7_13.toInt ≤ 1 := q90
            refine lv_iload hx hb dX12_status_94 (lv_at hl 0 rfl) ?_
            refine lv_iload hx hb dX12_status_96 (lv_at hl 8 rfl) ?_
            refine lv_icmp_le (tgt := 116) hx hb dX12_status_98 (by decide) (fun c98_91 => ?_) (fun c98_91 => ?_)
            · skip
              have ic98_91 := Int32.le_iff_toInt_le.mp c98_91
              refine lv_iconst (v := 0) hx hb dX12_status_116 (by decide) ?_
              refine lv_istore (lv' := [(7, .int (0 : Int32)), (10, .int v82), (0, .ref h0), (1, .int p1), (2, .int p2), (4, .int p4), (5, .int v1), (6, .int v6), (8, .int a72_8_14), (9, .int a72_9_15)]) hx hb dX12_status_117 hl (by decide) rfl (fun ls hl => ?_)
              refine lv_iload hx hb dX12_status_119 (lv_at hl 1 rfl) ?_
              refine lv_istore (lv' := [(8, .int v82), (7, .int (0 : Int32)), (10, .int v82), (0, .ref h0), (1, .int p1), (2, .int p2), (4, .int p4), (5, .int v1), (6, .int v6), (9, .int a72_9_15)]) hx hb dX12_status_121 hl (by decide) rfl (fun ls hl => ?_)
              obtain ⟨v92, ev92, fv92⟩ := inc_ex a72_9_15 (1) (1 : Int32) (by decide)
              have rv92 : rg (1) (12) v92 := (rg_add ev92 q77 kc_1 rfl).1
              have tv92 := (rg_add ev92 q77 kc_1 rfl).2
              have yv92 : (1 : Int32).toInt = 1 := by decide
              refine lv_iinc (v := v92) (lv' := [(9, .int v92), (8, .int v82), (7, .int (0 : Int32)), (10, .int v82), (0, .ref h0), (1, .int p1), (2, .int p2), (4, .int p4), (5, .int v1), (6, .int v6)]) hx hb dX12_status_123 hl (k := 9) rfl fv92 (by decide) rfl (fun ls hl => ?_)
              refine lv_goto (tgt := 72) hx hb dX12_status_126 (by decide) ?_
              have y93 : (0 : Int32).toInt = 0 := by decide
              exact ih16 _ (ms_up tv92 kc_1 q77 rfl rfl) (0 : Int32) v82 v92 g81 _ _ ls (mFr.tr hF16 hp81.1 rfl) L81 (rg_w kc_0 rfl) (rg_w rv82 rfl) (rg_w rv92 rfl) (fun h => by have : (0 : Int32).toInt = 0 := (by decide); omega) (lv_sub hl [4, 5, 6, 7, 8, 9, 2, 1, 0] rfl) rfl
            · skip
              have ic98_91 := Int32.lt_iff_toInt_lt.mp (rg_nle c98_91)
              have q94 : rg (-2147483648) (2147483646) a72_8_14 := (rg_lt (rg_nle c98_91) ra72_8_14 rv82).1
              have uq94 : (-2147483648 : Int) ≤ a72_8_14.toInt ∧ a72_8_14.toInt ≤ 2147483646 := q94
              have q95 : rg (-2147483647) (2147483647) v82 := (rg_lt (rg_nle c98_91) ra72_8_14 rv82).2
              have uq95 : (-2147483647 : Int) ≤ v82.toInt ∧ v82.toInt ≤ 2147483647 := q95
              refine lv_iload hx hb dX12_status_101 (lv_at hl 0 rfl) ?_
              refine lv_aload_n hx hb dX12_status_103 rfl (lv_at hl 1 rfl) ?_
              refine m_geta x L81 41 rfl rfl (wm_in uf_110) dX12_status_104 ?_
              refine lv_iload_n hx hb dX12_status_107 rfl (lv_at hl 2 rfl) ?_
              refine m_ld x L81 41 rfl rp1 rfl dX12_status_108 (fun v96 ev96 wv96 => ?_)
              have rv96 : rg (0) (2147483647) v96 := lj_41 wv96
              have uv96 : (0 : Int) ≤ v96.toInt ∧ v96.toInt ≤ 2147483647 := rv96
              have sv96 : v96.toInt = (g 41 p1.toNatClampNeg).toInt := congrArg Int32.toInt (ev96.trans (congrFun ((show mFr [4, 5, 7, 8, 9, 10, 11, 40, 42, 43, 45, 49, 52, 53, 54, 55, 64] g g81 from (mFr.tr (mFr.tr (mFr.tr (mFr.tr mFr.rf hp5.1 rfl) hF10 rfl) hF16 rfl) hp81.1 rfl)).at 41 rfl) _))
              refine lv_icmp_gt (tgt := 116) hx hb dX12_status_109 (by decide) (fun c109_97 => ?_) (fun c109_97 => ?_)
              · skip
                have ic109_97 := Int32.lt_iff_toInt_lt.mp c109_97
                have q98 : rg (0) (2147483646) v96 := (rg_lt c109_97 rv96 q95).1
                have uq98 : (0 : Int) ≤ v96.toInt ∧ v96.toInt ≤ 2147483646 := q98
                have q99 : rg (1) (2147483647) v82 := (rg_lt c109_97 rv96 q95).2
                have uq99 : (1 : Int) ≤ v82.toInt ∧ v82.toInt ≤ 2147483647 := q99
                refine lv_iconst (v := 0) hx hb dX12_status_116 (by decide) ?_
                refine lv_istore (lv' := [(7, .int (0 : Int32)), (10, .int v82), (0, .ref h0), (1, .int p1), (2, .int p2), (4, .int p4), (5, .int v1), (6, .int v6), (8, .int a72_8_14), (9, .int a72_9_15)]) hx hb dX12_status_117 hl (by decide) rfl (fun ls hl => ?_)
                refine lv_iload hx hb dX12_status_119 (lv_at hl 1 rfl) ?_
                refine lv_istore (lv' := [(8, .int v82), (7, .int (0 : Int32)), (10, .int v82), (0, .ref h0), (1, .int p1), (2, .int p2), (4, .int p4), (5, .int v1), (6, .int v6), (9, .int a72_9_15)]) hx hb dX12_status_121 hl (by decide) rfl (fun ls hl => ?_)
                obtain ⟨v100, ev100, fv100⟩ := inc_ex a72_9_15 (1) (1 : Int32) (by decide)
                have rv100 : rg (1) (12) v100 := (rg_add ev100 q77 kc_1 rfl).1
                have tv100 := (rg_add ev100 q77 kc_1 rfl).2
                have yv100 : (1 : Int32).toInt = 1 := by decide
                refine lv_iinc (v := v100) (lv' := [(9, .int v100), (8, .int v82), (7, .int (0 : Int32)), (10, .int v82), (0, .ref h0), (1, .int p1), (2, .int p2), (4, .int p4), (5, .int v1), (6, .int v6)]) hx hb dX12_status_123 hl (k := 9) rfl fv100 (by decide) rfl (fun ls hl => ?_)
                refine lv_goto (tgt := 72) hx hb dX12_status_126 (by decide) ?_
                have y101 : (0 : Int32).toInt = 0 := by decide
                exact ih16 _ (ms_up tv100 kc_1 q77 rfl rfl) (0 : Int32) v82 v100 g81 _ _ ls (mFr.tr hF16 hp81.1 rfl) L81 (rg_w kc_0 rfl) (rg_w q99 rfl) (rg_w rv100 rfl) (fun h => by have : (0 : Int32).toInt = 0 := (by decide); omega) (lv_sub hl [4, 5, 6, 7, 8, 9, 2, 1, 0] rfl) rfl
              · skip
                have ic109_97 := Int32.le_iff_toInt_le.mp (rg_nlt c109_97)
                refine lv_iconst (v := 1) hx hb dX12_status_112 (by decide) ?_
                refine lv_goto (tgt := 117) hx hb dX12_status_113 (by decide) ?_
                refine lv_istore (lv' := [(7, .int (1 : Int32)), (10, .int v82), (0, .ref h0), (1, .int p1), (2, .int p2), (4, .int p4), (5, .int v1), (6, .int v6), (8, .int a72_8_14), (9, .int a72_9_15)]) hx hb dX12_status_117 hl (by decide) rfl (fun ls hl => ?_)
                refine lv_iload hx hb dX12_status_119 (lv_at hl 1 rfl) ?_
                refine lv_istore (lv' := [(8, .int v82), (7, .int (1 : Int32)), (10, .int v82), (0, .ref h0), (1, .int p1), (2, .int p2), (4, .int p4), (5, .int v1), (6, .int v6), (9, .int a72_9_15)]) hx hb dX12_status_121 hl (by decide) rfl (fun ls hl => ?_)
                obtain ⟨v102, ev102, fv102⟩ := inc_ex a72_9_15 (1) (1 : Int32) (by decide)
                have rv102 : rg (1) (12) v102 := (rg_add ev102 q77 kc_1 rfl).1
                have tv102 := (rg_add ev102 q77 kc_1 rfl).2
                have yv102 : (1 : Int32).toInt = 1 := by decide
                refine lv_iinc (v := v102) (lv' := [(9, .int v102), (8, .int v82), (7, .int (1 : Int32)), (10, .int v82), (0, .ref h0), (1, .int p1), (2, .int p2), (4, .int p4), (5, .int v1), (6, .int v6)]) hx hb dX12_status_123 hl (k := 9) rfl fv102 (by decide) rfl (fun ls hl => ?_)
                refine lv_goto (tgt := 72) hx hb dX12_status_126 (by decide) ?_
                have y103 : (1 : Int32).toInt = 1 := by decide
                exact ih16 _ (ms_up tv102 kc_1 q77 rfl rfl) (1 : Int32) v82 v102 g81 _ _ ls (mFr.tr hF16 hp81.1 rfl) L81 (rg_w kc_1 rfl) (rg_w q95 rfl) (rg_w rv102 rfl) (fun _ => ⟨by have := hv16_0 (by omega); omega, fun i hi => by have ho := hv16_0 (by omega); by_cases q : (i : Int) < a72_9_15.toInt; exact ho.2 i q; rw [show 4 * (i : Int) = v79.toInt from by omega, ← hw83]; omega⟩) (lv_sub hl [4, 5, 6, 7, 8, 9, 2, 1, 0] rfl) rfl
    have y104 : (0 : Int32).toInt = 0 := by decide
    exact j72_16 _ b62_0_9 v11 (0 : Int32) g10 _ _ ls mFr.rf L10 (rg_w rb62_0_9 rfl) (rg_w rv11 rfl) (rg_w kc_0 rfl) (fun _ => ⟨by omega, fun i hi => by omega⟩) (lv_sub hl [3, 4, 5, 6, 7, 8, 2, 1, 0] rfl) rfl
  have j61_105 : ∀ (g105 : mSt) (H105 : Heap) (k105 : List Loc) (ls : Array Slot), mFr [] g5 g105 → mL G h0 ad H0 nn X g105 H105 k105 → lv_has ls 13 [(0, .ref h0), (1, .int p1), (2, .int p2), (4, .int p4), (5, .int v1), (6, .int v6)] → W p l e rm_status s m args below meth c H105 k105 0 0 Q (F0 m 61 ls []) := by
    intro  g105 H105 k105 ls hF105 L105  hl
    refine lv_iconst (v := 0) hx hb dX12_status_61 (by decide) ?_
    have y106 : (0 : Int32).toInt = 0 := by decide
    exact j62_10 (0 : Int32) g105 _ _ ls (mFr.tr mFr.rf hF105 rfl) L105 (rg_w kc_0 rfl) (lv_sub hl [0, 1, 2, 3, 4, 5] rfl)
  refine lv_icmp_lt (tgt := 61) hx hb dX12_status_22 (by decide) (fun c22_107 => ?_) (fun c22_107 => ?_)
  · skip
    have ic22_107 := Int32.lt_iff_toInt_lt.mp c22_107
    have q108 : rg (1) (2147483647) v8 := (rg_lt c22_107 rp2 rv8).2
    have uq108 : (1 : Int) ≤ v8.toInt ∧ v8.toInt ≤ 2147483647 := q108
    exact j61_105  g5 _ _ ls mFr.rf L5  (lv_sub hl [2, 3, 4, 6, 1, 0] rfl)
  · skip
    have ic22_107 := Int32.le_iff_toInt_le.mp (rg_nlt c22_107)
    have q109 : rg (0) (16777215) v8 := (rg_le (rg_nlt c22_107) rv8 rp2).1
    have uq109 : (0 : Int) ≤ v8.toInt ∧ v8.toInt ≤ 16777215 := q109
    refine lv_iload_n hx hb dX12_status_25 rfl (lv_at hl 4 rfl) ?_
    refine lv_aload_n hx hb dX12_status_26 rfl (lv_at hl 2 rfl) ?_
    refine m_geta x L5 41 rfl rfl (wm_in uf_110) dX12_status_27 ?_
    refine lv_iload_n hx hb dX12_status_30 rfl (lv_at hl 3 rfl) ?_
    refine m_ld x L5 41 rfl rp1 rfl dX12_status_31 (fun v110 ev110 wv110 => ?_)
    have rv110 : rg (0) (2147483647) v110 := lj_41 wv110
    have uv110 : (0 : Int) ≤ v110.toInt ∧ v110.toInt ≤ 2147483647 := rv110
    have sv110 : v110.toInt = (g 41 p1.toNatClampNeg).toInt := congrArg Int32.toInt (ev110.trans (congrFun ((show mFr [4, 5, 7, 8, 9, 10, 11, 40, 42, 43, 45, 49, 52, 53, 54, 55, 64] g g5 from (mFr.tr mFr.rf hp5.1 rfl)).at 41 rfl) _))
    refine lv_icmp_gt (tgt := 61) hx hb dX12_status_32 (by decide) (fun c32_111 => ?_) (fun c32_111 => ?_)
    · skip
      have ic32_111 := Int32.lt_iff_toInt_lt.mp c32_111
      have q112 : rg (0) (16777214) v110 := (rg_lt c32_111 rv110 rp2).1
      have uq112 : (0 : Int) ≤ v110.toInt ∧ v110.toInt ≤ 16777214 := q112
      have q113 : rg (1) (16777215) p2 := (rg_lt c32_111 rv110 rp2).2
      have uq113 : (1 : Int) ≤ p2.toInt ∧ p2.toInt ≤ 16777215 := q113
      exact j61_105  g5 _ _ ls mFr.rf L5  (lv_sub hl [2, 3, 4, 6, 1, 0] rfl)
    · skip
      have ic32_111 := Int32.le_iff_toInt_le.mp (rg_nlt c32_111)
      refine lv_iload hx hb dX12_status_35 (lv_at hl 0 rfl) ?_
      refine lv_aload_n hx hb dX12_status_37 rfl (lv_at hl 2 rfl) ?_
      refine m_geta x L5 45 rfl rfl (wm_in uf_122) dX12_status_38 ?_
      refine lv_iload_n hx hb dX12_status_41 rfl (lv_at hl 3 rfl) ?_
      refine m_ld x L5 45 rfl rp1 rfl dX12_status_42 (fun v114 ev114 wv114 => ?_)
      have rv114 : rg (-2147483648) (2147483647) v114 := lj_45 wv114
      have uv114 : (-2147483648 : Int) ≤ v114.toInt ∧ v114.toInt ≤ 2147483647 := rv114
      refine lv_icmp_lt (tgt := 61) hx hb dX12_status_43 (by decide) (fun c43_115 => ?_) (fun c43_115 => ?_)
      · skip
        have ic43_115 := Int32.lt_iff_toInt_lt.mp c43_115
        have q116 : rg (-2147483648) (2147483646) v6 := (rg_lt c43_115 rv6 rv114).1
        have uq116 : (-2147483648 : Int) ≤ v6.toInt ∧ v6.toInt ≤ 2147483646 := q116
        have q117 : rg (-2147483647) (2147483647) v114 := (rg_lt c43_115 rv6 rv114).2
        have uq117 : (-2147483647 : Int) ≤ v114.toInt ∧ v114.toInt ≤ 2147483647 := q117
        exact j61_105  g5 _ _ ls mFr.rf L5  (lv_sub hl [2, 3, 4, 6, 1, 0] rfl)
      · skip
        have ic43_115 := Int32.le_iff_toInt_le.mp (rg_nlt c43_115)
        refine lv_iload hx hb dX12_status_46 (lv_at hl 0 rfl) ?_
        refine lv_aload_n hx hb dX12_status_48 rfl (lv_at hl 2 rfl) ?_
        refine m_geta x L5 44 rfl rfl (wm_in uf_119) dX12_status_49 ?_
        refine lv_iload_n hx hb dX12_status_52 rfl (lv_at hl 3 rfl) ?_
        refine m_ld x L5 44 rfl rp1 rfl dX12_status_53 (fun v118 ev118 wv118 => ?_)
        have rv118 : rg (-2147483648) (2147483647) v118 := lj_44 wv118
        have uv118 : (-2147483648 : Int) ≤ v118.toInt ∧ v118.toInt ≤ 2147483647 := rv118
        have sv118 : v118.toInt = (g 44 p1.toNatClampNeg).toInt := congrArg Int32.toInt (ev118.trans (congrFun ((show mFr [4, 5, 7, 8, 9, 10, 11, 40, 42, 43, 45, 49, 52, 53, 54, 55, 64] g g5 from (mFr.tr mFr.rf hp5.1 rfl)).at 44 rfl) _))
        refine lv_icmp_gt (tgt := 61) hx hb dX12_status_54 (by decide) (fun c54_119 => ?_) (fun c54_119 => ?_)
        · skip
          have ic54_119 := Int32.lt_iff_toInt_lt.mp c54_119
          have q120 : rg (-2147483648) (2147483646) v118 := (rg_lt c54_119 rv118 rv6).1
          have uq120 : (-2147483648 : Int) ≤ v118.toInt ∧ v118.toInt ≤ 2147483646 := q120
          have q121 : rg (-2147483647) (2147483647) v6 := (rg_lt c54_119 rv118 rv6).2
          have uq121 : (-2147483647 : Int) ≤ v6.toInt ∧ v6.toInt ≤ 2147483647 := q121
          exact j61_105  g5 _ _ ls mFr.rf L5  (lv_sub hl [2, 3, 4, 6, 1, 0] rfl)
        · skip
          have ic54_119 := Int32.le_iff_toInt_le.mp (rg_nlt c54_119)
          refine lv_iconst (v := 1) hx hb dX12_status_57 (by decide) ?_
          refine lv_goto (tgt := 62) hx hb dX12_status_58 (by decide) ?_
          have y122 : (1 : Int32).toInt = 1 := by decide
          exact j62_10 (1 : Int32) g5 _ _ ls mFr.rf L5 (rg_w kc_1 rfl) (lv_sub hl [2, 3, 4, 6, 1, 0] rfl)
theorem c_status (l : Launch) {G : mG} {h0 : Nat} {ad : Nat → Nat} (nn X : Int) (g : mSt) (p1 : Int32) (p2 : Int32) (p3 : Int32) (p4 : Int32) (hnn : 2 ≤ nn ∧ nn ≤ 4) (hX : 0 ≤ X ∧ X ≤ 2000000000) (rp1 : rg (0) (7) p1) (np1 : p1.toInt < 2 * nn) (rp2 : rg (0) (16777215) p2) (rp3 : rg (3) (15) p3) : Met l yX12_status (wm (Cond.code yX12_status cX12_status 13 none)) rm_status (va_Pc [.ref h0, .int p1, .int p2, .int p3, .int p4] (mPre G h0 ad nn X g)) (mQv G h0 ad nn X (fun g1 => mFr [4, 5, 7, 8, 9, 10, 11, 40, 42, 43, 45, 49, 52, 53, 54, 55, 64] g g1 ∧ True)) 0 0 (mA h0 ad) := by
  refine Met.ofW (cc := cX12_status) (maxL := 13) (ret := none) (by decide) rfl ?_
  intro p e s m args below meth c s₁ B hml hv
  obtain ⟨rfl, hv⟩ := hv
  have hr := B.returns
  have hlocks := B.notSynchronized
  obtain ⟨x, L⟩ := m_start B rfl wm_X hv
  have hl := lv_entry ([.ref h0, .int p1, .int p2, .int p3, .int p4]) (n := 13) (Nat.le_of_ble_eq_true rfl)
  rw [lg_entry_eq]
  generalize (lg_sl ([.ref h0, .int p1, .int p2, .int p3, .int p4]) ++ List.replicate (13 - (lg_sl ([.ref h0, .int p1, .int p2, .int p3, .int p4])).length) Slot.unset).toArray = ls at hl ⊢
  exact w_status x hml L hnn hX p1 p2 p3 p4 rp1 np1 rp2 rp3 hl (fun pc' ls' g1 H1 locs1 hdg L hp => m_vret x L hr hlocks (Int.le_refl _) hp hdg)

def rm_newCall : Room := { frames := 0, cells := 0, slots := 0, locals := 0 }
theorem hd_newCall : yX12_newCall.cls = RX12 ∧ yX12_newCall.cls ≠ "java/lang/invoke/MethodHandle" ∧ yX12_newCall.cls ≠ "java/lang/invoke/VarHandle" ∧ (parseMethodDescriptor yX12_newCall.desc).map (fun d => d.parameters.length) = some 4 := by decide +kernel
set_option maxHeartbeats 4000000 in
set_option maxRecDepth 100000 in
theorem w_newCall {p : Program} {l : Launch} {e : Env} {s : State} {m : MethodId} {args : Array Value} {below : List Frame} {meth : Method} {c : Code} {H : Heap} {locs : List Loc} {Q : State → Prop} {ls : Array Slot} {G : mG} {h0 : Nat} {ad : Nat → Nat} {g : mSt} {H0 : Heap} {nn X : Int} {E : List Int} (x : mX p c cX12_newCall s args (wm (Cond.code yX12_newCall cX12_newCall 6 (some .int))) m G h0 ad) (hml : c.maxLocals = 6) (L : mL G h0 ad H0 nn X g H locs) (hnn : 2 ≤ nn ∧ nn ≤ 4) (hX : 0 ≤ X ∧ X ≤ 2000000000) (p1 : Int32) (p2 : Int32) (p3 : Int32) (p4 : Int32) (hJ : mJ nn E g) (rp1 : rg (0) (7) p1) (np1 : p1.toInt < 2 * nn) (rp2 : rg (1) (11) p2) (rp3 : rg (0) (1) p3) (hend : p1.toInt < nn → (g 80 p1.toNatClampNeg).toInt ≤ 39) (hsw : nn ≤ p1.toInt → ∃ i : Nat, 40 * p1.toInt ≤ (i : Int) ∧ (i : Int) < 40 * p1.toInt + 40 ∧ (g 68 i).toInt = 0) (hl : lv_has ls 6 [(0, .ref h0), (1, .int p1), (2, .int p2), (3, .int p3), (4, .int p4)]) (hQ : ∀ (pc' : Nat) (ls' : Array Slot) (r : Int32) (g1 : mSt) (H1 : Heap) (locs1 : List Loc), decode cX12_newCall pc' = .ok (.ireturn, 1) → mL G h0 ad H0 nn X g1 H1 locs1 → (mFr [68, 69, 70, 71, 74, 75, 76, 77, 78, 79, 80, 86, 87, 89] g g1 ∧ rg (0) (319) r ∧ mJ nn (r.toInt :: E) g1 ∧ rg (1) (11) (g1 68 r.toNatClampNeg) ∧ rg (-2) (-2) (g1 77 r.toNatClampNeg) ∧ (∀ i : Nat, i ≠ r.toNatClampNeg → g1 68 i = g 68 i) ∧ (∀ i : Nat, i ≠ r.toNatClampNeg → g1 77 i = g 77 i) ∧ (40 * p1.toInt ≤ r.toInt ∧ r.toInt < 40 * p1.toInt + 40)) → W p l e rm_newCall s m args below meth c H1 locs1 0 0 Q (F0 m pc' ls' [.int r])) : W p l e rm_newCall s m args below meth c H locs 0 0 Q (F0 m 0 ls []) := by
  have hx := x.1
  have hb := x.2.1
  have up1 : (0 : Int) ≤ p1.toInt ∧ p1.toInt ≤ 7 := rp1
  have up2 : (1 : Int) ≤ p2.toInt ∧ p2.toInt ≤ 11 := rp2
  have up3 : (0 : Int) ≤ p3.toInt ∧ p3.toInt ≤ 1 := rp3
  have up4 : (-2147483648 : Int) ≤ p4.toInt ∧ p4.toInt ≤ 2147483647 := (rg_any p4)
  refine lv_bipush (v := 40) hx hb dX12_newCall_0 (by decide) ?_
  refine lv_iload_n hx hb dX12_newCall_2 rfl (lv_at hl 1 rfl) ?_
  refine lv_imul hx hb dX12_newCall_3 ?_
  refine lv_topi (fun v1 ev1 => ?_)
  have rv1 : rg (0) (280) v1 := (rg_mulL ev1 kc_40 rp1 rfl).1
  have tv1 := (rg_mulL ev1 kc_40 rp1 rfl).2
  have y2 : (40 : Int32).toInt = 40 := by decide
  have b80v1 : v1.toInt < 80 * nn := by have := np1; have : (40 : Int32).toInt = 40 := (by decide); omega
  have uv1 : (0 : Int) ≤ v1.toInt ∧ v1.toInt ≤ 280 := rv1
  refine lv_aload_n hx hb dX12_newCall_4 rfl (lv_at hl 0 rfl) ?_
  refine m_geta x L 80 rfl rfl (wm_in uf_225) dX12_newCall_5 ?_
  refine lv_iload_n hx hb dX12_newCall_8 rfl (lv_at hl 1 rfl) ?_
  refine m_ld x L 80 rfl rp1 rfl dX12_newCall_9 (fun v3 ev3 wv3 => ?_)
  have rv3 : rg (0) (40) v3 := lj_80 wv3
  have uv3 : (0 : Int) ≤ v3.toInt ∧ v3.toInt ≤ 40 := rv3
  have sv3 := congrArg Int32.toInt ev3
  refine lv_iadd hx hb dX12_newCall_10 ?_
  refine lv_topi (fun v4 ev4 => ?_)
  have rv4 : rg (0) (320) v4 := (rg_add ev4 rv1 rv3 rfl).1
  have tv4 := (rg_add ev4 rv1 rv3 rfl).2
  have uv4 : (0 : Int) ≤ v4.toInt ∧ v4.toInt ≤ 320 := rv4
  refine lv_istore (lv' := [(5, .int v4), (0, .ref h0), (1, .int p1), (2, .int p2), (3, .int p3), (4, .int p4)]) hx hb dX12_newCall_11 hl (by decide) rfl (fun ls hl => ?_)
  refine lv_iload_n hx hb dX12_newCall_13 rfl (lv_at hl 2 rfl) ?_
  refine lv_aload_n hx hb dX12_newCall_14 rfl (lv_at hl 1 rfl) ?_
  refine m_geti x L 0 rfl rfl (wm_in uf_260) dX12_newCall_15 (fun v5 ev5 wv5 => ?_)
  have rv5 : rg 2 4 v5 := rg_nn hnn wv5
  have tv5 : v5.toInt = nn := rg_n0 wv5
  have lv5 : v5.toInt = 1 * nn + 0 := by omega
  have uv5 : (2 : Int) ≤ v5.toInt ∧ v5.toInt ≤ 4 := rv5
  have sv5 : v5.toInt = (g 0 0).toInt := congrArg Int32.toInt (ev5.trans (congrFun ((show mFr [68, 69, 70, 71, 74, 75, 76, 77, 78, 79, 80, 86, 87, 89] g g from mFr.rf).at 0 rfl) _))
  have j53_7 : ∀ (a53_5_6 : Int32) (g7 : mSt) (H7 : Heap) (k7 : List Loc) (ls : Array Slot), mFr [80] g g7 → mL G h0 ad H0 nn X g7 H7 k7 → mJ nn E g7 → rg (0) (319) a53_5_6 → (40 * p1.toInt ≤ a53_5_6.toInt ∧ a53_5_6.toInt < 40 * p1.toInt + 40) → lv_has ls 6 [(0, .ref h0), (1, .int p1), (2, .int p2), (3, .int p3), (4, .int p4), (5, .int a53_5_6)] → W p l e rm_newCall s m args below meth c H7 k7 0 0 Q (F0 m 53 ls []) := by
    intro a53_5_6 g7 H7 k7 ls hF7 L7 hJ7 ra53_5_6 hv7_0 hl
    have ua53_5_6 : (0 : Int) ≤ a53_5_6.toInt ∧ a53_5_6.toInt ≤ 319 := ra53_5_6
    refine lv_aload_n hx hb dX12_newCall_53 rfl (lv_at hl 0 rfl) ?_
    refine m_geta x L7 68 rfl rfl (wm_in uf_192) dX12_newCall_54 ?_
    refine lv_iload hx hb dX12_newCall_57 (lv_at hl 5 rfl) ?_
    refine lv_iload_n hx hb dX12_newCall_59 rfl (lv_at hl 2 rfl) ?_
    refine m_st x L7 68 rfl ra53_5_6 rfl (rj_68 (rg_w rp2 rfl)) dX12_newCall_60 (fun g8 H8 k8 eg8 L8 => ?_)
    have hJ9 := mJ_new hJ7 eg8 ra53_5_6.1
    refine lv_aload_n hx hb dX12_newCall_61 rfl (lv_at hl 0 rfl) ?_
    refine m_geta x L8 69 rfl rfl (wm_in uf_195) dX12_newCall_62 ?_
    refine lv_iload hx hb dX12_newCall_65 (lv_at hl 5 rfl) ?_
    refine lv_iload hx hb dX12_newCall_67 (lv_at hl 4 rfl) ?_
    refine m_st x L8 69 rfl ra53_5_6 rfl (rj_69 (rg_any p4)) dX12_newCall_69 (fun g10 H10 k10 eg10 L10 => ?_)
    refine lv_aload_n hx hb dX12_newCall_70 rfl (lv_at hl 0 rfl) ?_
    refine m_geta x L10 70 rfl rfl (wm_in uf_198) dX12_newCall_71 ?_
    refine lv_iload hx hb dX12_newCall_74 (lv_at hl 5 rfl) ?_
    refine lv_iload_n hx hb dX12_newCall_76 rfl (lv_at hl 3 rfl) ?_
    refine m_stz x L10 70 rfl ra53_5_6 rfl (rg_w rp3 rfl) (rj_70 (rg_w rp3 rfl)) dX12_newCall_77 (fun g11 H11 k11 eg11 L11 => ?_)
    refine lv_aload_n hx hb dX12_newCall_78 rfl (lv_at hl 0 rfl) ?_
    refine m_geta x L11 71 rfl rfl (wm_in uf_201) dX12_newCall_79 ?_
    refine lv_iload hx hb dX12_newCall_82 (lv_at hl 5 rfl) ?_
    refine lv_bipush (v := (-2)) hx hb dX12_newCall_84 (by decide) ?_
    refine m_st x L11 71 rfl ra53_5_6 rfl (rj_71 (rg_any (-2 : Int32))) dX12_newCall_86 (fun g12 H12 k12 eg12 L12 => ?_)
    refine lv_aload_n hx hb dX12_newCall_87 rfl (lv_at hl 0 rfl) ?_
    refine m_geta x L12 74 rfl rfl (wm_in uf_210) dX12_newCall_88 ?_
    refine lv_iload hx hb dX12_newCall_91 (lv_at hl 5 rfl) ?_
    refine lv_iconst (v := 0) hx hb dX12_newCall_93 (by decide) ?_
    refine m_st x L12 74 rfl ra53_5_6 rfl (rj_74 (rg_any (0 : Int32))) dX12_newCall_94 (fun g13 H13 k13 eg13 L13 => ?_)
    refine lv_aload_n hx hb dX12_newCall_95 rfl (lv_at hl 0 rfl) ?_
    refine m_geta x L13 75 rfl rfl (wm_in uf_213) dX12_newCall_96 ?_
    refine lv_iload hx hb dX12_newCall_99 (lv_at hl 5 rfl) ?_
    refine lv_aload_n hx hb dX12_newCall_101 rfl (lv_at hl 0 rfl) ?_
    refine m_geti x L13 1 rfl rfl (wm_in uf_378) dX12_newCall_102 (fun v14 ev14 wv14 => ?_)
    have rv14 : rg (-2147483648) (2147483647) v14 := lj_1 wv14
    have uv14 : (-2147483648 : Int) ≤ v14.toInt ∧ v14.toInt ≤ 2147483647 := rv14
    have sv14 : v14.toInt = (g 1 0).toInt := congrArg Int32.toInt (ev14.trans (congrFun ((show mFr [68, 69, 70, 71, 74, 75, 76, 77, 78, 79, 80, 86, 87, 89] g g13 from (mFr.upE (mFr.upE (mFr.upE (mFr.upE (mFr.upE (mFr.tr mFr.rf hF7 rfl) eg8 rfl) eg10 rfl) eg11 rfl) eg12 rfl) eg13 rfl)).at 1 rfl) _))
    refine m_st x L13 75 rfl ra53_5_6 rfl (rj_75 (rg_any v14)) dX12_newCall_105 (fun g15 H15 k15 eg15 L15 => ?_)
    refine lv_aload_n hx hb dX12_newCall_106 rfl (lv_at hl 0 rfl) ?_
    refine m_geta x L15 76 rfl rfl (wm_in uf_216) dX12_newCall_107 ?_
    refine lv_iload hx hb dX12_newCall_110 (lv_at hl 5 rfl) ?_
    refine lv_iconst (v := 0) hx hb dX12_newCall_112 (by decide) ?_
    refine m_stz x L15 76 rfl ra53_5_6 rfl (rg_w kc_0 rfl) (rj_76 (rg_w kc_0 rfl)) dX12_newCall_113 (fun g16 H16 k16 eg16 L16 => ?_)
    refine lv_aload_n hx hb dX12_newCall_114 rfl (lv_at hl 0 rfl) ?_
    refine m_geta x L16 77 rfl rfl (wm_in uf_219) dX12_newCall_115 ?_
    refine lv_iload hx hb dX12_newCall_118 (lv_at hl 5 rfl) ?_
    refine lv_bipush (v := (-2)) hx hb dX12_newCall_120 (by decide) ?_
    refine m_st x L16 77 rfl ra53_5_6 rfl (rj_77 (rg_w kc_m2 rfl) hnn) dX12_newCall_122 (fun g17 H17 k17 eg17 L17 => ?_)
    have hJ18 := mJ_77n (mJ_up (mJ_up (mJ_up (mJ_up (mJ_up (mJ_up hJ9 eg10 rfl) eg11 rfl) eg12 rfl) eg13 rfl) eg15 rfl) eg16 rfl) eg17 kc_m2 rfl
    refine lv_aload_n hx hb dX12_newCall_123 rfl (lv_at hl 0 rfl) ?_
    refine m_geta x L17 78 rfl rfl (wm_in uf_222) dX12_newCall_124 ?_
    refine lv_iload hx hb dX12_newCall_127 (lv_at hl 5 rfl) ?_
    refine lv_aload_n hx hb dX12_newCall_129 rfl (lv_at hl 0 rfl) ?_
    refine m_geti x L17 79 rfl rfl (wm_in uf_466) dX12_newCall_130 (fun v19 ev19 wv19 => ?_)
    have rv19 : rg (-2147483648) (2147483647) v19 := lj_79 wv19
    have uv19 : (-2147483648 : Int) ≤ v19.toInt ∧ v19.toInt ≤ 2147483647 := rv19
    refine m_st x L17 78 rfl ra53_5_6 rfl (rj_78 (rg_any v19)) dX12_newCall_133 (fun g20 H20 k20 eg20 L20 => ?_)
    refine lv_aload_n hx hb dX12_newCall_134 rfl (lv_at hl 0 rfl) ?_
    refine lv_dup hx hb dX12_newCall_135 rfl ?_
    refine m_geti x L20 79 rfl rfl (wm_in uf_466) dX12_newCall_136 (fun v21 ev21 wv21 => ?_)
    refine m_top (((mm_up ev19 eg20 rfl)).trans ev21.symm) ?_
    refine lv_iconst (v := 1) hx hb dX12_newCall_139 (by decide) ?_
    refine lv_iadd hx hb dX12_newCall_140 ?_
    refine lv_topi (fun v22 ev22 => ?_)
    have rv22 : rg (-2147483648) (2147483647) v22 := rg_any v22
    have uv22 : (-2147483648 : Int) ≤ v22.toInt ∧ v22.toInt ≤ 2147483647 := rv22
    refine m_puti x L20 79 rfl fi_79 (wm_in uf_466) dX12_newCall_141 (rj_79 (rg_any v22)) (fun g23 H23 k23 eg23 L23 => ?_)
    refine lv_iload_n hx hb dX12_newCall_144 rfl (lv_at hl 1 rfl) ?_
    refine lv_aload_n hx hb dX12_newCall_145 rfl (lv_at hl 0 rfl) ?_
    refine m_geti x L23 0 rfl rfl (wm_in uf_260) dX12_newCall_146 (fun v24 ev24 wv24 => ?_)
    refine m_top (((mm_up (mm_up (mm_up (mm_up (mm_up (mm_up (mm_up (mm_up (mm_up (mm_up (mm_fr ev5 hF7 rfl) eg8 rfl) eg10 rfl) eg11 rfl) eg12 rfl) eg13 rfl) eg15 rfl) eg16 rfl) eg17 rfl) eg20 rfl) eg23 rfl)).trans ev24.symm) ?_
    have j176_25 : ∀ (g25 : mSt) (H25 : Heap) (k25 : List Loc) (ls : Array Slot), mFr [86, 87, 89] g23 g25 → mL G h0 ad H0 nn X g25 H25 k25 → mJ nn (a53_5_6.toInt :: E) g25 → lv_has ls 6 [(0, .ref h0), (5, .int a53_5_6)] → W p l e rm_newCall s m args below meth c H25 k25 0 0 Q (F0 m 176 ls []) := by
      intro  g25 H25 k25 ls hF25 L25 hJ25  hl
      refine lv_iload hx hb dX12_newCall_176 (lv_at hl 1 rfl) ?_
      exact hQ _ _ a53_5_6 _ _ _ dX12_newCall_178 L25 ⟨(mFr.tr (mFr.upE (mFr.upE (mFr.upE (mFr.upE (mFr.upE (mFr.upE (mFr.upE (mFr.upE (mFr.upE (mFr.upE (mFr.tr mFr.rf hF7 rfl) eg8 rfl) eg10 rfl) eg11 rfl) eg12 rfl) eg13 rfl) eg15 rfl) eg16 rfl) eg17 rfl) eg20 rfl) eg23 rfl) hF25 rfl), rg_w ra53_5_6 rfl, hJ25, rg_eqv (mm_fr (mm_up (mm_up (mm_up (mm_up (mm_up (mm_up (mm_up (mm_up (mm_up (mm_st eg8) eg10 rfl) eg11 rfl) eg12 rfl) eg13 rfl) eg15 rfl) eg16 rfl) eg17 rfl) eg20 rfl) eg23 rfl) hF25 rfl) (rg_w rp2 rfl), rg_eqv (mm_fr (mm_up (mm_up (mm_st eg17) eg20 rfl) eg23 rfl) hF25 rfl) (rg_w kc_m2 rfl), (fun i hi => (show g 68 i = g25 68 i from (mm_fr (mm_up (mm_up (mm_up (mm_up (mm_up (mm_up (mm_up (mm_up (mm_up (mm_un (mm_fr rfl hF7 rfl) eg8 hi) eg10 rfl) eg11 rfl) eg12 rfl) eg13 rfl) eg15 rfl) eg16 rfl) eg17 rfl) eg20 rfl) eg23 rfl) hF25 rfl)).symm), (fun i hi => (show g 77 i = g25 77 i from (mm_fr (mm_up (mm_up (mm_un (mm_up (mm_up (mm_up (mm_up (mm_up (mm_up (mm_up (mm_fr rfl hF7 rfl) eg8 rfl) eg10 rfl) eg11 rfl) eg12 rfl) eg13 rfl) eg15 rfl) eg16 rfl) eg17 hi) eg20 rfl) eg23 rfl) hF25 rfl)).symm), (by omega)⟩
    refine lv_icmp_ge (tgt := 176) hx hb dX12_newCall_149 (by decide) (fun c149_26 => ?_) (fun c149_26 => ?_)
    · skip
      have ic149_26 := Int32.le_iff_toInt_le.mp c149_26
      have q27 : rg (2) (7) p1 := (rg_le c149_26 rv5 rp1).2
      have uq27 : (2 : Int) ≤ p1.toInt ∧ p1.toInt ≤ 7 := q27
      exact j176_25  g23 _ _ ls mFr.rf L23 (mJ_up (mJ_up hJ18 eg20 rfl) eg23 rfl) (lv_sub hl [0, 5] rfl)
    · skip
      have b1p1_28 : p1.toInt < 1 * nn := by have := Int32.lt_iff_toInt_lt.mp (rg_nle c149_26); have := lv5; omega
      have ic149_26 := Int32.lt_iff_toInt_lt.mp (rg_nle c149_26)
      have q29 : rg (0) (3) p1 := (rg_lt (rg_nle c149_26) rp1 rv5).1
      have uq29 : (0 : Int) ≤ p1.toInt ∧ p1.toInt ≤ 3 := q29
      have q30 : rg (0) (159) a53_5_6 := ⟨by omega, by omega⟩
      refine lv_aload_n hx hb dX12_newCall_152 rfl (lv_at hl 0 rfl) ?_
      refine m_geta x L23 86 rfl rfl (wm_in uf_244) dX12_newCall_153 ?_
      refine lv_iload hx hb dX12_newCall_156 (lv_at hl 5 rfl) ?_
      refine lv_iconst (v := 0) hx hb dX12_newCall_158 (by decide) ?_
      refine m_st x L23 86 rfl q30 rfl (rj_86 (rg_w kc_0 rfl)) dX12_newCall_159 (fun g31 H31 k31 eg31 L31 => ?_)
      refine lv_aload_n hx hb dX12_newCall_160 rfl (lv_at hl 0 rfl) ?_
      refine m_geta x L31 87 rfl rfl (wm_in uf_247) dX12_newCall_161 ?_
      refine lv_iload hx hb dX12_newCall_164 (lv_at hl 5 rfl) ?_
      refine lv_iconst (v := 0) hx hb dX12_newCall_166 (by decide) ?_
      refine m_st x L31 87 rfl q30 rfl (rj_87 (rg_w kc_0 rfl)) dX12_newCall_167 (fun g32 H32 k32 eg32 L32 => ?_)
      have hJ33 := mJ_drop (mJ_up (mJ_up hJ18 eg20 rfl) eg23 rfl) eg31 eg32
      refine lv_aload_n hx hb dX12_newCall_168 rfl (lv_at hl 0 rfl) ?_
      refine m_geta x L32 89 rfl rfl (wm_in uf_254) dX12_newCall_169 ?_
      refine lv_iload hx hb dX12_newCall_172 (lv_at hl 5 rfl) ?_
      refine lv_iconst (v := 0) hx hb dX12_newCall_174 (by decide) ?_
      refine m_st x L32 89 rfl q30 rfl (rj_89 (rg_w kc_0 rfl)) dX12_newCall_175 (fun g34 H34 k34 eg34 L34 => ?_)
      have hJ35 := mJ_89 hJ33 eg34 kc_0 rfl
      exact j176_25  g34 _ _ ls (mFr.upE (mFr.upE (mFr.upE mFr.rf eg31 rfl) eg32 rfl) eg34 rfl) L34 hJ35 (lv_sub hl [0, 5] rfl)
  refine lv_icmp_lt (tgt := 43) hx hb dX12_newCall_18 (by decide) (fun c18_36 => ?_) (fun c18_36 => ?_)
  · skip
    have b1p1_37 : p1.toInt < 1 * nn := by have := Int32.lt_iff_toInt_lt.mp c18_36; have := lv5; omega
    have ic18_36 := Int32.lt_iff_toInt_lt.mp c18_36
    have q38 : rg (0) (3) p1 := (rg_lt c18_36 rp1 rv5).1
    have uq38 : (0 : Int) ≤ p1.toInt ∧ p1.toInt ≤ 3 := q38
    refine lv_aload_n hx hb dX12_newCall_43 rfl (lv_at hl 1 rfl) ?_
    refine m_geta x L 80 rfl rfl (wm_in uf_225) dX12_newCall_44 ?_
    refine lv_iload_n hx hb dX12_newCall_47 rfl (lv_at hl 2 rfl) ?_
    refine lv_dup2_11 hx hb dX12_newCall_48 rfl rfl ?_
    refine m_ld x L 80 rfl q38 rfl dX12_newCall_49 (fun v39 ev39 wv39 => ?_)
    refine m_top ((ev3).trans ev39.symm) ?_
    refine lv_iconst (v := 1) hx hb dX12_newCall_50 (by decide) ?_
    refine lv_iadd hx hb dX12_newCall_51 ?_
    refine lv_topi (fun v40 ev40 => ?_)
    have rv40 : rg (1) (41) v40 := (rg_add ev40 rv3 kc_1 rfl).1
    have tv40 := (rg_add ev40 rv3 kc_1 rfl).2
    have y41 : (1 : Int32).toInt = 1 := by decide
    have q42 : rg (1) (40) v40 := ⟨by omega, by omega⟩
    have uv40 : (1 : Int) ≤ v40.toInt ∧ v40.toInt ≤ 40 := q42
    refine m_st x L 80 rfl q38 rfl (rj_80 (rg_w q42 rfl)) dX12_newCall_52 (fun g43 H43 k43 eg43 L43 => ?_)
    exact j53_7 v4 g43 _ _ ls (mFr.upE mFr.rf eg43 rfl) L43 (mJ_up hJ eg43 rfl) ⟨by omega, by omega⟩ (by omega) (lv_sub hl [1, 2, 3, 4, 5, 0] rfl)
  · skip
    have ic18_36 := Int32.le_iff_toInt_le.mp (rg_nlt c18_36)
    have q44 : rg (2) (7) p1 := (rg_le (rg_nlt c18_36) rv5 rp1).2
    have uq44 : (2 : Int) ≤ p1.toInt ∧ p1.toInt ≤ 7 := q44
    refine lv_bipush (v := 40) hx hb dX12_newCall_21 (by decide) ?_
    refine lv_iload_n hx hb dX12_newCall_23 rfl (lv_at hl 2 rfl) ?_
    refine lv_imul hx hb dX12_newCall_24 ?_
    refine m_top ev1 ?_
    refine lv_istore (lv' := [(5, .int v1), (0, .ref h0), (1, .int p1), (2, .int p2), (3, .int p3), (4, .int p4)]) hx hb dX12_newCall_25 hl (by decide) rfl (fun ls hl => ?_)
    have j27_46 : ∀ (n : Nat) (a27_5_45 : Int32) (g46 : mSt) (H46 : Heap) (k46 : List Loc) (ls : Array Slot), mFr [] g g46 → mL G h0 ad H0 nn X g46 H46 k46 → mJ nn E g46 → rg (0) (319) a27_5_45 → (∃ i : Nat, a27_5_45.toInt ≤ (i : Int) ∧ (i : Int) < 40 * p1.toInt + 40 ∧ (g 68 i).toInt = 0 ∧ 40 * p1.toInt ≤ a27_5_45.toInt) → lv_has ls 6 [(0, .ref h0), (1, .int p1), (2, .int p2), (3, .int p3), (4, .int p4), (5, .int a27_5_45)] → (400 - a27_5_45.toInt).toNat = n → W p l e rm_newCall s m args below meth c H46 k46 0 0 Q (F0 m 27 ls []) := by
      intro n
      induction n using Nat.strongRecOn with
      | _ n ih46 =>
        intro a27_5_45 g46 H46 k46 ls hF46 L46 hJ46 ra27_5_45 hv46_0 hl hn46
        subst hn46
        have ua27_5_45 : (0 : Int) ≤ a27_5_45.toInt ∧ a27_5_45.toInt ≤ 319 := ra27_5_45
        refine lv_aload_n hx hb dX12_newCall_27 rfl (lv_at hl 0 rfl) ?_
        refine m_geta x L46 68 rfl rfl (wm_in uf_192) dX12_newCall_28 ?_
        refine lv_iload hx hb dX12_newCall_31 (lv_at hl 5 rfl) ?_
        refine m_ld x L46 68 rfl ra27_5_45 rfl dX12_newCall_33 (fun v47 ev47 wv47 => ?_)
        have rv47 : rg (0) (11) v47 := lj_68 wv47
        have uv47 : (0 : Int) ≤ v47.toInt ∧ v47.toInt ≤ 11 := rv47
        refine lv_if_eq (tgt := 53) hx hb dX12_newCall_34 (by decide) (fun c34_48 => ?_) (fun c34_48 => ?_)
        · skip
          have ic34_48 := congrArg Int32.toInt c34_48
          have y49 : (0 : Int32).toInt = 0 := by decide
          have q50 : rg (0) (0) v47 := (rg_eq c34_48 rv47 kc_0).1
          have uq50 : (0 : Int) ≤ v47.toInt ∧ v47.toInt ≤ 0 := q50
          exact j53_7 a27_5_45 g46 _ _ ls (mFr.tr mFr.rf hF46 rfl) L46 hJ46 (rg_w ra27_5_45 rfl) (by obtain ⟨i, h1, h2, h3, h4⟩ := hv46_0; omega) (lv_sub hl [0, 1, 2, 3, 4, 5] rfl)
        · skip
          have ic34_48 : v47.toInt ≠ (0 : Int32).toInt := fun z => c34_48 (Int32.toInt_inj.mp z)
          have y51 : (0 : Int32).toInt = 0 := by decide
          have q52 : rg (1) (11) v47 := rg_neL c34_48 rv47 kc_0
          have uq52 : (1 : Int) ≤ v47.toInt ∧ v47.toInt ≤ 11 := q52
          obtain ⟨iq, iq1, iq2, iq3, iq4⟩ := hv46_0
          have is0 : v47.toInt = (g 68 a27_5_45.toNatClampNeg).toInt := congrArg Int32.toInt ((ev47).trans (congrFun ((show mFr [] g g46 from (mFr.tr mFr.rf hF46 rfl)).at 68 rfl) _))
          have inz : (1 : Int) ≤ v47.toInt := q52.1
          have ine : (iq : Int) ≠ a27_5_45.toInt := fun q => by have q2 : iq = a27_5_45.toNatClampNeg := (by show iq = a27_5_45.toInt.toNat; omega); rw [q2] at iq3; omega
          have q53 : rg (0) (318) a27_5_45 := ⟨by omega, by omega⟩
          obtain ⟨v54, ev54, fv54⟩ := inc_ex a27_5_45 (1) (1 : Int32) (by decide)
          have rv54 : rg (1) (319) v54 := (rg_add ev54 q53 kc_1 rfl).1
          have tv54 := (rg_add ev54 q53 kc_1 rfl).2
          have yv54 : (1 : Int32).toInt = 1 := by decide
          refine lv_iinc (v := v54) (lv' := [(5, .int v54), (0, .ref h0), (1, .int p1), (2, .int p2), (3, .int p3), (4, .int p4)]) hx hb dX12_newCall_37 hl (k := 5) rfl fv54 (by decide) rfl (fun ls hl => ?_)
          refine lv_goto (tgt := 27) hx hb dX12_newCall_40 (by decide) ?_
          exact ih46 _ (by omega) v54 g46 _ _ ls hF46 L46 hJ46 (rg_w rv54 rfl) ⟨iq, by omega, iq2, iq3, by omega⟩ (lv_sub hl [1, 2, 3, 4, 5, 0] rfl) rfl
    exact j27_46 _ v1 g _ _ ls mFr.rf L hJ (rg_w rv1 rfl) (by obtain ⟨i, h1, h2, h3⟩ := hsw (by omega); exact ⟨i, by omega, h2, h3, by omega⟩) (lv_sub hl [1, 2, 3, 4, 5, 0] rfl) rfl
theorem c_newCall (l : Launch) {E : List Int} {G : mG} {h0 : Nat} {ad : Nat → Nat} (nn X : Int) (g : mSt) (p1 : Int32) (p2 : Int32) (p3 : Int32) (p4 : Int32) (hnn : 2 ≤ nn ∧ nn ≤ 4) (hX : 0 ≤ X ∧ X ≤ 2000000000) (hJ : mJ nn E g) (rp1 : rg (0) (7) p1) (np1 : p1.toInt < 2 * nn) (rp2 : rg (1) (11) p2) (rp3 : rg (0) (1) p3) (hend : p1.toInt < nn → (g 80 p1.toNatClampNeg).toInt ≤ 39) (hsw : nn ≤ p1.toInt → ∃ i : Nat, 40 * p1.toInt ≤ (i : Int) ∧ (i : Int) < 40 * p1.toInt + 40 ∧ (g 68 i).toInt = 0) : Met l yX12_newCall (wm (Cond.code yX12_newCall cX12_newCall 6 (some .int))) rm_newCall (va_Pc [.ref h0, .int p1, .int p2, .int p3, .int p4] (mPre G h0 ad nn X g)) (mQi G h0 ad nn X (fun r g1 => mFr [68, 69, 70, 71, 74, 75, 76, 77, 78, 79, 80, 86, 87, 89] g g1 ∧ rg (0) (319) r ∧ mJ nn (r.toInt :: E) g1 ∧ rg (1) (11) (g1 68 r.toNatClampNeg) ∧ rg (-2) (-2) (g1 77 r.toNatClampNeg) ∧ (∀ i : Nat, i ≠ r.toNatClampNeg → g1 68 i = g 68 i) ∧ (∀ i : Nat, i ≠ r.toNatClampNeg → g1 77 i = g 77 i) ∧ (40 * p1.toInt ≤ r.toInt ∧ r.toInt < 40 * p1.toInt + 40))) 0 0 (mA h0 ad) := by
  refine Met.ofW (cc := cX12_newCall) (maxL := 6) (ret := (some .int)) (by decide) rfl ?_
  intro p e s m args below meth c s₁ B hml hv
  obtain ⟨rfl, hv⟩ := hv
  have hr := B.returns
  have hlocks := B.notSynchronized
  obtain ⟨x, L⟩ := m_start B rfl wm_X hv
  have hl := lv_entry ([.ref h0, .int p1, .int p2, .int p3, .int p4]) (n := 6) (Nat.le_of_ble_eq_true rfl)
  rw [lg_entry_eq]
  generalize (lg_sl ([.ref h0, .int p1, .int p2, .int p3, .int p4]) ++ List.replicate (6 - (lg_sl ([.ref h0, .int p1, .int p2, .int p3, .int p4])).length) Slot.unset).toArray = ls at hl ⊢
  exact w_newCall x hml L hnn hX p1 p2 p3 p4 hJ rp1 np1 rp2 rp3 hend hsw hl (fun pc' ls' r g1 H1 locs1 hdg L hp => m_iret x L hr hlocks (Int.le_refl _) hp hdg)

def rm_setupAtEnd : Room := { frames := 4, cells := 0, slots := 0, locals := 88 }
theorem hd_setupAtEnd : yX12_setupAtEnd.cls = RX12 ∧ yX12_setupAtEnd.cls ≠ "java/lang/invoke/MethodHandle" ∧ yX12_setupAtEnd.cls ≠ "java/lang/invoke/VarHandle" ∧ (parseMethodDescriptor yX12_setupAtEnd.desc).map (fun d => d.parameters.length) = some 5 := by decide +kernel
set_option maxHeartbeats 4000000 in
set_option maxRecDepth 100000 in
theorem w_setupAtEnd {p : Program} {l : Launch} {e : Env} {s : State} {m : MethodId} {args : Array Value} {below : List Frame} {meth : Method} {c : Code} {H : Heap} {locs : List Loc} {Q : State → Prop} {ls : Array Slot} {G : mG} {h0 : Nat} {ad : Nat → Nat} {g : mSt} {H0 : Heap} {nn X : Int} (x : mX p c cX12_setupAtEnd s args (wm (Cond.code yX12_setupAtEnd cX12_setupAtEnd 7 none)) m G h0 ad) (hml : c.maxLocals = 7) (L : mL G h0 ad H0 nn X g H locs) (hnn : 2 ≤ nn ∧ nn ≤ 4) (hX : 0 ≤ X ∧ X ≤ 2000000000) (p1 : Int32) (p2 : Int32) (p3 : Int32) (p4 : Int32) (p5 : Int32) (hJ : mJ nn [] g) (rp1 : rg (0) (3) p1) (np1 : p1.toInt < 1 * nn) (hl : lv_has ls 7 [(0, .ref h0), (1, .int p1), (2, .int p2), (3, .int p3), (4, .int p4), (5, .int p5)]) (hQ : ∀ (pc' : Nat) (ls' : Array Slot) (g1 : mSt) (H1 : Heap) (locs1 : List Loc), decode cX12_setupAtEnd pc' = .ok (.return_, 1) → mL G h0 ad H0 nn X g1 H1 locs1 → (mFr [58, 59, 60, 68, 69, 70, 71, 72, 73, 74, 75, 76, 77, 78, 79, 80, 86, 87, 89, 90, 91] g g1 ∧ mJ nn [] g1 ∧ True) → W p l e rm_setupAtEnd s m args below meth c H1 locs1 0 0 Q (F0 m pc' ls' [])) : W p l e rm_setupAtEnd s m args below meth c H locs 0 0 Q (F0 m 0 ls []) := by
  have hx := x.1
  have hb := x.2.1
  have up1 : (0 : Int) ≤ p1.toInt ∧ p1.toInt ≤ 3 := rp1
  have up2 : (-2147483648 : Int) ≤ p2.toInt ∧ p2.toInt ≤ 2147483647 := (rg_any p2)
  have up3 : (-2147483648 : Int) ≤ p3.toInt ∧ p3.toInt ≤ 2147483647 := (rg_any p3)
  have up4 : (-2147483648 : Int) ≤ p4.toInt ∧ p4.toInt ≤ 2147483647 := (rg_any p4)
  have up5 : (-2147483648 : Int) ≤ p5.toInt ∧ p5.toInt ≤ 2147483647 := (rg_any p5)
  refine lv_aload_n hx hb dX12_setupAtEnd_0 rfl (lv_at hl 0 rfl) ?_
  refine lv_iload_n hx hb dX12_setupAtEnd_1 rfl (lv_at hl 1 rfl) ?_
  refine m_ci (As := [.int p1]) (rest := []) x hml L (c_openCalls l nn X g p1 hnn hX (rg_w rp1 rfl)) (wm_V uc_openCalls ul_546 ui_openCalls us_openCalls u_init) rfl ⟨rfl, rfl⟩ hd_openCalls ⟨Nat.le_of_ble_eq_true rfl, Nat.le_of_ble_eq_true rfl⟩ rfl hl.1 rfl (lv_room (Nat.le_of_ble_eq_true rfl)) dX12_setupAtEnd_2 (fun v2 g1 H1 k1 hp1 L1 => ?_)
  have rv2 : rg (-2147483648) (2147483647) v2 := hp1.2.1
  have uv2 : (-2147483648 : Int) ≤ v2.toInt ∧ v2.toInt ≤ 2147483647 := rv2
  refine lv_bipush (v := 8) hx hb dX12_setupAtEnd_5 (by decide) ?_
  have j21_3 : ∀ (g3 : mSt) (H3 : Heap) (k3 : List Loc) (ls : Array Slot), mFr [] g1 g3 → mL G h0 ad H0 nn X g3 H3 k3 → mJ nn [] g3 → lv_has ls 7 [(0, .ref h0), (1, .int p1), (2, .int p2)] → W p l e rm_setupAtEnd s m args below meth c H3 k3 0 0 Q (F0 m 21 ls []) := by
    intro  g3 H3 k3 ls hF3 L3 hJ3  hl
    refine lv_aload_n hx hb dX12_setupAtEnd_21 rfl (lv_at hl 0 rfl) ?_
    refine lv_iload_n hx hb dX12_setupAtEnd_22 rfl (lv_at hl 1 rfl) ?_
    refine lv_iconst (v := 0) hx hb dX12_setupAtEnd_23 (by decide) ?_
    refine lv_iload_n hx hb dX12_setupAtEnd_24 rfl (lv_at hl 2 rfl) ?_
    refine lv_bipush (v := 90) hx hb dX12_setupAtEnd_25 (by decide) ?_
    refine lv_bipush (v := 47) hx hb dX12_setupAtEnd_27 (by decide) ?_
    refine m_cv (As := [.int p1, .int (0 : Int32), .int p2, .int (90 : Int32), .int (47 : Int32)]) (rest := []) x hml L3 (c_withCause l nn X g3 p1 (0 : Int32) p2 (90 : Int32) (47 : Int32) hnn hX (rg_w rp1 rfl) (rg_w kc_0 rfl)) (wm_V uc_withCause ul_488 ui_withCause us_withCause u_init) rfl ⟨rfl, rfl⟩ hd_withCause ⟨Nat.le_of_ble_eq_true rfl, Nat.le_of_ble_eq_true rfl⟩ rfl hl.1 rfl (lv_room (Nat.le_of_ble_eq_true rfl)) dX12_setupAtEnd_29 (fun  g4 H4 k4 hp4 L4 => ?_)
    exact hQ _ _ _ _ _ dX12_setupAtEnd_32 L4 ⟨(mFr.tr (mFr.tr (mFr.tr mFr.rf hp1.1 rfl) hF3 rfl) hp4.1 rfl), (mJ_fr hJ3 hp4.1 rfl), trivial⟩
  refine lv_icmp_eq (tgt := 21) hx hb dX12_setupAtEnd_7 (by decide) (fun c7_5 => ?_) (fun c7_5 => ?_)
  · skip
    have ic7_5 := congrArg Int32.toInt c7_5
    have y6 : (8 : Int32).toInt = 8 := by decide
    have q7 : rg (8) (8) v2 := (rg_eq c7_5 rv2 kc_8).1
    have uq7 : (8 : Int) ≤ v2.toInt ∧ v2.toInt ≤ 8 := q7
    exact j21_3  g1 _ _ ls mFr.rf L1 (mJ_fr hJ hp1.1 rfl) (lv_sub hl [0, 1, 2] rfl)
  · skip
    have ic7_5 : v2.toInt ≠ (8 : Int32).toInt := fun z => c7_5 (Int32.toInt_inj.mp z)
    have y8 : (8 : Int32).toInt = 8 := by decide
    refine lv_aload_n hx hb dX12_setupAtEnd_10 rfl (lv_at hl 0 rfl) ?_
    refine m_geta x L1 80 rfl rfl (wm_in uf_225) dX12_setupAtEnd_11 ?_
    refine lv_iload_n hx hb dX12_setupAtEnd_14 rfl (lv_at hl 1 rfl) ?_
    refine m_ld x L1 80 rfl rp1 rfl dX12_setupAtEnd_15 (fun v9 ev9 wv9 => ?_)
    have rv9 : rg (0) (40) v9 := lj_80 wv9
    have uv9 : (0 : Int) ≤ v9.toInt ∧ v9.toInt ≤ 40 := rv9
    refine lv_bipush (v := 40) hx hb dX12_setupAtEnd_16 (by decide) ?_
    refine lv_icmp_ne (tgt := 33) hx hb dX12_setupAtEnd_18 (by decide) (fun c18_10 => ?_) (fun c18_10 => ?_)
    · skip
      have ic18_10 : v9.toInt ≠ (40 : Int32).toInt := fun z => c18_10 (Int32.toInt_inj.mp z)
      have y11 : (40 : Int32).toInt = 40 := by decide
      have q12 : rg (0) (39) v9 := rg_neH c18_10 rv9 kc_40
      have uq12 : (0 : Int) ≤ v9.toInt ∧ v9.toInt ≤ 39 := q12
      refine lv_aload_n hx hb dX12_setupAtEnd_33 rfl (lv_at hl 0 rfl) ?_
      refine lv_iload_n hx hb dX12_setupAtEnd_34 rfl (lv_at hl 1 rfl) ?_
      refine lv_bipush (v := 6) hx hb dX12_setupAtEnd_35 (by decide) ?_
      refine lv_iconst (v := 0) hx hb dX12_setupAtEnd_37 (by decide) ?_
      refine lv_iload_n hx hb dX12_setupAtEnd_38 rfl (lv_at hl 2 rfl) ?_
      refine m_ci (As := [.int p1, .int (6 : Int32), .int (0 : Int32), .int p2]) (rest := []) x hml L1 (c_newCall l nn X g1 p1 (6 : Int32) (0 : Int32) p2 hnn hX (mJ_fr hJ hp1.1 rfl) (rg_w rp1 rfl) (nb_of rp1 rfl hnn) (rg_w kc_6 rfl) (rg_w kc_0 rfl) (fun _ => (rg_eqv ev9 (rg_w q12 rfl : rg 0 39 v9)).2) (fun h => absurd h (by have := np1; omega))) (wm_V uc_newCall ul_549 ui_newCall us_newCall u_init) rfl ⟨rfl, rfl⟩ hd_newCall ⟨Nat.le_of_ble_eq_true rfl, Nat.le_of_ble_eq_true rfl⟩ rfl hl.1 rfl (lv_room (Nat.le_of_ble_eq_true rfl)) dX12_setupAtEnd_39 (fun v14 g13 H13 k13 hp13 L13 => ?_)
      have rv14 : rg (0) (319) v14 := hp13.2.1
      have uv14 : (0 : Int) ≤ v14.toInt ∧ v14.toInt ≤ 319 := rv14
      obtain ⟨v15, ev15⟩ : ∃ y : Int32, y = g13 68 v14.toNatClampNeg := ⟨_, rfl⟩
      have rv15 : rg (1) (11) v15 := rg_eqv ev15.symm hp13.2.2.2.1
      have uv15 : (1 : Int) ≤ v15.toInt ∧ v15.toInt ≤ 11 := rv15
      obtain ⟨v16, ev16⟩ : ∃ y : Int32, y = g13 77 v14.toNatClampNeg := ⟨_, rfl⟩
      have rv16 : rg (-2) (-2) v16 := rg_eqv ev16.symm hp13.2.2.2.2.1
      have uv16 : (-2 : Int) ≤ v16.toInt ∧ v16.toInt ≤ -2 := rv16
      have hw17 := hp13.2.2.2.2.2.1
      have hw18 := hp13.2.2.2.2.2.2.1
      have hw19 := hp13.2.2.2.2.2.2.2
      refine lv_istore (lv' := [(6, .int v14), (0, .ref h0), (1, .int p1), (2, .int p2), (3, .int p3), (4, .int p4), (5, .int p5)]) hx hb dX12_setupAtEnd_42 hl (by decide) rfl (fun ls hl => ?_)
      refine lv_aload_n hx hb dX12_setupAtEnd_44 rfl (lv_at hl 1 rfl) ?_
      refine m_geta x L13 72 rfl rfl (wm_in uf_204) dX12_setupAtEnd_45 ?_
      refine lv_iload hx hb dX12_setupAtEnd_48 (lv_at hl 0 rfl) ?_
      refine lv_iload_n hx hb dX12_setupAtEnd_50 rfl (lv_at hl 4 rfl) ?_
      refine m_st x L13 72 rfl rv14 rfl (rj_72 (rg_any p3)) dX12_setupAtEnd_51 (fun g20 H20 k20 eg20 L20 => ?_)
      have hJ21 := mJ_72e (mJ_end hp13.2.2.1 (by omega)) eg20 rv14.1 (by omega)
      refine lv_aload_n hx hb dX12_setupAtEnd_52 rfl (lv_at hl 1 rfl) ?_
      refine m_geta x L20 73 rfl rfl (wm_in uf_207) dX12_setupAtEnd_53 ?_
      refine lv_iload hx hb dX12_setupAtEnd_56 (lv_at hl 0 rfl) ?_
      refine lv_iload hx hb dX12_setupAtEnd_58 (lv_at hl 5 rfl) ?_
      refine m_st x L20 73 rfl rv14 rfl (rj_73 (rg_any p4)) dX12_setupAtEnd_60 (fun g22 H22 k22 eg22 L22 => ?_)
      refine lv_aload_n hx hb dX12_setupAtEnd_61 rfl (lv_at hl 1 rfl) ?_
      refine m_geta x L22 71 rfl rfl (wm_in uf_201) dX12_setupAtEnd_62 ?_
      refine lv_iload hx hb dX12_setupAtEnd_65 (lv_at hl 0 rfl) ?_
      refine lv_iload hx hb dX12_setupAtEnd_67 (lv_at hl 6 rfl) ?_
      refine m_st x L22 71 rfl rv14 rfl (rj_71 (rg_any p5)) dX12_setupAtEnd_69 (fun g23 H23 k23 eg23 L23 => ?_)
      refine lv_aload_n hx hb dX12_setupAtEnd_70 rfl (lv_at hl 1 rfl) ?_
      refine m_geta x L23 82 rfl rfl (wm_in uf_231) dX12_setupAtEnd_71 ?_
      refine lv_iload_n hx hb dX12_setupAtEnd_74 rfl (lv_at hl 2 rfl) ?_
      refine m_ld x L23 82 rfl rp1 rfl dX12_setupAtEnd_75 (fun v24 ev24 wv24 => ?_)
      have rv24 : rg (-2147483648) (2147483647) v24 := lj_82 wv24
      have uv24 : (-2147483648 : Int) ≤ v24.toInt ∧ v24.toInt ≤ 2147483647 := rv24
      have sv24 : v24.toInt = (g 82 p1.toNatClampNeg).toInt := congrArg Int32.toInt (ev24.trans (congrFun ((show mFr [58, 59, 60, 68, 69, 70, 71, 72, 73, 74, 75, 76, 77, 78, 79, 80, 86, 87, 89, 90, 91] g g23 from (mFr.upE (mFr.upE (mFr.upE (mFr.tr (mFr.tr mFr.rf hp1.1 rfl) hp13.1 rfl) eg20 rfl) eg22 rfl) eg23 rfl)).at 82 rfl) _))
      have j140_25 : ∀ (g25 : mSt) (H25 : Heap) (k25 : List Loc) (ls : Array Slot), mFr [58, 59, 60, 68, 74, 75, 86, 87, 89, 90, 91] g23 g25 → mL G h0 ad H0 nn X g25 H25 k25 → mJ nn [] g25 → lv_has ls 7 [(0, .ref h0)] → W p l e rm_setupAtEnd s m args below meth c H25 k25 0 0 Q (F0 m 140 ls []) := by
        intro  g25 H25 k25 ls hF25 L25 hJ25  hl
        exact hQ _ _ _ _ _ dX12_setupAtEnd_140 L25 ⟨(mFr.tr (mFr.upE (mFr.upE (mFr.upE (mFr.tr (mFr.tr mFr.rf hp1.1 rfl) hp13.1 rfl) eg20 rfl) eg22 rfl) eg23 rfl) hF25 rfl), hJ25, trivial⟩
      refine lv_if_ne (tgt := 88) hx hb dX12_setupAtEnd_76 (by decide) (fun c76_26 => ?_) (fun c76_26 => ?_)
      · skip
        have ic76_26 : v24.toInt ≠ (0 : Int32).toInt := fun z => c76_26 (Int32.toInt_inj.mp z)
        have y27 : (0 : Int32).toInt = 0 := by decide
        refine lv_aload_n hx hb dX12_setupAtEnd_88 rfl (lv_at hl 1 rfl) ?_
        refine m_geta x L23 82 rfl rfl (wm_in uf_231) dX12_setupAtEnd_89 ?_
        refine lv_iload_n hx hb dX12_setupAtEnd_92 rfl (lv_at hl 2 rfl) ?_
        refine m_ld x L23 82 rfl rp1 rfl dX12_setupAtEnd_93 (fun v28 ev28 wv28 => ?_)
        refine m_top ((ev24).trans ev28.symm) ?_
        refine lv_iconst (v := 1) hx hb dX12_setupAtEnd_94 (by decide) ?_
        refine lv_icmp_ne (tgt := 121) hx hb dX12_setupAtEnd_95 (by decide) (fun c95_29 => ?_) (fun c95_29 => ?_)
        · skip
          have ic95_29 : v24.toInt ≠ (1 : Int32).toInt := fun z => c95_29 (Int32.toInt_inj.mp z)
          have y30 : (1 : Int32).toInt = 1 := by decide
          refine lv_aload_n hx hb dX12_setupAtEnd_121 rfl (lv_at hl 1 rfl) ?_
          refine lv_iload_n hx hb dX12_setupAtEnd_122 rfl (lv_at hl 2 rfl) ?_
          refine lv_iconst (v := 0) hx hb dX12_setupAtEnd_123 (by decide) ?_
          refine lv_iload_n hx hb dX12_setupAtEnd_124 rfl (lv_at hl 3 rfl) ?_
          refine lv_bipush (v := 90) hx hb dX12_setupAtEnd_125 (by decide) ?_
          refine lv_bipush (v := 17) hx hb dX12_setupAtEnd_127 (by decide) ?_
          refine m_cv (As := [.int p1, .int (0 : Int32), .int p2, .int (90 : Int32), .int (17 : Int32)]) (rest := []) x hml L23 (c_withCause l nn X g23 p1 (0 : Int32) p2 (90 : Int32) (17 : Int32) hnn hX (rg_w rp1 rfl) (rg_w kc_0 rfl)) (wm_V uc_withCause ul_488 ui_withCause us_withCause u_init) rfl ⟨rfl, rfl⟩ hd_withCause ⟨Nat.le_of_ble_eq_true rfl, Nat.le_of_ble_eq_true rfl⟩ rfl hl.1 rfl (lv_room (Nat.le_of_ble_eq_true rfl)) dX12_setupAtEnd_129 (fun  g31 H31 k31 hp31 L31 => ?_)
          refine lv_aload_n hx hb dX12_setupAtEnd_132 rfl (lv_at hl 1 rfl) ?_
          refine lv_iload hx hb dX12_setupAtEnd_133 (lv_at hl 0 rfl) ?_
          refine lv_bipush (v := 17) hx hb dX12_setupAtEnd_135 (by decide) ?_
          refine m_cv (As := [.int v14, .int (17 : Int32)]) (rest := []) x hml L31 (c_over l nn X g31 v14 (17 : Int32) hnn hX (mJ_fr (mJ_up (mJ_up hJ21 eg22 rfl) eg23 rfl) hp31.1 rfl) (rg_w rv14 rfl)) (wm_V uc_over ul_498 ui_over us_over u_init) rfl ⟨rfl, rfl⟩ hd_over ⟨Nat.le_of_ble_eq_true rfl, Nat.le_of_ble_eq_true rfl⟩ rfl hl.1 rfl (lv_room (Nat.le_of_ble_eq_true rfl)) dX12_setupAtEnd_137 (fun  g32 H32 k32 hp32 L32 => ?_)
          exact j140_25  g32 _ _ ls (mFr.tr (mFr.tr mFr.rf hp31.1 rfl) hp32.1 rfl) L32 hp32.2.1 (lv_sub hl [1] rfl)
        · skip
          have ic95_29 := congrArg Int32.toInt c95_29
          have y33 : (1 : Int32).toInt = 1 := by decide
          have q34 : rg (1) (1) v24 := (rg_eq c95_29 rv24 kc_1).1
          have uq34 : (1 : Int) ≤ v24.toInt ∧ v24.toInt ≤ 1 := q34
          refine lv_aload_n hx hb dX12_setupAtEnd_98 rfl (lv_at hl 1 rfl) ?_
          refine m_geta x L23 74 rfl rfl (wm_in uf_210) dX12_setupAtEnd_99 ?_
          refine lv_iload hx hb dX12_setupAtEnd_102 (lv_at hl 0 rfl) ?_
          refine lv_aload_n hx hb dX12_setupAtEnd_104 rfl (lv_at hl 1 rfl) ?_
          refine m_geta x L23 83 rfl rfl (wm_in uf_234) dX12_setupAtEnd_105 ?_
          refine lv_iload_n hx hb dX12_setupAtEnd_108 rfl (lv_at hl 2 rfl) ?_
          refine m_ld x L23 83 rfl rp1 rfl dX12_setupAtEnd_109 (fun v35 ev35 wv35 => ?_)
          have rv35 : rg (-2147483648) (2147483647) v35 := lj_83 wv35
          have uv35 : (-2147483648 : Int) ≤ v35.toInt ∧ v35.toInt ≤ 2147483647 := rv35
          have sv35 : v35.toInt = (g 83 p1.toNatClampNeg).toInt := congrArg Int32.toInt (ev35.trans (congrFun ((show mFr [58, 59, 60, 68, 69, 70, 71, 72, 73, 74, 75, 76, 77, 78, 79, 80, 86, 87, 89, 90, 91] g g23 from (mFr.upE (mFr.upE (mFr.upE (mFr.tr (mFr.tr mFr.rf hp1.1 rfl) hp13.1 rfl) eg20 rfl) eg22 rfl) eg23 rfl)).at 83 rfl) _))
          refine m_st x L23 74 rfl rv14 rfl (rj_74 (rg_any v35)) dX12_setupAtEnd_110 (fun g36 H36 k36 eg36 L36 => ?_)
          refine lv_aload_n hx hb dX12_setupAtEnd_111 rfl (lv_at hl 1 rfl) ?_
          refine lv_iload hx hb dX12_setupAtEnd_112 (lv_at hl 0 rfl) ?_
          refine lv_iconst (v := 2) hx hb dX12_setupAtEnd_114 (by decide) ?_
          refine m_cv (As := [.int v14, .int (2 : Int32)]) (rest := []) x hml L36 (c_plain l nn X g36 v14 (2 : Int32) hnn hX (rg_w rv14 rfl)) (wm_V uc_plain ul_516 ui_plain us_plain u_init) rfl ⟨rfl, rfl⟩ hd_plain ⟨Nat.le_of_ble_eq_true rfl, Nat.le_of_ble_eq_true rfl⟩ rfl hl.1 rfl (lv_room (Nat.le_of_ble_eq_true rfl)) dX12_setupAtEnd_115 (fun  g37 H37 k37 hp37 L37 => ?_)
          refine lv_goto (tgt := 140) hx hb dX12_setupAtEnd_118 (by decide) ?_
          exact j140_25  g37 _ _ ls (mFr.tr (mFr.upE mFr.rf eg36 rfl) hp37.1 rfl) L37 (mJ_fr (mJ_up (mJ_up (mJ_up hJ21 eg22 rfl) eg23 rfl) eg36 rfl) hp37.1 rfl) (lv_sub hl [1] rfl)
      · skip
        have ic76_26 := congrArg Int32.toInt c76_26
        have y38 : (0 : Int32).toInt = 0 := by decide
        have q39 : rg (0) (0) v24 := (rg_eq c76_26 rv24 kc_0).1
        have uq39 : (0 : Int) ≤ v24.toInt ∧ v24.toInt ≤ 0 := q39
        refine lv_aload_n hx hb dX12_setupAtEnd_79 rfl (lv_at hl 1 rfl) ?_
        refine lv_iload hx hb dX12_setupAtEnd_80 (lv_at hl 0 rfl) ?_
        refine m_cv (As := [.int v14]) (rest := []) x hml L23 (c_answer l nn X g23 v14 hnn hX (mJ_up (mJ_up hJ21 eg22 rfl) eg23 rfl) (rg_w rv14 rfl) (rg_eqv (mm_up (mm_up (mm_up ev15 eg20 rfl) eg22 rfl) eg23 rfl) (rg_w rv15 rfl))) (wm_V uc_answer ul_510 ui_answer us_answer u_init) rfl ⟨rfl, rfl⟩ hd_answer ⟨Nat.le_of_ble_eq_true rfl, Nat.le_of_ble_eq_true rfl⟩ rfl hl.1 rfl (lv_room (Nat.le_of_ble_eq_true rfl)) dX12_setupAtEnd_82 (fun  g40 H40 k40 hp40 L40 => ?_)
        refine lv_goto (tgt := 140) hx hb dX12_setupAtEnd_85 (by decide) ?_
        exact j140_25  g40 _ _ ls (mFr.tr mFr.rf hp40.1 rfl) L40 hp40.2.1 (lv_sub hl [1] rfl)
    · skip
      have ic18_10 := congrArg Int32.toInt c18_10
      have y41 : (40 : Int32).toInt = 40 := by decide
      have q42 : rg (40) (40) v9 := (rg_eq c18_10 rv9 kc_40).1
      have uq42 : (40 : Int) ≤ v9.toInt ∧ v9.toInt ≤ 40 := q42
      exact j21_3  g1 _ _ ls mFr.rf L1 (mJ_fr hJ hp1.1 rfl) (lv_sub hl [0, 1, 2] rfl)
theorem c_setupAtEnd (l : Launch) {G : mG} {h0 : Nat} {ad : Nat → Nat} (nn X : Int) (g : mSt) (p1 : Int32) (p2 : Int32) (p3 : Int32) (p4 : Int32) (p5 : Int32) (hnn : 2 ≤ nn ∧ nn ≤ 4) (hX : 0 ≤ X ∧ X ≤ 2000000000) (hJ : mJ nn [] g) (rp1 : rg (0) (3) p1) (np1 : p1.toInt < 1 * nn) : Met l yX12_setupAtEnd (wm (Cond.code yX12_setupAtEnd cX12_setupAtEnd 7 none)) rm_setupAtEnd (va_Pc [.ref h0, .int p1, .int p2, .int p3, .int p4, .int p5] (mPre G h0 ad nn X g)) (mQv G h0 ad nn X (fun g1 => mFr [58, 59, 60, 68, 69, 70, 71, 72, 73, 74, 75, 76, 77, 78, 79, 80, 86, 87, 89, 90, 91] g g1 ∧ mJ nn [] g1 ∧ True)) 0 0 (mA h0 ad) := by
  refine Met.ofW (cc := cX12_setupAtEnd) (maxL := 7) (ret := none) (by decide) rfl ?_
  intro p e s m args below meth c s₁ B hml hv
  obtain ⟨rfl, hv⟩ := hv
  have hr := B.returns
  have hlocks := B.notSynchronized
  obtain ⟨x, L⟩ := m_start B rfl wm_X hv
  have hl := lv_entry ([.ref h0, .int p1, .int p2, .int p3, .int p4, .int p5]) (n := 7) (Nat.le_of_ble_eq_true rfl)
  rw [lg_entry_eq]
  generalize (lg_sl ([.ref h0, .int p1, .int p2, .int p3, .int p4, .int p5]) ++ List.replicate (7 - (lg_sl ([.ref h0, .int p1, .int p2, .int p3, .int p4, .int p5])).length) Slot.unset).toArray = ls at hl ⊢
  exact w_setupAtEnd x hml L hnn hX p1 p2 p3 p4 p5 hJ rp1 np1 hl (fun pc' ls' g1 H1 locs1 hdg L hp => m_vret x L hr hlocks (Int.le_refl _) hp hdg)

def rm_call : Room := { frames := 3, cells := 0, slots := 0, locals := 68 }
theorem hd_call : yX12_call.cls = RX12 ∧ yX12_call.cls ≠ "java/lang/invoke/MethodHandle" ∧ yX12_call.cls ≠ "java/lang/invoke/VarHandle" ∧ (parseMethodDescriptor yX12_call.desc).map (fun d => d.parameters.length) = some 3 := by decide +kernel
set_option maxHeartbeats 4000000 in
set_option maxRecDepth 100000 in
theorem w_call {p : Program} {l : Launch} {e : Env} {s : State} {m : MethodId} {args : Array Value} {below : List Frame} {meth : Method} {c : Code} {H : Heap} {locs : List Loc} {Q : State → Prop} {ls : Array Slot} {G : mG} {h0 : Nat} {ad : Nat → Nat} {g : mSt} {H0 : Heap} {nn X : Int} (x : mX p c cX12_call s args (wm (Cond.code yX12_call cX12_call 5 (some .int))) m G h0 ad) (hml : c.maxLocals = 5) (L : mL G h0 ad H0 nn X g H locs) (hnn : 2 ≤ nn ∧ nn ≤ 4) (hX : 0 ≤ X ∧ X ≤ 2000000000) (p1 : Int32) (p2 : Int32) (p3 : Int32) (hJ : mJ nn [] g) (hl : lv_has ls 5 [(0, .ref h0), (1, .int p1), (2, .int p2), (3, .int p3)]) (hQ : ∀ (pc' : Nat) (ls' : Array Slot) (r : Int32) (g1 : mSt) (H1 : Heap) (locs1 : List Loc), decode cX12_call pc' = .ok (.ireturn, 1) → mL G h0 ad H0 nn X g1 H1 locs1 → (mFr [58, 59, 60, 68, 69, 70, 71, 72, 73, 74, 75, 76, 77, 78, 79, 80, 81, 86, 87, 89, 90, 91] g g1 ∧ rg (-3) (39) r ∧ mJ nn [] g1 ∧ True) → W p l e rm_call s m args below meth c H1 locs1 0 0 Q (F0 m pc' ls' [.int r])) : W p l e rm_call s m args below meth c H locs 0 0 Q (F0 m 0 ls []) := by
  have hx := x.1
  have hb := x.2.1
  have up1 : (-2147483648 : Int) ≤ p1.toInt ∧ p1.toInt ≤ 2147483647 := (rg_any p1)
  have up2 : (-2147483648 : Int) ≤ p2.toInt ∧ p2.toInt ≤ 2147483647 := (rg_any p2)
  have up3 : (-2147483648 : Int) ≤ p3.toInt ∧ p3.toInt ≤ 2147483647 := (rg_any p3)
  refine lv_aload_n hx hb dX12_call_0 rfl (lv_at hl 0 rfl) ?_
  refine lv_iload_n hx hb dX12_call_1 rfl (lv_at hl 1 rfl) ?_
  refine m_ci (As := [.int p1]) (rest := []) x hml L (c_isEnd l nn X g p1 hnn hX) (wm_V uc_isEnd ul_381 ui_isEnd us_isEnd u_init) rfl ⟨rfl, rfl⟩ hd_isEnd ⟨Nat.le_of_ble_eq_true rfl, Nat.le_of_ble_eq_true rfl⟩ rfl hl.1 rfl (lv_room (Nat.le_of_ble_eq_true rfl)) dX12_call_2 (fun v2 g1 H1 k1 hp1 L1 => ?_)
  have rv2 : rg (0) (1) v2 := hp1.2.1
  have uv2 : (0 : Int) ≤ v2.toInt ∧ v2.toInt ≤ 1 := rv2
  have hw3 := hp1.2.2.2
  have j31_4 : ∀ (g4 : mSt) (H4 : Heap) (k4 : List Loc) (ls : Array Slot), mFr [] g1 g4 → mL G h0 ad H0 nn X g4 H4 k4 → mJ nn [] g4 → lv_has ls 5 [(0, .ref h0)] → W p l e rm_call s m args below meth c H4 k4 0 0 Q (F0 m 31 ls []) := by
    intro  g4 H4 k4 ls hF4 L4 hJ4  hl
    refine lv_iconst (v := (-1)) hx hb dX12_call_31 (by decide) ?_
    exact hQ _ _ (-1 : Int32) _ _ _ dX12_call_32 L4 ⟨(mFr.tr (mFr.tr mFr.rf hp1.1 rfl) hF4 rfl), rg_w kc_m1 rfl, hJ4, trivial⟩
  refine lv_if_eq (tgt := 31) hx hb dX12_call_5 (by decide) (fun c5_5 => ?_) (fun c5_5 => ?_)
  · skip
    have ic5_5 := congrArg Int32.toInt c5_5
    have y6 : (0 : Int32).toInt = 0 := by decide
    have q7 : rg (0) (0) v2 := (rg_eq c5_5 rv2 kc_0).1
    have uq7 : (0 : Int) ≤ v2.toInt ∧ v2.toInt ≤ 0 := q7
    exact j31_4  g1 _ _ ls mFr.rf L1 (mJ_fr hJ hp1.1 rfl) (lv_sub hl [0] rfl)
  · skip
    have ic5_5 : v2.toInt ≠ (0 : Int32).toInt := fun z => c5_5 (Int32.toInt_inj.mp z)
    have y8 : (0 : Int32).toInt = 0 := by decide
    have q9 : rg (0) (3) p1 ∧ p1.toInt < 1 * nn := hp1.2.2.1 c5_5
    have uq9 : (0 : Int) ≤ p1.toInt ∧ p1.toInt ≤ 3 := q9.1
    have wq9 := q9.2
    have q10 : rg (1) (1) v2 := rg_neL c5_5 rv2 kc_0
    have uq10 : (1 : Int) ≤ v2.toInt ∧ v2.toInt ≤ 1 := q10
    refine lv_aload_n hx hb dX12_call_8 rfl (lv_at hl 0 rfl) ?_
    refine lv_iload_n hx hb dX12_call_9 rfl (lv_at hl 2 rfl) ?_
    refine m_ci (As := [.int p2]) (rest := []) x hml L1 (c_isEnd l nn X g1 p2 hnn hX) (wm_V uc_isEnd ul_381 ui_isEnd us_isEnd u_init) rfl ⟨rfl, rfl⟩ hd_isEnd ⟨Nat.le_of_ble_eq_true rfl, Nat.le_of_ble_eq_true rfl⟩ rfl hl.1 rfl (lv_room (Nat.le_of_ble_eq_true rfl)) dX12_call_10 (fun v12 g11 H11 k11 hp11 L11 => ?_)
    have rv12 : rg (0) (1) v12 := hp11.2.1
    have uv12 : (0 : Int) ≤ v12.toInt ∧ v12.toInt ≤ 1 := rv12
    have hw13 := hp11.2.2.2
    refine lv_if_eq (tgt := 31) hx hb dX12_call_13 (by decide) (fun c13_14 => ?_) (fun c13_14 => ?_)
    · skip
      have ic13_14 := congrArg Int32.toInt c13_14
      have y15 : (0 : Int32).toInt = 0 := by decide
      have q16 : rg (0) (0) v12 := (rg_eq c13_14 rv12 kc_0).1
      have uq16 : (0 : Int) ≤ v12.toInt ∧ v12.toInt ≤ 0 := q16
      exact j31_4  g11 _ _ ls (mFr.tr mFr.rf hp11.1 rfl) L11 (mJ_fr (mJ_fr hJ hp1.1 rfl) hp11.1 rfl) (lv_sub hl [0] rfl)
    · skip
      have ic13_14 : v12.toInt ≠ (0 : Int32).toInt := fun z => c13_14 (Int32.toInt_inj.mp z)
      have y17 : (0 : Int32).toInt = 0 := by decide
      have q18 : rg (0) (3) p2 ∧ p2.toInt < 1 * nn := hp11.2.2.1 c13_14
      have uq18 : (0 : Int) ≤ p2.toInt ∧ p2.toInt ≤ 3 := q18.1
      have wq18 := q18.2
      have q19 : rg (1) (1) v12 := rg_neL c13_14 rv12 kc_0
      have uq19 : (1 : Int) ≤ v12.toInt ∧ v12.toInt ≤ 1 := q19
      refine lv_iload_n hx hb dX12_call_16 rfl (lv_at hl 1 rfl) ?_
      refine lv_iload_n hx hb dX12_call_17 rfl (lv_at hl 2 rfl) ?_
      refine lv_icmp_eq (tgt := 31) hx hb dX12_call_18 (by decide) (fun c18_20 => ?_) (fun c18_20 => ?_)
      · skip
        have ic18_20 := congrArg Int32.toInt c18_20
        exact j31_4  g11 _ _ ls (mFr.tr mFr.rf hp11.1 rfl) L11 (mJ_fr (mJ_fr hJ hp1.1 rfl) hp11.1 rfl) (lv_sub hl [0] rfl)
      · skip
        have ic18_20 : p1.toInt ≠ p2.toInt := fun z => c18_20 (Int32.toInt_inj.mp z)
        refine lv_iload_n hx hb dX12_call_21 rfl (lv_at hl 3 rfl) ?_
        refine lv_iconst (v := 1) hx hb dX12_call_22 (by decide) ?_
        refine lv_icmp_lt (tgt := 31) hx hb dX12_call_23 (by decide) (fun c23_21 => ?_) (fun c23_21 => ?_)
        · skip
          have ic23_21 := Int32.lt_iff_toInt_lt.mp c23_21
          have q22 : rg (-2147483648) (0) p3 := (rg_lt c23_21 (rg_any p3) kc_1).1
          have uq22 : (-2147483648 : Int) ≤ p3.toInt ∧ p3.toInt ≤ 0 := q22
          exact j31_4  g11 _ _ ls (mFr.tr mFr.rf hp11.1 rfl) L11 (mJ_fr (mJ_fr hJ hp1.1 rfl) hp11.1 rfl) (lv_sub hl [0] rfl)
        · skip
          have ic23_21 := Int32.le_iff_toInt_le.mp (rg_nlt c23_21)
          have q23 : rg (1) (2147483647) p3 := (rg_le (rg_nlt c23_21) kc_1 (rg_any p3)).2
          have uq23 : (1 : Int) ≤ p3.toInt ∧ p3.toInt ≤ 2147483647 := q23
          refine lv_iload_n hx hb dX12_call_26 rfl (lv_at hl 3 rfl) ?_
          refine lv_iconst (v := 5) hx hb dX12_call_27 (by decide) ?_
          refine lv_icmp_le (tgt := 33) hx hb dX12_call_28 (by decide) (fun c28_24 => ?_) (fun c28_24 => ?_)
          · skip
            have ic28_24 := Int32.le_iff_toInt_le.mp c28_24
            have q25 : rg (1) (5) p3 := (rg_le c28_24 q23 kc_5).1
            have uq25 : (1 : Int) ≤ p3.toInt ∧ p3.toInt ≤ 5 := q25
            refine lv_aload_n hx hb dX12_call_33 rfl (lv_at hl 0 rfl) ?_
            refine lv_iload_n hx hb dX12_call_34 rfl (lv_at hl 1 rfl) ?_
            refine m_ci (As := [.int p1]) (rest := []) x hml L11 (c_openCalls l nn X g11 p1 hnn hX (rg_w q9.1 rfl)) (wm_V uc_openCalls ul_546 ui_openCalls us_openCalls u_init) rfl ⟨rfl, rfl⟩ hd_openCalls ⟨Nat.le_of_ble_eq_true rfl, Nat.le_of_ble_eq_true rfl⟩ rfl hl.1 rfl (lv_room (Nat.le_of_ble_eq_true rfl)) dX12_call_35 (fun v27 g26 H26 k26 hp26 L26 => ?_)
            have rv27 : rg (-2147483648) (2147483647) v27 := hp26.2.1
            have uv27 : (-2147483648 : Int) ≤ v27.toInt ∧ v27.toInt ≤ 2147483647 := rv27
            refine lv_bipush (v := 8) hx hb dX12_call_38 (by decide) ?_
            have j65_28 : ∀ (g28 : mSt) (H28 : Heap) (k28 : List Loc) (ls : Array Slot), mFr [] g26 g28 → mL G h0 ad H0 nn X g28 H28 k28 → mJ nn [] g28 → lv_has ls 5 [(0, .ref h0)] → W p l e rm_call s m args below meth c H28 k28 0 0 Q (F0 m 65 ls []) := by
              intro  g28 H28 k28 ls hF28 L28 hJ28  hl
              refine lv_bipush (v := (-3)) hx hb dX12_call_65 (by decide) ?_
              exact hQ _ _ (-3 : Int32) _ _ _ dX12_call_67 L28 ⟨(mFr.tr (mFr.tr (mFr.tr (mFr.tr mFr.rf hp1.1 rfl) hp11.1 rfl) hp26.1 rfl) hF28 rfl), rg_w kc_m3 rfl, hJ28, trivial⟩
            refine lv_icmp_eq (tgt := 65) hx hb dX12_call_40 (by decide) (fun c40_29 => ?_) (fun c40_29 => ?_)
            · skip
              have ic40_29 := congrArg Int32.toInt c40_29
              have y30 : (8 : Int32).toInt = 8 := by decide
              have q31 : rg (8) (8) v27 := (rg_eq c40_29 rv27 kc_8).1
              have uq31 : (8 : Int) ≤ v27.toInt ∧ v27.toInt ≤ 8 := q31
              exact j65_28  g26 _ _ ls mFr.rf L26 (mJ_fr (mJ_fr (mJ_fr hJ hp1.1 rfl) hp11.1 rfl) hp26.1 rfl) (lv_sub hl [0] rfl)
            · skip
              have ic40_29 : v27.toInt ≠ (8 : Int32).toInt := fun z => c40_29 (Int32.toInt_inj.mp z)
              have y32 : (8 : Int32).toInt = 8 := by decide
              refine lv_aload_n hx hb dX12_call_43 rfl (lv_at hl 0 rfl) ?_
              refine m_geta x L26 80 rfl rfl (wm_in uf_225) dX12_call_44 ?_
              refine lv_iload_n hx hb dX12_call_47 rfl (lv_at hl 1 rfl) ?_
              refine m_ld x L26 80 rfl q9.1 rfl dX12_call_48 (fun v33 ev33 wv33 => ?_)
              have rv33 : rg (0) (40) v33 := lj_80 wv33
              have uv33 : (0 : Int) ≤ v33.toInt ∧ v33.toInt ≤ 40 := rv33
              refine lv_bipush (v := 40) hx hb dX12_call_49 (by decide) ?_
              refine lv_icmp_eq (tgt := 65) hx hb dX12_call_51 (by decide) (fun c51_34 => ?_) (fun c51_34 => ?_)
              · skip
                have ic51_34 := congrArg Int32.toInt c51_34
                have y35 : (40 : Int32).toInt = 40 := by decide
                have q36 : rg (40) (40) v33 := (rg_eq c51_34 rv33 kc_40).1
                have uq36 : (40 : Int) ≤ v33.toInt ∧ v33.toInt ≤ 40 := q36
                exact j65_28  g26 _ _ ls mFr.rf L26 (mJ_fr (mJ_fr (mJ_fr hJ hp1.1 rfl) hp11.1 rfl) hp26.1 rfl) (lv_sub hl [0] rfl)
              · skip
                have ic51_34 : v33.toInt ≠ (40 : Int32).toInt := fun z => c51_34 (Int32.toInt_inj.mp z)
                have y37 : (40 : Int32).toInt = 40 := by decide
                have q38 : rg (0) (39) v33 := rg_neH c51_34 rv33 kc_40
                have uq38 : (0 : Int) ≤ v33.toInt ∧ v33.toInt ≤ 39 := q38
                refine lv_aload_n hx hb dX12_call_54 rfl (lv_at hl 0 rfl) ?_
                refine m_geta x L26 60 rfl rfl (wm_in uf_168) dX12_call_55 ?_
                refine lv_iload_n hx hb dX12_call_58 rfl (lv_at hl 1 rfl) ?_
                refine m_ld x L26 60 rfl q9.1 rfl dX12_call_59 (fun v39 ev39 wv39 => ?_)
                have rv39 : rg (0) (10) v39 := lj_60 wv39
                have uv39 : (0 : Int) ≤ v39.toInt ∧ v39.toInt ≤ 10 := rv39
                refine lv_bipush (v := 10) hx hb dX12_call_60 (by decide) ?_
                refine lv_icmp_ne (tgt := 68) hx hb dX12_call_62 (by decide) (fun c62_40 => ?_) (fun c62_40 => ?_)
                · skip
                  have ic62_40 : v39.toInt ≠ (10 : Int32).toInt := fun z => c62_40 (Int32.toInt_inj.mp z)
                  have y41 : (10 : Int32).toInt = 10 := by decide
                  have q42 : rg (0) (9) v39 := rg_neH c62_40 rv39 kc_10
                  have uq42 : (0 : Int) ≤ v39.toInt ∧ v39.toInt ≤ 9 := q42
                  refine lv_aload_n hx hb dX12_call_68 rfl (lv_at hl 0 rfl) ?_
                  refine m_geta x L26 81 rfl rfl (wm_in uf_228) dX12_call_69 ?_
                  refine lv_iload_n hx hb dX12_call_72 rfl (lv_at hl 1 rfl) ?_
                  refine lv_dup2_11 hx hb dX12_call_73 rfl rfl ?_
                  refine m_ld x L26 81 rfl q9.1 rfl dX12_call_74 (fun v43 ev43 wv43 => ?_)
                  have rv43 : rg (-2147483648) (2147483647) v43 := lj_81 wv43
                  have uv43 : (-2147483648 : Int) ≤ v43.toInt ∧ v43.toInt ≤ 2147483647 := rv43
                  refine lv_iconst (v := 1) hx hb dX12_call_75 (by decide) ?_
                  refine lv_iadd hx hb dX12_call_76 ?_
                  refine lv_topi (fun v44 ev44 => ?_)
                  have rv44 : rg (-2147483648) (2147483647) v44 := rg_any v44
                  have uv44 : (-2147483648 : Int) ≤ v44.toInt ∧ v44.toInt ≤ 2147483647 := rv44
                  refine m_st x L26 81 rfl q9.1 rfl (rj_81 (rg_any v44)) dX12_call_77 (fun g45 H45 k45 eg45 L45 => ?_)
                  refine lv_aload_n hx hb dX12_call_78 rfl (lv_at hl 0 rfl) ?_
                  refine lv_iload_n hx hb dX12_call_79 rfl (lv_at hl 1 rfl) ?_
                  refine lv_iconst (v := 1) hx hb dX12_call_80 (by decide) ?_
                  refine lv_iconst (v := 1) hx hb dX12_call_81 (by decide) ?_
                  refine lv_aload_n hx hb dX12_call_82 rfl (lv_at hl 0 rfl) ?_
                  refine m_geta x L45 81 rfl rfl (wm_in uf_228) dX12_call_83 ?_
                  refine lv_iload_n hx hb dX12_call_86 rfl (lv_at hl 1 rfl) ?_
                  refine m_ld x L45 81 rfl q9.1 rfl dX12_call_87 (fun v46 ev46 wv46 => ?_)
                  refine m_top (((mm_st eg45)).trans ev46.symm) ?_
                  refine m_ci (As := [.int p1, .int (1 : Int32), .int (1 : Int32), .int v44]) (rest := []) x hml L45 (c_newCall l nn X g45 p1 (1 : Int32) (1 : Int32) v44 hnn hX (mJ_up (mJ_fr (mJ_fr (mJ_fr hJ hp1.1 rfl) hp11.1 rfl) hp26.1 rfl) eg45 rfl) (rg_w q9.1 rfl) (nb_of q9.1 rfl hnn) (rg_w kc_1 rfl) (rg_w kc_1 rfl) (fun _ => (rg_eqv (mm_up ev33 eg45 rfl) (rg_w q38 rfl : rg 0 39 v33)).2) (fun h => absurd h (by have := q9.2; omega))) (wm_V uc_newCall ul_549 ui_newCall us_newCall u_init) rfl ⟨rfl, rfl⟩ hd_newCall ⟨Nat.le_of_ble_eq_true rfl, Nat.le_of_ble_eq_true rfl⟩ rfl hl.1 rfl (lv_room (Nat.le_of_ble_eq_true rfl)) dX12_call_88 (fun v48 g47 H47 k47 hp47 L47 => ?_)
                  have rv48 : rg (0) (319) v48 := hp47.2.1
                  have uv48 : (0 : Int) ≤ v48.toInt ∧ v48.toInt ≤ 319 := rv48
                  obtain ⟨v49, ev49⟩ : ∃ y : Int32, y = g47 68 v48.toNatClampNeg := ⟨_, rfl⟩
                  have rv49 : rg (1) (11) v49 := rg_eqv ev49.symm hp47.2.2.2.1
                  have uv49 : (1 : Int) ≤ v49.toInt ∧ v49.toInt ≤ 11 := rv49
                  obtain ⟨v50, ev50⟩ : ∃ y : Int32, y = g47 77 v48.toNatClampNeg := ⟨_, rfl⟩
                  have rv50 : rg (-2) (-2) v50 := rg_eqv ev50.symm hp47.2.2.2.2.1
                  have uv50 : (-2 : Int) ≤ v50.toInt ∧ v50.toInt ≤ -2 := rv50
                  have hw51 := hp47.2.2.2.2.2.1
                  have hw52 := hp47.2.2.2.2.2.2.1
                  have hw53 := hp47.2.2.2.2.2.2.2
                  refine lv_istore (lv' := [(4, .int v48), (0, .ref h0), (1, .int p1), (2, .int p2), (3, .int p3)]) hx hb dX12_call_91 hl (by decide) rfl (fun ls hl => ?_)
                  refine lv_aload_n hx hb dX12_call_93 rfl (lv_at hl 1 rfl) ?_
                  refine m_geta x L47 72 rfl rfl (wm_in uf_204) dX12_call_94 ?_
                  refine lv_iload hx hb dX12_call_97 (lv_at hl 0 rfl) ?_
                  refine lv_iload_n hx hb dX12_call_99 rfl (lv_at hl 4 rfl) ?_
                  refine m_st x L47 72 rfl rv48 rfl (rj_72 (rg_any p3)) dX12_call_100 (fun g54 H54 k54 eg54 L54 => ?_)
                  have hJ55 := mJ_72e (mJ_end hp47.2.2.1 (by omega)) eg54 rv48.1 (by omega)
                  refine lv_aload_n hx hb dX12_call_101 rfl (lv_at hl 1 rfl) ?_
                  refine m_geta x L54 73 rfl rfl (wm_in uf_207) dX12_call_102 ?_
                  refine lv_iload hx hb dX12_call_105 (lv_at hl 0 rfl) ?_
                  refine lv_iload_n hx hb dX12_call_107 rfl (lv_at hl 3 rfl) ?_
                  refine m_st x L54 73 rfl rv48 rfl (rj_73 (rg_any p2)) dX12_call_108 (fun g56 H56 k56 eg56 L56 => ?_)
                  refine lv_aload_n hx hb dX12_call_109 rfl (lv_at hl 1 rfl) ?_
                  refine lv_iload hx hb dX12_call_110 (lv_at hl 0 rfl) ?_
                  refine m_cv (As := [.int v48]) (rest := []) x hml L56 (c_sendSetup l nn X g56 v48 hnn hX (rg_w rv48 rfl)) (wm_V uc_sendSetup ul_513 ui_sendSetup us_sendSetup u_init) rfl ⟨rfl, rfl⟩ hd_sendSetup ⟨Nat.le_of_ble_eq_true rfl, Nat.le_of_ble_eq_true rfl⟩ rfl hl.1 rfl (lv_room (Nat.le_of_ble_eq_true rfl)) dX12_call_112 (fun  g57 H57 k57 hp57 L57 => ?_)
                  refine lv_iload hx hb dX12_call_115 (lv_at hl 0 rfl) ?_
                  refine lv_bipush (v := 40) hx hb dX12_call_117 (by decide) ?_
                  refine lv_iload_n hx hb dX12_call_119 rfl (lv_at hl 2 rfl) ?_
                  refine lv_imul hx hb dX12_call_120 ?_
                  refine lv_topi (fun v58 ev58 => ?_)
                  have rv58 : rg (0) (120) v58 := (rg_mulL ev58 kc_40 q9.1 rfl).1
                  have tv58 := (rg_mulL ev58 kc_40 q9.1 rfl).2
                  have y59 : (40 : Int32).toInt = 40 := by decide
                  have b40v58 : v58.toInt < 40 * nn := by have := q9.2; have : (40 : Int32).toInt = 40 := (by decide); omega
                  have uv58 : (0 : Int) ≤ v58.toInt ∧ v58.toInt ≤ 120 := rv58
                  refine lv_isub hx hb dX12_call_121 ?_
                  refine lv_topi (fun v60 ev60 => ?_)
                  have rv60 : rg (-120) (319) v60 := (rg_sub ev60 rv48 rv58 rfl).1
                  have tv60 := (rg_sub ev60 rv48 rv58 rfl).2
                  have uv60 : (-120 : Int) ≤ v60.toInt ∧ v60.toInt ≤ 319 := rv60
                  exact hQ _ _ v60 _ _ _ dX12_call_122 L57 ⟨(mFr.tr (mFr.upE (mFr.upE (mFr.tr (mFr.upE (mFr.tr (mFr.tr (mFr.tr mFr.rf hp1.1 rfl) hp11.1 rfl) hp26.1 rfl) eg45 rfl) hp47.1 rfl) eg54 rfl) eg56 rfl) hp57.1 rfl), ⟨by omega, by omega⟩, (mJ_fr (mJ_up hJ55 eg56 rfl) hp57.1 rfl), trivial⟩
                · skip
                  have ic62_40 := congrArg Int32.toInt c62_40
                  have y61 : (10 : Int32).toInt = 10 := by decide
                  have q62 : rg (10) (10) v39 := (rg_eq c62_40 rv39 kc_10).1
                  have uq62 : (10 : Int) ≤ v39.toInt ∧ v39.toInt ≤ 10 := q62
                  exact j65_28  g26 _ _ ls mFr.rf L26 (mJ_fr (mJ_fr (mJ_fr hJ hp1.1 rfl) hp11.1 rfl) hp26.1 rfl) (lv_sub hl [0] rfl)
          · skip
            have ic28_24 := Int32.lt_iff_toInt_lt.mp (rg_nle c28_24)
            have q63 : rg (6) (2147483647) p3 := (rg_lt (rg_nle c28_24) kc_5 q23).2
            have uq63 : (6 : Int) ≤ p3.toInt ∧ p3.toInt ≤ 2147483647 := q63
            exact j31_4  g11 _ _ ls (mFr.tr mFr.rf hp11.1 rfl) L11 (mJ_fr (mJ_fr hJ hp1.1 rfl) hp11.1 rfl) (lv_sub hl [0] rfl)
theorem c_call (l : Launch) {G : mG} {h0 : Nat} {ad : Nat → Nat} (nn X : Int) (g : mSt) (p1 : Int32) (p2 : Int32) (p3 : Int32) (hnn : 2 ≤ nn ∧ nn ≤ 4) (hX : 0 ≤ X ∧ X ≤ 2000000000) (hJ : mJ nn [] g) : Met l yX12_call (wm (Cond.code yX12_call cX12_call 5 (some .int))) rm_call (va_Pc [.ref h0, .int p1, .int p2, .int p3] (mPre G h0 ad nn X g)) (mQi G h0 ad nn X (fun r g1 => mFr [58, 59, 60, 68, 69, 70, 71, 72, 73, 74, 75, 76, 77, 78, 79, 80, 81, 86, 87, 89, 90, 91] g g1 ∧ rg (-3) (39) r ∧ mJ nn [] g1 ∧ True)) 0 0 (mA h0 ad) := by
  refine Met.ofW (cc := cX12_call) (maxL := 5) (ret := (some .int)) (by decide) rfl ?_
  intro p e s m args below meth c s₁ B hml hv
  obtain ⟨rfl, hv⟩ := hv
  have hr := B.returns
  have hlocks := B.notSynchronized
  obtain ⟨x, L⟩ := m_start B rfl wm_X hv
  have hl := lv_entry ([.ref h0, .int p1, .int p2, .int p3]) (n := 5) (Nat.le_of_ble_eq_true rfl)
  rw [lg_entry_eq]
  generalize (lg_sl ([.ref h0, .int p1, .int p2, .int p3]) ++ List.replicate (5 - (lg_sl ([.ref h0, .int p1, .int p2, .int p3])).length) Slot.unset).toArray = ls at hl ⊢
  exact w_call x hml L hnn hX p1 p2 p3 hJ hl (fun pc' ls' r g1 H1 locs1 hdg L hp => m_iret x L hr hlocks (Int.le_refl _) hp hdg)

def rm_dropFirst : Room := { frames := 0, cells := 0, slots := 0, locals := 0 }
theorem hd_dropFirst : yX12_dropFirst.cls = RX12 ∧ yX12_dropFirst.cls ≠ "java/lang/invoke/MethodHandle" ∧ yX12_dropFirst.cls ≠ "java/lang/invoke/VarHandle" ∧ (parseMethodDescriptor yX12_dropFirst.desc).map (fun d => d.parameters.length) = some 1 := by decide +kernel
set_option maxHeartbeats 4000000 in
set_option maxRecDepth 100000 in
theorem w_dropFirst {p : Program} {l : Launch} {e : Env} {s : State} {m : MethodId} {args : Array Value} {below : List Frame} {meth : Method} {c : Code} {H : Heap} {locs : List Loc} {Q : State → Prop} {ls : Array Slot} {G : mG} {h0 : Nat} {ad : Nat → Nat} {g : mSt} {H0 : Heap} {nn X : Int} (x : mX p c cX12_dropFirst s args (wm (Cond.code yX12_dropFirst cX12_dropFirst 3 none)) m G h0 ad) (hml : c.maxLocals = 3) (L : mL G h0 ad H0 nn X g H locs) (hnn : 2 ≤ nn ∧ nn ≤ 4) (hX : 0 ≤ X ∧ X ≤ 2000000000) (p1 : Int32) (hJ : mJ nn [] (up2 g 87 p1.toNatClampNeg 0)) (rp1 : rg (0) (159) p1) (hpre0 : rg (1) (4) (g 86 p1.toNatClampNeg)) (hl : lv_has ls 3 [(0, .ref h0), (1, .int p1)]) (hQ : ∀ (pc' : Nat) (ls' : Array Slot) (g1 : mSt) (H1 : Heap) (locs1 : List Loc), decode cX12_dropFirst pc' = .ok (.return_, 1) → mL G h0 ad H0 nn X g1 H1 locs1 → (mFr [84, 85, 86, 87] g g1 ∧ mJ nn [] g1 ∧ True) → W p l e rm_dropFirst s m args below meth c H1 locs1 0 0 Q (F0 m pc' ls' [])) : W p l e rm_dropFirst s m args below meth c H locs 0 0 Q (F0 m 0 ls []) := by
  have hx := x.1
  have hb := x.2.1
  obtain ⟨z0, ez0⟩ : ∃ y : Int32, y = g 86 p1.toNatClampNeg := ⟨_, rfl⟩
  have rz0 : rg (1) (4) z0 := rg_eqv ez0.symm hpre0
  have sz0 := congrArg Int32.toInt ez0
  have uz0 : (1 : Int) ≤ z0.toInt ∧ z0.toInt ≤ 4 := rz0
  have up1 : (0 : Int) ≤ p1.toInt ∧ p1.toInt ≤ 159 := rp1
  refine lv_aload_n hx hb dX12_dropFirst_0 rfl (lv_at hl 0 rfl) ?_
  refine m_geta x L 87 rfl rfl (wm_in uf_247) dX12_dropFirst_1 ?_
  refine lv_iload_n hx hb dX12_dropFirst_4 rfl (lv_at hl 1 rfl) ?_
  refine lv_iconst (v := 0) hx hb dX12_dropFirst_5 (by decide) ?_
  refine m_st x L 87 rfl rp1 rfl (rj_87 (rg_w kc_0 rfl)) dX12_dropFirst_6 (fun g1 H1 k1 eg1 L1 => ?_)
  have hJ2 := (show mJ nn [] g1 from (by rw [eg1]; exact hJ))
  refine lv_aload_n hx hb dX12_dropFirst_7 rfl (lv_at hl 0 rfl) ?_
  refine m_geta x L1 86 rfl rfl (wm_in uf_244) dX12_dropFirst_8 ?_
  refine lv_iload_n hx hb dX12_dropFirst_11 rfl (lv_at hl 1 rfl) ?_
  refine lv_dup2_11 hx hb dX12_dropFirst_12 rfl rfl ?_
  refine m_ld x L1 86 rfl rp1 rfl dX12_dropFirst_13 (fun v3 ev3 wv3 => ?_)
  refine m_top (((mm_up ez0 eg1 rfl)).trans ev3.symm) ?_
  refine lv_iconst (v := 1) hx hb dX12_dropFirst_14 (by decide) ?_
  refine lv_isub hx hb dX12_dropFirst_15 ?_
  refine lv_topi (fun v4 ev4 => ?_)
  have rv4 : rg (0) (3) v4 := (rg_sub ev4 rz0 kc_1 rfl).1
  have tv4 := (rg_sub ev4 rz0 kc_1 rfl).2
  have y5 : (1 : Int32).toInt = 1 := by decide
  have uv4 : (0 : Int) ≤ v4.toInt ∧ v4.toInt ≤ 3 := rv4
  refine m_st x L1 86 rfl rp1 rfl (rj_86 (rg_w rv4 rfl)) dX12_dropFirst_16 (fun g6 H6 k6 eg6 L6 => ?_)
  have hJ7 := mJ_86 hJ2 (fun k => (lj_85 (L1.2.2 85 k)).1) eg6 rv4.1 (Or.inl ((congrArg Int32.toInt (mm_st eg1).symm).trans (by decide)))
  refine lv_iconst (v := 0) hx hb dX12_dropFirst_17 (by decide) ?_
  refine lv_istore_n (lv' := [(2, .int (0 : Int32)), (0, .ref h0), (1, .int p1)]) hx hb dX12_dropFirst_18 rfl hl (by decide) rfl (fun ls hl => ?_)
  have j19_9 : ∀ (n : Nat) (a19_2_8 : Int32) (g9 : mSt) (H9 : Heap) (k9 : List Loc) (ls : Array Slot), mFr [85] g6 g9 → mL G h0 ad H0 nn X g9 H9 k9 → mJ nn [] g9 → rg (0) (3) a19_2_8 → lv_has ls 3 [(0, .ref h0), (1, .int p1), (2, .int a19_2_8)] → ((3 : Int) - a19_2_8.toInt).toNat = n → W p l e rm_dropFirst s m args below meth c H9 k9 0 0 Q (F0 m 19 ls []) := by
    intro n
    induction n using Nat.strongRecOn with
    | _ n ih9 =>
      intro a19_2_8 g9 H9 k9 ls hF9 L9 hJ9 ra19_2_8 hl hn9
      subst hn9
      have ua19_2_8 : (0 : Int) ≤ a19_2_8.toInt ∧ a19_2_8.toInt ≤ 3 := ra19_2_8
      refine lv_iload_n hx hb dX12_dropFirst_19 rfl (lv_at hl 2 rfl) ?_
      refine lv_aload_n hx hb dX12_dropFirst_20 rfl (lv_at hl 0 rfl) ?_
      refine m_geta x L9 86 rfl rfl (wm_in uf_244) dX12_dropFirst_21 ?_
      refine lv_iload_n hx hb dX12_dropFirst_24 rfl (lv_at hl 1 rfl) ?_
      refine m_ld x L9 86 rfl rp1 rfl dX12_dropFirst_25 (fun v10 ev10 wv10 => ?_)
      refine m_top (((mm_fr (mm_st eg6) hF9 rfl)).trans ev10.symm) ?_
      refine lv_icmp_ge (tgt := 57) hx hb dX12_dropFirst_26 (by decide) (fun c26_11 => ?_) (fun c26_11 => ?_)
      · skip
        have ic26_11 := Int32.le_iff_toInt_le.mp c26_11
        refine lv_iconst (v := 0) hx hb dX12_dropFirst_57 (by decide) ?_
        refine lv_istore_n (lv' := [(2, .int (0 : Int32)), (0, .ref h0), (1, .int p1)]) hx hb dX12_dropFirst_58 rfl hl (by decide) rfl (fun ls hl => ?_)
        have j59_13 : ∀ (n : Nat) (a59_2_12 : Int32) (g13 : mSt) (H13 : Heap) (k13 : List Loc) (ls : Array Slot), mFr [84] g9 g13 → mL G h0 ad H0 nn X g13 H13 k13 → mJ nn [] g13 → rg (0) (1000) a59_2_12 → lv_has ls 3 [(0, .ref h0), (1, .int p1), (2, .int a59_2_12)] → ((1000 : Int) - a59_2_12.toInt).toNat = n → W p l e rm_dropFirst s m args below meth c H13 k13 0 0 Q (F0 m 59 ls []) := by
          intro n
          induction n using Nat.strongRecOn with
          | _ n ih13 =>
            intro a59_2_12 g13 H13 k13 ls hF13 L13 hJ13 ra59_2_12 hl hn13
            subst hn13
            have ua59_2_12 : (0 : Int) ≤ a59_2_12.toInt ∧ a59_2_12.toInt ≤ 1000 := ra59_2_12
            refine lv_iload_n hx hb dX12_dropFirst_59 rfl (lv_at hl 2 rfl) ?_
            refine lv_sipush (v := 200) hx hb dX12_dropFirst_60 (by decide) ?_
            refine lv_aload_n hx hb dX12_dropFirst_63 rfl (lv_at hl 0 rfl) ?_
            refine m_geta x L13 86 rfl rfl (wm_in uf_244) dX12_dropFirst_64 ?_
            refine lv_iload_n hx hb dX12_dropFirst_67 rfl (lv_at hl 1 rfl) ?_
            refine m_ld x L13 86 rfl rp1 rfl dX12_dropFirst_68 (fun v14 ev14 wv14 => ?_)
            refine m_top (((mm_fr (mm_fr (mm_st eg6) hF9 rfl) hF13 rfl)).trans ev14.symm) ?_
            refine lv_imul hx hb dX12_dropFirst_69 ?_
            refine lv_topi (fun v15 ev15 => ?_)
            have rv15 : rg (0) (600) v15 := (rg_mulL ev15 kc_200 rv4 rfl).1
            have tv15 := (rg_mulL ev15 kc_200 rv4 rfl).2
            have y16 : (200 : Int32).toInt = 200 := by decide
            have uv15 : (0 : Int) ≤ v15.toInt ∧ v15.toInt ≤ 600 := rv15
            refine lv_icmp_ge (tgt := 107) hx hb dX12_dropFirst_70 (by decide) (fun c70_17 => ?_) (fun c70_17 => ?_)
            · skip
              have ic70_17 := Int32.le_iff_toInt_le.mp c70_17
              exact hQ _ _ _ _ _ dX12_dropFirst_107 L13 ⟨(mFr.tr (mFr.tr (mFr.upE (mFr.upE mFr.rf eg1 rfl) eg6 rfl) hF9 rfl) hF13 rfl), hJ13, trivial⟩
            · skip
              have ic70_17 := Int32.lt_iff_toInt_lt.mp (rg_nle c70_17)
              have q18 : rg (0) (599) a59_2_12 := (rg_lt (rg_nle c70_17) ra59_2_12 rv15).1
              have uq18 : (0 : Int) ≤ a59_2_12.toInt ∧ a59_2_12.toInt ≤ 599 := q18
              have q19 : rg (1) (600) v15 := (rg_lt (rg_nle c70_17) ra59_2_12 rv15).2
              have uq19 : (1 : Int) ≤ v15.toInt ∧ v15.toInt ≤ 600 := q19
              refine lv_aload_n hx hb dX12_dropFirst_73 rfl (lv_at hl 0 rfl) ?_
              refine m_geta x L13 84 rfl rfl (wm_in uf_238) dX12_dropFirst_74 ?_
              refine lv_sipush (v := 800) hx hb dX12_dropFirst_77 (by decide) ?_
              refine lv_iload_n hx hb dX12_dropFirst_80 rfl (lv_at hl 1 rfl) ?_
              refine lv_imul hx hb dX12_dropFirst_81 ?_
              refine lv_topi (fun v20 ev20 => ?_)
              have rv20 : rg (0) (127200) v20 := (rg_mulL ev20 kc_800 rp1 rfl).1
              have tv20 := (rg_mulL ev20 kc_800 rp1 rfl).2
              have y21 : (800 : Int32).toInt = 800 := by decide
              have uv20 : (0 : Int) ≤ v20.toInt ∧ v20.toInt ≤ 127200 := rv20
              refine lv_iload_n hx hb dX12_dropFirst_82 rfl (lv_at hl 2 rfl) ?_
              refine lv_iadd hx hb dX12_dropFirst_83 ?_
              refine lv_topi (fun v22 ev22 => ?_)
              have rv22 : rg (0) (127799) v22 := (rg_add ev22 rv20 q18 rfl).1
              have tv22 := (rg_add ev22 rv20 q18 rfl).2
              have uv22 : (0 : Int) ≤ v22.toInt ∧ v22.toInt ≤ 127799 := rv22
              refine lv_aload_n hx hb dX12_dropFirst_84 rfl (lv_at hl 0 rfl) ?_
              refine m_geta x L13 84 rfl rfl (wm_in uf_238) dX12_dropFirst_85 ?_
              refine lv_sipush (v := 800) hx hb dX12_dropFirst_88 (by decide) ?_
              refine lv_iload_n hx hb dX12_dropFirst_91 rfl (lv_at hl 1 rfl) ?_
              refine lv_imul hx hb dX12_dropFirst_92 ?_
              refine m_top ev20 ?_
              refine lv_iload_n hx hb dX12_dropFirst_93 rfl (lv_at hl 2 rfl) ?_
              refine lv_iadd hx hb dX12_dropFirst_94 ?_
              refine m_top ev22 ?_
              refine lv_sipush (v := 200) hx hb dX12_dropFirst_95 (by decide) ?_
              refine lv_iadd hx hb dX12_dropFirst_98 ?_
              refine lv_topi (fun v23 ev23 => ?_)
              have rv23 : rg (200) (127999) v23 := (rg_add ev23 rv22 kc_200 rfl).1
              have tv23 := (rg_add ev23 rv22 kc_200 rfl).2
              have y24 : (200 : Int32).toInt = 200 := by decide
              have uv23 : (200 : Int) ≤ v23.toInt ∧ v23.toInt ≤ 127999 := rv23
              refine m_ld x L13 84 rfl rv23 rfl dX12_dropFirst_99 (fun v25 ev25 wv25 => ?_)
              have rv25 : rg (-2147483648) (2147483647) v25 := lj_84 wv25
              have uv25 : (-2147483648 : Int) ≤ v25.toInt ∧ v25.toInt ≤ 2147483647 := rv25
              refine m_st x L13 84 rfl rv22 rfl (rj_84 (rg_any v25)) dX12_dropFirst_100 (fun g26 H26 k26 eg26 L26 => ?_)
              obtain ⟨v27, ev27, fv27⟩ := inc_ex a59_2_12 (1) (1 : Int32) (by decide)
              have rv27 : rg (1) (600) v27 := (rg_add ev27 q18 kc_1 rfl).1
              have tv27 := (rg_add ev27 q18 kc_1 rfl).2
              have yv27 : (1 : Int32).toInt = 1 := by decide
              refine lv_iinc (v := v27) (lv' := [(2, .int v27), (0, .ref h0), (1, .int p1)]) hx hb dX12_dropFirst_101 hl (k := 2) rfl fv27 (by decide) rfl (fun ls hl => ?_)
              refine lv_goto (tgt := 59) hx hb dX12_dropFirst_104 (by decide) ?_
              exact ih13 _ (ms_up tv27 kc_1 q18 rfl rfl) v27 g26 _ _ ls (mFr.upE hF13 eg26 rfl) L26 (mJ_up hJ13 eg26 rfl) (rg_w rv27 rfl) (lv_sub hl [1, 2, 0] rfl) rfl
        have y28 : (0 : Int32).toInt = 0 := by decide
        exact j59_13 _ (0 : Int32) g9 _ _ ls mFr.rf L9 hJ9 (rg_w kc_0 rfl) (lv_sub hl [1, 2, 0] rfl) rfl
      · skip
        have ic26_11 := Int32.lt_iff_toInt_lt.mp (rg_nle c26_11)
        have q29 : rg (0) (2) a19_2_8 := (rg_lt (rg_nle c26_11) ra19_2_8 rv4).1
        have uq29 : (0 : Int) ≤ a19_2_8.toInt ∧ a19_2_8.toInt ≤ 2 := q29
        have q30 : rg (1) (3) v4 := (rg_lt (rg_nle c26_11) ra19_2_8 rv4).2
        have uq30 : (1 : Int) ≤ v4.toInt ∧ v4.toInt ≤ 3 := q30
        refine lv_aload_n hx hb dX12_dropFirst_29 rfl (lv_at hl 0 rfl) ?_
        refine m_geta x L9 85 rfl rfl (wm_in uf_241) dX12_dropFirst_30 ?_
        refine lv_iconst (v := 4) hx hb dX12_dropFirst_33 (by decide) ?_
        refine lv_iload_n hx hb dX12_dropFirst_34 rfl (lv_at hl 1 rfl) ?_
        refine lv_imul hx hb dX12_dropFirst_35 ?_
        refine lv_topi (fun v31 ev31 => ?_)
        have rv31 : rg (0) (636) v31 := (rg_mulL ev31 kc_4 rp1 rfl).1
        have tv31 := (rg_mulL ev31 kc_4 rp1 rfl).2
        have y32 : (4 : Int32).toInt = 4 := by decide
        have uv31 : (0 : Int) ≤ v31.toInt ∧ v31.toInt ≤ 636 := rv31
        refine lv_iload_n hx hb dX12_dropFirst_36 rfl (lv_at hl 2 rfl) ?_
        refine lv_iadd hx hb dX12_dropFirst_37 ?_
        refine lv_topi (fun v33 ev33 => ?_)
        have rv33 : rg (0) (638) v33 := (rg_add ev33 rv31 q29 rfl).1
        have tv33 := (rg_add ev33 rv31 q29 rfl).2
        have uv33 : (0 : Int) ≤ v33.toInt ∧ v33.toInt ≤ 638 := rv33
        refine lv_aload_n hx hb dX12_dropFirst_38 rfl (lv_at hl 0 rfl) ?_
        refine m_geta x L9 85 rfl rfl (wm_in uf_241) dX12_dropFirst_39 ?_
        refine lv_iconst (v := 4) hx hb dX12_dropFirst_42 (by decide) ?_
        refine lv_iload_n hx hb dX12_dropFirst_43 rfl (lv_at hl 1 rfl) ?_
        refine lv_imul hx hb dX12_dropFirst_44 ?_
        refine m_top ev31 ?_
        refine lv_iload_n hx hb dX12_dropFirst_45 rfl (lv_at hl 2 rfl) ?_
        refine lv_iadd hx hb dX12_dropFirst_46 ?_
        refine m_top ev33 ?_
        refine lv_iconst (v := 1) hx hb dX12_dropFirst_47 (by decide) ?_
        refine lv_iadd hx hb dX12_dropFirst_48 ?_
        refine lv_topi (fun v34 ev34 => ?_)
        have rv34 : rg (1) (639) v34 := (rg_add ev34 rv33 kc_1 rfl).1
        have tv34 := (rg_add ev34 rv33 kc_1 rfl).2
        have y35 : (1 : Int32).toInt = 1 := by decide
        have uv34 : (1 : Int) ≤ v34.toInt ∧ v34.toInt ≤ 639 := rv34
        refine m_ld x L9 85 rfl rv34 rfl dX12_dropFirst_49 (fun v36 ev36 wv36 => ?_)
        have rv36 : rg (0) (200) v36 := lj_85 wv36
        have uv36 : (0 : Int) ≤ v36.toInt ∧ v36.toInt ≤ 200 := rv36
        refine m_st x L9 85 rfl rv33 rfl (rj_85 (rg_w rv36 rfl)) dX12_dropFirst_50 (fun g37 H37 k37 eg37 L37 => ?_)
        have hJ38 := mJ_85 hJ9 eg37 rv36.1 (fun k hk => by have hk2 : 4 * k = v33.toInt.toNat := hk; have k1 : k = p1.toNatClampNeg := (by show k = p1.toInt.toNat; omega); rw [k1]; exact ((congrArg Int32.toInt (mm_fr (mm_up (mm_st eg1) eg6 rfl) hF9 rfl).symm).trans (by decide)))
        obtain ⟨v39, ev39, fv39⟩ := inc_ex a19_2_8 (1) (1 : Int32) (by decide)
        have rv39 : rg (1) (3) v39 := (rg_add ev39 q29 kc_1 rfl).1
        have tv39 := (rg_add ev39 q29 kc_1 rfl).2
        have yv39 : (1 : Int32).toInt = 1 := by decide
        refine lv_iinc (v := v39) (lv' := [(2, .int v39), (0, .ref h0), (1, .int p1)]) hx hb dX12_dropFirst_51 hl (k := 2) rfl fv39 (by decide) rfl (fun ls hl => ?_)
        refine lv_goto (tgt := 19) hx hb dX12_dropFirst_54 (by decide) ?_
        exact ih9 _ (ms_up tv39 kc_1 q29 rfl rfl) v39 g37 _ _ ls (mFr.upE hF9 eg37 rfl) L37 hJ38 (rg_w rv39 rfl) (lv_sub hl [1, 2, 0] rfl) rfl
  have y40 : (0 : Int32).toInt = 0 := by decide
  exact j19_9 _ (0 : Int32) g6 _ _ ls mFr.rf L6 hJ7 (rg_w kc_0 rfl) (lv_sub hl [1, 2, 0] rfl) rfl
theorem c_dropFirst (l : Launch) {G : mG} {h0 : Nat} {ad : Nat → Nat} (nn X : Int) (g : mSt) (p1 : Int32) (hnn : 2 ≤ nn ∧ nn ≤ 4) (hX : 0 ≤ X ∧ X ≤ 2000000000) (hJ : mJ nn [] (up2 g 87 p1.toNatClampNeg 0)) (rp1 : rg (0) (159) p1) (hpre0 : rg (1) (4) (g 86 p1.toNatClampNeg)) : Met l yX12_dropFirst (wm (Cond.code yX12_dropFirst cX12_dropFirst 3 none)) rm_dropFirst (va_Pc [.ref h0, .int p1] (mPre G h0 ad nn X g)) (mQv G h0 ad nn X (fun g1 => mFr [84, 85, 86, 87] g g1 ∧ mJ nn [] g1 ∧ True)) 0 0 (mA h0 ad) := by
  refine Met.ofW (cc := cX12_dropFirst) (maxL := 3) (ret := none) (by decide) rfl ?_
  intro p e s m args below meth c s₁ B hml hv
  obtain ⟨rfl, hv⟩ := hv
  have hr := B.returns
  have hlocks := B.notSynchronized
  obtain ⟨x, L⟩ := m_start B rfl wm_X hv
  have hl := lv_entry ([.ref h0, .int p1]) (n := 3) (Nat.le_of_ble_eq_true rfl)
  rw [lg_entry_eq]
  generalize (lg_sl ([.ref h0, .int p1]) ++ List.replicate (3 - (lg_sl ([.ref h0, .int p1])).length) Slot.unset).toArray = ls at hl ⊢
  exact w_dropFirst x hml L hnn hX p1 hJ rp1 hpre0 hl (fun pc' ls' g1 H1 locs1 hdg L hp => m_vret x L hr hlocks (Int.le_refl _) hp hdg)

def rm_send : Room := { frames := 2, cells := 0, slots := 0, locals := 43 }
theorem hd_send : yX12_send.cls = RX12 ∧ yX12_send.cls ≠ "java/lang/invoke/MethodHandle" ∧ yX12_send.cls ≠ "java/lang/invoke/VarHandle" ∧ (parseMethodDescriptor yX12_send.desc).map (fun d => d.parameters.length) = some 2 := by decide +kernel
set_option maxHeartbeats 4000000 in
set_option maxRecDepth 100000 in
theorem w_send {p : Program} {l : Launch} {e : Env} {s : State} {m : MethodId} {args : Array Value} {below : List Frame} {meth : Method} {c : Code} {H : Heap} {locs : List Loc} {Q : State → Prop} {ls : Array Slot} {G : mG} {h0 : Nat} {ad : Nat → Nat} {g : mSt} {H0 : Heap} {nn X : Int} (x : mX p c cX12_send s args (wm (Cond.code yX12_send cX12_send 6 (some .int))) m G h0 ad) (hml : c.maxLocals = 6) (L : mL G h0 ad H0 nn X g H locs) (hnn : 2 ≤ nn ∧ nn ≤ 4) (hX : 0 ≤ X ∧ X ≤ 2000000000) (p1 : Int32) (p2 : Int32) (hJ : mJ nn [] g) (hl : lv_has ls 6 [(0, .ref h0), (1, .int p1), (2, .int p2)]) (hQ : ∀ (pc' : Nat) (ls' : Array Slot) (r : Int32) (g1 : mSt) (H1 : Heap) (locs1 : List Loc), decode cX12_send pc' = .ok (.ireturn, 1) → mL G h0 ad H0 nn X g1 H1 locs1 → (mFr [3, 84, 85, 86] g g1 ∧ rg (-3) (4) r ∧ mJ nn [] g1 ∧ True) → W p l e rm_send s m args below meth c H1 locs1 0 0 Q (F0 m pc' ls' [.int r])) : W p l e rm_send s m args below meth c H locs 0 0 Q (F0 m 0 ls []) := by
  have hx := x.1
  have hb := x.2.1
  have up1 : (-2147483648 : Int) ≤ p1.toInt ∧ p1.toInt ≤ 2147483647 := (rg_any p1)
  have up2 : (-2147483648 : Int) ≤ p2.toInt ∧ p2.toInt ≤ 2147483647 := (rg_any p2)
  refine lv_aload_n hx hb dX12_send_0 rfl (lv_at hl 0 rfl) ?_
  refine lv_iload_n hx hb dX12_send_1 rfl (lv_at hl 1 rfl) ?_
  refine lv_iload_n hx hb dX12_send_2 rfl (lv_at hl 2 rfl) ?_
  refine m_ci (As := [.int p1, .int p2]) (rest := []) x hml L (c_isCall l nn X g p1 p2 hnn hX) (wm_V uc_isCall ul_559 ui_isCall us_isCall u_init) rfl ⟨rfl, rfl⟩ hd_isCall ⟨Nat.le_of_ble_eq_true rfl, Nat.le_of_ble_eq_true rfl⟩ rfl hl.1 rfl (lv_room (Nat.le_of_ble_eq_true rfl)) dX12_send_3 (fun v2 g1 H1 k1 hp1 L1 => ?_)
  have rv2 : rg (0) (1) v2 := hp1.2.1
  have uv2 : (0 : Int) ≤ v2.toInt ∧ v2.toInt ≤ 1 := rv2
  have j16_3 : ∀ (g3 : mSt) (H3 : Heap) (k3 : List Loc) (ls : Array Slot), mFr [] g1 g3 → mL G h0 ad H0 nn X g3 H3 k3 → mJ nn [] g3 → lv_has ls 6 [(0, .ref h0)] → W p l e rm_send s m args below meth c H3 k3 0 0 Q (F0 m 16 ls []) := by
    intro  g3 H3 k3 ls hF3 L3 hJ3  hl
    refine lv_iconst (v := (-1)) hx hb dX12_send_16 (by decide) ?_
    exact hQ _ _ (-1 : Int32) _ _ _ dX12_send_17 L3 ⟨(mFr.tr (mFr.tr mFr.rf hp1.1 rfl) hF3 rfl), rg_w kc_m1 rfl, hJ3, trivial⟩
  refine lv_if_eq (tgt := 16) hx hb dX12_send_6 (by decide) (fun c6_4 => ?_) (fun c6_4 => ?_)
  · skip
    have ic6_4 := congrArg Int32.toInt c6_4
    have y5 : (0 : Int32).toInt = 0 := by decide
    have q6 : rg (0) (0) v2 := (rg_eq c6_4 rv2 kc_0).1
    have uq6 : (0 : Int) ≤ v2.toInt ∧ v2.toInt ≤ 0 := q6
    exact j16_3  g1 _ _ ls mFr.rf L1 (mJ_fr hJ hp1.1 rfl) (lv_sub hl [0] rfl)
  · skip
    have ic6_4 : v2.toInt ≠ (0 : Int32).toInt := fun z => c6_4 (Int32.toInt_inj.mp z)
    have y7 : (0 : Int32).toInt = 0 := by decide
    have q8 : rg (0) (3) p1 ∧ p1.toInt < 1 * nn := hp1.2.2.1 c6_4
    have uq8 : (0 : Int) ≤ p1.toInt ∧ p1.toInt ≤ 3 := q8.1
    have wq8 := q8.2
    have q9 : rg (0) (39) p2 ∧ p2.toInt < 20 * nn := hp1.2.2.2 c6_4
    have uq9 : (0 : Int) ≤ p2.toInt ∧ p2.toInt ≤ 39 := q9.1
    have wq9 := q9.2
    have q10 : rg (1) (1) v2 := rg_neL c6_4 rv2 kc_0
    have uq10 : (1 : Int) ≤ v2.toInt ∧ v2.toInt ≤ 1 := q10
    refine lv_aload_n hx hb dX12_send_9 rfl (lv_at hl 0 rfl) ?_
    refine m_geti x L1 3 rfl rfl (wm_in uf_264) dX12_send_10 (fun v11 ev11 wv11 => ?_)
    have rv11 : rg (0) (200) v11 := lj_3 wv11
    have uv11 : (0 : Int) ≤ v11.toInt ∧ v11.toInt ≤ 200 := rv11
    refine lv_if_ne (tgt := 18) hx hb dX12_send_13 (by decide) (fun c13_12 => ?_) (fun c13_12 => ?_)
    · skip
      have ic13_12 : v11.toInt ≠ (0 : Int32).toInt := fun z => c13_12 (Int32.toInt_inj.mp z)
      have y13 : (0 : Int32).toInt = 0 := by decide
      have q14 : rg (1) (200) v11 := rg_neL c13_12 rv11 kc_0
      have uq14 : (1 : Int) ≤ v11.toInt ∧ v11.toInt ≤ 200 := q14
      refine lv_bipush (v := 40) hx hb dX12_send_18 (by decide) ?_
      refine lv_iload_n hx hb dX12_send_20 rfl (lv_at hl 1 rfl) ?_
      refine lv_imul hx hb dX12_send_21 ?_
      refine lv_topi (fun v15 ev15 => ?_)
      have rv15 : rg (0) (120) v15 := (rg_mulL ev15 kc_40 q8.1 rfl).1
      have tv15 := (rg_mulL ev15 kc_40 q8.1 rfl).2
      have y16 : (40 : Int32).toInt = 40 := by decide
      have b40v15 : v15.toInt < 40 * nn := by have := q8.2; have : (40 : Int32).toInt = 40 := (by decide); omega
      have uv15 : (0 : Int) ≤ v15.toInt ∧ v15.toInt ≤ 120 := rv15
      refine lv_iload_n hx hb dX12_send_22 rfl (lv_at hl 2 rfl) ?_
      refine lv_iadd hx hb dX12_send_23 ?_
      refine lv_topi (fun v17 ev17 => ?_)
      have rv17 : rg (0) (159) v17 := (rg_add ev17 rv15 q9.1 rfl).1
      have tv17 := (rg_add ev17 rv15 q9.1 rfl).2
      have uv17 : (0 : Int) ≤ v17.toInt ∧ v17.toInt ≤ 159 := rv17
      refine lv_istore_n (lv' := [(3, .int v17), (0, .ref h0), (1, .int p1), (2, .int p2)]) hx hb dX12_send_24 rfl hl (by decide) rfl (fun ls hl => ?_)
      refine lv_aload_n hx hb dX12_send_25 rfl (lv_at hl 1 rfl) ?_
      refine m_geta x L1 68 rfl rfl (wm_in uf_192) dX12_send_26 ?_
      refine lv_iload_n hx hb dX12_send_29 rfl (lv_at hl 0 rfl) ?_
      refine m_ld x L1 68 rfl rv17 rfl dX12_send_30 (fun v18 ev18 wv18 => ?_)
      have rv18 : rg (0) (11) v18 := lj_68 wv18
      have uv18 : (0 : Int) ≤ v18.toInt ∧ v18.toInt ≤ 11 := rv18
      have sv18 : v18.toInt = (g 68 v17.toNatClampNeg).toInt := congrArg Int32.toInt (ev18.trans (congrFun ((show mFr [3, 84, 85, 86] g g1 from (mFr.tr mFr.rf hp1.1 rfl)).at 68 rfl) _))
      refine lv_bipush (v := 10) hx hb dX12_send_31 (by decide) ?_
      refine lv_icmp_eq (tgt := 39) hx hb dX12_send_33 (by decide) (fun c33_19 => ?_) (fun c33_19 => ?_)
      · skip
        have ic33_19 := congrArg Int32.toInt c33_19
        have y20 : (10 : Int32).toInt = 10 := by decide
        have q21 : rg (10) (10) v18 := (rg_eq c33_19 rv18 kc_10).1
        have uq21 : (10 : Int) ≤ v18.toInt ∧ v18.toInt ≤ 10 := q21
        refine lv_aload_n hx hb dX12_send_39 rfl (lv_at hl 1 rfl) ?_
        refine m_geta x L1 86 rfl rfl (wm_in uf_244) dX12_send_40 ?_
        refine lv_iload_n hx hb dX12_send_43 rfl (lv_at hl 0 rfl) ?_
        refine m_ld x L1 86 rfl rv17 rfl dX12_send_44 (fun v22 ev22 wv22 => ?_)
        have rv22 : rg (0) (4) v22 := lj_86 wv22
        have uv22 : (0 : Int) ≤ v22.toInt ∧ v22.toInt ≤ 4 := rv22
        refine lv_iconst (v := 4) hx hb dX12_send_45 (by decide) ?_
        refine lv_icmp_ne (tgt := 52) hx hb dX12_send_46 (by decide) (fun c46_23 => ?_) (fun c46_23 => ?_)
        · skip
          have ic46_23 : v22.toInt ≠ (4 : Int32).toInt := fun z => c46_23 (Int32.toInt_inj.mp z)
          have y24 : (4 : Int32).toInt = 4 := by decide
          have q25 : rg (0) (3) v22 := rg_neH c46_23 rv22 kc_4
          have uq25 : (0 : Int) ≤ v22.toInt ∧ v22.toInt ≤ 3 := q25
          refine lv_iconst (v := 4) hx hb dX12_send_52 (by decide) ?_
          refine lv_iload_n hx hb dX12_send_53 rfl (lv_at hl 0 rfl) ?_
          refine lv_imul hx hb dX12_send_54 ?_
          refine lv_topi (fun v26 ev26 => ?_)
          have rv26 : rg (0) (636) v26 := (rg_mulL ev26 kc_4 rv17 rfl).1
          have tv26 := (rg_mulL ev26 kc_4 rv17 rfl).2
          have y27 : (4 : Int32).toInt = 4 := by decide
          have uv26 : (0 : Int) ≤ v26.toInt ∧ v26.toInt ≤ 636 := rv26
          refine lv_aload_n hx hb dX12_send_55 rfl (lv_at hl 1 rfl) ?_
          refine m_geta x L1 86 rfl rfl (wm_in uf_244) dX12_send_56 ?_
          refine lv_iload_n hx hb dX12_send_59 rfl (lv_at hl 0 rfl) ?_
          refine m_ld x L1 86 rfl rv17 rfl dX12_send_60 (fun v28 ev28 wv28 => ?_)
          refine m_top ((ev22).trans ev28.symm) ?_
          refine lv_iadd hx hb dX12_send_61 ?_
          refine lv_topi (fun v29 ev29 => ?_)
          have rv29 : rg (0) (639) v29 := (rg_add ev29 rv26 q25 rfl).1
          have tv29 := (rg_add ev29 rv26 q25 rfl).2
          have uv29 : (0 : Int) ≤ v29.toInt ∧ v29.toInt ≤ 639 := rv29
          refine lv_istore (lv' := [(4, .int v29), (3, .int v17), (0, .ref h0), (1, .int p1), (2, .int p2)]) hx hb dX12_send_62 hl (by decide) rfl (fun ls hl => ?_)
          refine lv_aload_n hx hb dX12_send_64 rfl (lv_at hl 2 rfl) ?_
          refine m_geta x L1 85 rfl rfl (wm_in uf_241) dX12_send_65 ?_
          refine lv_iload hx hb dX12_send_68 (lv_at hl 0 rfl) ?_
          refine lv_aload_n hx hb dX12_send_70 rfl (lv_at hl 2 rfl) ?_
          refine m_geti x L1 3 rfl rfl (wm_in uf_264) dX12_send_71 (fun v30 ev30 wv30 => ?_)
          refine m_top ((ev11).trans ev30.symm) ?_
          refine m_st x L1 85 rfl rv29 rfl (rj_85 (rg_w q14 rfl)) dX12_send_74 (fun g31 H31 k31 eg31 L31 => ?_)
          have hJ32 := mJ_85 (mJ_fr hJ hp1.1 rfl) eg31 (Int.le_trans (by decide) q14.1) (fun k hk => by have hk2 : 4 * k = v29.toInt.toNat := hk; have k1 : k = v17.toNatClampNeg := (by show k = v17.toInt.toNat; omega); have m0 : v22.toInt = 0 := (by omega); rw [k1]; exact jO_zero (mJ_fr hJ hp1.1 rfl) (by rw [← ev22]; exact m0))
          refine lv_iconst (v := 0) hx hb dX12_send_75 (by decide) ?_
          refine lv_istore (lv' := [(5, .int (0 : Int32)), (4, .int v29), (3, .int v17), (0, .ref h0), (1, .int p1), (2, .int p2)]) hx hb dX12_send_76 hl (by decide) rfl (fun ls hl => ?_)
          have j78_34 : ∀ (n : Nat) (a78_5_33 : Int32) (g34 : mSt) (H34 : Heap) (k34 : List Loc) (ls : Array Slot), mFr [84] g31 g34 → mL G h0 ad H0 nn X g34 H34 k34 → mJ nn [] g34 → rg (0) (200) a78_5_33 → lv_has ls 6 [(0, .ref h0), (3, .int v17), (4, .int v29), (5, .int a78_5_33)] → ((200 : Int) - a78_5_33.toInt).toNat = n → W p l e rm_send s m args below meth c H34 k34 0 0 Q (F0 m 78 ls []) := by
            intro n
            induction n using Nat.strongRecOn with
            | _ n ih34 =>
              intro a78_5_33 g34 H34 k34 ls hF34 L34 hJ34 ra78_5_33 hl hn34
              subst hn34
              have ua78_5_33 : (0 : Int) ≤ a78_5_33.toInt ∧ a78_5_33.toInt ≤ 200 := ra78_5_33
              refine lv_iload hx hb dX12_send_78 (lv_at hl 3 rfl) ?_
              refine lv_aload_n hx hb dX12_send_80 rfl (lv_at hl 0 rfl) ?_
              refine m_geti x L34 3 rfl rfl (wm_in uf_264) dX12_send_81 (fun v35 ev35 wv35 => ?_)
              refine m_top (((mm_fr (mm_up ev11 eg31 rfl) hF34 rfl)).trans ev35.symm) ?_
              refine lv_icmp_ge (tgt := 114) hx hb dX12_send_84 (by decide) (fun c84_36 => ?_) (fun c84_36 => ?_)
              · skip
                have ic84_36 := Int32.le_iff_toInt_le.mp c84_36
                have q37 : rg (1) (200) a78_5_33 := (rg_le c84_36 q14 ra78_5_33).2
                have uq37 : (1 : Int) ≤ a78_5_33.toInt ∧ a78_5_33.toInt ≤ 200 := q37
                refine lv_aload_n hx hb dX12_send_114 rfl (lv_at hl 0 rfl) ?_
                refine lv_iconst (v := 0) hx hb dX12_send_115 (by decide) ?_
                refine m_puti x L34 3 rfl fi_3 (wm_in uf_264) dX12_send_116 (rj_3 (rg_w kc_0 rfl)) (fun g38 H38 k38 eg38 L38 => ?_)
                refine lv_aload_n hx hb dX12_send_119 rfl (lv_at hl 0 rfl) ?_
                refine m_geta x L38 86 rfl rfl (wm_in uf_244) dX12_send_120 ?_
                refine lv_iload_n hx hb dX12_send_123 rfl (lv_at hl 1 rfl) ?_
                refine lv_dup2_11 hx hb dX12_send_124 rfl rfl ?_
                refine m_ld x L38 86 rfl rv17 rfl dX12_send_125 (fun v39 ev39 wv39 => ?_)
                refine m_top (((mm_up (mm_fr (mm_up ev22 eg31 rfl) hF34 rfl) eg38 rfl)).trans ev39.symm) ?_
                refine lv_iconst (v := 1) hx hb dX12_send_126 (by decide) ?_
                refine lv_iadd hx hb dX12_send_127 ?_
                refine lv_topi (fun v40 ev40 => ?_)
                have rv40 : rg (1) (4) v40 := (rg_add ev40 q25 kc_1 rfl).1
                have tv40 := (rg_add ev40 q25 kc_1 rfl).2
                have y41 : (1 : Int32).toInt = 1 := by decide
                have uv40 : (1 : Int) ≤ v40.toInt ∧ v40.toInt ≤ 4 := rv40
                refine m_st x L38 86 rfl rv17 rfl (rj_86 (rg_w rv40 rfl)) dX12_send_128 (fun g42 H42 k42 eg42 L42 => ?_)
                have hJ43 := mJ_86 (mJ_up hJ34 eg38 rfl) (fun k => (lj_85 (L38.2.2 85 k)).1) eg42 (Int.le_trans (by decide) rv40.1) (by by_cases q : v22.toInt = 0; exact Or.inl (jO_zero (mJ_up hJ34 eg38 rfl) (by rw [← (mm_up (mm_fr (mm_up ev22 eg31 rfl) hF34 rfl) eg38 rfl)]; exact q)); exact Or.inr ⟨rv40.1, by rw [← (mm_up (mm_fr (mm_up ev22 eg31 rfl) hF34 rfl) eg38 rfl)]; omega⟩)
                refine lv_aload_n hx hb dX12_send_129 rfl (lv_at hl 0 rfl) ?_
                refine m_geta x L42 86 rfl rfl (wm_in uf_244) dX12_send_130 ?_
                refine lv_iload_n hx hb dX12_send_133 rfl (lv_at hl 1 rfl) ?_
                refine m_ld x L42 86 rfl rv17 rfl dX12_send_134 (fun v44 ev44 wv44 => ?_)
                refine m_top (((mm_st eg42)).trans ev44.symm) ?_
                exact hQ _ _ v40 _ _ _ dX12_send_135 L42 ⟨(mFr.upE (mFr.upE (mFr.tr (mFr.upE (mFr.tr mFr.rf hp1.1 rfl) eg31 rfl) hF34 rfl) eg38 rfl) eg42 rfl), rg_w rv40 rfl, hJ43, trivial⟩
              · skip
                have ic84_36 := Int32.lt_iff_toInt_lt.mp (rg_nle c84_36)
                have q45 : rg (0) (199) a78_5_33 := (rg_lt (rg_nle c84_36) ra78_5_33 q14).1
                have uq45 : (0 : Int) ≤ a78_5_33.toInt ∧ a78_5_33.toInt ≤ 199 := q45
                refine lv_aload_n hx hb dX12_send_87 rfl (lv_at hl 0 rfl) ?_
                refine m_geta x L34 84 rfl rfl (wm_in uf_238) dX12_send_88 ?_
                refine lv_sipush (v := 200) hx hb dX12_send_91 (by decide) ?_
                refine lv_iload hx hb dX12_send_94 (lv_at hl 2 rfl) ?_
                refine lv_imul hx hb dX12_send_96 ?_
                refine lv_topi (fun v46 ev46 => ?_)
                have rv46 : rg (0) (127800) v46 := (rg_mulL ev46 kc_200 rv29 rfl).1
                have tv46 := (rg_mulL ev46 kc_200 rv29 rfl).2
                have y47 : (200 : Int32).toInt = 200 := by decide
                have uv46 : (0 : Int) ≤ v46.toInt ∧ v46.toInt ≤ 127800 := rv46
                refine lv_iload hx hb dX12_send_97 (lv_at hl 3 rfl) ?_
                refine lv_iadd hx hb dX12_send_99 ?_
                refine lv_topi (fun v48 ev48 => ?_)
                have rv48 : rg (0) (127999) v48 := (rg_add ev48 rv46 q45 rfl).1
                have tv48 := (rg_add ev48 rv46 q45 rfl).2
                have uv48 : (0 : Int) ≤ v48.toInt ∧ v48.toInt ≤ 127999 := rv48
                refine lv_aload_n hx hb dX12_send_100 rfl (lv_at hl 0 rfl) ?_
                refine m_geta x L34 2 rfl rfl (wm_in uf_7) dX12_send_101 ?_
                refine lv_iload hx hb dX12_send_104 (lv_at hl 3 rfl) ?_
                refine m_ld x L34 2 rfl q45 rfl dX12_send_106 (fun v49 ev49 wv49 => ?_)
                have rv49 : rg (-2147483648) (2147483647) v49 := lj_2 wv49
                have uv49 : (-2147483648 : Int) ≤ v49.toInt ∧ v49.toInt ≤ 2147483647 := rv49
                have sv49 : v49.toInt = (g 2 a78_5_33.toNatClampNeg).toInt := congrArg Int32.toInt (ev49.trans (congrFun ((show mFr [3, 84, 85, 86] g g34 from (mFr.tr (mFr.upE (mFr.tr mFr.rf hp1.1 rfl) eg31 rfl) hF34 rfl)).at 2 rfl) _))
                refine m_st x L34 84 rfl rv48 rfl (rj_84 (rg_any v49)) dX12_send_107 (fun g50 H50 k50 eg50 L50 => ?_)
                obtain ⟨v51, ev51, fv51⟩ := inc_ex a78_5_33 (1) (1 : Int32) (by decide)
                have rv51 : rg (1) (200) v51 := (rg_add ev51 q45 kc_1 rfl).1
                have tv51 := (rg_add ev51 q45 kc_1 rfl).2
                have yv51 : (1 : Int32).toInt = 1 := by decide
                refine lv_iinc (v := v51) (lv' := [(5, .int v51), (0, .ref h0), (3, .int v17), (4, .int v29)]) hx hb dX12_send_108 hl (k := 3) rfl fv51 (by decide) rfl (fun ls hl => ?_)
                refine lv_goto (tgt := 78) hx hb dX12_send_111 (by decide) ?_
                exact ih34 _ (ms_up tv51 kc_1 q45 rfl rfl) v51 g50 _ _ ls (mFr.upE hF34 eg50 rfl) L50 (mJ_up hJ34 eg50 rfl) (rg_w rv51 rfl) (lv_sub hl [1, 2, 3, 0] rfl) rfl
          have y52 : (0 : Int32).toInt = 0 := by decide
          exact j78_34 _ (0 : Int32) g31 _ _ ls mFr.rf L31 hJ32 (rg_w kc_0 rfl) (lv_sub hl [3, 2, 1, 0] rfl) rfl
        · skip
          have ic46_23 := congrArg Int32.toInt c46_23
          have y53 : (4 : Int32).toInt = 4 := by decide
          have q54 : rg (4) (4) v22 := (rg_eq c46_23 rv22 kc_4).1
          have uq54 : (4 : Int) ≤ v22.toInt ∧ v22.toInt ≤ 4 := q54
          refine lv_bipush (v := (-3)) hx hb dX12_send_49 (by decide) ?_
          exact hQ _ _ (-3 : Int32) _ _ _ dX12_send_51 L1 ⟨(mFr.tr mFr.rf hp1.1 rfl), rg_w kc_m3 rfl, (mJ_fr hJ hp1.1 rfl), trivial⟩
      · skip
        have ic33_19 : v18.toInt ≠ (10 : Int32).toInt := fun z => c33_19 (Int32.toInt_inj.mp z)
        have y55 : (10 : Int32).toInt = 10 := by decide
        refine lv_bipush (v := (-2)) hx hb dX12_send_36 (by decide) ?_
        exact hQ _ _ (-2 : Int32) _ _ _ dX12_send_38 L1 ⟨(mFr.tr mFr.rf hp1.1 rfl), rg_w kc_m2 rfl, (mJ_fr hJ hp1.1 rfl), trivial⟩
    · skip
      have ic13_12 := congrArg Int32.toInt c13_12
      have y56 : (0 : Int32).toInt = 0 := by decide
      have q57 : rg (0) (0) v11 := (rg_eq c13_12 rv11 kc_0).1
      have uq57 : (0 : Int) ≤ v11.toInt ∧ v11.toInt ≤ 0 := q57
      exact j16_3  g1 _ _ ls mFr.rf L1 (mJ_fr hJ hp1.1 rfl) (lv_sub hl [0] rfl)
theorem c_send (l : Launch) {G : mG} {h0 : Nat} {ad : Nat → Nat} (nn X : Int) (g : mSt) (p1 : Int32) (p2 : Int32) (hnn : 2 ≤ nn ∧ nn ≤ 4) (hX : 0 ≤ X ∧ X ≤ 2000000000) (hJ : mJ nn [] g) : Met l yX12_send (wm (Cond.code yX12_send cX12_send 6 (some .int))) rm_send (va_Pc [.ref h0, .int p1, .int p2] (mPre G h0 ad nn X g)) (mQi G h0 ad nn X (fun r g1 => mFr [3, 84, 85, 86] g g1 ∧ rg (-3) (4) r ∧ mJ nn [] g1 ∧ True)) 0 0 (mA h0 ad) := by
  refine Met.ofW (cc := cX12_send) (maxL := 6) (ret := (some .int)) (by decide) rfl ?_
  intro p e s m args below meth c s₁ B hml hv
  obtain ⟨rfl, hv⟩ := hv
  have hr := B.returns
  have hlocks := B.notSynchronized
  obtain ⟨x, L⟩ := m_start B rfl wm_X hv
  have hl := lv_entry ([.ref h0, .int p1, .int p2]) (n := 6) (Nat.le_of_ble_eq_true rfl)
  rw [lg_entry_eq]
  generalize (lg_sl ([.ref h0, .int p1, .int p2]) ++ List.replicate (6 - (lg_sl ([.ref h0, .int p1, .int p2])).length) Slot.unset).toArray = ls at hl ⊢
  exact w_send x hml L hnn hX p1 p2 hJ hl (fun pc' ls' r g1 H1 locs1 hdg L hp => m_iret x L hr hlocks (Int.le_refl _) hp hdg)

def rm_harm : Room := { frames := 0, cells := 0, slots := 0, locals := 0 }
theorem hd_harm : yX12_harm.cls = RX12 ∧ yX12_harm.cls ≠ "java/lang/invoke/MethodHandle" ∧ yX12_harm.cls ≠ "java/lang/invoke/VarHandle" ∧ (parseMethodDescriptor yX12_harm.desc).map (fun d => d.parameters.length) = some 3 := by decide +kernel
set_option maxHeartbeats 4000000 in
set_option maxRecDepth 100000 in
theorem w_harm {p : Program} {l : Launch} {e : Env} {s : State} {m : MethodId} {args : Array Value} {below : List Frame} {meth : Method} {c : Code} {H : Heap} {locs : List Loc} {Q : State → Prop} {ls : Array Slot} {G : mG} {h0 : Nat} {ad : Nat → Nat} {g : mSt} {H0 : Heap} {nn X : Int} (x : mX p c cX12_harm s args (wm (Cond.code yX12_harm cX12_harm 8 none)) m G h0 ad) (hml : c.maxLocals = 8) (L : mL G h0 ad H0 nn X g H locs) (hnn : 2 ≤ nn ∧ nn ≤ 4) (hX : 0 ≤ X ∧ X ≤ 2000000000) (p1 : Int32) (p2 : Int32) (p3 : Int32) (hJ : mJ nn [] g) (rp1 : rg (0) (7) p1) (rp2 : rg (0) (3) p2) (rp3 : rg (0) (1643) p3) (hl : lv_has ls 8 [(0, .ref h0), (1, .int p1), (2, .int p2), (3, .int p3)]) (hQ : ∀ (pc' : Nat) (ls' : Array Slot) (g1 : mSt) (H1 : Heap) (locs1 : List Loc), decode cX12_harm pc' = .ok (.return_, 1) → mL G h0 ad H0 nn X g1 H1 locs1 → (mFr [12, 13, 14, 15, 16, 17, 18] g g1 ∧ mJ nn [] g1 ∧ True) → W p l e rm_harm s m args below meth c H1 locs1 0 0 Q (F0 m pc' ls' [])) : W p l e rm_harm s m args below meth c H locs 0 0 Q (F0 m 0 ls []) := by
  have hx := x.1
  have hb := x.2.1
  have up1 : (0 : Int) ≤ p1.toInt ∧ p1.toInt ≤ 7 := rp1
  have up2 : (0 : Int) ≤ p2.toInt ∧ p2.toInt ≤ 3 := rp2
  have up3 : (0 : Int) ≤ p3.toInt ∧ p3.toInt ≤ 1643 := rp3
  refine lv_iconst (v := 0) hx hb dX12_harm_0 (by decide) ?_
  refine lv_istore (lv' := [(4, .int (0 : Int32)), (0, .ref h0), (1, .int p1), (2, .int p2), (3, .int p3)]) hx hb dX12_harm_1 hl (by decide) rfl (fun ls hl => ?_)
  refine lv_bipush (v := 53) hx hb dX12_harm_3 (by decide) ?_
  refine lv_istore (lv' := [(5, .int (53 : Int32)), (4, .int (0 : Int32)), (0, .ref h0), (1, .int p1), (2, .int p2), (3, .int p3)]) hx hb dX12_harm_5 hl (by decide) rfl (fun ls hl => ?_)
  refine lv_bipush (v := 8) hx hb dX12_harm_7 (by decide) ?_
  refine lv_iload_n hx hb dX12_harm_9 rfl (lv_at hl 3 rfl) ?_
  refine lv_imul hx hb dX12_harm_10 ?_
  refine lv_topi (fun v1 ev1 => ?_)
  have rv1 : rg (0) (56) v1 := (rg_mulL ev1 kc_8 rp1 rfl).1
  have tv1 := (rg_mulL ev1 kc_8 rp1 rfl).2
  have y2 : (8 : Int32).toInt = 8 := by decide
  have uv1 : (0 : Int) ≤ v1.toInt ∧ v1.toInt ≤ 56 := rv1
  refine lv_istore (lv' := [(6, .int v1), (5, .int (53 : Int32)), (4, .int (0 : Int32)), (0, .ref h0), (1, .int p1), (2, .int p2), (3, .int p3)]) hx hb dX12_harm_11 hl (by decide) rfl (fun ls hl => ?_)
  have j13_6 : ∀ (n : Nat) (a13_4_3 a13_5_4 a13_6_5 : Int32) (g6 : mSt) (H6 : Heap) (k6 : List Loc) (ls : Array Slot), mFr [12, 13, 14, 15, 17] g g6 → mL G h0 ad H0 nn X g6 H6 k6 → mJ nn [] g6 → rg (0) (8) a13_4_3 → rg (0) (53) a13_5_4 → rg (0) (64) a13_6_5 → (0 ≤ a13_4_3.toInt ∧ a13_4_3.toInt ≤ a13_6_5.toInt - 8 * p1.toInt ∧ 8 * p1.toInt ≤ a13_6_5.toInt ∧ a13_6_5.toInt ≤ 8 * p1.toInt + 8) → lv_has ls 8 [(0, .ref h0), (1, .int p1), (2, .int p2), (3, .int p3), (4, .int a13_4_3), (5, .int a13_5_4), (6, .int a13_6_5)] → ((64 : Int) - a13_6_5.toInt).toNat = n → W p l e rm_harm s m args below meth c H6 k6 0 0 Q (F0 m 13 ls []) := by
    intro n
    induction n using Nat.strongRecOn with
    | _ n ih6 =>
      intro a13_4_3 a13_5_4 a13_6_5 g6 H6 k6 ls hF6 L6 hJ6 ra13_4_3 ra13_5_4 ra13_6_5 hv6_0 hl hn6
      subst hn6
      have ua13_4_3 : (0 : Int) ≤ a13_4_3.toInt ∧ a13_4_3.toInt ≤ 8 := ra13_4_3
      have ua13_5_4 : (0 : Int) ≤ a13_5_4.toInt ∧ a13_5_4.toInt ≤ 53 := ra13_5_4
      have ua13_6_5 : (0 : Int) ≤ a13_6_5.toInt ∧ a13_6_5.toInt ≤ 64 := ra13_6_5
      refine lv_iload hx hb dX12_harm_13 (lv_at hl 6 rfl) ?_
      refine lv_bipush (v := 8) hx hb dX12_harm_15 (by decide) ?_
      refine lv_iload_n hx hb dX12_harm_17 rfl (lv_at hl 1 rfl) ?_
      refine lv_imul hx hb dX12_harm_18 ?_
      refine m_top ev1 ?_
      refine lv_aload_n hx hb dX12_harm_19 rfl (lv_at hl 0 rfl) ?_
      refine m_geta x L6 16 rfl rfl (wm_in uf_44) dX12_harm_20 ?_
      refine lv_iload_n hx hb dX12_harm_23 rfl (lv_at hl 1 rfl) ?_
      refine m_ld x L6 16 rfl rp1 rfl dX12_harm_24 (fun v7 ev7 wv7 => ?_)
      have rv7 : rg (0) (8) v7 := lj_16 wv7
      have uv7 : (0 : Int) ≤ v7.toInt ∧ v7.toInt ≤ 8 := rv7
      refine lv_iadd hx hb dX12_harm_25 ?_
      refine lv_topi (fun v8 ev8 => ?_)
      have rv8 : rg (0) (64) v8 := (rg_add ev8 rv1 rv7 rfl).1
      have tv8 := (rg_add ev8 rv1 rv7 rfl).2
      have uv8 : (0 : Int) ≤ v8.toInt ∧ v8.toInt ≤ 64 := rv8
      refine lv_icmp_ge (tgt := 183) hx hb dX12_harm_26 (by decide) (fun c26_9 => ?_) (fun c26_9 => ?_)
      · skip
        have ic26_9 := Int32.le_iff_toInt_le.mp c26_9
        refine lv_aload_n hx hb dX12_harm_183 rfl (lv_at hl 0 rfl) ?_
        refine m_geta x L6 16 rfl rfl (wm_in uf_44) dX12_harm_184 ?_
        refine lv_iload_n hx hb dX12_harm_187 rfl (lv_at hl 1 rfl) ?_
        refine lv_iload hx hb dX12_harm_188 (lv_at hl 4 rfl) ?_
        refine m_st x L6 16 rfl rp1 rfl (rj_16 (rg_w ra13_4_3 rfl)) dX12_harm_190 (fun g10 H10 k10 eg10 L10 => ?_)
        refine lv_aload_n hx hb dX12_harm_191 rfl (lv_at hl 0 rfl) ?_
        refine m_geta x L10 18 rfl rfl (wm_in uf_50) dX12_harm_192 ?_
        refine lv_iconst (v := 4) hx hb dX12_harm_195 (by decide) ?_
        refine lv_iload_n hx hb dX12_harm_196 rfl (lv_at hl 1 rfl) ?_
        refine lv_imul hx hb dX12_harm_197 ?_
        refine lv_topi (fun v11 ev11 => ?_)
        have rv11 : rg (0) (28) v11 := (rg_mulL ev11 kc_4 rp1 rfl).1
        have tv11 := (rg_mulL ev11 kc_4 rp1 rfl).2
        have y12 : (4 : Int32).toInt = 4 := by decide
        have uv11 : (0 : Int) ≤ v11.toInt ∧ v11.toInt ≤ 28 := rv11
        refine lv_iload_n hx hb dX12_harm_198 rfl (lv_at hl 2 rfl) ?_
        refine lv_iadd hx hb dX12_harm_199 ?_
        refine lv_topi (fun v13 ev13 => ?_)
        have rv13 : rg (0) (31) v13 := (rg_add ev13 rv11 rp2 rfl).1
        have tv13 := (rg_add ev13 rv11 rp2 rfl).2
        have uv13 : (0 : Int) ≤ v13.toInt ∧ v13.toInt ≤ 31 := rv13
        refine lv_iload hx hb dX12_harm_200 (lv_at hl 5 rfl) ?_
        refine m_st x L10 18 rfl rv13 rfl (rj_18 (rg_w ra13_5_4 rfl)) dX12_harm_202 (fun g14 H14 k14 eg14 L14 => ?_)
        exact hQ _ _ _ _ _ dX12_harm_203 L14 ⟨(mFr.upE (mFr.upE (mFr.tr mFr.rf hF6 rfl) eg10 rfl) eg14 rfl), (mJ_up (mJ_up hJ6 eg10 rfl) eg14 rfl), trivial⟩
      · skip
        have ic26_9 := Int32.lt_iff_toInt_lt.mp (rg_nle c26_9)
        have q15 : rg (0) (63) a13_6_5 := (rg_lt (rg_nle c26_9) ra13_6_5 rv8).1
        have uq15 : (0 : Int) ≤ a13_6_5.toInt ∧ a13_6_5.toInt ≤ 63 := q15
        have q16 : rg (1) (64) v8 := (rg_lt (rg_nle c26_9) ra13_6_5 rv8).2
        have uq16 : (1 : Int) ≤ v8.toInt ∧ v8.toInt ≤ 64 := q16
        refine lv_aload_n hx hb dX12_harm_29 rfl (lv_at hl 0 rfl) ?_
        refine m_geta x L6 13 rfl rfl (wm_in uf_35) dX12_harm_30 ?_
        refine lv_iload hx hb dX12_harm_33 (lv_at hl 6 rfl) ?_
        refine m_ld x L6 13 rfl q15 rfl dX12_harm_35 (fun v17 ev17 wv17 => ?_)
        have rv17 : rg (-2147483648) (2147483647) v17 := lj_13 wv17
        have uv17 : (-2147483648 : Int) ≤ v17.toInt ∧ v17.toInt ≤ 2147483647 := rv17
        have j177_20 : ∀ (a177_4_18 a177_5_19 : Int32) (g20 : mSt) (H20 : Heap) (k20 : List Loc) (ls : Array Slot), mFr [12, 13, 14, 15, 17] g6 g20 → mL G h0 ad H0 nn X g20 H20 k20 → mJ nn [] g20 → rg (0) (8) a177_4_18 → rg (0) (53) a177_5_19 → (0 ≤ a177_4_18.toInt ∧ a177_4_18.toInt ≤ a13_6_5.toInt + 1 - 8 * p1.toInt ∧ 8 * p1.toInt ≤ a13_6_5.toInt ∧ a13_6_5.toInt + 1 ≤ 8 * p1.toInt + 8) → lv_has ls 8 [(0, .ref h0), (1, .int p1), (2, .int p2), (3, .int p3), (4, .int a177_4_18), (5, .int a177_5_19), (6, .int a13_6_5)] → W p l e rm_harm s m args below meth c H20 k20 0 0 Q (F0 m 177 ls []) := by
          intro a177_4_18 a177_5_19 g20 H20 k20 ls hF20 L20 hJ20 ra177_4_18 ra177_5_19 hv20_0 hl
          have ua177_4_18 : (0 : Int) ≤ a177_4_18.toInt ∧ a177_4_18.toInt ≤ 8 := ra177_4_18
          have ua177_5_19 : (0 : Int) ≤ a177_5_19.toInt ∧ a177_5_19.toInt ≤ 53 := ra177_5_19
          obtain ⟨v21, ev21, fv21⟩ := inc_ex a13_6_5 (1) (1 : Int32) (by decide)
          have rv21 : rg (1) (64) v21 := (rg_add ev21 q15 kc_1 rfl).1
          have tv21 := (rg_add ev21 q15 kc_1 rfl).2
          have yv21 : (1 : Int32).toInt = 1 := by decide
          refine lv_iinc (v := v21) (lv' := [(6, .int v21), (0, .ref h0), (1, .int p1), (2, .int p2), (3, .int p3), (4, .int a177_4_18), (5, .int a177_5_19)]) hx hb dX12_harm_177 hl (k := 6) rfl fv21 (by decide) rfl (fun ls hl => ?_)
          refine lv_goto (tgt := 13) hx hb dX12_harm_180 (by decide) ?_
          exact ih6 _ (ms_up tv21 kc_1 q15 rfl rfl) a177_4_18 a177_5_19 v21 g20 _ _ ls (mFr.tr hF6 hF20 rfl) L20 hJ20 (rg_w ra177_4_18 rfl) (rg_w ra177_5_19 rfl) (rg_w rv21 rfl) (by omega) (lv_sub hl [1, 2, 3, 4, 5, 6, 0] rfl) rfl
        refine lv_if_ne (tgt := 107) hx hb dX12_harm_36 (by decide) (fun c36_22 => ?_) (fun c36_22 => ?_)
        · skip
          have ic36_22 : v17.toInt ≠ (0 : Int32).toInt := fun z => c36_22 (Int32.toInt_inj.mp z)
          have y23 : (0 : Int32).toInt = 0 := by decide
          refine lv_bipush (v := 8) hx hb dX12_harm_107 (by decide) ?_
          refine lv_iload_n hx hb dX12_harm_109 rfl (lv_at hl 1 rfl) ?_
          refine lv_imul hx hb dX12_harm_110 ?_
          refine m_top ev1 ?_
          refine lv_iload hx hb dX12_harm_111 (lv_at hl 4 rfl) ?_
          refine lv_iadd hx hb dX12_harm_113 ?_
          refine lv_topi (fun v24 ev24 => ?_)
          have rv24 : rg (0) (64) v24 := (rg_add ev24 rv1 ra13_4_3 rfl).1
          have tv24 := (rg_add ev24 rv1 ra13_4_3 rfl).2
          have q25 : rg (0) (63) v24 := ⟨by omega, by omega⟩
          have uv24 : (0 : Int) ≤ v24.toInt ∧ v24.toInt ≤ 63 := q25
          refine lv_istore (lv' := [(7, .int v24), (0, .ref h0), (1, .int p1), (2, .int p2), (3, .int p3), (4, .int a13_4_3), (5, .int a13_5_4), (6, .int a13_6_5)]) hx hb dX12_harm_114 hl (by decide) rfl (fun ls hl => ?_)
          refine lv_aload_n hx hb dX12_harm_116 rfl (lv_at hl 1 rfl) ?_
          refine m_geta x L6 12 rfl rfl (wm_in uf_32) dX12_harm_117 ?_
          refine lv_iload hx hb dX12_harm_120 (lv_at hl 0 rfl) ?_
          refine lv_aload_n hx hb dX12_harm_122 rfl (lv_at hl 1 rfl) ?_
          refine m_geta x L6 12 rfl rfl (wm_in uf_32) dX12_harm_123 ?_
          refine lv_iload hx hb dX12_harm_126 (lv_at hl 7 rfl) ?_
          refine m_ld x L6 12 rfl q15 rfl dX12_harm_128 (fun v26 ev26 wv26 => ?_)
          have rv26 : rg (0) (2) v26 := lj_12 wv26
          have uv26 : (0 : Int) ≤ v26.toInt ∧ v26.toInt ≤ 2 := rv26
          refine m_st x L6 12 rfl q25 rfl (rj_12 (rg_w rv26 rfl)) dX12_harm_129 (fun g27 H27 k27 eg27 L27 => ?_)
          refine lv_aload_n hx hb dX12_harm_130 rfl (lv_at hl 1 rfl) ?_
          refine m_geta x L27 13 rfl rfl (wm_in uf_35) dX12_harm_131 ?_
          refine lv_iload hx hb dX12_harm_134 (lv_at hl 0 rfl) ?_
          refine lv_aload_n hx hb dX12_harm_136 rfl (lv_at hl 1 rfl) ?_
          refine m_geta x L27 13 rfl rfl (wm_in uf_35) dX12_harm_137 ?_
          refine lv_iload hx hb dX12_harm_140 (lv_at hl 7 rfl) ?_
          refine m_ld x L27 13 rfl q15 rfl dX12_harm_142 (fun v28 ev28 wv28 => ?_)
          refine m_top (((mm_up ev17 eg27 rfl)).trans ev28.symm) ?_
          refine lv_iconst (v := 1) hx hb dX12_harm_143 (by decide) ?_
          refine lv_isub hx hb dX12_harm_144 ?_
          refine lv_topi (fun v29 ev29 => ?_)
          have rv29 : rg (-2147483648) (2147483647) v29 := rg_any v29
          have uv29 : (-2147483648 : Int) ≤ v29.toInt ∧ v29.toInt ≤ 2147483647 := rv29
          refine m_st x L27 13 rfl q25 rfl (rj_13 (rg_any v29)) dX12_harm_145 (fun g30 H30 k30 eg30 L30 => ?_)
          refine lv_aload_n hx hb dX12_harm_146 rfl (lv_at hl 1 rfl) ?_
          refine m_geta x L30 14 rfl rfl (wm_in uf_38) dX12_harm_147 ?_
          refine lv_iload hx hb dX12_harm_150 (lv_at hl 0 rfl) ?_
          refine lv_aload_n hx hb dX12_harm_152 rfl (lv_at hl 1 rfl) ?_
          refine m_geta x L30 14 rfl rfl (wm_in uf_38) dX12_harm_153 ?_
          refine lv_iload hx hb dX12_harm_156 (lv_at hl 7 rfl) ?_
          refine m_ld x L30 14 rfl q15 rfl dX12_harm_158 (fun v31 ev31 wv31 => ?_)
          have rv31 : rg (-2147483648) (2147483647) v31 := lj_14 wv31
          have uv31 : (-2147483648 : Int) ≤ v31.toInt ∧ v31.toInt ≤ 2147483647 := rv31
          refine m_st x L30 14 rfl q25 rfl (rj_14 (rg_any v31)) dX12_harm_159 (fun g32 H32 k32 eg32 L32 => ?_)
          have hJ33 := mJ_dmg hJ6 eg27 eg30 eg32 (fun z => by have w := hJ6.1 a13_6_5.toNatClampNeg (by rw [← ev26]; exact z); have h14 : g6 14 a13_6_5.toNatClampNeg = g30 14 a13_6_5.toNatClampNeg := mm_up (mm_up rfl eg27 rfl) eg30 rfl; rw [h14, ← ev31] at w; exact w)
          refine lv_aload_n hx hb dX12_harm_160 rfl (lv_at hl 1 rfl) ?_
          refine m_geta x L32 15 rfl rfl (wm_in uf_41) dX12_harm_161 ?_
          refine lv_iload hx hb dX12_harm_164 (lv_at hl 0 rfl) ?_
          refine lv_aload_n hx hb dX12_harm_166 rfl (lv_at hl 1 rfl) ?_
          refine m_geta x L32 15 rfl rfl (wm_in uf_41) dX12_harm_167 ?_
          refine lv_iload hx hb dX12_harm_170 (lv_at hl 7 rfl) ?_
          refine m_ld x L32 15 rfl q15 rfl dX12_harm_172 (fun v34 ev34 wv34 => ?_)
          have rv34 : rg (-2147483648) (2147483647) v34 := lj_15 wv34
          have uv34 : (-2147483648 : Int) ≤ v34.toInt ∧ v34.toInt ≤ 2147483647 := rv34
          refine m_st x L32 15 rfl q25 rfl (rj_15 (rg_any v34)) dX12_harm_173 (fun g35 H35 k35 eg35 L35 => ?_)
          obtain ⟨v36, ev36, fv36⟩ := inc_ex a13_4_3 (1) (1 : Int32) (by decide)
          have rv36 : rg (1) (9) v36 := (rg_add ev36 ra13_4_3 kc_1 rfl).1
          have tv36 := (rg_add ev36 ra13_4_3 kc_1 rfl).2
          have yv36 : (1 : Int32).toInt = 1 := by decide
          refine lv_iinc (v := v36) (lv' := [(4, .int v36), (7, .int v24), (0, .ref h0), (1, .int p1), (2, .int p2), (3, .int p3), (5, .int a13_5_4), (6, .int a13_6_5)]) hx hb dX12_harm_174 hl (k := 5) rfl fv36 (by decide) rfl (fun ls hl => ?_)
          exact j177_20 v36 a13_5_4 g35 _ _ ls (mFr.upE (mFr.upE (mFr.upE (mFr.upE mFr.rf eg27 rfl) eg30 rfl) eg32 rfl) eg35 rfl) L35 (mJ_up hJ33 eg35 rfl) ⟨by omega, by omega⟩ (rg_w ra13_5_4 rfl) (by omega) (lv_sub hl [2, 3, 4, 5, 0, 6, 7] rfl)
        · skip
          have ic36_22 := congrArg Int32.toInt c36_22
          have y37 : (0 : Int32).toInt = 0 := by decide
          have q38 : rg (0) (0) v17 := (rg_eq c36_22 rv17 kc_0).1
          have uq38 : (0 : Int) ≤ v17.toInt ∧ v17.toInt ≤ 0 := q38
          refine lv_aload_n hx hb dX12_harm_39 rfl (lv_at hl 0 rfl) ?_
          refine m_geta x L6 12 rfl rfl (wm_in uf_32) dX12_harm_40 ?_
          refine lv_iload hx hb dX12_harm_43 (lv_at hl 6 rfl) ?_
          refine m_ld x L6 12 rfl q15 rfl dX12_harm_45 (fun v39 ev39 wv39 => ?_)
          have rv39 : rg (0) (2) v39 := lj_12 wv39
          have uv39 : (0 : Int) ≤ v39.toInt ∧ v39.toInt ≤ 2 := rv39
          refine lv_iconst (v := 1) hx hb dX12_harm_46 (by decide) ?_
          refine lv_icmp_ne (tgt := 77) hx hb dX12_harm_47 (by decide) (fun c47_40 => ?_) (fun c47_40 => ?_)
          · skip
            have ic47_40 : v39.toInt ≠ (1 : Int32).toInt := fun z => c47_40 (Int32.toInt_inj.mp z)
            have y41 : (1 : Int32).toInt = 1 := by decide
            refine lv_aload_n hx hb dX12_harm_77 rfl (lv_at hl 0 rfl) ?_
            refine m_geta x L6 12 rfl rfl (wm_in uf_32) dX12_harm_78 ?_
            refine lv_iload hx hb dX12_harm_81 (lv_at hl 6 rfl) ?_
            refine m_ld x L6 12 rfl q15 rfl dX12_harm_83 (fun v42 ev42 wv42 => ?_)
            refine m_top ((ev39).trans ev42.symm) ?_
            have j102_44 : ∀ (b102_0_43 : Int32) (g44 : mSt) (H44 : Heap) (k44 : List Loc) (ls : Array Slot), mFr [] g6 g44 → mL G h0 ad H0 nn X g44 H44 k44 → mJ nn [] g44 → rg (0) (52) b102_0_43 → lv_has ls 8 [(0, .ref h0), (1, .int p1), (2, .int p2), (3, .int p3), (4, .int a13_4_3), (6, .int a13_6_5)] → W p l e rm_harm s m args below meth c H44 k44 0 0 Q (F0 m 102 ls [.int b102_0_43]) := by
              intro b102_0_43 g44 H44 k44 ls hF44 L44 hJ44 rb102_0_43 hl
              have ub102_0_43 : (0 : Int) ≤ b102_0_43.toInt ∧ b102_0_43.toInt ≤ 52 := rb102_0_43
              refine lv_istore (lv' := [(5, .int b102_0_43), (0, .ref h0), (1, .int p1), (2, .int p2), (3, .int p3), (4, .int a13_4_3), (6, .int a13_6_5)]) hx hb dX12_harm_102 hl (by decide) rfl (fun ls hl => ?_)
              refine lv_goto (tgt := 177) hx hb dX12_harm_104 (by decide) ?_
              exact j177_20 a13_4_3 b102_0_43 g44 _ _ ls (mFr.tr mFr.rf hF44 rfl) L44 hJ44 (rg_w ra13_4_3 rfl) (rg_w rb102_0_43 rfl) (by omega) (lv_sub hl [1, 2, 3, 4, 5, 0, 6] rfl)
            refine lv_if_ne (tgt := 91) hx hb dX12_harm_84 (by decide) (fun c84_45 => ?_) (fun c84_45 => ?_)
            · skip
              have ic84_45 : v39.toInt ≠ (0 : Int32).toInt := fun z => c84_45 (Int32.toInt_inj.mp z)
              have y46 : (0 : Int32).toInt = 0 := by decide
              have q47 : rg (1) (2) v39 := rg_neL c84_45 rv39 kc_0
              have uq47 : (1 : Int) ≤ v39.toInt ∧ v39.toInt ≤ 2 := q47
              refine lv_iload hx hb dX12_harm_91 (lv_at hl 5 rfl) ?_
              refine lv_if_ne (tgt := 100) hx hb dX12_harm_93 (by decide) (fun c93_48 => ?_) (fun c93_48 => ?_)
              · skip
                have ic93_48 : a13_5_4.toInt ≠ (0 : Int32).toInt := fun z => c93_48 (Int32.toInt_inj.mp z)
                have y49 : (0 : Int32).toInt = 0 := by decide
                have q50 : rg (1) (53) a13_5_4 := rg_neL c93_48 ra13_5_4 kc_0
                have uq50 : (1 : Int) ≤ a13_5_4.toInt ∧ a13_5_4.toInt ≤ 53 := q50
                refine lv_bipush (v := 52) hx hb dX12_harm_100 (by decide) ?_
                have y51 : (52 : Int32).toInt = 52 := by decide
                exact j102_44 (52 : Int32) g6 _ _ ls mFr.rf L6 hJ6 (rg_w kc_52 rfl) (lv_sub hl [0, 1, 2, 3, 4, 6] rfl)
              · skip
                have ic93_48 := congrArg Int32.toInt c93_48
                have y52 : (0 : Int32).toInt = 0 := by decide
                have q53 : rg (0) (0) a13_5_4 := (rg_eq c93_48 ra13_5_4 kc_0).1
                have uq53 : (0 : Int) ≤ a13_5_4.toInt ∧ a13_5_4.toInt ≤ 0 := q53
                refine lv_iconst (v := 0) hx hb dX12_harm_96 (by decide) ?_
                refine lv_goto (tgt := 102) hx hb dX12_harm_97 (by decide) ?_
                have y54 : (0 : Int32).toInt = 0 := by decide
                exact j102_44 (0 : Int32) g6 _ _ ls mFr.rf L6 hJ6 (rg_w kc_0 rfl) (lv_sub hl [0, 1, 2, 3, 4, 6] rfl)
            · skip
              have ic84_45 := congrArg Int32.toInt c84_45
              have y55 : (0 : Int32).toInt = 0 := by decide
              have q56 : rg (0) (0) v39 := (rg_eq c84_45 rv39 kc_0).1
              have uq56 : (0 : Int) ≤ v39.toInt ∧ v39.toInt ≤ 0 := q56
              refine lv_iconst (v := 0) hx hb dX12_harm_87 (by decide) ?_
              refine lv_goto (tgt := 102) hx hb dX12_harm_88 (by decide) ?_
              have y57 : (0 : Int32).toInt = 0 := by decide
              exact j102_44 (0 : Int32) g6 _ _ ls mFr.rf L6 hJ6 (rg_w kc_0 rfl) (lv_sub hl [0, 1, 2, 3, 4, 6] rfl)
          · skip
            have ic47_40 := congrArg Int32.toInt c47_40
            have y58 : (1 : Int32).toInt = 1 := by decide
            have q59 : rg (1) (1) v39 := (rg_eq c47_40 rv39 kc_1).1
            have uq59 : (1 : Int) ≤ v39.toInt ∧ v39.toInt ≤ 1 := q59
            refine lv_aload_n hx hb dX12_harm_50 rfl (lv_at hl 0 rfl) ?_
            refine m_geta x L6 17 rfl rfl (wm_in uf_47) dX12_harm_51 ?_
            refine lv_iload_n hx hb dX12_harm_54 rfl (lv_at hl 3 rfl) ?_
            refine lv_aload_n hx hb dX12_harm_55 rfl (lv_at hl 0 rfl) ?_
            refine m_geta x L6 14 rfl rfl (wm_in uf_38) dX12_harm_56 ?_
            refine lv_iload hx hb dX12_harm_59 (lv_at hl 6 rfl) ?_
            refine m_ld x L6 14 rfl q15 rfl dX12_harm_61 (fun v60 ev60 wv60 => ?_)
            have rv60 : rg (-2147483648) (2147483647) v60 := lj_14 wv60
            have rrv60 : rg (0) (52) v60 := rg_eqv ev60.symm (show rg 0 52 (g6 14 a13_6_5.toNatClampNeg) from hJ6.1 _ (by rw [← ev39]; omega))
            have uv60 : (0 : Int) ≤ v60.toInt ∧ v60.toInt ≤ 52 := rrv60
            refine lv_iadd hx hb dX12_harm_62 ?_
            refine lv_topi (fun v61 ev61 => ?_)
            have rv61 : rg (0) (1695) v61 := (rg_add ev61 rp3 rrv60 rfl).1
            have tv61 := (rg_add ev61 rp3 rrv60 rfl).2
            have uv61 : (0 : Int) ≤ v61.toInt ∧ v61.toInt ≤ 1695 := rv61
            refine lv_dup2_11 hx hb dX12_harm_63 rfl rfl ?_
            refine m_ld x L6 17 rfl rv61 rfl dX12_harm_64 (fun v62 ev62 wv62 => ?_)
            have rv62 : rg (-2147483648) (2147483647) v62 := lj_17 wv62
            have uv62 : (-2147483648 : Int) ≤ v62.toInt ∧ v62.toInt ≤ 2147483647 := rv62
            refine lv_aload_n hx hb dX12_harm_65 rfl (lv_at hl 0 rfl) ?_
            refine m_geta x L6 15 rfl rfl (wm_in uf_41) dX12_harm_66 ?_
            refine lv_iload hx hb dX12_harm_69 (lv_at hl 6 rfl) ?_
            refine m_ld x L6 15 rfl q15 rfl dX12_harm_71 (fun v63 ev63 wv63 => ?_)
            have rv63 : rg (-2147483648) (2147483647) v63 := lj_15 wv63
            have uv63 : (-2147483648 : Int) ≤ v63.toInt ∧ v63.toInt ≤ 2147483647 := rv63
            refine lv_ixor hx hb dX12_harm_72 ?_
            refine lv_topi (fun v64 ev64 => ?_)
            have rv64 : rg (-2147483648) (2147483647) v64 := rg_any v64
            have uv64 : (-2147483648 : Int) ≤ v64.toInt ∧ v64.toInt ≤ 2147483647 := rv64
            refine m_st x L6 17 rfl rv61 rfl (rj_17 (rg_any v64)) dX12_harm_73 (fun g65 H65 k65 eg65 L65 => ?_)
            refine lv_goto (tgt := 177) hx hb dX12_harm_74 (by decide) ?_
            exact j177_20 a13_4_3 a13_5_4 g65 _ _ ls (mFr.upE mFr.rf eg65 rfl) L65 (mJ_up hJ6 eg65 rfl) (rg_w ra13_4_3 rfl) (rg_w ra13_5_4 rfl) (by omega) (lv_sub hl [0, 1, 2, 3, 4, 5, 6] rfl)
  have y66 : (0 : Int32).toInt = 0 := by decide
  have y67 : (53 : Int32).toInt = 53 := by decide
  exact j13_6 _ (0 : Int32) (53 : Int32) v1 g _ _ ls mFr.rf L hJ (rg_w kc_0 rfl) (rg_w kc_53 rfl) (rg_w rv1 rfl) (by omega) (lv_sub hl [3, 4, 5, 6, 2, 1, 0] rfl) rfl
theorem c_harm (l : Launch) {G : mG} {h0 : Nat} {ad : Nat → Nat} (nn X : Int) (g : mSt) (p1 : Int32) (p2 : Int32) (p3 : Int32) (hnn : 2 ≤ nn ∧ nn ≤ 4) (hX : 0 ≤ X ∧ X ≤ 2000000000) (hJ : mJ nn [] g) (rp1 : rg (0) (7) p1) (rp2 : rg (0) (3) p2) (rp3 : rg (0) (1643) p3) : Met l yX12_harm (wm (Cond.code yX12_harm cX12_harm 8 none)) rm_harm (va_Pc [.ref h0, .int p1, .int p2, .int p3] (mPre G h0 ad nn X g)) (mQv G h0 ad nn X (fun g1 => mFr [12, 13, 14, 15, 16, 17, 18] g g1 ∧ mJ nn [] g1 ∧ True)) 0 0 (mA h0 ad) := by
  refine Met.ofW (cc := cX12_harm) (maxL := 8) (ret := none) (by decide) rfl ?_
  intro p e s m args below meth c s₁ B hml hv
  obtain ⟨rfl, hv⟩ := hv
  have hr := B.returns
  have hlocks := B.notSynchronized
  obtain ⟨x, L⟩ := m_start B rfl wm_X hv
  have hl := lv_entry ([.ref h0, .int p1, .int p2, .int p3]) (n := 8) (Nat.le_of_ble_eq_true rfl)
  rw [lg_entry_eq]
  generalize (lg_sl ([.ref h0, .int p1, .int p2, .int p3]) ++ List.replicate (8 - (lg_sl ([.ref h0, .int p1, .int p2, .int p3])).length) Slot.unset).toArray = ls at hl ⊢
  exact w_harm x hml L hnn hX p1 p2 p3 hJ rp1 rp2 rp3 hl (fun pc' ls' g1 H1 locs1 hdg L hp => m_vret x L hr hlocks (Int.le_refl _) hp hdg)

def rm_putOne : Room := { frames := 1, cells := 0, slots := 0, locals := 27 }
theorem hd_putOne : yX12_putOne.cls = RX12 ∧ yX12_putOne.cls ≠ "java/lang/invoke/MethodHandle" ∧ yX12_putOne.cls ≠ "java/lang/invoke/VarHandle" ∧ (parseMethodDescriptor yX12_putOne.desc).map (fun d => d.parameters.length) = some 2 := by decide +kernel
set_option maxHeartbeats 4000000 in
set_option maxRecDepth 100000 in
theorem w_putOne {p : Program} {l : Launch} {e : Env} {s : State} {m : MethodId} {args : Array Value} {below : List Frame} {meth : Method} {c : Code} {H : Heap} {locs : List Loc} {Q : State → Prop} {ls : Array Slot} {G : mG} {h0 : Nat} {ad : Nat → Nat} {g : mSt} {H0 : Heap} {nn X : Int} (x : mX p c cX12_putOne s args (wm (Cond.code yX12_putOne cX12_putOne 8 none)) m G h0 ad) (hml : c.maxLocals = 8) (L : mL G h0 ad H0 nn X g H locs) (hnn : 2 ≤ nn ∧ nn ≤ 4) (hX : 0 ≤ X ∧ X ≤ 2000000000) (p1 : Int32) (p2 : Int32) (hJ : mJ nn [] g) (rp1 : rg (0) (7) p1) (rp2 : rg (0) (3) p2) (hl : lv_has ls 8 [(0, .ref h0), (1, .int p1), (2, .int p2)]) (hQ : ∀ (pc' : Nat) (ls' : Array Slot) (g1 : mSt) (H1 : Heap) (locs1 : List Loc), decode cX12_putOne pc' = .ok (.return_, 1) → mL G h0 ad H0 nn X g1 H1 locs1 → (mFr [6, 7, 12, 13, 14, 15, 16, 17, 18, 19, 20] g g1 ∧ mJ nn [] g1 ∧ True) → W p l e rm_putOne s m args below meth c H1 locs1 0 0 Q (F0 m pc' ls' [])) : W p l e rm_putOne s m args below meth c H locs 0 0 Q (F0 m 0 ls []) := by
  have hx := x.1
  have hb := x.2.1
  refine lv_aload_n hx hb dX12_putOne_0 rfl (lv_at hl 0 rfl) ?_
  refine m_geta x L 7 rfl rfl (wm_in uf_20) dX12_putOne_1 ?_
  refine lv_iconst (v := 2) hx hb dX12_putOne_4 (by decide) ?_
  refine lv_iload_n hx hb dX12_putOne_5 rfl (lv_at hl 1 rfl) ?_
  refine lv_imul hx hb dX12_putOne_6 ?_
  refine lv_topi (fun v1 ev1 => ?_)
  have rv1 : rg (0) (14) v1 := (rg_mulL ev1 kc_2 rp1 rfl).1
  refine m_ld x L 7 rfl rv1 rfl dX12_putOne_7 (fun v2 ev2 wv2 => ?_)
  have rv2 : rg (0) (40) v2 := lj_7 wv2
  refine lv_if_le (tgt := 15) hx hb dX12_putOne_8 (by decide) (fun c8_3 => ?_) (fun c8_3 => ?_)
  · skip
    have q4 : rg (0) (0) v2 := (rg_le c8_3 rv2 kc_0).1
    refine lv_aload_n hx hb dX12_putOne_15 rfl (lv_at hl 0 rfl) ?_
    refine m_geta x L 7 rfl rfl (wm_in uf_20) dX12_putOne_16 ?_
    refine lv_iconst (v := 2) hx hb dX12_putOne_19 (by decide) ?_
    refine lv_iload_n hx hb dX12_putOne_20 rfl (lv_at hl 1 rfl) ?_
    refine lv_imul hx hb dX12_putOne_21 ?_
    refine m_top ev1 ?_
    refine lv_iconst (v := 1) hx hb dX12_putOne_22 (by decide) ?_
    refine lv_iadd hx hb dX12_putOne_23 ?_
    refine lv_topi (fun v5 ev5 => ?_)
    have rv5 : rg (1) (15) v5 := (rg_add ev5 rv1 kc_1 rfl).1
    refine m_ld x L 7 rfl rv5 rfl dX12_putOne_24 (fun v6 ev6 wv6 => ?_)
    have rv6 : rg (0) (40) v6 := lj_7 wv6
    refine lv_if_le (tgt := 32) hx hb dX12_putOne_25 (by decide) (fun c25_7 => ?_) (fun c25_7 => ?_)
    · skip
      have q8 : rg (0) (0) v6 := (rg_le c25_7 rv6 kc_0).1
      refine lv_iconst (v := 2) hx hb dX12_putOne_32 (by decide) ?_
      refine lv_istore_n (lv' := [(3, .int (2 : Int32)), (0, .ref h0), (1, .int p1), (2, .int p2)]) hx hb dX12_putOne_33 rfl hl (by decide) rfl (fun ls hl => ?_)
      refine lv_bipush (v := 53) hx hb dX12_putOne_34 (by decide) ?_
      refine lv_iconst (v := 4) hx hb dX12_putOne_36 (by decide) ?_
      refine lv_iload_n hx hb dX12_putOne_37 rfl (lv_at hl 2 rfl) ?_
      refine lv_imul hx hb dX12_putOne_38 ?_
      refine lv_topi (fun v9 ev9 => ?_)
      have rv9 : rg (0) (28) v9 := (rg_mulL ev9 kc_4 rp1 rfl).1
      refine lv_iload_n hx hb dX12_putOne_39 rfl (lv_at hl 3 rfl) ?_
      refine lv_iadd hx hb dX12_putOne_40 ?_
      refine lv_topi (fun v10 ev10 => ?_)
      have rv10 : rg (0) (31) v10 := (rg_add ev10 rv9 rp2 rfl).1
      refine lv_imul hx hb dX12_putOne_41 ?_
      refine lv_topi (fun v11 ev11 => ?_)
      have rv11 : rg (0) (1643) v11 := (rg_mulL ev11 kc_53 rv10 rfl).1
      refine lv_istore (lv' := [(4, .int v11), (3, .int (2 : Int32)), (0, .ref h0), (1, .int p1), (2, .int p2)]) hx hb dX12_putOne_42 hl (by decide) rfl (fun ls hl => ?_)
      refine lv_aload_n hx hb dX12_putOne_44 rfl (lv_at hl 2 rfl) ?_
      refine lv_dup hx hb dX12_putOne_45 rfl ?_
      refine m_geti x L 19 rfl rfl (wm_in uf_323) dX12_putOne_46 (fun v12 ev12 wv12 => ?_)
      have rv12 : rg (-2147483648) (2147483647) v12 := lj_19 wv12
      refine lv_iconst (v := 1) hx hb dX12_putOne_49 (by decide) ?_
      refine lv_iadd hx hb dX12_putOne_50 ?_
      refine lv_topi (fun v13 ev13 => ?_)
      have rv13 : rg (-2147483648) (2147483647) v13 := rg_any v13
      refine m_puti x L 19 rfl fi_19 (wm_in uf_323) dX12_putOne_51 (rj_19 (rg_any v13)) (fun g14 H14 k14 eg14 L14 => ?_)
      refine lv_iload_n hx hb dX12_putOne_54 rfl (lv_at hl 1 rfl) ?_
      refine lv_iconst (v := 2) hx hb dX12_putOne_55 (by decide) ?_
      refine lv_icmp_ne (tgt := 133) hx hb dX12_putOne_56 (by decide) (fun c56_15 => ?_) (fun c56_15 => ?_)
      · skip
        exact absurd c56_15 (by decide)
      · skip
        refine lv_aload_n hx hb dX12_putOne_59 rfl (lv_at hl 2 rfl) ?_
        refine lv_dup hx hb dX12_putOne_60 rfl ?_
        refine m_geti x L14 20 rfl rfl (wm_in uf_326) dX12_putOne_61 (fun v16 ev16 wv16 => ?_)
        have rv16 : rg (-2147483648) (2147483647) v16 := lj_20 wv16
        refine lv_iconst (v := 1) hx hb dX12_putOne_64 (by decide) ?_
        refine lv_iadd hx hb dX12_putOne_65 ?_
        refine lv_topi (fun v17 ev17 => ?_)
        have rv17 : rg (-2147483648) (2147483647) v17 := rg_any v17
        refine m_puti x L14 20 rfl fi_20 (wm_in uf_326) dX12_putOne_66 (rj_20 (rg_any v17)) (fun g18 H18 k18 eg18 L18 => ?_)
        refine lv_iconst (v := 0) hx hb dX12_putOne_69 (by decide) ?_
        refine lv_istore (lv' := [(5, .int (0 : Int32)), (4, .int v11), (3, .int (2 : Int32)), (0, .ref h0), (1, .int p1), (2, .int p2)]) hx hb dX12_putOne_70 hl (by decide) rfl (fun ls hl => ?_)
        have j72_20 : ∀ (n : Nat) (a72_5_19 : Int32) (g20 : mSt) (H20 : Heap) (k20 : List Loc) (ls : Array Slot), mFr [17] g18 g20 → mL G h0 ad H0 nn X g20 H20 k20 → mJ nn [] g20 → rg (0) (53) a72_5_19 → lv_has ls 8 [(0, .ref h0), (1, .int p1), (2, .int p2), (4, .int v11), (5, .int a72_5_19)] → ((53 : Int) - a72_5_19.toInt).toNat = n → W p l e rm_putOne s m args below meth c H20 k20 0 0 Q (F0 m 72 ls []) := by
          intro n
          induction n using Nat.strongRecOn with
          | _ n ih20 =>
            intro a72_5_19 g20 H20 k20 ls hF20 L20 hJ20 ra72_5_19 hl hn20
            subst hn20
            refine lv_iload hx hb dX12_putOne_72 (lv_at hl 4 rfl) ?_
            refine lv_bipush (v := 53) hx hb dX12_putOne_74 (by decide) ?_
            refine lv_icmp_ge (tgt := 130) hx hb dX12_putOne_76 (by decide) (fun c76_21 => ?_) (fun c76_21 => ?_)
            · skip
              have q22 : rg (53) (53) a72_5_19 := (rg_le c76_21 kc_53 ra72_5_19).2
              refine lv_goto (tgt := 224) hx hb dX12_putOne_130 (by decide) ?_
              refine lv_aload_n hx hb dX12_putOne_224 rfl (lv_at hl 0 rfl) ?_
              refine m_geta x L20 18 rfl rfl (wm_in uf_50) dX12_putOne_225 ?_
              refine lv_iconst (v := 4) hx hb dX12_putOne_228 (by decide) ?_
              refine lv_iload_n hx hb dX12_putOne_229 rfl (lv_at hl 1 rfl) ?_
              refine lv_imul hx hb dX12_putOne_230 ?_
              refine m_top ev9 ?_
              refine lv_iload_n hx hb dX12_putOne_231 rfl (lv_at hl 2 rfl) ?_
              refine lv_iadd hx hb dX12_putOne_232 ?_
              refine m_top ev10 ?_
              refine lv_bipush (v := 53) hx hb dX12_putOne_233 (by decide) ?_
              refine m_st x L20 18 rfl rv10 rfl (rj_18 (rg_w kc_53 rfl)) dX12_putOne_235 (fun g23 H23 k23 eg23 L23 => ?_)
              refine lv_aload_n hx hb dX12_putOne_236 rfl (lv_at hl 0 rfl) ?_
              refine lv_iload_n hx hb dX12_putOne_237 rfl (lv_at hl 1 rfl) ?_
              refine lv_iload_n hx hb dX12_putOne_238 rfl (lv_at hl 2 rfl) ?_
              refine lv_iload hx hb dX12_putOne_239 (lv_at hl 3 rfl) ?_
              refine m_cv (As := [.int p1, .int p2, .int v11]) (rest := []) x hml L23 (c_harm l nn X g23 p1 p2 v11 hnn hX (mJ_up hJ20 eg23 rfl) (rg_w rp1 rfl) (rg_w rp2 rfl) (rg_w rv11 rfl)) (wm_V uc_harm ul_329 ui_harm us_harm u_init) rfl ⟨rfl, rfl⟩ hd_harm ⟨Nat.le_of_ble_eq_true rfl, Nat.le_of_ble_eq_true rfl⟩ rfl hl.1 rfl (lv_room (Nat.le_of_ble_eq_true rfl)) dX12_putOne_241 (fun  g24 H24 k24 hp24 L24 => ?_)
              exact hQ _ _ _ _ _ dX12_putOne_244 L24 ⟨(mFr.tr (mFr.upE (mFr.tr (mFr.upE (mFr.upE mFr.rf eg14 rfl) eg18 rfl) hF20 rfl) eg23 rfl) hp24.1 rfl), hp24.2.1, trivial⟩
            · skip
              have q25 : rg (0) (52) a72_5_19 := (rg_lt (rg_nle c76_21) ra72_5_19 kc_53).1
              refine lv_aload_n hx hb dX12_putOne_79 rfl (lv_at hl 0 rfl) ?_
              refine m_geta x L20 17 rfl rfl (wm_in uf_47) dX12_putOne_80 ?_
              refine lv_iload hx hb dX12_putOne_83 (lv_at hl 3 rfl) ?_
              refine lv_iload hx hb dX12_putOne_85 (lv_at hl 4 rfl) ?_
              refine lv_iadd hx hb dX12_putOne_87 ?_
              refine lv_topi (fun v26 ev26 => ?_)
              have rv26 : rg (0) (1695) v26 := (rg_add ev26 rv11 q25 rfl).1
              refine lv_iload hx hb dX12_putOne_88 (lv_at hl 4 rfl) ?_
              refine lv_iconst (v := 3) hx hb dX12_putOne_90 (by decide) ?_
              refine lv_icmp_ge (tgt := 98) hx hb dX12_putOne_91 (by decide) (fun c91_27 => ?_) (fun c91_27 => ?_)
              · skip
                have q28 : rg (3) (52) a72_5_19 := (rg_le c91_27 kc_3 q25).2
                refine lv_iload hx hb dX12_putOne_98 (lv_at hl 4 rfl) ?_
                refine lv_iconst (v := 3) hx hb dX12_putOne_100 (by decide) ?_
                refine lv_icmp_ne (tgt := 108) hx hb dX12_putOne_101 (by decide) (fun c101_29 => ?_) (fun c101_29 => ?_)
                · skip
                  have q30 : rg (4) (52) a72_5_19 := rg_neL c101_29 q28 kc_3
                  refine lv_iload hx hb dX12_putOne_108 (lv_at hl 4 rfl) ?_
                  refine lv_iconst (v := 4) hx hb dX12_putOne_110 (by decide) ?_
                  refine lv_icmp_ne (tgt := 121) hx hb dX12_putOne_111 (by decide) (fun c111_31 => ?_) (fun c111_31 => ?_)
                  · skip
                    have q32 : rg (5) (52) a72_5_19 := rg_neL c111_31 q30 kc_4
                    refine lv_bipush (v := 106) hx hb dX12_putOne_121 (by decide) ?_
                    refine m_st x L20 17 rfl rv26 rfl (rj_17 (rg_any (106 : Int32))) dX12_putOne_123 (fun g33 H33 k33 eg33 L33 => ?_)
                    obtain ⟨v34, ev34, fv34⟩ := inc_ex a72_5_19 (1) (1 : Int32) (by decide)
                    have rv34 : rg (6) (53) v34 := (rg_add ev34 q32 kc_1 rfl).1
                    have tv34 := (rg_add ev34 q32 kc_1 rfl).2
                    refine lv_iinc (v := v34) (lv' := [(5, .int v34), (0, .ref h0), (1, .int p1), (2, .int p2), (4, .int v11)]) hx hb dX12_putOne_124 hl (k := 4) rfl fv34 (by decide) rfl (fun ls hl => ?_)
                    refine lv_goto (tgt := 72) hx hb dX12_putOne_127 (by decide) ?_
                    exact ih20 _ (ms_up tv34 kc_1 q32 rfl rfl) v34 g33 _ _ ls (mFr.upE hF20 eg33 rfl) L33 (mJ_up hJ20 eg33 rfl) (rg_w rv34 rfl) (lv_sub hl [1, 2, 3, 4, 0] rfl) rfl
                  · skip
                    have q35 : rg (4) (4) a72_5_19 := (rg_eq c111_31 q30 kc_4).1
                    refine lv_iconst (v := 1) hx hb dX12_putOne_114 (by decide) ?_
                    refine pf_call (va_runS (As := [.int (1 : Int32)]) (rest := [.int v26, .ref (ad 17)]) ⟨hx, hb, hml, x.2.2.2.2.1, x.2.2.1⟩ (c_hm l (1 : Int32)) (va_cwS 1 x.2.2.1 (wm_T ut_hecOf ul_267 u_init us_hecOf') rfl rfl rfl (by decide +kernel) ⟨Nat.le_of_ble_eq_true rfl, Nat.le_of_ble_eq_true rfl⟩) ⟨fun _ _ _ _ q => q, fun _ _ _ => ⟨rfl, trivial⟩⟩ rfl rfl hl.1 rfl (lv_room (Nat.le_of_ble_eq_true rfl)) dX12_putOne_115 ⟨Nat.le_of_ble_eq_true rfl, Nat.le_of_ble_eq_true rfl⟩) ?_
                    refine lv_topi (fun v36 ev36 => ?_)
                    have rv36 : rg (-2147483648) (2147483647) v36 := rg_any v36
                    refine lv_goto (tgt := 123) hx hb dX12_putOne_118 (by decide) ?_
                    refine m_st x L20 17 rfl rv26 rfl (rj_17 (rg_any v36)) dX12_putOne_123 (fun g37 H37 k37 eg37 L37 => ?_)
                    obtain ⟨v38, ev38, fv38⟩ := inc_ex a72_5_19 (1) (1 : Int32) (by decide)
                    have rv38 : rg (5) (5) v38 := (rg_add ev38 q35 kc_1 rfl).1
                    have tv38 := (rg_add ev38 q35 kc_1 rfl).2
                    refine lv_iinc (v := v38) (lv' := [(5, .int v38), (0, .ref h0), (1, .int p1), (2, .int p2), (4, .int v11)]) hx hb dX12_putOne_124 hl (k := 4) rfl fv38 (by decide) rfl (fun ls hl => ?_)
                    refine lv_goto (tgt := 72) hx hb dX12_putOne_127 (by decide) ?_
                    exact ih20 _ (ms_up tv38 kc_1 q35 rfl rfl) v38 g37 _ _ ls (mFr.upE hF20 eg37 rfl) L37 (mJ_up hJ20 eg37 rfl) (rg_w rv38 rfl) (lv_sub hl [1, 2, 3, 4, 0] rfl) rfl
                · skip
                  have q39 : rg (3) (3) a72_5_19 := (rg_eq c101_29 q28 kc_3).1
                  refine lv_iconst (v := 1) hx hb dX12_putOne_104 (by decide) ?_
                  refine lv_goto (tgt := 123) hx hb dX12_putOne_105 (by decide) ?_
                  refine m_st x L20 17 rfl rv26 rfl (rj_17 (rg_any (1 : Int32))) dX12_putOne_123 (fun g40 H40 k40 eg40 L40 => ?_)
                  obtain ⟨v41, ev41, fv41⟩ := inc_ex a72_5_19 (1) (1 : Int32) (by decide)
                  have rv41 : rg (4) (4) v41 := (rg_add ev41 q39 kc_1 rfl).1
                  have tv41 := (rg_add ev41 q39 kc_1 rfl).2
                  refine lv_iinc (v := v41) (lv' := [(5, .int v41), (0, .ref h0), (1, .int p1), (2, .int p2), (4, .int v11)]) hx hb dX12_putOne_124 hl (k := 4) rfl fv41 (by decide) rfl (fun ls hl => ?_)
                  refine lv_goto (tgt := 72) hx hb dX12_putOne_127 (by decide) ?_
                  exact ih20 _ (ms_up tv41 kc_1 q39 rfl rfl) v41 g40 _ _ ls (mFr.upE hF20 eg40 rfl) L40 (mJ_up hJ20 eg40 rfl) (rg_w rv41 rfl) (lv_sub hl [1, 2, 3, 4, 0] rfl) rfl
              · skip
                have q42 : rg (0) (2) a72_5_19 := (rg_lt (rg_nle c91_27) q25 kc_3).1
                refine lv_iconst (v := 0) hx hb dX12_putOne_94 (by decide) ?_
                refine lv_goto (tgt := 123) hx hb dX12_putOne_95 (by decide) ?_
                refine m_st x L20 17 rfl rv26 rfl (rj_17 (rg_any (0 : Int32))) dX12_putOne_123 (fun g43 H43 k43 eg43 L43 => ?_)
                obtain ⟨v44, ev44, fv44⟩ := inc_ex a72_5_19 (1) (1 : Int32) (by decide)
                have rv44 : rg (1) (3) v44 := (rg_add ev44 q42 kc_1 rfl).1
                have tv44 := (rg_add ev44 q42 kc_1 rfl).2
                refine lv_iinc (v := v44) (lv' := [(5, .int v44), (0, .ref h0), (1, .int p1), (2, .int p2), (4, .int v11)]) hx hb dX12_putOne_124 hl (k := 4) rfl fv44 (by decide) rfl (fun ls hl => ?_)
                refine lv_goto (tgt := 72) hx hb dX12_putOne_127 (by decide) ?_
                exact ih20 _ (ms_up tv44 kc_1 q42 rfl rfl) v44 g43 _ _ ls (mFr.upE hF20 eg43 rfl) L43 (mJ_up hJ20 eg43 rfl) (rg_w rv44 rfl) (lv_sub hl [1, 2, 3, 4, 0] rfl) rfl
        exact j72_20 _ (0 : Int32) g18 _ _ ls mFr.rf L18 (mJ_up (mJ_up hJ eg14 rfl) eg18 rfl) (rg_w kc_0 rfl) (lv_sub hl [3, 4, 5, 1, 0] rfl) rfl
    · skip
      have q45 : rg (1) (40) v6 := (rg_lt (rg_nle c25_7) kc_0 rv6).2
      refine lv_iconst (v := 1) hx hb dX12_putOne_28 (by decide) ?_
      refine lv_goto (tgt := 33) hx hb dX12_putOne_29 (by decide) ?_
      refine lv_istore_n (lv' := [(3, .int (1 : Int32)), (0, .ref h0), (1, .int p1), (2, .int p2)]) hx hb dX12_putOne_33 rfl hl (by decide) rfl (fun ls hl => ?_)
      refine lv_bipush (v := 53) hx hb dX12_putOne_34 (by decide) ?_
      refine lv_iconst (v := 4) hx hb dX12_putOne_36 (by decide) ?_
      refine lv_iload_n hx hb dX12_putOne_37 rfl (lv_at hl 2 rfl) ?_
      refine lv_imul hx hb dX12_putOne_38 ?_
      refine lv_topi (fun v46 ev46 => ?_)
      have rv46 : rg (0) (28) v46 := (rg_mulL ev46 kc_4 rp1 rfl).1
      refine lv_iload_n hx hb dX12_putOne_39 rfl (lv_at hl 3 rfl) ?_
      refine lv_iadd hx hb dX12_putOne_40 ?_
      refine lv_topi (fun v47 ev47 => ?_)
      have rv47 : rg (0) (31) v47 := (rg_add ev47 rv46 rp2 rfl).1
      refine lv_imul hx hb dX12_putOne_41 ?_
      refine lv_topi (fun v48 ev48 => ?_)
      have rv48 : rg (0) (1643) v48 := (rg_mulL ev48 kc_53 rv47 rfl).1
      refine lv_istore (lv' := [(4, .int v48), (3, .int (1 : Int32)), (0, .ref h0), (1, .int p1), (2, .int p2)]) hx hb dX12_putOne_42 hl (by decide) rfl (fun ls hl => ?_)
      refine lv_aload_n hx hb dX12_putOne_44 rfl (lv_at hl 2 rfl) ?_
      refine lv_dup hx hb dX12_putOne_45 rfl ?_
      refine m_geti x L 19 rfl rfl (wm_in uf_323) dX12_putOne_46 (fun v49 ev49 wv49 => ?_)
      have rv49 : rg (-2147483648) (2147483647) v49 := lj_19 wv49
      refine lv_iconst (v := 1) hx hb dX12_putOne_49 (by decide) ?_
      refine lv_iadd hx hb dX12_putOne_50 ?_
      refine lv_topi (fun v50 ev50 => ?_)
      have rv50 : rg (-2147483648) (2147483647) v50 := rg_any v50
      refine m_puti x L 19 rfl fi_19 (wm_in uf_323) dX12_putOne_51 (rj_19 (rg_any v50)) (fun g51 H51 k51 eg51 L51 => ?_)
      refine lv_iload_n hx hb dX12_putOne_54 rfl (lv_at hl 1 rfl) ?_
      refine lv_iconst (v := 2) hx hb dX12_putOne_55 (by decide) ?_
      refine lv_icmp_ne (tgt := 133) hx hb dX12_putOne_56 (by decide) (fun c56_52 => ?_) (fun c56_52 => ?_)
      · skip
        refine lv_iconst (v := 2) hx hb dX12_putOne_133 (by decide) ?_
        refine lv_iload_n hx hb dX12_putOne_134 rfl (lv_at hl 3 rfl) ?_
        refine lv_imul hx hb dX12_putOne_135 ?_
        refine m_top ev1 ?_
        refine lv_iload_n hx hb dX12_putOne_136 rfl (lv_at hl 1 rfl) ?_
        refine lv_iadd hx hb dX12_putOne_137 ?_
        refine m_top ev5 ?_
        refine lv_istore (lv' := [(5, .int v5), (4, .int v48), (3, .int (1 : Int32)), (0, .ref h0), (1, .int p1), (2, .int p2)]) hx hb dX12_putOne_138 hl (by decide) rfl (fun ls hl => ?_)
        refine lv_bipush (v := 53) hx hb dX12_putOne_140 (by decide) ?_
        refine lv_bipush (v := 40) hx hb dX12_putOne_142 (by decide) ?_
        refine lv_iload hx hb dX12_putOne_144 (lv_at hl 0 rfl) ?_
        refine lv_imul hx hb dX12_putOne_146 ?_
        refine lv_topi (fun v53 ev53 => ?_)
        have rv53 : rg (40) (600) v53 := (rg_mulL ev53 kc_40 rv5 rfl).1
        refine lv_aload_n hx hb dX12_putOne_147 rfl (lv_at hl 3 rfl) ?_
        refine m_geta x L51 6 rfl rfl (wm_in uf_17) dX12_putOne_148 ?_
        refine lv_iload hx hb dX12_putOne_151 (lv_at hl 0 rfl) ?_
        refine m_ld x L51 6 rfl rv5 rfl dX12_putOne_153 (fun v54 ev54 wv54 => ?_)
        have rv54 : rg (0) (39) v54 := lj_6 wv54
        refine lv_iadd hx hb dX12_putOne_154 ?_
        refine lv_topi (fun v55 ev55 => ?_)
        have rv55 : rg (40) (639) v55 := (rg_add ev55 rv53 rv54 rfl).1
        refine lv_imul hx hb dX12_putOne_155 ?_
        refine lv_topi (fun v56 ev56 => ?_)
        have rv56 : rg (2120) (33867) v56 := (rg_mulL ev56 kc_53 rv55 rfl).1
        refine lv_istore (lv' := [(6, .int v56), (5, .int v5), (4, .int v48), (3, .int (1 : Int32)), (0, .ref h0), (1, .int p1), (2, .int p2)]) hx hb dX12_putOne_156 hl (by decide) rfl (fun ls hl => ?_)
        refine lv_iconst (v := 0) hx hb dX12_putOne_158 (by decide) ?_
        refine lv_istore (lv' := [(7, .int (0 : Int32)), (6, .int v56), (5, .int v5), (4, .int v48), (3, .int (1 : Int32)), (0, .ref h0), (1, .int p1), (2, .int p2)]) hx hb dX12_putOne_159 hl (by decide) rfl (fun ls hl => ?_)
        have j161_58 : ∀ (n : Nat) (a161_7_57 : Int32) (g58 : mSt) (H58 : Heap) (k58 : List Loc) (ls : Array Slot), mFr [17] g51 g58 → mL G h0 ad H0 nn X g58 H58 k58 → mJ nn [] g58 → rg (0) (53) a161_7_57 → lv_has ls 8 [(0, .ref h0), (1, .int p1), (2, .int p2), (4, .int v48), (5, .int v5), (6, .int v56), (7, .int a161_7_57)] → ((53 : Int) - a161_7_57.toInt).toNat = n → W p l e rm_putOne s m args below meth c H58 k58 0 0 Q (F0 m 161 ls []) := by
          intro n
          induction n using Nat.strongRecOn with
          | _ n ih58 =>
            intro a161_7_57 g58 H58 k58 ls hF58 L58 hJ58 ra161_7_57 hl hn58
            subst hn58
            refine lv_iload hx hb dX12_putOne_161 (lv_at hl 6 rfl) ?_
            refine lv_bipush (v := 53) hx hb dX12_putOne_163 (by decide) ?_
            refine lv_icmp_ge (tgt := 194) hx hb dX12_putOne_165 (by decide) (fun c165_59 => ?_) (fun c165_59 => ?_)
            · skip
              have q60 : rg (53) (53) a161_7_57 := (rg_le c165_59 kc_53 ra161_7_57).2
              refine lv_aload_n hx hb dX12_putOne_194 rfl (lv_at hl 0 rfl) ?_
              refine m_geta x L58 6 rfl rfl (wm_in uf_17) dX12_putOne_195 ?_
              refine lv_iload hx hb dX12_putOne_198 (lv_at hl 4 rfl) ?_
              refine lv_aload_n hx hb dX12_putOne_200 rfl (lv_at hl 0 rfl) ?_
              refine m_geta x L58 6 rfl rfl (wm_in uf_17) dX12_putOne_201 ?_
              refine lv_iload hx hb dX12_putOne_204 (lv_at hl 4 rfl) ?_
              refine m_ld x L58 6 rfl rv5 rfl dX12_putOne_206 (fun v61 ev61 wv61 => ?_)
              refine m_top (((mm_fr ev54 hF58 rfl)).trans ev61.symm) ?_
              refine lv_iconst (v := 1) hx hb dX12_putOne_207 (by decide) ?_
              refine lv_iadd hx hb dX12_putOne_208 ?_
              refine lv_topi (fun v62 ev62 => ?_)
              have rv62 : rg (1) (40) v62 := (rg_add ev62 rv54 kc_1 rfl).1
              refine lv_bipush (v := 40) hx hb dX12_putOne_209 (by decide) ?_
              refine lv_irem hx hb dX12_putOne_211 (by decide) ?_
              refine lv_topi (fun v63 ev63 => ?_)
              have rv63 : rg (0) (39) v63 := (rg_rem ev63 rv62 kc_40 rfl).1
              refine m_st x L58 6 rfl rv5 rfl (rj_6 (rg_w rv63 rfl)) dX12_putOne_212 (fun g64 H64 k64 eg64 L64 => ?_)
              refine lv_aload_n hx hb dX12_putOne_213 rfl (lv_at hl 0 rfl) ?_
              refine m_geta x L64 7 rfl rfl (wm_in uf_20) dX12_putOne_214 ?_
              refine lv_iload hx hb dX12_putOne_217 (lv_at hl 4 rfl) ?_
              refine lv_dup2_11 hx hb dX12_putOne_219 rfl rfl ?_
              refine m_ld x L64 7 rfl rv5 rfl dX12_putOne_220 (fun v65 ev65 wv65 => ?_)
              refine m_top (((mm_up (mm_fr (mm_up ev6 eg51 rfl) hF58 rfl) eg64 rfl)).trans ev65.symm) ?_
              refine lv_iconst (v := 1) hx hb dX12_putOne_221 (by decide) ?_
              refine lv_isub hx hb dX12_putOne_222 ?_
              refine lv_topi (fun v66 ev66 => ?_)
              have rv66 : rg (0) (39) v66 := (rg_sub ev66 q45 kc_1 rfl).1
              refine m_st x L64 7 rfl rv5 rfl (rj_7 (rg_w rv66 rfl)) dX12_putOne_223 (fun g67 H67 k67 eg67 L67 => ?_)
              refine lv_aload_n hx hb dX12_putOne_224 rfl (lv_at hl 0 rfl) ?_
              refine m_geta x L67 18 rfl rfl (wm_in uf_50) dX12_putOne_225 ?_
              refine lv_iconst (v := 4) hx hb dX12_putOne_228 (by decide) ?_
              refine lv_iload_n hx hb dX12_putOne_229 rfl (lv_at hl 1 rfl) ?_
              refine lv_imul hx hb dX12_putOne_230 ?_
              refine m_top ev46 ?_
              refine lv_iload_n hx hb dX12_putOne_231 rfl (lv_at hl 2 rfl) ?_
              refine lv_iadd hx hb dX12_putOne_232 ?_
              refine m_top ev47 ?_
              refine lv_bipush (v := 53) hx hb dX12_putOne_233 (by decide) ?_
              refine m_st x L67 18 rfl rv47 rfl (rj_18 (rg_w kc_53 rfl)) dX12_putOne_235 (fun g68 H68 k68 eg68 L68 => ?_)
              refine lv_aload_n hx hb dX12_putOne_236 rfl (lv_at hl 0 rfl) ?_
              refine lv_iload_n hx hb dX12_putOne_237 rfl (lv_at hl 1 rfl) ?_
              refine lv_iload_n hx hb dX12_putOne_238 rfl (lv_at hl 2 rfl) ?_
              refine lv_iload hx hb dX12_putOne_239 (lv_at hl 3 rfl) ?_
              refine m_cv (As := [.int p1, .int p2, .int v48]) (rest := []) x hml L68 (c_harm l nn X g68 p1 p2 v48 hnn hX (mJ_up (mJ_up (mJ_up hJ58 eg64 rfl) eg67 rfl) eg68 rfl) (rg_w rp1 rfl) (rg_w rp2 rfl) (rg_w rv48 rfl)) (wm_V uc_harm ul_329 ui_harm us_harm u_init) rfl ⟨rfl, rfl⟩ hd_harm ⟨Nat.le_of_ble_eq_true rfl, Nat.le_of_ble_eq_true rfl⟩ rfl hl.1 rfl (lv_room (Nat.le_of_ble_eq_true rfl)) dX12_putOne_241 (fun  g69 H69 k69 hp69 L69 => ?_)
              exact hQ _ _ _ _ _ dX12_putOne_244 L69 ⟨(mFr.tr (mFr.upE (mFr.upE (mFr.upE (mFr.tr (mFr.upE mFr.rf eg51 rfl) hF58 rfl) eg64 rfl) eg67 rfl) eg68 rfl) hp69.1 rfl), hp69.2.1, trivial⟩
            · skip
              have q70 : rg (0) (52) a161_7_57 := (rg_lt (rg_nle c165_59) ra161_7_57 kc_53).1
              refine lv_aload_n hx hb dX12_putOne_168 rfl (lv_at hl 0 rfl) ?_
              refine m_geta x L58 17 rfl rfl (wm_in uf_47) dX12_putOne_169 ?_
              refine lv_iload hx hb dX12_putOne_172 (lv_at hl 3 rfl) ?_
              refine lv_iload hx hb dX12_putOne_174 (lv_at hl 6 rfl) ?_
              refine lv_iadd hx hb dX12_putOne_176 ?_
              refine lv_topi (fun v71 ev71 => ?_)
              have rv71 : rg (0) (1695) v71 := (rg_add ev71 rv48 q70 rfl).1
              refine lv_aload_n hx hb dX12_putOne_177 rfl (lv_at hl 0 rfl) ?_
              refine m_geta x L58 5 rfl rfl (wm_in uf_14) dX12_putOne_178 ?_
              refine lv_iload hx hb dX12_putOne_181 (lv_at hl 5 rfl) ?_
              refine lv_iload hx hb dX12_putOne_183 (lv_at hl 6 rfl) ?_
              refine lv_iadd hx hb dX12_putOne_185 ?_
              refine lv_topi (fun v72 ev72 => ?_)
              have rv72 : rg (2120) (33919) v72 := (rg_add ev72 rv56 q70 rfl).1
              refine m_ld x L58 5 rfl rv72 rfl dX12_putOne_186 (fun v73 ev73 wv73 => ?_)
              have rv73 : rg (-2147483648) (2147483647) v73 := lj_5 wv73
              refine m_st x L58 17 rfl rv71 rfl (rj_17 (rg_any v73)) dX12_putOne_187 (fun g74 H74 k74 eg74 L74 => ?_)
              obtain ⟨v75, ev75, fv75⟩ := inc_ex a161_7_57 (1) (1 : Int32) (by decide)
              have rv75 : rg (1) (53) v75 := (rg_add ev75 q70 kc_1 rfl).1
              have tv75 := (rg_add ev75 q70 kc_1 rfl).2
              refine lv_iinc (v := v75) (lv' := [(7, .int v75), (0, .ref h0), (1, .int p1), (2, .int p2), (4, .int v48), (5, .int v5), (6, .int v56)]) hx hb dX12_putOne_188 hl (k := 6) rfl fv75 (by decide) rfl (fun ls hl => ?_)
              refine lv_goto (tgt := 161) hx hb dX12_putOne_191 (by decide) ?_
              exact ih58 _ (ms_up tv75 kc_1 q70 rfl rfl) v75 g74 _ _ ls (mFr.upE hF58 eg74 rfl) L74 (mJ_up hJ58 eg74 rfl) (rg_w rv75 rfl) (lv_sub hl [1, 2, 3, 4, 5, 6, 0] rfl) rfl
        exact j161_58 _ (0 : Int32) g51 _ _ ls mFr.rf L51 (mJ_up hJ eg51 rfl) (rg_w kc_0 rfl) (lv_sub hl [5, 6, 7, 3, 2, 1, 0] rfl) rfl
      · skip
        exact absurd c56_52 (by decide)
  · skip
    have q76 : rg (1) (40) v2 := (rg_lt (rg_nle c8_3) kc_0 rv2).2
    refine lv_iconst (v := 0) hx hb dX12_putOne_11 (by decide) ?_
    refine lv_goto (tgt := 33) hx hb dX12_putOne_12 (by decide) ?_
    refine lv_istore_n (lv' := [(3, .int (0 : Int32)), (0, .ref h0), (1, .int p1), (2, .int p2)]) hx hb dX12_putOne_33 rfl hl (by decide) rfl (fun ls hl => ?_)
    refine lv_bipush (v := 53) hx hb dX12_putOne_34 (by decide) ?_
    refine lv_iconst (v := 4) hx hb dX12_putOne_36 (by decide) ?_
    refine lv_iload_n hx hb dX12_putOne_37 rfl (lv_at hl 2 rfl) ?_
    refine lv_imul hx hb dX12_putOne_38 ?_
    refine lv_topi (fun v77 ev77 => ?_)
    have rv77 : rg (0) (28) v77 := (rg_mulL ev77 kc_4 rp1 rfl).1
    refine lv_iload_n hx hb dX12_putOne_39 rfl (lv_at hl 3 rfl) ?_
    refine lv_iadd hx hb dX12_putOne_40 ?_
    refine lv_topi (fun v78 ev78 => ?_)
    have rv78 : rg (0) (31) v78 := (rg_add ev78 rv77 rp2 rfl).1
    refine lv_imul hx hb dX12_putOne_41 ?_
    refine lv_topi (fun v79 ev79 => ?_)
    have rv79 : rg (0) (1643) v79 := (rg_mulL ev79 kc_53 rv78 rfl).1
    refine lv_istore (lv' := [(4, .int v79), (3, .int (0 : Int32)), (0, .ref h0), (1, .int p1), (2, .int p2)]) hx hb dX12_putOne_42 hl (by decide) rfl (fun ls hl => ?_)
    refine lv_aload_n hx hb dX12_putOne_44 rfl (lv_at hl 2 rfl) ?_
    refine lv_dup hx hb dX12_putOne_45 rfl ?_
    refine m_geti x L 19 rfl rfl (wm_in uf_323) dX12_putOne_46 (fun v80 ev80 wv80 => ?_)
    have rv80 : rg (-2147483648) (2147483647) v80 := lj_19 wv80
    refine lv_iconst (v := 1) hx hb dX12_putOne_49 (by decide) ?_
    refine lv_iadd hx hb dX12_putOne_50 ?_
    refine lv_topi (fun v81 ev81 => ?_)
    have rv81 : rg (-2147483648) (2147483647) v81 := rg_any v81
    refine m_puti x L 19 rfl fi_19 (wm_in uf_323) dX12_putOne_51 (rj_19 (rg_any v81)) (fun g82 H82 k82 eg82 L82 => ?_)
    refine lv_iload_n hx hb dX12_putOne_54 rfl (lv_at hl 1 rfl) ?_
    refine lv_iconst (v := 2) hx hb dX12_putOne_55 (by decide) ?_
    refine lv_icmp_ne (tgt := 133) hx hb dX12_putOne_56 (by decide) (fun c56_83 => ?_) (fun c56_83 => ?_)
    · skip
      refine lv_iconst (v := 2) hx hb dX12_putOne_133 (by decide) ?_
      refine lv_iload_n hx hb dX12_putOne_134 rfl (lv_at hl 3 rfl) ?_
      refine lv_imul hx hb dX12_putOne_135 ?_
      refine m_top ev1 ?_
      refine lv_iload_n hx hb dX12_putOne_136 rfl (lv_at hl 1 rfl) ?_
      refine lv_iadd hx hb dX12_putOne_137 ?_
      refine m_top (show v1 = v1 + 0 from (Int32.add_zero v1).symm) ?_
      refine lv_istore (lv' := [(5, .int v1), (4, .int v79), (3, .int (0 : Int32)), (0, .ref h0), (1, .int p1), (2, .int p2)]) hx hb dX12_putOne_138 hl (by decide) rfl (fun ls hl => ?_)
      refine lv_bipush (v := 53) hx hb dX12_putOne_140 (by decide) ?_
      refine lv_bipush (v := 40) hx hb dX12_putOne_142 (by decide) ?_
      refine lv_iload hx hb dX12_putOne_144 (lv_at hl 0 rfl) ?_
      refine lv_imul hx hb dX12_putOne_146 ?_
      refine lv_topi (fun v84 ev84 => ?_)
      have rv84 : rg (0) (560) v84 := (rg_mulL ev84 kc_40 rv1 rfl).1
      refine lv_aload_n hx hb dX12_putOne_147 rfl (lv_at hl 3 rfl) ?_
      refine m_geta x L82 6 rfl rfl (wm_in uf_17) dX12_putOne_148 ?_
      refine lv_iload hx hb dX12_putOne_151 (lv_at hl 0 rfl) ?_
      refine m_ld x L82 6 rfl rv1 rfl dX12_putOne_153 (fun v85 ev85 wv85 => ?_)
      have rv85 : rg (0) (39) v85 := lj_6 wv85
      refine lv_iadd hx hb dX12_putOne_154 ?_
      refine lv_topi (fun v86 ev86 => ?_)
      have rv86 : rg (0) (599) v86 := (rg_add ev86 rv84 rv85 rfl).1
      refine lv_imul hx hb dX12_putOne_155 ?_
      refine lv_topi (fun v87 ev87 => ?_)
      have rv87 : rg (0) (31747) v87 := (rg_mulL ev87 kc_53 rv86 rfl).1
      refine lv_istore (lv' := [(6, .int v87), (5, .int v1), (4, .int v79), (3, .int (0 : Int32)), (0, .ref h0), (1, .int p1), (2, .int p2)]) hx hb dX12_putOne_156 hl (by decide) rfl (fun ls hl => ?_)
      refine lv_iconst (v := 0) hx hb dX12_putOne_158 (by decide) ?_
      refine lv_istore (lv' := [(7, .int (0 : Int32)), (6, .int v87), (5, .int v1), (4, .int v79), (3, .int (0 : Int32)), (0, .ref h0), (1, .int p1), (2, .int p2)]) hx hb dX12_putOne_159 hl (by decide) rfl (fun ls hl => ?_)
      have j161_89 : ∀ (n : Nat) (a161_7_88 : Int32) (g89 : mSt) (H89 : Heap) (k89 : List Loc) (ls : Array Slot), mFr [17] g82 g89 → mL G h0 ad H0 nn X g89 H89 k89 → mJ nn [] g89 → rg (0) (53) a161_7_88 → lv_has ls 8 [(0, .ref h0), (1, .int p1), (2, .int p2), (4, .int v79), (5, .int v1), (6, .int v87), (7, .int a161_7_88)] → ((53 : Int) - a161_7_88.toInt).toNat = n → W p l e rm_putOne s m args below meth c H89 k89 0 0 Q (F0 m 161 ls []) := by
        intro n
        induction n using Nat.strongRecOn with
        | _ n ih89 =>
          intro a161_7_88 g89 H89 k89 ls hF89 L89 hJ89 ra161_7_88 hl hn89
          subst hn89
          refine lv_iload hx hb dX12_putOne_161 (lv_at hl 6 rfl) ?_
          refine lv_bipush (v := 53) hx hb dX12_putOne_163 (by decide) ?_
          refine lv_icmp_ge (tgt := 194) hx hb dX12_putOne_165 (by decide) (fun c165_90 => ?_) (fun c165_90 => ?_)
          · skip
            have q91 : rg (53) (53) a161_7_88 := (rg_le c165_90 kc_53 ra161_7_88).2
            refine lv_aload_n hx hb dX12_putOne_194 rfl (lv_at hl 0 rfl) ?_
            refine m_geta x L89 6 rfl rfl (wm_in uf_17) dX12_putOne_195 ?_
            refine lv_iload hx hb dX12_putOne_198 (lv_at hl 4 rfl) ?_
            refine lv_aload_n hx hb dX12_putOne_200 rfl (lv_at hl 0 rfl) ?_
            refine m_geta x L89 6 rfl rfl (wm_in uf_17) dX12_putOne_201 ?_
            refine lv_iload hx hb dX12_putOne_204 (lv_at hl 4 rfl) ?_
            refine m_ld x L89 6 rfl rv1 rfl dX12_putOne_206 (fun v92 ev92 wv92 => ?_)
            refine m_top (((mm_fr ev85 hF89 rfl)).trans ev92.symm) ?_
            refine lv_iconst (v := 1) hx hb dX12_putOne_207 (by decide) ?_
            refine lv_iadd hx hb dX12_putOne_208 ?_
            refine lv_topi (fun v93 ev93 => ?_)
            have rv93 : rg (1) (40) v93 := (rg_add ev93 rv85 kc_1 rfl).1
            refine lv_bipush (v := 40) hx hb dX12_putOne_209 (by decide) ?_
            refine lv_irem hx hb dX12_putOne_211 (by decide) ?_
            refine lv_topi (fun v94 ev94 => ?_)
            have rv94 : rg (0) (39) v94 := (rg_rem ev94 rv93 kc_40 rfl).1
            refine m_st x L89 6 rfl rv1 rfl (rj_6 (rg_w rv94 rfl)) dX12_putOne_212 (fun g95 H95 k95 eg95 L95 => ?_)
            refine lv_aload_n hx hb dX12_putOne_213 rfl (lv_at hl 0 rfl) ?_
            refine m_geta x L95 7 rfl rfl (wm_in uf_20) dX12_putOne_214 ?_
            refine lv_iload hx hb dX12_putOne_217 (lv_at hl 4 rfl) ?_
            refine lv_dup2_11 hx hb dX12_putOne_219 rfl rfl ?_
            refine m_ld x L95 7 rfl rv1 rfl dX12_putOne_220 (fun v96 ev96 wv96 => ?_)
            refine m_top (((mm_up (mm_fr (mm_up ev2 eg82 rfl) hF89 rfl) eg95 rfl)).trans ev96.symm) ?_
            refine lv_iconst (v := 1) hx hb dX12_putOne_221 (by decide) ?_
            refine lv_isub hx hb dX12_putOne_222 ?_
            refine lv_topi (fun v97 ev97 => ?_)
            have rv97 : rg (0) (39) v97 := (rg_sub ev97 q76 kc_1 rfl).1
            refine m_st x L95 7 rfl rv1 rfl (rj_7 (rg_w rv97 rfl)) dX12_putOne_223 (fun g98 H98 k98 eg98 L98 => ?_)
            refine lv_aload_n hx hb dX12_putOne_224 rfl (lv_at hl 0 rfl) ?_
            refine m_geta x L98 18 rfl rfl (wm_in uf_50) dX12_putOne_225 ?_
            refine lv_iconst (v := 4) hx hb dX12_putOne_228 (by decide) ?_
            refine lv_iload_n hx hb dX12_putOne_229 rfl (lv_at hl 1 rfl) ?_
            refine lv_imul hx hb dX12_putOne_230 ?_
            refine m_top ev77 ?_
            refine lv_iload_n hx hb dX12_putOne_231 rfl (lv_at hl 2 rfl) ?_
            refine lv_iadd hx hb dX12_putOne_232 ?_
            refine m_top ev78 ?_
            refine lv_bipush (v := 53) hx hb dX12_putOne_233 (by decide) ?_
            refine m_st x L98 18 rfl rv78 rfl (rj_18 (rg_w kc_53 rfl)) dX12_putOne_235 (fun g99 H99 k99 eg99 L99 => ?_)
            refine lv_aload_n hx hb dX12_putOne_236 rfl (lv_at hl 0 rfl) ?_
            refine lv_iload_n hx hb dX12_putOne_237 rfl (lv_at hl 1 rfl) ?_
            refine lv_iload_n hx hb dX12_putOne_238 rfl (lv_at hl 2 rfl) ?_
            refine lv_iload hx hb dX12_putOne_239 (lv_at hl 3 rfl) ?_
            refine m_cv (As := [.int p1, .int p2, .int v79]) (rest := []) x hml L99 (c_harm l nn X g99 p1 p2 v79 hnn hX (mJ_up (mJ_up (mJ_up hJ89 eg95 rfl) eg98 rfl) eg99 rfl) (rg_w rp1 rfl) (rg_w rp2 rfl) (rg_w rv79 rfl)) (wm_V uc_harm ul_329 ui_harm us_harm u_init) rfl ⟨rfl, rfl⟩ hd_harm ⟨Nat.le_of_ble_eq_true rfl, Nat.le_of_ble_eq_true rfl⟩ rfl hl.1 rfl (lv_room (Nat.le_of_ble_eq_true rfl)) dX12_putOne_241 (fun  g100 H100 k100 hp100 L100 => ?_)
            exact hQ _ _ _ _ _ dX12_putOne_244 L100 ⟨(mFr.tr (mFr.upE (mFr.upE (mFr.upE (mFr.tr (mFr.upE mFr.rf eg82 rfl) hF89 rfl) eg95 rfl) eg98 rfl) eg99 rfl) hp100.1 rfl), hp100.2.1, trivial⟩
          · skip
            have q101 : rg (0) (52) a161_7_88 := (rg_lt (rg_nle c165_90) ra161_7_88 kc_53).1
            refine lv_aload_n hx hb dX12_putOne_168 rfl (lv_at hl 0 rfl) ?_
            refine m_geta x L89 17 rfl rfl (wm_in uf_47) dX12_putOne_169 ?_
            refine lv_iload hx hb dX12_putOne_172 (lv_at hl 3 rfl) ?_
            refine lv_iload hx hb dX12_putOne_174 (lv_at hl 6 rfl) ?_
            refine lv_iadd hx hb dX12_putOne_176 ?_
            refine lv_topi (fun v102 ev102 => ?_)
            have rv102 : rg (0) (1695) v102 := (rg_add ev102 rv79 q101 rfl).1
            refine lv_aload_n hx hb dX12_putOne_177 rfl (lv_at hl 0 rfl) ?_
            refine m_geta x L89 5 rfl rfl (wm_in uf_14) dX12_putOne_178 ?_
            refine lv_iload hx hb dX12_putOne_181 (lv_at hl 5 rfl) ?_
            refine lv_iload hx hb dX12_putOne_183 (lv_at hl 6 rfl) ?_
            refine lv_iadd hx hb dX12_putOne_185 ?_
            refine lv_topi (fun v103 ev103 => ?_)
            have rv103 : rg (0) (31799) v103 := (rg_add ev103 rv87 q101 rfl).1
            refine m_ld x L89 5 rfl rv103 rfl dX12_putOne_186 (fun v104 ev104 wv104 => ?_)
            have rv104 : rg (-2147483648) (2147483647) v104 := lj_5 wv104
            refine m_st x L89 17 rfl rv102 rfl (rj_17 (rg_any v104)) dX12_putOne_187 (fun g105 H105 k105 eg105 L105 => ?_)
            obtain ⟨v106, ev106, fv106⟩ := inc_ex a161_7_88 (1) (1 : Int32) (by decide)
            have rv106 : rg (1) (53) v106 := (rg_add ev106 q101 kc_1 rfl).1
            have tv106 := (rg_add ev106 q101 kc_1 rfl).2
            refine lv_iinc (v := v106) (lv' := [(7, .int v106), (0, .ref h0), (1, .int p1), (2, .int p2), (4, .int v79), (5, .int v1), (6, .int v87)]) hx hb dX12_putOne_188 hl (k := 6) rfl fv106 (by decide) rfl (fun ls hl => ?_)
            refine lv_goto (tgt := 161) hx hb dX12_putOne_191 (by decide) ?_
            exact ih89 _ (ms_up tv106 kc_1 q101 rfl rfl) v106 g105 _ _ ls (mFr.upE hF89 eg105 rfl) L105 (mJ_up hJ89 eg105 rfl) (rg_w rv106 rfl) (lv_sub hl [1, 2, 3, 4, 5, 6, 0] rfl) rfl
      exact j161_89 _ (0 : Int32) g82 _ _ ls mFr.rf L82 (mJ_up hJ eg82 rfl) (rg_w kc_0 rfl) (lv_sub hl [5, 6, 7, 3, 2, 1, 0] rfl) rfl
    · skip
      exact absurd c56_83 (by decide)
theorem c_putOne (l : Launch) {G : mG} {h0 : Nat} {ad : Nat → Nat} (nn X : Int) (g : mSt) (p1 : Int32) (p2 : Int32) (hnn : 2 ≤ nn ∧ nn ≤ 4) (hX : 0 ≤ X ∧ X ≤ 2000000000) (hJ : mJ nn [] g) (rp1 : rg (0) (7) p1) (rp2 : rg (0) (3) p2) : Met l yX12_putOne (wm (Cond.code yX12_putOne cX12_putOne 8 none)) rm_putOne (va_Pc [.ref h0, .int p1, .int p2] (mPre G h0 ad nn X g)) (mQv G h0 ad nn X (fun g1 => mFr [6, 7, 12, 13, 14, 15, 16, 17, 18, 19, 20] g g1 ∧ mJ nn [] g1 ∧ True)) 0 0 (mA h0 ad) := by
  refine Met.ofW (cc := cX12_putOne) (maxL := 8) (ret := none) (by decide) rfl ?_
  intro p e s m args below meth c s₁ B hml hv
  obtain ⟨rfl, hv⟩ := hv
  have hr := B.returns
  have hlocks := B.notSynchronized
  obtain ⟨x, L⟩ := m_start B rfl wm_X hv
  have hl := lv_entry ([.ref h0, .int p1, .int p2]) (n := 8) (Nat.le_of_ble_eq_true rfl)
  rw [lg_entry_eq]
  generalize (lg_sl ([.ref h0, .int p1, .int p2]) ++ List.replicate (8 - (lg_sl ([.ref h0, .int p1, .int p2])).length) Slot.unset).toArray = ls at hl ⊢
  exact w_putOne x hml L hnn hX p1 p2 hJ rp1 rp2 hl (fun pc' ls' g1 H1 locs1 hdg L hp => m_vret x L hr hlocks (Int.le_refl _) hp hdg)

def rm_receive : Room := { frames := 0, cells := 0, slots := 0, locals := 0 }
theorem hd_receive : yX12_receive.cls = RX12 ∧ yX12_receive.cls ≠ "java/lang/invoke/MethodHandle" ∧ yX12_receive.cls ≠ "java/lang/invoke/VarHandle" ∧ (parseMethodDescriptor yX12_receive.desc).map (fun d => d.parameters.length) = some 3 := by decide +kernel
set_option maxHeartbeats 4000000 in
set_option maxRecDepth 100000 in
theorem w_receive {p : Program} {l : Launch} {e : Env} {s : State} {m : MethodId} {args : Array Value} {below : List Frame} {meth : Method} {c : Code} {H : Heap} {locs : List Loc} {Q : State → Prop} {ls : Array Slot} {G : mG} {h0 : Nat} {ad : Nat → Nat} {g : mSt} {H0 : Heap} {nn X : Int} (x : mX p c cX12_receive s args (wm (Cond.code yX12_receive cX12_receive 6 none)) m G h0 ad) (hml : c.maxLocals = 6) (L : mL G h0 ad H0 nn X g H locs) (hnn : 2 ≤ nn ∧ nn ≤ 4) (hX : 0 ≤ X ∧ (X + 1) ≤ 2000000000) (p1 : Int32) (p2 : Int32) (p3 : Int32) (rp1 : rg (0) (3) p1) (rp3 : rg (1) (200) p3) (hl : lv_has ls 6 [(0, .ref h0), (1, .int p1), (2, .int p2), (3, .int p3)]) (hQ : ∀ (pc' : Nat) (ls' : Array Slot) (g1 : mSt) (H1 : Heap) (locs1 : List Loc), decode cX12_receive pc' = .ok (.return_, 1) → mL G h0 ad H0 nn (X + 1) g1 H1 locs1 → (mFr [35, 36, 37, 38, 39] g g1 ∧ True) → W p l e rm_receive s m args below meth c H1 locs1 0 0 Q (F0 m pc' ls' [])) : W p l e rm_receive s m args below meth c H locs 0 0 Q (F0 m 0 ls []) := by
  have hx := x.1
  have hb := x.2.1
  refine lv_bipush (v := 20) hx hb dX12_receive_0 (by decide) ?_
  refine lv_iload_n hx hb dX12_receive_2 rfl (lv_at hl 1 rfl) ?_
  refine lv_imul hx hb dX12_receive_3 ?_
  refine lv_topi (fun v1 ev1 => ?_)
  have rv1 : rg (0) (60) v1 := (rg_mulL ev1 kc_20 rp1 rfl).1
  refine lv_aload_n hx hb dX12_receive_4 rfl (lv_at hl 0 rfl) ?_
  refine m_geta x L 39 rfl rfl (wm_in uf_104) dX12_receive_5 ?_
  refine lv_iload_n hx hb dX12_receive_8 rfl (lv_at hl 1 rfl) ?_
  refine m_ld x L 39 rfl rp1 rfl dX12_receive_9 (fun v2 ev2 wv2 => ?_)
  have rv2 : rg 0 2000000000 v2 := rg_X ⟨by omega, by omega⟩ (lj_39 wv2)
  refine lv_bipush (v := 20) hx hb dX12_receive_10 (by decide) ?_
  refine lv_irem hx hb dX12_receive_12 (by decide) ?_
  refine lv_topi (fun v3 ev3 => ?_)
  have rv3 : rg (0) (19) v3 := (rg_rem ev3 rv2 kc_20 rfl).1
  refine lv_iadd hx hb dX12_receive_13 ?_
  refine lv_topi (fun v4 ev4 => ?_)
  have rv4 : rg (0) (79) v4 := (rg_add ev4 rv1 rv3 rfl).1
  refine lv_istore (lv' := [(4, .int v4), (0, .ref h0), (1, .int p1), (2, .int p2), (3, .int p3)]) hx hb dX12_receive_14 hl (by decide) rfl (fun ls hl => ?_)
  refine lv_aload_n hx hb dX12_receive_16 rfl (lv_at hl 1 rfl) ?_
  refine m_geta x L 35 rfl rfl (wm_in uf_92) dX12_receive_17 ?_
  refine lv_iload hx hb dX12_receive_20 (lv_at hl 0 rfl) ?_
  refine lv_iload_n hx hb dX12_receive_22 rfl (lv_at hl 3 rfl) ?_
  refine m_st x L 35 rfl rv4 rfl (rj_35 (rg_any p2)) dX12_receive_23 (fun g5 H5 k5 eg5 L5 => ?_)
  refine lv_aload_n hx hb dX12_receive_24 rfl (lv_at hl 1 rfl) ?_
  refine m_geta x L5 36 rfl rfl (wm_in uf_95) dX12_receive_25 ?_
  refine lv_iload hx hb dX12_receive_28 (lv_at hl 0 rfl) ?_
  refine lv_iload_n hx hb dX12_receive_30 rfl (lv_at hl 4 rfl) ?_
  refine m_st x L5 36 rfl rv4 rfl (rj_36 (rg_w rp3 rfl)) dX12_receive_31 (fun g6 H6 k6 eg6 L6 => ?_)
  refine lv_aload_n hx hb dX12_receive_32 rfl (lv_at hl 1 rfl) ?_
  refine m_geta x L6 37 rfl rfl (wm_in uf_98) dX12_receive_33 ?_
  refine lv_iload hx hb dX12_receive_36 (lv_at hl 0 rfl) ?_
  refine lv_aload_n hx hb dX12_receive_38 rfl (lv_at hl 1 rfl) ?_
  refine m_geti x L6 1 rfl rfl (wm_in uf_378) dX12_receive_39 (fun v7 ev7 wv7 => ?_)
  have rv7 : rg (-2147483648) (2147483647) v7 := lj_1 wv7
  refine m_st x L6 37 rfl rv4 rfl (rj_37 (rg_any v7)) dX12_receive_42 (fun g8 H8 k8 eg8 L8 => ?_)
  refine lv_iconst (v := 0) hx hb dX12_receive_43 (by decide) ?_
  refine lv_istore (lv' := [(5, .int (0 : Int32)), (4, .int v4), (0, .ref h0), (1, .int p1), (2, .int p2), (3, .int p3)]) hx hb dX12_receive_44 hl (by decide) rfl (fun ls hl => ?_)
  have j46_10 : ∀ (n : Nat) (a46_5_9 : Int32) (g10 : mSt) (H10 : Heap) (k10 : List Loc) (ls : Array Slot), mFr [38] g8 g10 → mL G h0 ad H0 nn X g10 H10 k10 → rg (0) (200) a46_5_9 → lv_has ls 6 [(0, .ref h0), (1, .int p1), (3, .int p3), (4, .int v4), (5, .int a46_5_9)] → ((200 : Int) - a46_5_9.toInt).toNat = n → W p l e rm_receive s m args below meth c H10 k10 0 0 Q (F0 m 46 ls []) := by
    intro n
    induction n using Nat.strongRecOn with
    | _ n ih10 =>
      intro a46_5_9 g10 H10 k10 ls hF10 L10 ra46_5_9 hl hn10
      subst hn10
      refine lv_iload hx hb dX12_receive_46 (lv_at hl 4 rfl) ?_
      refine lv_iload_n hx hb dX12_receive_48 rfl (lv_at hl 2 rfl) ?_
      refine lv_icmp_ge (tgt := 79) hx hb dX12_receive_49 (by decide) (fun c49_11 => ?_) (fun c49_11 => ?_)
      · skip
        have q12 : rg (1) (200) a46_5_9 := (rg_le c49_11 rp3 ra46_5_9).2
        refine lv_aload_n hx hb dX12_receive_79 rfl (lv_at hl 0 rfl) ?_
        refine m_geta x L10 39 rfl rfl (wm_in uf_104) dX12_receive_80 ?_
        refine lv_iload_n hx hb dX12_receive_83 rfl (lv_at hl 1 rfl) ?_
        refine lv_dup2_11 hx hb dX12_receive_84 rfl rfl ?_
        refine m_ld x L10 39 rfl rp1 rfl dX12_receive_85 (fun v13 ev13 wv13 => ?_)
        refine m_top (((mm_fr (mm_up (mm_up (mm_up ev2 eg5 rfl) eg6 rfl) eg8 rfl) hF10 rfl)).trans ev13.symm) ?_
        refine lv_iconst (v := 1) hx hb dX12_receive_86 (by decide) ?_
        refine lv_iadd hx hb dX12_receive_87 ?_
        refine lv_topi (fun v14 ev14 => ?_)
        have rv14 : rg (1) (2000000001) v14 := (rg_add ev14 rv2 kc_1 rfl).1
        have L16 := mL.mono L10 (show X ≤ X + 1 by omega)
        refine m_st x L16 39 rfl rp1 rfl (rj_39 (rg_inc ev14 (lj_39 wv2) (by omega) (by omega))) dX12_receive_88 (fun g15 H15 k15 eg15 L15 => ?_)
        exact hQ _ _ _ _ _ dX12_receive_89 L15 ⟨(mFr.upE (mFr.tr (mFr.upE (mFr.upE (mFr.upE mFr.rf eg5 rfl) eg6 rfl) eg8 rfl) hF10 rfl) eg15 rfl), trivial⟩
      · skip
        have q17 : rg (0) (199) a46_5_9 := (rg_lt (rg_nle c49_11) ra46_5_9 rp3).1
        refine lv_aload_n hx hb dX12_receive_52 rfl (lv_at hl 0 rfl) ?_
        refine m_geta x L10 38 rfl rfl (wm_in uf_101) dX12_receive_53 ?_
        refine lv_sipush (v := 200) hx hb dX12_receive_56 (by decide) ?_
        refine lv_iload hx hb dX12_receive_59 (lv_at hl 3 rfl) ?_
        refine lv_imul hx hb dX12_receive_61 ?_
        refine lv_topi (fun v18 ev18 => ?_)
        have rv18 : rg (0) (15800) v18 := (rg_mulL ev18 kc_200 rv4 rfl).1
        refine lv_iload hx hb dX12_receive_62 (lv_at hl 4 rfl) ?_
        refine lv_iadd hx hb dX12_receive_64 ?_
        refine lv_topi (fun v19 ev19 => ?_)
        have rv19 : rg (0) (15999) v19 := (rg_add ev19 rv18 q17 rfl).1
        refine lv_aload_n hx hb dX12_receive_65 rfl (lv_at hl 0 rfl) ?_
        refine m_geta x L10 33 rfl rfl (wm_in uf_89) dX12_receive_66 ?_
        refine lv_iload hx hb dX12_receive_69 (lv_at hl 4 rfl) ?_
        refine m_ld x L10 33 rfl q17 rfl dX12_receive_71 (fun v20 ev20 wv20 => ?_)
        have rv20 : rg (-2147483648) (2147483647) v20 := lj_33 wv20
        refine m_st x L10 38 rfl rv19 rfl (rj_38 (rg_any v20)) dX12_receive_72 (fun g21 H21 k21 eg21 L21 => ?_)
        obtain ⟨v22, ev22, fv22⟩ := inc_ex a46_5_9 (1) (1 : Int32) (by decide)
        have rv22 : rg (1) (200) v22 := (rg_add ev22 q17 kc_1 rfl).1
        have tv22 := (rg_add ev22 q17 kc_1 rfl).2
        refine lv_iinc (v := v22) (lv' := [(5, .int v22), (0, .ref h0), (1, .int p1), (3, .int p3), (4, .int v4)]) hx hb dX12_receive_73 hl (k := 4) rfl fv22 (by decide) rfl (fun ls hl => ?_)
        refine lv_goto (tgt := 46) hx hb dX12_receive_76 (by decide) ?_
        exact ih10 _ (ms_up tv22 kc_1 q17 rfl rfl) v22 g21 _ _ ls (mFr.upE hF10 eg21 rfl) L21 (rg_w rv22 rfl) (lv_sub hl [1, 2, 3, 4, 0] rfl) rfl
  exact j46_10 _ (0 : Int32) g8 _ _ ls mFr.rf L8 (rg_w kc_0 rfl) (lv_sub hl [2, 3, 5, 1, 0] rfl) rfl
theorem c_receive (l : Launch) {G : mG} {h0 : Nat} {ad : Nat → Nat} (nn X : Int) (g : mSt) (p1 : Int32) (p2 : Int32) (p3 : Int32) (hnn : 2 ≤ nn ∧ nn ≤ 4) (hX : 0 ≤ X ∧ (X + 1) ≤ 2000000000) (rp1 : rg (0) (3) p1) (rp3 : rg (1) (200) p3) : Met l yX12_receive (wm (Cond.code yX12_receive cX12_receive 6 none)) rm_receive (va_Pc [.ref h0, .int p1, .int p2, .int p3] (mPre G h0 ad nn X g)) (mQv G h0 ad nn (X + 1) (fun g1 => mFr [35, 36, 37, 38, 39] g g1 ∧ True)) 0 0 (mA h0 ad) := by
  refine Met.ofW (cc := cX12_receive) (maxL := 6) (ret := none) (by decide) rfl ?_
  intro p e s m args below meth c s₁ B hml hv
  obtain ⟨rfl, hv⟩ := hv
  have hr := B.returns
  have hlocks := B.notSynchronized
  obtain ⟨x, L⟩ := m_start B rfl wm_X hv
  have hl := lv_entry ([.ref h0, .int p1, .int p2, .int p3]) (n := 6) (Nat.le_of_ble_eq_true rfl)
  rw [lg_entry_eq]
  generalize (lg_sl ([.ref h0, .int p1, .int p2, .int p3]) ++ List.replicate (6 - (lg_sl ([.ref h0, .int p1, .int p2, .int p3])).length) Slot.unset).toArray = ls at hl ⊢
  exact w_receive x hml L hnn hX p1 p2 p3 rp1 rp3 hl (fun pc' ls' g1 H1 locs1 hdg L hp => m_vret x L hr hlocks (Int.le_refl _) hp hdg)

def rm_endCell : Room := { frames := 2, cells := 0, slots := 0, locals := 48 }
theorem hd_endCell : yX12_endCell.cls = RX12 ∧ yX12_endCell.cls ≠ "java/lang/invoke/MethodHandle" ∧ yX12_endCell.cls ≠ "java/lang/invoke/VarHandle" ∧ (parseMethodDescriptor yX12_endCell.desc).map (fun d => d.parameters.length) = some 4 := by decide +kernel
set_option maxHeartbeats 4000000 in
set_option maxRecDepth 100000 in
theorem w_endCell {p : Program} {l : Launch} {e : Env} {s : State} {m : MethodId} {args : Array Value} {below : List Frame} {meth : Method} {c : Code} {H : Heap} {locs : List Loc} {Q : State → Prop} {ls : Array Slot} {G : mG} {h0 : Nat} {ad : Nat → Nat} {g : mSt} {H0 : Heap} {nn X : Int} (x : mX p c cX12_endCell s args (wm (Cond.code yX12_endCell cX12_endCell 9 none)) m G h0 ad) (hml : c.maxLocals = 9) (L : mL G h0 ad H0 nn X g H locs) (hnn : 2 ≤ nn ∧ nn ≤ 4) (hX : 0 ≤ X ∧ (X + 1) ≤ 2000000000) (p1 : Int32) (p2 : Int32) (p3 : Int32) (p4 : Int32) (hJ : mJ nn [] g) (rp1 : rg (1) (7) p1) (rp2 : rg (0) (371) p2) (hl : lv_has ls 9 [(0, .ref h0), (1, .int p1), (2, .int p2), (3, .int p3), (4, .int p4)]) (hQ : ∀ (pc' : Nat) (ls' : Array Slot) (g1 : mSt) (H1 : Heap) (locs1 : List Loc), decode cX12_endCell pc' = .ok (.return_, 1) → mL G h0 ad H0 nn (X + 1) g1 H1 locs1 → (mFr [4, 8, 30, 33, 35, 36, 37, 38, 39, 88, 89] g g1 ∧ mJ nn [] g1 ∧ True) → W p l e rm_endCell s m args below meth c H1 locs1 0 0 Q (F0 m pc' ls' [])) : W p l e rm_endCell s m args below meth c H locs 0 0 Q (F0 m 0 ls []) := by
  have hx := x.1
  have hb := x.2.1
  refine lv_aload_n hx hb dX12_endCell_0 rfl (lv_at hl 0 rfl) ?_
  refine lv_iload_n hx hb dX12_endCell_1 rfl (lv_at hl 1 rfl) ?_
  refine lv_iconst (v := 2) hx hb dX12_endCell_2 (by decide) ?_
  refine lv_idiv hx hb dX12_endCell_3 (by decide) ?_
  refine lv_topi (fun v1 ev1 => ?_)
  have rv1 : rg (0) (3) v1 := (rg_div ev1 rp1 kc_2 rfl).1
  refine lv_iload_n hx hb dX12_endCell_4 rfl (lv_at hl 3 rfl) ?_
  refine m_ci (As := [.int v1, .int p3]) (rest := []) x hml L (c_activeAt l nn X g v1 p3 hnn ⟨by omega, by omega⟩ (rg_w rv1 rfl)) (wm_V uc_activeAt ul_372 ui_activeAt us_activeAt u_init) rfl ⟨rfl, rfl⟩ hd_activeAt ⟨Nat.le_of_ble_eq_true rfl, Nat.le_of_ble_eq_true rfl⟩ rfl hl.1 rfl (lv_room (Nat.le_of_ble_eq_true rfl)) dX12_endCell_5 (fun v3 g2 H2 k2 hp2 L2 => ?_)
  have rv3 : rg (-2) (159) v3 := hp2.2.1
  refine lv_istore (lv' := [(5, .int v3), (0, .ref h0), (1, .int p1), (2, .int p2), (3, .int p3), (4, .int p4)]) hx hb dX12_endCell_8 hl (by decide) rfl (fun ls hl => ?_)
  refine lv_iload hx hb dX12_endCell_10 (lv_at hl 0 rfl) ?_
  refine lv_if_ge (tgt := 26) hx hb dX12_endCell_12 (by decide) (fun c12_4 => ?_) (fun c12_4 => ?_)
  · skip
    have q5 : rg (0) (159) v3 := (rg_le c12_4 kc_0 rv3).2
    refine lv_sipush (v := 240) hx hb dX12_endCell_26 (by decide) ?_
    refine lv_iload hx hb dX12_endCell_29 (lv_at hl 0 rfl) ?_
    refine lv_imul hx hb dX12_endCell_31 ?_
    refine lv_topi (fun v6 ev6 => ?_)
    have rv6 : rg (0) (38160) v6 := (rg_mulL ev6 kc_240 q5 rfl).1
    refine lv_bipush (v := 48) hx hb dX12_endCell_32 (by decide) ?_
    refine lv_aload_n hx hb dX12_endCell_34 rfl (lv_at hl 1 rfl) ?_
    refine m_geta x L2 89 rfl rfl (wm_in uf_254) dX12_endCell_35 ?_
    refine lv_iload hx hb dX12_endCell_38 (lv_at hl 0 rfl) ?_
    refine m_ld x L2 89 rfl q5 rfl dX12_endCell_40 (fun v7 ev7 wv7 => ?_)
    have rv7 : rg (0) (5) v7 := lj_89 wv7
    have rjv7 : rg (0) (4) v7 := mJ_r89 (mJ_fr hJ hp2.1 rfl) ev7 rv7
    refine lv_imul hx hb dX12_endCell_41 ?_
    refine lv_topi (fun v8 ev8 => ?_)
    have rv8 : rg (0) (192) v8 := (rg_mulL ev8 kc_48 rjv7 rfl).1
    refine lv_iadd hx hb dX12_endCell_42 ?_
    refine lv_topi (fun v9 ev9 => ?_)
    have rv9 : rg (0) (38352) v9 := (rg_add ev9 rv6 rv8 rfl).1
    refine lv_istore (lv' := [(6, .int v9), (5, .int v3), (0, .ref h0), (1, .int p1), (2, .int p2), (3, .int p3), (4, .int p4)]) hx hb dX12_endCell_43 hl (by decide) rfl (fun ls hl => ?_)
    refine lv_iconst (v := 0) hx hb dX12_endCell_45 (by decide) ?_
    refine lv_istore (lv' := [(7, .int (0 : Int32)), (6, .int v9), (5, .int v3), (0, .ref h0), (1, .int p1), (2, .int p2), (3, .int p3), (4, .int p4)]) hx hb dX12_endCell_46 hl (by decide) rfl (fun ls hl => ?_)
    have j48_11 : ∀ (n : Nat) (a48_7_10 : Int32) (g11 : mSt) (H11 : Heap) (k11 : List Loc) (ls : Array Slot), mFr [88] g2 g11 → mL G h0 ad H0 nn X g11 H11 k11 → mJ nn [] g11 → rg (0) (48) a48_7_10 → lv_has ls 9 [(0, .ref h0), (1, .int p1), (2, .int p2), (4, .int p4), (5, .int v3), (6, .int v9), (7, .int a48_7_10)] → ((48 : Int) - a48_7_10.toInt).toNat = n → W p l e rm_endCell s m args below meth c H11 k11 0 0 Q (F0 m 48 ls []) := by
      intro n
      induction n using Nat.strongRecOn with
      | _ n ih11 =>
        intro a48_7_10 g11 H11 k11 ls hF11 L11 hJ11 ra48_7_10 hl hn11
        subst hn11
        refine lv_iload hx hb dX12_endCell_48 (lv_at hl 6 rfl) ?_
        refine lv_bipush (v := 48) hx hb dX12_endCell_50 (by decide) ?_
        refine lv_icmp_ge (tgt := 82) hx hb dX12_endCell_52 (by decide) (fun c52_12 => ?_) (fun c52_12 => ?_)
        · skip
          have q13 : rg (48) (48) a48_7_10 := (rg_le c52_12 kc_48 ra48_7_10).2
          refine lv_aload_n hx hb dX12_endCell_82 rfl (lv_at hl 0 rfl) ?_
          refine m_geta x L11 89 rfl rfl (wm_in uf_254) dX12_endCell_83 ?_
          refine lv_iload hx hb dX12_endCell_86 (lv_at hl 4 rfl) ?_
          refine lv_dup2_11 hx hb dX12_endCell_88 rfl rfl ?_
          refine m_ld x L11 89 rfl q5 rfl dX12_endCell_89 (fun v14 ev14 wv14 => ?_)
          refine m_top (((mm_fr ev7 hF11 rfl)).trans ev14.symm) ?_
          refine lv_iconst (v := 1) hx hb dX12_endCell_90 (by decide) ?_
          refine lv_iadd hx hb dX12_endCell_91 ?_
          refine lv_topi (fun v15 ev15 => ?_)
          have rv15 : rg (1) (5) v15 := (rg_add ev15 rjv7 kc_1 rfl).1
          refine m_st x L11 89 rfl q5 rfl (rj_89 (rg_w rv15 rfl)) dX12_endCell_92 (fun g16 H16 k16 eg16 L16 => ?_)
          refine lv_iload hx hb dX12_endCell_93 (lv_at hl 3 rfl) ?_
          refine lv_iconst (v := 2) hx hb dX12_endCell_95 (by decide) ?_
          refine lv_irem hx hb dX12_endCell_96 (by decide) ?_
          refine lv_topi (fun v17 ev17 => ?_)
          have rv17 : rg (-2147483648) (2147483647) v17 := rg_any v17
          refine lv_iconst (v := 1) hx hb dX12_endCell_97 (by decide) ?_
          refine lv_icmp_ne (tgt := 201) hx hb dX12_endCell_98 (by decide) (fun c98_18 => ?_) (fun c98_18 => ?_)
          · skip
            refine lv_aload_n hx hb dX12_endCell_201 rfl (lv_at hl 0 rfl) ?_
            refine m_geta x L16 89 rfl rfl (wm_in uf_254) dX12_endCell_202 ?_
            refine lv_iload hx hb dX12_endCell_205 (lv_at hl 4 rfl) ?_
            refine m_ld x L16 89 rfl q5 rfl dX12_endCell_207 (fun v19 ev19 wv19 => ?_)
            refine m_top (((mm_st eg16)).trans ev19.symm) ?_
            refine lv_iconst (v := 5) hx hb dX12_endCell_208 (by decide) ?_
            refine lv_icmp_ne (tgt := 230) hx hb dX12_endCell_209 (by decide) (fun c209_20 => ?_) (fun c209_20 => ?_)
            · skip
              have q21 : rg (1) (4) v15 := rg_neH c209_20 rv15 kc_5
              exact hQ _ _ _ _ _ dX12_endCell_230 (mL.mono L16 (by omega)) ⟨(mFr.upE (mFr.tr (mFr.tr mFr.rf hp2.1 rfl) hF11 rfl) eg16 rfl), (mJ_89 hJ11 eg16 q21 rfl), trivial⟩
            · skip
              have q22 : rg (5) (5) v15 := (rg_eq c209_20 rv15 kc_5).1
              refine lv_aload_n hx hb dX12_endCell_212 rfl (lv_at hl 0 rfl) ?_
              refine m_geta x L16 89 rfl rfl (wm_in uf_254) dX12_endCell_213 ?_
              refine lv_iload hx hb dX12_endCell_216 (lv_at hl 4 rfl) ?_
              refine lv_iconst (v := 0) hx hb dX12_endCell_218 (by decide) ?_
              refine m_st x L16 89 rfl q5 rfl (rj_89 (rg_w kc_0 rfl)) dX12_endCell_219 (fun g23 H23 k23 eg23 L23 => ?_)
              have hJ24 := mJ_89 hJ11 (up2_up2 eg16 eg23) kc_0 rfl
              refine lv_aload_n hx hb dX12_endCell_220 rfl (lv_at hl 0 rfl) ?_
              refine m_geta x L23 30 rfl rfl (wm_in uf_80) dX12_endCell_221 ?_
              refine lv_iload_n hx hb dX12_endCell_224 rfl (lv_at hl 1 rfl) ?_
              refine lv_dup2_11 hx hb dX12_endCell_225 rfl rfl ?_
              refine m_ld x L23 30 rfl rp1 rfl dX12_endCell_226 (fun v25 ev25 wv25 => ?_)
              have rv25 : rg (-2147483648) (2147483647) v25 := lj_30 wv25
              refine lv_iconst (v := 1) hx hb dX12_endCell_227 (by decide) ?_
              refine lv_iadd hx hb dX12_endCell_228 ?_
              refine lv_topi (fun v26 ev26 => ?_)
              have rv26 : rg (-2147483648) (2147483647) v26 := rg_any v26
              refine m_st x L23 30 rfl rp1 rfl (rj_30 (rg_any v26)) dX12_endCell_229 (fun g27 H27 k27 eg27 L27 => ?_)
              exact hQ _ _ _ _ _ dX12_endCell_230 (mL.mono L27 (by omega)) ⟨(mFr.upE (mFr.upE (mFr.upE (mFr.tr (mFr.tr mFr.rf hp2.1 rfl) hF11 rfl) eg16 rfl) eg23 rfl) eg27 rfl), (mJ_up hJ24 eg27 rfl), trivial⟩
          · skip
            have q28 : rg (1) (1) v17 := (rg_eq c98_18 rv17 kc_1).1
            refine lv_bipush (v := 48) hx hb dX12_endCell_101 (by decide) ?_
            refine lv_aload_n hx hb dX12_endCell_103 rfl (lv_at hl 0 rfl) ?_
            refine m_geta x L16 89 rfl rfl (wm_in uf_254) dX12_endCell_104 ?_
            refine lv_iload hx hb dX12_endCell_107 (lv_at hl 4 rfl) ?_
            refine m_ld x L16 89 rfl q5 rfl dX12_endCell_109 (fun v29 ev29 wv29 => ?_)
            refine m_top (((mm_st eg16)).trans ev29.symm) ?_
            refine lv_imul hx hb dX12_endCell_110 ?_
            refine lv_topi (fun v30 ev30 => ?_)
            have rv30 : rg (48) (240) v30 := (rg_mulL ev30 kc_48 rv15 rfl).1
            refine lv_istore (lv' := [(7, .int v30), (0, .ref h0), (1, .int p1), (2, .int p2), (4, .int p4), (5, .int v3), (6, .int v9)]) hx hb dX12_endCell_111 hl (by decide) rfl (fun ls hl => ?_)
            refine lv_aload_n hx hb dX12_endCell_113 rfl (lv_at hl 1 rfl) ?_
            refine m_geta x L16 89 rfl rfl (wm_in uf_254) dX12_endCell_114 ?_
            refine lv_iload hx hb dX12_endCell_117 (lv_at hl 5 rfl) ?_
            refine lv_iconst (v := 0) hx hb dX12_endCell_119 (by decide) ?_
            refine m_st x L16 89 rfl q5 rfl (rj_89 (rg_w kc_0 rfl)) dX12_endCell_120 (fun g31 H31 k31 eg31 L31 => ?_)
            have hJ32 := mJ_89 hJ11 (up2_up2 eg16 eg31) kc_0 rfl
            refine lv_iconst (v := 0) hx hb dX12_endCell_121 (by decide) ?_
            refine lv_istore (lv' := [(8, .int (0 : Int32)), (7, .int v30), (0, .ref h0), (1, .int p1), (2, .int p2), (4, .int p4), (5, .int v3), (6, .int v9)]) hx hb dX12_endCell_122 hl (by decide) rfl (fun ls hl => ?_)
            have j124_34 : ∀ (n : Nat) (a124_8_33 : Int32) (g34 : mSt) (H34 : Heap) (k34 : List Loc) (ls : Array Slot), mFr [33] g31 g34 → mL G h0 ad H0 nn X g34 H34 k34 → mJ nn [] g34 → rg (0) (240) a124_8_33 → lv_has ls 9 [(0, .ref h0), (1, .int p1), (5, .int v3), (7, .int v30), (8, .int a124_8_33)] → ((240 : Int) - a124_8_33.toInt).toNat = n → W p l e rm_endCell s m args below meth c H34 k34 0 0 Q (F0 m 124 ls []) := by
              intro n
              induction n using Nat.strongRecOn with
              | _ n ih34 =>
                intro a124_8_33 g34 H34 k34 ls hF34 L34 hJ34 ra124_8_33 hl hn34
                subst hn34
                refine lv_iload hx hb dX12_endCell_124 (lv_at hl 4 rfl) ?_
                refine lv_iload hx hb dX12_endCell_126 (lv_at hl 3 rfl) ?_
                refine lv_icmp_ge (tgt := 158) hx hb dX12_endCell_128 (by decide) (fun c128_35 => ?_) (fun c128_35 => ?_)
                · skip
                  have q36 : rg (48) (240) a124_8_33 := (rg_le c128_35 rv30 ra124_8_33).2
                  refine lv_aload_n hx hb dX12_endCell_158 rfl (lv_at hl 0 rfl) ?_
                  refine lv_iload hx hb dX12_endCell_159 (lv_at hl 3 rfl) ?_
                  refine m_ci (As := [.int v30]) (rest := []) x hml L34 (c_checkWhole l nn X g34 v30 hnn ⟨by omega, by omega⟩ (rg_w rv30 rfl)) (wm_V uc_checkWhole ul_354 ui_checkWhole us_checkWhole u_init) rfl ⟨rfl, rfl⟩ hd_checkWhole ⟨Nat.le_of_ble_eq_true rfl, Nat.le_of_ble_eq_true rfl⟩ rfl hl.1 rfl (lv_room (Nat.le_of_ble_eq_true rfl)) dX12_endCell_161 (fun v38 g37 H37 k37 hp37 L37 => ?_)
                  have rv38 : rg (0) (200) v38 := hp37.2.1
                  refine lv_istore (lv' := [(8, .int v38), (0, .ref h0), (1, .int p1), (5, .int v3), (7, .int v30)]) hx hb dX12_endCell_164 hl (by decide) rfl (fun ls hl => ?_)
                  refine lv_iload hx hb dX12_endCell_166 (lv_at hl 0 rfl) ?_
                  refine lv_if_ne (tgt := 184) hx hb dX12_endCell_168 (by decide) (fun c168_39 => ?_) (fun c168_39 => ?_)
                  · skip
                    have q40 : rg (1) (200) v38 := rg_neL c168_39 rv38 kc_0
                    refine lv_aload_n hx hb dX12_endCell_184 rfl (lv_at hl 1 rfl) ?_
                    refine lv_iload_n hx hb dX12_endCell_185 rfl (lv_at hl 2 rfl) ?_
                    refine lv_iconst (v := 2) hx hb dX12_endCell_186 (by decide) ?_
                    refine lv_idiv hx hb dX12_endCell_187 (by decide) ?_
                    refine m_top ev1 ?_
                    refine lv_iload hx hb dX12_endCell_188 (lv_at hl 3 rfl) ?_
                    refine lv_bipush (v := 40) hx hb dX12_endCell_190 (by decide) ?_
                    refine lv_irem hx hb dX12_endCell_192 (by decide) ?_
                    refine lv_topi (fun v41 ev41 => ?_)
                    have rv41 : rg (0) (39) v41 := (rg_rem ev41 q5 kc_40 rfl).1
                    refine lv_iload hx hb dX12_endCell_193 (lv_at hl 0 rfl) ?_
                    refine m_cv (As := [.int v1, .int v41, .int v38]) (rest := []) x hml L37 (c_receive l nn X g37 v1 v41 v38 hnn ⟨by omega, by omega⟩ (rg_w rv1 rfl) (rg_w q40 rfl)) (wm_V uc_receive ul_375 ui_receive us_receive u_init) rfl ⟨rfl, rfl⟩ hd_receive ⟨Nat.le_of_ble_eq_true rfl, Nat.le_of_ble_eq_true rfl⟩ rfl hl.1 rfl (lv_room (Nat.le_of_ble_eq_true rfl)) dX12_endCell_195 (fun  g42 H42 k42 hp42 L42 => ?_)
                    refine lv_goto (tgt := 230) hx hb dX12_endCell_198 (by decide) ?_
                    exact hQ _ _ _ _ _ dX12_endCell_230 L42 ⟨(mFr.tr (mFr.tr (mFr.tr (mFr.upE (mFr.upE (mFr.tr (mFr.tr mFr.rf hp2.1 rfl) hF11 rfl) eg16 rfl) eg31 rfl) hF34 rfl) hp37.1 rfl) hp42.1 rfl), (mJ_fr (mJ_fr hJ34 hp37.1 rfl) hp42.1 rfl), trivial⟩
                  · skip
                    have q43 : rg (0) (0) v38 := (rg_eq c168_39 rv38 kc_0).1
                    refine lv_aload_n hx hb dX12_endCell_171 rfl (lv_at hl 1 rfl) ?_
                    refine m_geta x L37 30 rfl rfl (wm_in uf_80) dX12_endCell_172 ?_
                    refine lv_iload_n hx hb dX12_endCell_175 rfl (lv_at hl 2 rfl) ?_
                    refine lv_dup2_11 hx hb dX12_endCell_176 rfl rfl ?_
                    refine m_ld x L37 30 rfl rp1 rfl dX12_endCell_177 (fun v44 ev44 wv44 => ?_)
                    have rv44 : rg (-2147483648) (2147483647) v44 := lj_30 wv44
                    refine lv_iconst (v := 1) hx hb dX12_endCell_178 (by decide) ?_
                    refine lv_iadd hx hb dX12_endCell_179 ?_
                    refine lv_topi (fun v45 ev45 => ?_)
                    have rv45 : rg (-2147483648) (2147483647) v45 := rg_any v45
                    refine m_st x L37 30 rfl rp1 rfl (rj_30 (rg_any v45)) dX12_endCell_180 (fun g46 H46 k46 eg46 L46 => ?_)
                    refine lv_goto (tgt := 198) hx hb dX12_endCell_181 (by decide) ?_
                    refine lv_goto (tgt := 230) hx hb dX12_endCell_198 (by decide) ?_
                    exact hQ _ _ _ _ _ dX12_endCell_230 (mL.mono L46 (by omega)) ⟨(mFr.upE (mFr.tr (mFr.tr (mFr.upE (mFr.upE (mFr.tr (mFr.tr mFr.rf hp2.1 rfl) hF11 rfl) eg16 rfl) eg31 rfl) hF34 rfl) hp37.1 rfl) eg46 rfl), (mJ_up (mJ_fr hJ34 hp37.1 rfl) eg46 rfl), trivial⟩
                · skip
                  have q47 : rg (0) (239) a124_8_33 := (rg_lt (rg_nle c128_35) ra124_8_33 rv30).1
                  refine lv_aload_n hx hb dX12_endCell_131 rfl (lv_at hl 0 rfl) ?_
                  refine m_geta x L34 33 rfl rfl (wm_in uf_89) dX12_endCell_132 ?_
                  refine lv_iload hx hb dX12_endCell_135 (lv_at hl 4 rfl) ?_
                  refine lv_aload_n hx hb dX12_endCell_137 rfl (lv_at hl 0 rfl) ?_
                  refine m_geta x L34 88 rfl rfl (wm_in uf_251) dX12_endCell_138 ?_
                  refine lv_sipush (v := 240) hx hb dX12_endCell_141 (by decide) ?_
                  refine lv_iload hx hb dX12_endCell_144 (lv_at hl 2 rfl) ?_
                  refine lv_imul hx hb dX12_endCell_146 ?_
                  refine m_top ev6 ?_
                  refine lv_iload hx hb dX12_endCell_147 (lv_at hl 4 rfl) ?_
                  refine lv_iadd hx hb dX12_endCell_149 ?_
                  refine lv_topi (fun v48 ev48 => ?_)
                  have rv48 : rg (0) (38399) v48 := (rg_add ev48 rv6 q47 rfl).1
                  refine m_ld x L34 88 rfl rv48 rfl dX12_endCell_150 (fun v49 ev49 wv49 => ?_)
                  have rv49 : rg (-2147483648) (2147483647) v49 := lj_88 wv49
                  refine m_st x L34 33 rfl q47 rfl (rj_33 (rg_any v49)) dX12_endCell_151 (fun g50 H50 k50 eg50 L50 => ?_)
                  obtain ⟨v51, ev51, fv51⟩ := inc_ex a124_8_33 (1) (1 : Int32) (by decide)
                  have rv51 : rg (1) (240) v51 := (rg_add ev51 q47 kc_1 rfl).1
                  have tv51 := (rg_add ev51 q47 kc_1 rfl).2
                  refine lv_iinc (v := v51) (lv' := [(8, .int v51), (0, .ref h0), (1, .int p1), (5, .int v3), (7, .int v30)]) hx hb dX12_endCell_152 hl (k := 4) rfl fv51 (by decide) rfl (fun ls hl => ?_)
                  refine lv_goto (tgt := 124) hx hb dX12_endCell_155 (by decide) ?_
                  exact ih34 _ (ms_up tv51 kc_1 q47 rfl rfl) v51 g50 _ _ ls (mFr.upE hF34 eg50 rfl) L50 (mJ_up hJ34 eg50 rfl) (rg_w rv51 rfl) (lv_sub hl [1, 2, 3, 4, 0] rfl) rfl
            exact j124_34 _ (0 : Int32) g31 _ _ ls mFr.rf L31 hJ32 (rg_w kc_0 rfl) (lv_sub hl [2, 3, 6, 1, 0] rfl) rfl
        · skip
          have q52 : rg (0) (47) a48_7_10 := (rg_lt (rg_nle c52_12) ra48_7_10 kc_48).1
          refine lv_aload_n hx hb dX12_endCell_55 rfl (lv_at hl 0 rfl) ?_
          refine m_geta x L11 88 rfl rfl (wm_in uf_251) dX12_endCell_56 ?_
          refine lv_iload hx hb dX12_endCell_59 (lv_at hl 5 rfl) ?_
          refine lv_iload hx hb dX12_endCell_61 (lv_at hl 6 rfl) ?_
          refine lv_iadd hx hb dX12_endCell_63 ?_
          refine lv_topi (fun v53 ev53 => ?_)
          have rv53 : rg (0) (38399) v53 := (rg_add ev53 rv9 q52 rfl).1
          refine lv_aload_n hx hb dX12_endCell_64 rfl (lv_at hl 0 rfl) ?_
          refine m_geta x L11 26 rfl rfl (wm_in uf_68) dX12_endCell_65 ?_
          refine lv_iload_n hx hb dX12_endCell_68 rfl (lv_at hl 2 rfl) ?_
          refine lv_iconst (v := 5) hx hb dX12_endCell_69 (by decide) ?_
          refine lv_iadd hx hb dX12_endCell_70 ?_
          refine lv_topi (fun v54 ev54 => ?_)
          have rv54 : rg (5) (376) v54 := (rg_add ev54 rp2 kc_5 rfl).1
          refine lv_iload hx hb dX12_endCell_71 (lv_at hl 6 rfl) ?_
          refine lv_iadd hx hb dX12_endCell_73 ?_
          refine lv_topi (fun v55 ev55 => ?_)
          have rv55 : rg (5) (423) v55 := (rg_add ev55 rv54 q52 rfl).1
          refine m_ld x L11 26 rfl rv55 rfl dX12_endCell_74 (fun v56 ev56 wv56 => ?_)
          have rv56 : rg (-2147483648) (2147483647) v56 := lj_26 wv56
          refine m_st x L11 88 rfl rv53 rfl (rj_88 (rg_any v56)) dX12_endCell_75 (fun g57 H57 k57 eg57 L57 => ?_)
          obtain ⟨v58, ev58, fv58⟩ := inc_ex a48_7_10 (1) (1 : Int32) (by decide)
          have rv58 : rg (1) (48) v58 := (rg_add ev58 q52 kc_1 rfl).1
          have tv58 := (rg_add ev58 q52 kc_1 rfl).2
          refine lv_iinc (v := v58) (lv' := [(7, .int v58), (0, .ref h0), (1, .int p1), (2, .int p2), (4, .int p4), (5, .int v3), (6, .int v9)]) hx hb dX12_endCell_76 hl (k := 6) rfl fv58 (by decide) rfl (fun ls hl => ?_)
          refine lv_goto (tgt := 48) hx hb dX12_endCell_79 (by decide) ?_
          exact ih11 _ (ms_up tv58 kc_1 q52 rfl rfl) v58 g57 _ _ ls (mFr.upE hF11 eg57 rfl) L57 (mJ_up hJ11 eg57 rfl) (rg_w rv58 rfl) (lv_sub hl [1, 2, 3, 4, 5, 6, 0] rfl) rfl
    exact j48_11 _ (0 : Int32) g2 _ _ ls mFr.rf L2 (mJ_fr hJ hp2.1 rfl) (rg_w kc_0 rfl) (lv_sub hl [3, 4, 5, 7, 2, 1, 0] rfl) rfl
  · skip
    have q59 : rg (-2) (-1) v3 := (rg_lt (rg_nle c12_4) rv3 kc_0).1
    refine lv_aload_n hx hb dX12_endCell_15 rfl (lv_at hl 1 rfl) ?_
    refine m_geta x L2 8 rfl rfl (wm_in uf_23) dX12_endCell_16 ?_
    refine lv_iload_n hx hb dX12_endCell_19 rfl (lv_at hl 2 rfl) ?_
    refine lv_dup2_11 hx hb dX12_endCell_20 rfl rfl ?_
    refine m_ld x L2 8 rfl rp1 rfl dX12_endCell_21 (fun v60 ev60 wv60 => ?_)
    have rv60 : rg (-2147483648) (2147483647) v60 := lj_8 wv60
    refine lv_iconst (v := 1) hx hb dX12_endCell_22 (by decide) ?_
    refine lv_iadd hx hb dX12_endCell_23 ?_
    refine lv_topi (fun v61 ev61 => ?_)
    have rv61 : rg (-2147483648) (2147483647) v61 := rg_any v61
    refine m_st x L2 8 rfl rp1 rfl (rj_8 (rg_any v61)) dX12_endCell_24 (fun g62 H62 k62 eg62 L62 => ?_)
    exact hQ _ _ _ _ _ dX12_endCell_25 (mL.mono L62 (by omega)) ⟨(mFr.upE (mFr.tr mFr.rf hp2.1 rfl) eg62 rfl), (mJ_up (mJ_fr hJ hp2.1 rfl) eg62 rfl), trivial⟩
theorem c_endCell (l : Launch) {G : mG} {h0 : Nat} {ad : Nat → Nat} (nn X : Int) (g : mSt) (p1 : Int32) (p2 : Int32) (p3 : Int32) (p4 : Int32) (hnn : 2 ≤ nn ∧ nn ≤ 4) (hX : 0 ≤ X ∧ (X + 1) ≤ 2000000000) (hJ : mJ nn [] g) (rp1 : rg (1) (7) p1) (rp2 : rg (0) (371) p2) : Met l yX12_endCell (wm (Cond.code yX12_endCell cX12_endCell 9 none)) rm_endCell (va_Pc [.ref h0, .int p1, .int p2, .int p3, .int p4] (mPre G h0 ad nn X g)) (mQv G h0 ad nn (X + 1) (fun g1 => mFr [4, 8, 30, 33, 35, 36, 37, 38, 39, 88, 89] g g1 ∧ mJ nn [] g1 ∧ True)) 0 0 (mA h0 ad) := by
  refine Met.ofW (cc := cX12_endCell) (maxL := 9) (ret := none) (by decide) rfl ?_
  intro p e s m args below meth c s₁ B hml hv
  obtain ⟨rfl, hv⟩ := hv
  have hr := B.returns
  have hlocks := B.notSynchronized
  obtain ⟨x, L⟩ := m_start B rfl wm_X hv
  have hl := lv_entry ([.ref h0, .int p1, .int p2, .int p3, .int p4]) (n := 9) (Nat.le_of_ble_eq_true rfl)
  rw [lg_entry_eq]
  generalize (lg_sl ([.ref h0, .int p1, .int p2, .int p3, .int p4]) ++ List.replicate (9 - (lg_sl ([.ref h0, .int p1, .int p2, .int p3, .int p4])).length) Slot.unset).toArray = ls at hl ⊢
  exact w_endCell x hml L hnn hX p1 p2 p3 p4 hJ rp1 rp2 hl (fun pc' ls' g1 H1 locs1 hdg L hp => m_vret x L hr hlocks (Int.le_refl _) hp hdg)

def rm_setupAtSwitch : Room := { frames := 3, cells := 0, slots := 0, locals := 70 }
theorem hd_setupAtSwitch : yX12_setupAtSwitch.cls = RX12 ∧ yX12_setupAtSwitch.cls ≠ "java/lang/invoke/MethodHandle" ∧ yX12_setupAtSwitch.cls ≠ "java/lang/invoke/VarHandle" ∧ (parseMethodDescriptor yX12_setupAtSwitch.desc).map (fun d => d.parameters.length) = some 4 := by decide +kernel
set_option maxHeartbeats 4000000 in
set_option maxRecDepth 100000 in
theorem w_setupAtSwitch {p : Program} {l : Launch} {e : Env} {s : State} {m : MethodId} {args : Array Value} {below : List Frame} {meth : Method} {c : Code} {H : Heap} {locs : List Loc} {Q : State → Prop} {ls : Array Slot} {G : mG} {h0 : Nat} {ad : Nat → Nat} {g : mSt} {H0 : Heap} {nn X : Int} (x : mX p c cX12_setupAtSwitch s args (wm (Cond.code yX12_setupAtSwitch cX12_setupAtSwitch 13 none)) m G h0 ad) (hml : c.maxLocals = 13) (L : mL G h0 ad H0 nn X g H locs) (hnn : 2 ≤ nn ∧ nn ≤ 4) (hX : 0 ≤ X ∧ X ≤ 2000000000) (p1 : Int32) (p2 : Int32) (p3 : Int32) (p4 : Int32) (hJ : mJ nn [] g) (rp1 : rg (0) (7) p1) (np1 : p1.toInt < 2 * nn) (hs : nn ≤ p1.toInt) (hl : lv_has ls 13 [(0, .ref h0), (1, .int p1), (2, .int p2), (3, .int p3), (4, .int p4)]) (hQ : ∀ (pc' : Nat) (ls' : Array Slot) (g1 : mSt) (H1 : Heap) (locs1 : List Loc), decode cX12_setupAtSwitch pc' = .ok (.return_, 1) → mL G h0 ad H0 nn X g1 H1 locs1 → (mFr [58, 59, 60, 68, 69, 70, 71, 72, 73, 74, 75, 76, 77, 78, 79, 80, 81, 86, 87, 89, 90, 91] g g1 ∧ mJ nn [] g1 ∧ True) → W p l e rm_setupAtSwitch s m args below meth c H1 locs1 0 0 Q (F0 m pc' ls' [])) : W p l e rm_setupAtSwitch s m args below meth c H locs 0 0 Q (F0 m 0 ls []) := by
  have hx := x.1
  have hb := x.2.1
  have up1 : (0 : Int) ≤ p1.toInt ∧ p1.toInt ≤ 7 := rp1
  have up2 : (-2147483648 : Int) ≤ p2.toInt ∧ p2.toInt ≤ 2147483647 := (rg_any p2)
  have up3 : (-2147483648 : Int) ≤ p3.toInt ∧ p3.toInt ≤ 2147483647 := (rg_any p3)
  have up4 : (-2147483648 : Int) ≤ p4.toInt ∧ p4.toInt ≤ 2147483647 := (rg_any p4)
  refine lv_iload_n hx hb dX12_setupAtSwitch_0 rfl (lv_at hl 1 rfl) ?_
  refine lv_aload_n hx hb dX12_setupAtSwitch_1 rfl (lv_at hl 0 rfl) ?_
  refine m_geti x L 0 rfl rfl (wm_in uf_260) dX12_setupAtSwitch_2 (fun v1 ev1 wv1 => ?_)
  have rv1 : rg 2 4 v1 := rg_nn hnn wv1
  have tv1 : v1.toInt = nn := rg_n0 wv1
  have lv1 : v1.toInt = 1 * nn + 0 := by omega
  have uv1 : (2 : Int) ≤ v1.toInt ∧ v1.toInt ≤ 4 := rv1
  have sv1 : v1.toInt = (g 0 0).toInt := congrArg Int32.toInt (ev1.trans (congrFun ((show mFr [58, 59, 60, 68, 69, 70, 71, 72, 73, 74, 75, 76, 77, 78, 79, 80, 81, 86, 87, 89, 90, 91] g g from mFr.rf).at 0 rfl) _))
  refine lv_isub hx hb dX12_setupAtSwitch_5 ?_
  refine lv_topi (fun v2 ev2 => ?_)
  have rv2 : rg (-4) (5) v2 := (rg_sub ev2 rp1 rv1 rfl).1
  have tv2 := (rg_sub ev2 rp1 rv1 rfl).2
  have uv2 : (-4 : Int) ≤ v2.toInt ∧ v2.toInt ≤ 5 := rv2
  refine lv_istore (lv' := [(5, .int v2), (0, .ref h0), (1, .int p1), (2, .int p2), (3, .int p3), (4, .int p4)]) hx hb dX12_setupAtSwitch_6 hl (by decide) rfl (fun ls hl => ?_)
  refine lv_iload_n hx hb dX12_setupAtSwitch_8 rfl (lv_at hl 4 rfl) ?_
  refine lv_if_lt (tgt := 26) hx hb dX12_setupAtSwitch_9 (by decide) (fun c9_3 => ?_) (fun c9_3 => ?_)
  · skip
    have ic9_3 := Int32.lt_iff_toInt_lt.mp c9_3
    have q4 : rg (-2147483648) (-1) p3 := (rg_lt c9_3 (rg_any p3) kc_0).1
    have uq4 : (-2147483648 : Int) ≤ p3.toInt ∧ p3.toInt ≤ -1 := q4
    refine lv_iconst (v := 1) hx hb dX12_setupAtSwitch_26 (by decide) ?_
    refine lv_goto (tgt := 31) hx hb dX12_setupAtSwitch_27 (by decide) ?_
    refine lv_istore (lv' := [(6, .int (1 : Int32)), (5, .int v2), (0, .ref h0), (1, .int p1), (2, .int p2), (3, .int p3), (4, .int p4)]) hx hb dX12_setupAtSwitch_31 hl (by decide) rfl (fun ls hl => ?_)
    refine lv_iload hx hb dX12_setupAtSwitch_33 (lv_at hl 0 rfl) ?_
    refine lv_if_eq (tgt := 42) hx hb dX12_setupAtSwitch_35 (by decide) (fun c35_5 => ?_) (fun c35_5 => ?_)
    · skip
      exact absurd c35_5 (by decide)
    · skip
      refine lv_iload_n hx hb dX12_setupAtSwitch_38 rfl (lv_at hl 3 rfl) ?_
      refine lv_goto (tgt := 48) hx hb dX12_setupAtSwitch_39 (by decide) ?_
      refine lv_istore (lv' := [(7, .int p1), (6, .int (1 : Int32)), (5, .int v2), (0, .ref h0), (1, .int p1), (2, .int p2), (3, .int p3), (4, .int p4)]) hx hb dX12_setupAtSwitch_48 hl (by decide) rfl (fun ls hl => ?_)
      refine lv_iload hx hb dX12_setupAtSwitch_50 (lv_at hl 1 rfl) ?_
      refine lv_if_eq (tgt := 59) hx hb dX12_setupAtSwitch_52 (by decide) (fun c52_6 => ?_) (fun c52_6 => ?_)
      · skip
        exact absurd c52_6 (by decide)
      · skip
        refine lv_iconst (v := 1) hx hb dX12_setupAtSwitch_55 (by decide) ?_
        refine lv_goto (tgt := 133) hx hb dX12_setupAtSwitch_56 (by decide) ?_
        refine lv_istore (lv' := [(8, .int (1 : Int32)), (7, .int p1), (6, .int (1 : Int32)), (5, .int v2), (0, .ref h0), (1, .int p1), (2, .int p2), (3, .int p3), (4, .int p4)]) hx hb dX12_setupAtSwitch_133 hl (by decide) rfl (fun ls hl => ?_)
        refine lv_iload hx hb dX12_setupAtSwitch_135 (lv_at hl 0 rfl) ?_
        refine lv_if_le (tgt := 152) hx hb dX12_setupAtSwitch_137 (by decide) (fun c137_7 => ?_) (fun c137_7 => ?_)
        · skip
          exact absurd c137_7 (by decide)
        · skip
          refine lv_aload_n hx hb dX12_setupAtSwitch_140 rfl (lv_at hl 4 rfl) ?_
          refine lv_iload_n hx hb dX12_setupAtSwitch_141 rfl (lv_at hl 5 rfl) ?_
          refine lv_iconst (v := 0) hx hb dX12_setupAtSwitch_142 (by decide) ?_
          refine lv_iload_n hx hb dX12_setupAtSwitch_143 rfl (lv_at hl 6 rfl) ?_
          refine lv_bipush (v := 90) hx hb dX12_setupAtSwitch_144 (by decide) ?_
          refine lv_iload hx hb dX12_setupAtSwitch_146 (lv_at hl 0 rfl) ?_
          refine m_cv (As := [.int p1, .int (0 : Int32), .int p2, .int (90 : Int32), .int (1 : Int32)]) (rest := []) x hml L (c_withCause l nn X g p1 (0 : Int32) p2 (90 : Int32) (1 : Int32) hnn hX (rg_w rp1 rfl) (rg_w kc_0 rfl)) (wm_V uc_withCause ul_488 ui_withCause us_withCause u_init) rfl ⟨rfl, rfl⟩ hd_withCause ⟨Nat.le_of_ble_eq_true rfl, Nat.le_of_ble_eq_true rfl⟩ rfl hl.1 rfl (lv_room (Nat.le_of_ble_eq_true rfl)) dX12_setupAtSwitch_148 (fun  g8 H8 k8 hp8 L8 => ?_)
          exact hQ _ _ _ _ _ dX12_setupAtSwitch_151 L8 ⟨(mFr.tr mFr.rf hp8.1 rfl), (mJ_fr hJ hp8.1 rfl), trivial⟩
  · skip
    have ic9_3 := Int32.le_iff_toInt_le.mp (rg_nlt c9_3)
    have q9 : rg (0) (2147483647) p3 := (rg_le (rg_nlt c9_3) kc_0 (rg_any p3)).2
    have uq9 : (0 : Int) ≤ p3.toInt ∧ p3.toInt ≤ 2147483647 := q9
    refine lv_iload_n hx hb dX12_setupAtSwitch_12 rfl (lv_at hl 4 rfl) ?_
    refine lv_aload_n hx hb dX12_setupAtSwitch_13 rfl (lv_at hl 1 rfl) ?_
    refine m_geti x L 0 rfl rfl (wm_in uf_260) dX12_setupAtSwitch_14 (fun v10 ev10 wv10 => ?_)
    refine m_top ((ev1).trans ev10.symm) ?_
    refine lv_icmp_ge (tgt := 26) hx hb dX12_setupAtSwitch_17 (by decide) (fun c17_11 => ?_) (fun c17_11 => ?_)
    · skip
      have ic17_11 := Int32.le_iff_toInt_le.mp c17_11
      have q12 : rg (2) (2147483647) p3 := (rg_le c17_11 rv1 q9).2
      have uq12 : (2 : Int) ≤ p3.toInt ∧ p3.toInt ≤ 2147483647 := q12
      refine lv_iconst (v := 1) hx hb dX12_setupAtSwitch_26 (by decide) ?_
      refine lv_goto (tgt := 31) hx hb dX12_setupAtSwitch_27 (by decide) ?_
      refine lv_istore (lv' := [(6, .int (1 : Int32)), (5, .int v2), (0, .ref h0), (1, .int p1), (2, .int p2), (3, .int p3), (4, .int p4)]) hx hb dX12_setupAtSwitch_31 hl (by decide) rfl (fun ls hl => ?_)
      refine lv_iload hx hb dX12_setupAtSwitch_33 (lv_at hl 0 rfl) ?_
      refine lv_if_eq (tgt := 42) hx hb dX12_setupAtSwitch_35 (by decide) (fun c35_13 => ?_) (fun c35_13 => ?_)
      · skip
        exact absurd c35_13 (by decide)
      · skip
        refine lv_iload_n hx hb dX12_setupAtSwitch_38 rfl (lv_at hl 3 rfl) ?_
        refine lv_goto (tgt := 48) hx hb dX12_setupAtSwitch_39 (by decide) ?_
        refine lv_istore (lv' := [(7, .int p1), (6, .int (1 : Int32)), (5, .int v2), (0, .ref h0), (1, .int p1), (2, .int p2), (3, .int p3), (4, .int p4)]) hx hb dX12_setupAtSwitch_48 hl (by decide) rfl (fun ls hl => ?_)
        refine lv_iload hx hb dX12_setupAtSwitch_50 (lv_at hl 1 rfl) ?_
        refine lv_if_eq (tgt := 59) hx hb dX12_setupAtSwitch_52 (by decide) (fun c52_14 => ?_) (fun c52_14 => ?_)
        · skip
          exact absurd c52_14 (by decide)
        · skip
          refine lv_iconst (v := 1) hx hb dX12_setupAtSwitch_55 (by decide) ?_
          refine lv_goto (tgt := 133) hx hb dX12_setupAtSwitch_56 (by decide) ?_
          refine lv_istore (lv' := [(8, .int (1 : Int32)), (7, .int p1), (6, .int (1 : Int32)), (5, .int v2), (0, .ref h0), (1, .int p1), (2, .int p2), (3, .int p3), (4, .int p4)]) hx hb dX12_setupAtSwitch_133 hl (by decide) rfl (fun ls hl => ?_)
          refine lv_iload hx hb dX12_setupAtSwitch_135 (lv_at hl 0 rfl) ?_
          refine lv_if_le (tgt := 152) hx hb dX12_setupAtSwitch_137 (by decide) (fun c137_15 => ?_) (fun c137_15 => ?_)
          · skip
            exact absurd c137_15 (by decide)
          · skip
            refine lv_aload_n hx hb dX12_setupAtSwitch_140 rfl (lv_at hl 4 rfl) ?_
            refine lv_iload_n hx hb dX12_setupAtSwitch_141 rfl (lv_at hl 5 rfl) ?_
            refine lv_iconst (v := 0) hx hb dX12_setupAtSwitch_142 (by decide) ?_
            refine lv_iload_n hx hb dX12_setupAtSwitch_143 rfl (lv_at hl 6 rfl) ?_
            refine lv_bipush (v := 90) hx hb dX12_setupAtSwitch_144 (by decide) ?_
            refine lv_iload hx hb dX12_setupAtSwitch_146 (lv_at hl 0 rfl) ?_
            refine m_cv (As := [.int p1, .int (0 : Int32), .int p2, .int (90 : Int32), .int (1 : Int32)]) (rest := []) x hml L (c_withCause l nn X g p1 (0 : Int32) p2 (90 : Int32) (1 : Int32) hnn hX (rg_w rp1 rfl) (rg_w kc_0 rfl)) (wm_V uc_withCause ul_488 ui_withCause us_withCause u_init) rfl ⟨rfl, rfl⟩ hd_withCause ⟨Nat.le_of_ble_eq_true rfl, Nat.le_of_ble_eq_true rfl⟩ rfl hl.1 rfl (lv_room (Nat.le_of_ble_eq_true rfl)) dX12_setupAtSwitch_148 (fun  g16 H16 k16 hp16 L16 => ?_)
            exact hQ _ _ _ _ _ dX12_setupAtSwitch_151 L16 ⟨(mFr.tr mFr.rf hp16.1 rfl), (mJ_fr hJ hp16.1 rfl), trivial⟩
    · skip
      have b1p3_17 : p3.toInt < 1 * nn := by have := Int32.lt_iff_toInt_lt.mp (rg_nle c17_11); have := lv1; omega
      have ic17_11 := Int32.lt_iff_toInt_lt.mp (rg_nle c17_11)
      have q18 : rg (0) (3) p3 := (rg_lt (rg_nle c17_11) q9 rv1).1
      have uq18 : (0 : Int) ≤ p3.toInt ∧ p3.toInt ≤ 3 := q18
      refine lv_iload_n hx hb dX12_setupAtSwitch_20 rfl (lv_at hl 4 rfl) ?_
      refine lv_iload hx hb dX12_setupAtSwitch_21 (lv_at hl 0 rfl) ?_
      refine lv_icmp_ne (tgt := 30) hx hb dX12_setupAtSwitch_23 (by decide) (fun c23_19 => ?_) (fun c23_19 => ?_)
      · skip
        have ic23_19 : p3.toInt ≠ v2.toInt := fun z => c23_19 (Int32.toInt_inj.mp z)
        refine lv_iconst (v := 0) hx hb dX12_setupAtSwitch_30 (by decide) ?_
        refine lv_istore (lv' := [(6, .int (0 : Int32)), (5, .int v2), (0, .ref h0), (1, .int p1), (2, .int p2), (3, .int p3), (4, .int p4)]) hx hb dX12_setupAtSwitch_31 hl (by decide) rfl (fun ls hl => ?_)
        refine lv_iload hx hb dX12_setupAtSwitch_33 (lv_at hl 0 rfl) ?_
        refine lv_if_eq (tgt := 42) hx hb dX12_setupAtSwitch_35 (by decide) (fun c35_20 => ?_) (fun c35_20 => ?_)
        · skip
          refine lv_aload_n hx hb dX12_setupAtSwitch_42 rfl (lv_at hl 2 rfl) ?_
          refine m_geti x L 0 rfl rfl (wm_in uf_260) dX12_setupAtSwitch_43 (fun v21 ev21 wv21 => ?_)
          refine m_top ((ev1).trans ev21.symm) ?_
          refine lv_iload_n hx hb dX12_setupAtSwitch_46 rfl (lv_at hl 5 rfl) ?_
          refine lv_iadd hx hb dX12_setupAtSwitch_47 ?_
          refine lv_topi (fun v22 ev22 => ?_)
          have rv22 : rg (2) (7) v22 := (rg_add ev22 rv1 q18 rfl).1
          have tv22 := (rg_add ev22 rv1 q18 rfl).2
          have b2v22 : v22.toInt < 2 * nn := by have := lv1; have := b1p3_17; omega
          have uv22 : (2 : Int) ≤ v22.toInt ∧ v22.toInt ≤ 7 := rv22
          refine lv_istore (lv' := [(7, .int v22), (6, .int (0 : Int32)), (5, .int v2), (0, .ref h0), (1, .int p1), (2, .int p2), (3, .int p3), (4, .int p4)]) hx hb dX12_setupAtSwitch_48 hl (by decide) rfl (fun ls hl => ?_)
          refine lv_iload hx hb dX12_setupAtSwitch_50 (lv_at hl 1 rfl) ?_
          refine lv_if_eq (tgt := 59) hx hb dX12_setupAtSwitch_52 (by decide) (fun c52_23 => ?_) (fun c52_23 => ?_)
          · skip
            refine lv_iload hx hb dX12_setupAtSwitch_59 (lv_at hl 7 rfl) ?_
            refine lv_iconst (v := 1) hx hb dX12_setupAtSwitch_61 (by decide) ?_
            refine lv_icmp_lt (tgt := 71) hx hb dX12_setupAtSwitch_62 (by decide) (fun c62_24 => ?_) (fun c62_24 => ?_)
            · skip
              have ic62_24 := Int32.lt_iff_toInt_lt.mp c62_24
              have q25 : rg (-2147483648) (0) p4 := (rg_lt c62_24 (rg_any p4) kc_1).1
              have uq25 : (-2147483648 : Int) ≤ p4.toInt ∧ p4.toInt ≤ 0 := q25
              refine lv_bipush (v := 96) hx hb dX12_setupAtSwitch_71 (by decide) ?_
              refine lv_goto (tgt := 133) hx hb dX12_setupAtSwitch_73 (by decide) ?_
              refine lv_istore (lv' := [(8, .int (96 : Int32)), (7, .int v22), (6, .int (0 : Int32)), (5, .int v2), (0, .ref h0), (1, .int p1), (2, .int p2), (3, .int p3), (4, .int p4)]) hx hb dX12_setupAtSwitch_133 hl (by decide) rfl (fun ls hl => ?_)
              refine lv_iload hx hb dX12_setupAtSwitch_135 (lv_at hl 0 rfl) ?_
              refine lv_if_le (tgt := 152) hx hb dX12_setupAtSwitch_137 (by decide) (fun c137_26 => ?_) (fun c137_26 => ?_)
              · skip
                exact absurd c137_26 (by decide)
              · skip
                refine lv_aload_n hx hb dX12_setupAtSwitch_140 rfl (lv_at hl 4 rfl) ?_
                refine lv_iload_n hx hb dX12_setupAtSwitch_141 rfl (lv_at hl 5 rfl) ?_
                refine lv_iconst (v := 0) hx hb dX12_setupAtSwitch_142 (by decide) ?_
                refine lv_iload_n hx hb dX12_setupAtSwitch_143 rfl (lv_at hl 6 rfl) ?_
                refine lv_bipush (v := 90) hx hb dX12_setupAtSwitch_144 (by decide) ?_
                refine lv_iload hx hb dX12_setupAtSwitch_146 (lv_at hl 0 rfl) ?_
                refine m_cv (As := [.int p1, .int (0 : Int32), .int p2, .int (90 : Int32), .int (96 : Int32)]) (rest := []) x hml L (c_withCause l nn X g p1 (0 : Int32) p2 (90 : Int32) (96 : Int32) hnn hX (rg_w rp1 rfl) (rg_w kc_0 rfl)) (wm_V uc_withCause ul_488 ui_withCause us_withCause u_init) rfl ⟨rfl, rfl⟩ hd_withCause ⟨Nat.le_of_ble_eq_true rfl, Nat.le_of_ble_eq_true rfl⟩ rfl hl.1 rfl (lv_room (Nat.le_of_ble_eq_true rfl)) dX12_setupAtSwitch_148 (fun  g27 H27 k27 hp27 L27 => ?_)
                exact hQ _ _ _ _ _ dX12_setupAtSwitch_151 L27 ⟨(mFr.tr mFr.rf hp27.1 rfl), (mJ_fr hJ hp27.1 rfl), trivial⟩
            · skip
              have ic62_24 := Int32.le_iff_toInt_le.mp (rg_nlt c62_24)
              have q28 : rg (1) (2147483647) p4 := (rg_le (rg_nlt c62_24) kc_1 (rg_any p4)).2
              have uq28 : (1 : Int) ≤ p4.toInt ∧ p4.toInt ≤ 2147483647 := q28
              refine lv_iload hx hb dX12_setupAtSwitch_65 (lv_at hl 7 rfl) ?_
              refine lv_iconst (v := 3) hx hb dX12_setupAtSwitch_67 (by decide) ?_
              refine lv_icmp_le (tgt := 76) hx hb dX12_setupAtSwitch_68 (by decide) (fun c68_29 => ?_) (fun c68_29 => ?_)
              · skip
                have ic68_29 := Int32.le_iff_toInt_le.mp c68_29
                have q30 : rg (1) (3) p4 := (rg_le c68_29 q28 kc_3).1
                have uq30 : (1 : Int) ≤ p4.toInt ∧ p4.toInt ≤ 3 := q30
                refine lv_aload_n hx hb dX12_setupAtSwitch_76 rfl (lv_at hl 3 rfl) ?_
                refine lv_iload_n hx hb dX12_setupAtSwitch_77 rfl (lv_at hl 4 rfl) ?_
                refine m_ci (As := [.int p1]) (rest := []) x hml L (c_openCalls l nn X g p1 hnn hX (rg_w rp1 rfl)) (wm_V uc_openCalls ul_546 ui_openCalls us_openCalls u_init) rfl ⟨rfl, rfl⟩ hd_openCalls ⟨Nat.le_of_ble_eq_true rfl, Nat.le_of_ble_eq_true rfl⟩ rfl hl.1 rfl (lv_room (Nat.le_of_ble_eq_true rfl)) dX12_setupAtSwitch_78 (fun v32 g31 H31 k31 hp31 L31 => ?_)
                have rv32 : rg (-2147483648) (2147483647) v32 := hp31.2.1
                have uv32 : (-2147483648 : Int) ≤ v32.toInt ∧ v32.toInt ≤ 2147483647 := rv32
                refine lv_bipush (v := 8) hx hb dX12_setupAtSwitch_81 (by decide) ?_
                refine lv_icmp_eq (tgt := 97) hx hb dX12_setupAtSwitch_83 (by decide) (fun c83_33 => ?_) (fun c83_33 => ?_)
                · skip
                  have ic83_33 := congrArg Int32.toInt c83_33
                  have y34 : (8 : Int32).toInt = 8 := by decide
                  have q35 : rg (8) (8) v32 := (rg_eq c83_33 rv32 kc_8).1
                  have uq35 : (8 : Int) ≤ v32.toInt ∧ v32.toInt ≤ 8 := q35
                  refine lv_bipush (v := 47) hx hb dX12_setupAtSwitch_97 (by decide) ?_
                  refine lv_goto (tgt := 133) hx hb dX12_setupAtSwitch_99 (by decide) ?_
                  refine lv_istore (lv' := [(8, .int (47 : Int32)), (7, .int v22), (6, .int (0 : Int32)), (5, .int v2), (0, .ref h0), (1, .int p1), (2, .int p2), (3, .int p3), (4, .int p4)]) hx hb dX12_setupAtSwitch_133 hl (by decide) rfl (fun ls hl => ?_)
                  refine lv_iload hx hb dX12_setupAtSwitch_135 (lv_at hl 0 rfl) ?_
                  refine lv_if_le (tgt := 152) hx hb dX12_setupAtSwitch_137 (by decide) (fun c137_36 => ?_) (fun c137_36 => ?_)
                  · skip
                    exact absurd c137_36 (by decide)
                  · skip
                    refine lv_aload_n hx hb dX12_setupAtSwitch_140 rfl (lv_at hl 4 rfl) ?_
                    refine lv_iload_n hx hb dX12_setupAtSwitch_141 rfl (lv_at hl 5 rfl) ?_
                    refine lv_iconst (v := 0) hx hb dX12_setupAtSwitch_142 (by decide) ?_
                    refine lv_iload_n hx hb dX12_setupAtSwitch_143 rfl (lv_at hl 6 rfl) ?_
                    refine lv_bipush (v := 90) hx hb dX12_setupAtSwitch_144 (by decide) ?_
                    refine lv_iload hx hb dX12_setupAtSwitch_146 (lv_at hl 0 rfl) ?_
                    refine m_cv (As := [.int p1, .int (0 : Int32), .int p2, .int (90 : Int32), .int (47 : Int32)]) (rest := []) x hml L31 (c_withCause l nn X g31 p1 (0 : Int32) p2 (90 : Int32) (47 : Int32) hnn hX (rg_w rp1 rfl) (rg_w kc_0 rfl)) (wm_V uc_withCause ul_488 ui_withCause us_withCause u_init) rfl ⟨rfl, rfl⟩ hd_withCause ⟨Nat.le_of_ble_eq_true rfl, Nat.le_of_ble_eq_true rfl⟩ rfl hl.1 rfl (lv_room (Nat.le_of_ble_eq_true rfl)) dX12_setupAtSwitch_148 (fun  g37 H37 k37 hp37 L37 => ?_)
                    exact hQ _ _ _ _ _ dX12_setupAtSwitch_151 L37 ⟨(mFr.tr (mFr.tr mFr.rf hp31.1 rfl) hp37.1 rfl), (mJ_fr (mJ_fr hJ hp31.1 rfl) hp37.1 rfl), trivial⟩
                · skip
                  have ic83_33 : v32.toInt ≠ (8 : Int32).toInt := fun z => c83_33 (Int32.toInt_inj.mp z)
                  have y38 : (8 : Int32).toInt = 8 := by decide
                  refine lv_aload_n hx hb dX12_setupAtSwitch_86 rfl (lv_at hl 3 rfl) ?_
                  refine lv_iload hx hb dX12_setupAtSwitch_87 (lv_at hl 0 rfl) ?_
                  refine m_ci (As := [.int v22]) (rest := []) x hml L31 (c_openCalls l nn X g31 v22 hnn hX (rg_w rv22 rfl)) (wm_V uc_openCalls ul_546 ui_openCalls us_openCalls u_init) rfl ⟨rfl, rfl⟩ hd_openCalls ⟨Nat.le_of_ble_eq_true rfl, Nat.le_of_ble_eq_true rfl⟩ rfl hl.1 rfl (lv_room (Nat.le_of_ble_eq_true rfl)) dX12_setupAtSwitch_89 (fun v40 g39 H39 k39 hp39 L39 => ?_)
                  have rv40 : rg (-2147483648) (2147483647) v40 := hp39.2.1
                  have uv40 : (-2147483648 : Int) ≤ v40.toInt ∧ v40.toInt ≤ 2147483647 := rv40
                  refine lv_bipush (v := 8) hx hb dX12_setupAtSwitch_92 (by decide) ?_
                  refine lv_icmp_ne (tgt := 102) hx hb dX12_setupAtSwitch_94 (by decide) (fun c94_41 => ?_) (fun c94_41 => ?_)
                  · skip
                    have ic94_41 : v40.toInt ≠ (8 : Int32).toInt := fun z => c94_41 (Int32.toInt_inj.mp z)
                    have y42 : (8 : Int32).toInt = 8 := by decide
                    refine lv_aload_n hx hb dX12_setupAtSwitch_102 rfl (lv_at hl 3 rfl) ?_
                    refine lv_iload_n hx hb dX12_setupAtSwitch_103 rfl (lv_at hl 4 rfl) ?_
                    refine m_ci (As := [.int p1]) (rest := []) x hml L39 (c_ratesOf l nn X g39 p1 hnn hX (rg_w rp1 rfl)) (wm_V uc_ratesOf ul_553 ui_ratesOf us_ratesOf u_init) rfl ⟨rfl, rfl⟩ hd_ratesOf ⟨Nat.le_of_ble_eq_true rfl, Nat.le_of_ble_eq_true rfl⟩ rfl hl.1 rfl (lv_room (Nat.le_of_ble_eq_true rfl)) dX12_setupAtSwitch_104 (fun v44 g43 H43 k43 hp43 L43 => ?_)
                    have rv44 : rg (-2147483648) (2147483647) v44 := hp43.2.1
                    have uv44 : (-2147483648 : Int) ≤ v44.toInt ∧ v44.toInt ≤ 2147483647 := rv44
                    have hw45 := hp43.2.2
                    refine lv_iload hx hb dX12_setupAtSwitch_107 (lv_at hl 7 rfl) ?_
                    refine lv_iadd hx hb dX12_setupAtSwitch_109 ?_
                    refine lv_topi (fun v46 ev46 => ?_)
                    have rv46 : rg (-2147483648) (2147483647) v46 := rg_any v46
                    have uv46 : (-2147483648 : Int) ≤ v46.toInt ∧ v46.toInt ≤ 2147483647 := rv46
                    refine lv_iconst (v := 3) hx hb dX12_setupAtSwitch_110 (by decide) ?_
                    refine lv_icmp_gt (tgt := 127) hx hb dX12_setupAtSwitch_111 (by decide) (fun c111_47 => ?_) (fun c111_47 => ?_)
                    · skip
                      have ic111_47 := Int32.lt_iff_toInt_lt.mp c111_47
                      have q48 : rg (4) (2147483647) v46 := (rg_lt c111_47 kc_3 rv46).2
                      have uq48 : (4 : Int) ≤ v46.toInt ∧ v46.toInt ≤ 2147483647 := q48
                      refine lv_bipush (v := 37) hx hb dX12_setupAtSwitch_127 (by decide) ?_
                      refine lv_goto (tgt := 133) hx hb dX12_setupAtSwitch_129 (by decide) ?_
                      refine lv_istore (lv' := [(8, .int (37 : Int32)), (7, .int v22), (6, .int (0 : Int32)), (5, .int v2), (0, .ref h0), (1, .int p1), (2, .int p2), (3, .int p3), (4, .int p4)]) hx hb dX12_setupAtSwitch_133 hl (by decide) rfl (fun ls hl => ?_)
                      refine lv_iload hx hb dX12_setupAtSwitch_135 (lv_at hl 0 rfl) ?_
                      refine lv_if_le (tgt := 152) hx hb dX12_setupAtSwitch_137 (by decide) (fun c137_49 => ?_) (fun c137_49 => ?_)
                      · skip
                        exact absurd c137_49 (by decide)
                      · skip
                        refine lv_aload_n hx hb dX12_setupAtSwitch_140 rfl (lv_at hl 4 rfl) ?_
                        refine lv_iload_n hx hb dX12_setupAtSwitch_141 rfl (lv_at hl 5 rfl) ?_
                        refine lv_iconst (v := 0) hx hb dX12_setupAtSwitch_142 (by decide) ?_
                        refine lv_iload_n hx hb dX12_setupAtSwitch_143 rfl (lv_at hl 6 rfl) ?_
                        refine lv_bipush (v := 90) hx hb dX12_setupAtSwitch_144 (by decide) ?_
                        refine lv_iload hx hb dX12_setupAtSwitch_146 (lv_at hl 0 rfl) ?_
                        refine m_cv (As := [.int p1, .int (0 : Int32), .int p2, .int (90 : Int32), .int (37 : Int32)]) (rest := []) x hml L43 (c_withCause l nn X g43 p1 (0 : Int32) p2 (90 : Int32) (37 : Int32) hnn hX (rg_w rp1 rfl) (rg_w kc_0 rfl)) (wm_V uc_withCause ul_488 ui_withCause us_withCause u_init) rfl ⟨rfl, rfl⟩ hd_withCause ⟨Nat.le_of_ble_eq_true rfl, Nat.le_of_ble_eq_true rfl⟩ rfl hl.1 rfl (lv_room (Nat.le_of_ble_eq_true rfl)) dX12_setupAtSwitch_148 (fun  g50 H50 k50 hp50 L50 => ?_)
                        exact hQ _ _ _ _ _ dX12_setupAtSwitch_151 L50 ⟨(mFr.tr (mFr.tr (mFr.tr (mFr.tr mFr.rf hp31.1 rfl) hp39.1 rfl) hp43.1 rfl) hp50.1 rfl), (mJ_fr (mJ_fr (mJ_fr (mJ_fr hJ hp31.1 rfl) hp39.1 rfl) hp43.1 rfl) hp50.1 rfl), trivial⟩
                    · skip
                      have ic111_47 := Int32.le_iff_toInt_le.mp (rg_nlt c111_47)
                      have q51 : rg (-2147483648) (3) v46 := (rg_le (rg_nlt c111_47) rv46 kc_3).1
                      have uq51 : (-2147483648 : Int) ≤ v46.toInt ∧ v46.toInt ≤ 3 := q51
                      refine lv_aload_n hx hb dX12_setupAtSwitch_114 rfl (lv_at hl 3 rfl) ?_
                      refine lv_iload hx hb dX12_setupAtSwitch_115 (lv_at hl 0 rfl) ?_
                      refine m_ci (As := [.int v22]) (rest := []) x hml L43 (c_ratesOf l nn X g43 v22 hnn hX (rg_w rv22 rfl)) (wm_V uc_ratesOf ul_553 ui_ratesOf us_ratesOf u_init) rfl ⟨rfl, rfl⟩ hd_ratesOf ⟨Nat.le_of_ble_eq_true rfl, Nat.le_of_ble_eq_true rfl⟩ rfl hl.1 rfl (lv_room (Nat.le_of_ble_eq_true rfl)) dX12_setupAtSwitch_117 (fun v53 g52 H52 k52 hp52 L52 => ?_)
                      have rv53 : rg (-2147483648) (2147483647) v53 := hp52.2.1
                      have uv53 : (-2147483648 : Int) ≤ v53.toInt ∧ v53.toInt ≤ 2147483647 := rv53
                      have hw54 := hp52.2.2
                      refine lv_iload hx hb dX12_setupAtSwitch_120 (lv_at hl 7 rfl) ?_
                      refine lv_iadd hx hb dX12_setupAtSwitch_122 ?_
                      refine lv_topi (fun v55 ev55 => ?_)
                      have rv55 : rg (-2147483648) (2147483647) v55 := rg_any v55
                      have uv55 : (-2147483648 : Int) ≤ v55.toInt ∧ v55.toInt ≤ 2147483647 := rv55
                      refine lv_iconst (v := 3) hx hb dX12_setupAtSwitch_123 (by decide) ?_
                      refine lv_icmp_le (tgt := 132) hx hb dX12_setupAtSwitch_124 (by decide) (fun c124_56 => ?_) (fun c124_56 => ?_)
                      · skip
                        have ic124_56 := Int32.le_iff_toInt_le.mp c124_56
                        have q57 : rg (-2147483648) (3) v55 := (rg_le c124_56 rv55 kc_3).1
                        have uq57 : (-2147483648 : Int) ≤ v55.toInt ∧ v55.toInt ≤ 3 := q57
                        refine lv_iconst (v := 0) hx hb dX12_setupAtSwitch_132 (by decide) ?_
                        refine lv_istore (lv' := [(8, .int (0 : Int32)), (7, .int v22), (6, .int (0 : Int32)), (5, .int v2), (0, .ref h0), (1, .int p1), (2, .int p2), (3, .int p3), (4, .int p4)]) hx hb dX12_setupAtSwitch_133 hl (by decide) rfl (fun ls hl => ?_)
                        refine lv_iload hx hb dX12_setupAtSwitch_135 (lv_at hl 0 rfl) ?_
                        refine lv_if_le (tgt := 152) hx hb dX12_setupAtSwitch_137 (by decide) (fun c137_58 => ?_) (fun c137_58 => ?_)
                        · skip
                          refine lv_aload_n hx hb dX12_setupAtSwitch_152 rfl (lv_at hl 4 rfl) ?_
                          refine lv_iload_n hx hb dX12_setupAtSwitch_153 rfl (lv_at hl 5 rfl) ?_
                          refine m_ci (As := [.int p1]) (rest := []) x hml L52 (c_freeChannel l nn X g52 p1 hnn hX (rg_w rp1 rfl)) (wm_V uc_freeChannel ul_556 ui_freeChannel us_freeChannel u_init) rfl ⟨rfl, rfl⟩ hd_freeChannel ⟨Nat.le_of_ble_eq_true rfl, Nat.le_of_ble_eq_true rfl⟩ rfl hl.1 rfl (lv_room (Nat.le_of_ble_eq_true rfl)) dX12_setupAtSwitch_154 (fun v60 g59 H59 k59 hp59 L59 => ?_)
                          have rv60 : rg (32) (72) v60 := hp59.2.1
                          have uv60 : (32 : Int) ≤ v60.toInt ∧ v60.toInt ≤ 72 := rv60
                          refine lv_istore (lv' := [(9, .int v60), (8, .int (0 : Int32)), (7, .int v22), (6, .int (0 : Int32)), (5, .int v2), (0, .ref h0), (1, .int p1), (2, .int p2), (3, .int p3), (4, .int p4)]) hx hb dX12_setupAtSwitch_157 hl (by decide) rfl (fun ls hl => ?_)
                          refine lv_aload_n hx hb dX12_setupAtSwitch_159 rfl (lv_at hl 5 rfl) ?_
                          refine lv_iload hx hb dX12_setupAtSwitch_160 (lv_at hl 2 rfl) ?_
                          refine m_ci (As := [.int v22]) (rest := []) x hml L59 (c_freeChannel l nn X g59 v22 hnn hX (rg_w rv22 rfl)) (wm_V uc_freeChannel ul_556 ui_freeChannel us_freeChannel u_init) rfl ⟨rfl, rfl⟩ hd_freeChannel ⟨Nat.le_of_ble_eq_true rfl, Nat.le_of_ble_eq_true rfl⟩ rfl hl.1 rfl (lv_room (Nat.le_of_ble_eq_true rfl)) dX12_setupAtSwitch_162 (fun v62 g61 H61 k61 hp61 L61 => ?_)
                          have rv62 : rg (32) (72) v62 := hp61.2.1
                          have uv62 : (32 : Int) ≤ v62.toInt ∧ v62.toInt ≤ 72 := rv62
                          refine lv_istore (lv' := [(10, .int v62), (9, .int v60), (8, .int (0 : Int32)), (7, .int v22), (6, .int (0 : Int32)), (5, .int v2), (0, .ref h0), (1, .int p1), (2, .int p2), (3, .int p3), (4, .int p4)]) hx hb dX12_setupAtSwitch_165 hl (by decide) rfl (fun ls hl => ?_)
                          refine lv_aload_n hx hb dX12_setupAtSwitch_167 rfl (lv_at hl 6 rfl) ?_
                          refine lv_iload_n hx hb dX12_setupAtSwitch_168 rfl (lv_at hl 7 rfl) ?_
                          refine lv_iconst (v := 3) hx hb dX12_setupAtSwitch_169 (by decide) ?_
                          refine lv_iconst (v := 0) hx hb dX12_setupAtSwitch_170 (by decide) ?_
                          refine lv_iload_n hx hb dX12_setupAtSwitch_171 rfl (lv_at hl 8 rfl) ?_
                          have ovs := some_over (s := p1.toInt) (mJ_fr (mJ_fr (mJ_fr (mJ_fr (mJ_fr (mJ_fr hJ hp31.1 rfl) hp39.1 rfl) hp43.1 rfl) hp52.1 rfl) hp59.1 rfl) hp61.1 rfl) ((show mFr [] g39 g61 from (mFr.tr (mFr.tr (mFr.tr (mFr.tr mFr.rf hp43.1 rfl) hp52.1 rfl) hp59.1 rfl) hp61.1 rfl)).at 68 rfl) ((show mFr [] g39 g61 from (mFr.tr (mFr.tr (mFr.tr (mFr.tr mFr.rf hp43.1 rfl) hp52.1 rfl) hp59.1 rfl) hp61.1 rfl)).at 72 rfl) (by omega) hw45 ev46 (by omega) (by omega)
                          have ovt := some_over (s := v22.toInt) (mJ_fr (mJ_fr (mJ_fr (mJ_fr (mJ_fr (mJ_fr hJ hp31.1 rfl) hp39.1 rfl) hp43.1 rfl) hp52.1 rfl) hp59.1 rfl) hp61.1 rfl) ((show mFr [] g43 g61 from (mFr.tr (mFr.tr (mFr.tr mFr.rf hp52.1 rfl) hp59.1 rfl) hp61.1 rfl)).at 68 rfl) ((show mFr [] g43 g61 from (mFr.tr (mFr.tr (mFr.tr mFr.rf hp52.1 rfl) hp59.1 rfl) hp61.1 rfl)).at 72 rfl) (by omega) hw54 ev55 (by omega) (by omega)
                          refine m_ci (As := [.int p1, .int (3 : Int32), .int (0 : Int32), .int p2]) (rest := []) x hml L61 (c_newCall l nn X g61 p1 (3 : Int32) (0 : Int32) p2 hnn hX (mJ_fr (mJ_fr (mJ_fr (mJ_fr (mJ_fr (mJ_fr hJ hp31.1 rfl) hp39.1 rfl) hp43.1 rfl) hp52.1 rfl) hp59.1 rfl) hp61.1 rfl) (rg_w rp1 rfl) np1 (rg_w kc_3 rfl) (rg_w kc_0 rfl) (fun h => absurd h (by omega)) (fun _ => ovs)) (wm_V uc_newCall ul_549 ui_newCall us_newCall u_init) rfl ⟨rfl, rfl⟩ hd_newCall ⟨Nat.le_of_ble_eq_true rfl, Nat.le_of_ble_eq_true rfl⟩ rfl hl.1 rfl (lv_room (Nat.le_of_ble_eq_true rfl)) dX12_setupAtSwitch_172 (fun v64 g63 H63 k63 hp63 L63 => ?_)
                          have rv64 : rg (0) (319) v64 := hp63.2.1
                          have uv64 : (0 : Int) ≤ v64.toInt ∧ v64.toInt ≤ 319 := rv64
                          obtain ⟨v65, ev65⟩ : ∃ y : Int32, y = g63 68 v64.toNatClampNeg := ⟨_, rfl⟩
                          have rv65 : rg (1) (11) v65 := rg_eqv ev65.symm hp63.2.2.2.1
                          have uv65 : (1 : Int) ≤ v65.toInt ∧ v65.toInt ≤ 11 := rv65
                          obtain ⟨v66, ev66⟩ : ∃ y : Int32, y = g63 77 v64.toNatClampNeg := ⟨_, rfl⟩
                          have rv66 : rg (-2) (-2) v66 := rg_eqv ev66.symm hp63.2.2.2.2.1
                          have uv66 : (-2 : Int) ≤ v66.toInt ∧ v66.toInt ≤ -2 := rv66
                          have hw67 := hp63.2.2.2.2.2.1
                          have hw68 := hp63.2.2.2.2.2.2.1
                          have hw69 := hp63.2.2.2.2.2.2.2
                          refine lv_istore (lv' := [(11, .int v64), (10, .int v62), (9, .int v60), (8, .int (0 : Int32)), (7, .int v22), (6, .int (0 : Int32)), (5, .int v2), (0, .ref h0), (1, .int p1), (2, .int p2), (3, .int p3), (4, .int p4)]) hx hb dX12_setupAtSwitch_175 hl (by decide) rfl (fun ls hl => ?_)
                          refine lv_aload_n hx hb dX12_setupAtSwitch_177 rfl (lv_at hl 7 rfl) ?_
                          refine m_geta x L63 81 rfl rfl (wm_in uf_228) dX12_setupAtSwitch_178 ?_
                          refine lv_iload hx hb dX12_setupAtSwitch_181 (lv_at hl 4 rfl) ?_
                          refine lv_dup2_11 hx hb dX12_setupAtSwitch_183 rfl rfl ?_
                          refine m_ld x L63 81 rfl rv22 rfl dX12_setupAtSwitch_184 (fun v70 ev70 wv70 => ?_)
                          have rv70 : rg (-2147483648) (2147483647) v70 := lj_81 wv70
                          have uv70 : (-2147483648 : Int) ≤ v70.toInt ∧ v70.toInt ≤ 2147483647 := rv70
                          refine lv_iconst (v := 1) hx hb dX12_setupAtSwitch_185 (by decide) ?_
                          refine lv_iadd hx hb dX12_setupAtSwitch_186 ?_
                          refine lv_topi (fun v71 ev71 => ?_)
                          have rv71 : rg (-2147483648) (2147483647) v71 := rg_any v71
                          have uv71 : (-2147483648 : Int) ≤ v71.toInt ∧ v71.toInt ≤ 2147483647 := rv71
                          refine m_st x L63 81 rfl rv22 rfl (rj_81 (rg_any v71)) dX12_setupAtSwitch_187 (fun g72 H72 k72 eg72 L72 => ?_)
                          refine lv_aload_n hx hb dX12_setupAtSwitch_188 rfl (lv_at hl 7 rfl) ?_
                          refine lv_iload hx hb dX12_setupAtSwitch_189 (lv_at hl 4 rfl) ?_
                          refine lv_bipush (v := 6) hx hb dX12_setupAtSwitch_191 (by decide) ?_
                          refine lv_iconst (v := 1) hx hb dX12_setupAtSwitch_193 (by decide) ?_
                          refine lv_aload_n hx hb dX12_setupAtSwitch_194 rfl (lv_at hl 7 rfl) ?_
                          refine m_geta x L72 81 rfl rfl (wm_in uf_228) dX12_setupAtSwitch_195 ?_
                          refine lv_iload hx hb dX12_setupAtSwitch_198 (lv_at hl 4 rfl) ?_
                          refine m_ld x L72 81 rfl rv22 rfl dX12_setupAtSwitch_200 (fun v73 ev73 wv73 => ?_)
                          refine m_top (((mm_st eg72)).trans ev73.symm) ?_
                          refine m_ci (As := [.int v22, .int (6 : Int32), .int (1 : Int32), .int v71]) (rest := []) x hml L72 (c_newCall l nn X g72 v22 (6 : Int32) (1 : Int32) v71 hnn hX (mJ_up hp63.2.2.1 eg72 rfl) (rg_w rv22 rfl) b2v22 (rg_w kc_6 rfl) (rg_w kc_1 rfl) (fun h => absurd h (by omega)) (fun _ => by obtain ⟨i, h1, h2, h3⟩ := ovt; have w := hw67 i (fun q => by have q2 : i = v64.toInt.toNat := q; omega); exact ⟨i, h1, h2, by rw [← mm_up w.symm eg72 rfl]; exact h3⟩)) (wm_V uc_newCall ul_549 ui_newCall us_newCall u_init) rfl ⟨rfl, rfl⟩ hd_newCall ⟨Nat.le_of_ble_eq_true rfl, Nat.le_of_ble_eq_true rfl⟩ rfl hl.1 rfl (lv_room (Nat.le_of_ble_eq_true rfl)) dX12_setupAtSwitch_201 (fun v75 g74 H74 k74 hp74 L74 => ?_)
                          have rv75 : rg (0) (319) v75 := hp74.2.1
                          have uv75 : (0 : Int) ≤ v75.toInt ∧ v75.toInt ≤ 319 := rv75
                          obtain ⟨v76, ev76⟩ : ∃ y : Int32, y = g74 68 v75.toNatClampNeg := ⟨_, rfl⟩
                          have rv76 : rg (1) (11) v76 := rg_eqv ev76.symm hp74.2.2.2.1
                          have uv76 : (1 : Int) ≤ v76.toInt ∧ v76.toInt ≤ 11 := rv76
                          obtain ⟨v77, ev77⟩ : ∃ y : Int32, y = g74 77 v75.toNatClampNeg := ⟨_, rfl⟩
                          have rv77 : rg (-2) (-2) v77 := rg_eqv ev77.symm hp74.2.2.2.2.1
                          have uv77 : (-2 : Int) ≤ v77.toInt ∧ v77.toInt ≤ -2 := rv77
                          have hw78 := hp74.2.2.2.2.2.1
                          have hw79 := hp74.2.2.2.2.2.2.1
                          have hw80 := hp74.2.2.2.2.2.2.2
                          refine lv_istore (lv' := [(12, .int v75), (11, .int v64), (10, .int v62), (9, .int v60), (8, .int (0 : Int32)), (7, .int v22), (6, .int (0 : Int32)), (5, .int v2), (0, .ref h0), (1, .int p1), (2, .int p2), (3, .int p3), (4, .int p4)]) hx hb dX12_setupAtSwitch_204 hl (by decide) rfl (fun ls hl => ?_)
                          refine lv_aload_n hx hb dX12_setupAtSwitch_206 rfl (lv_at hl 8 rfl) ?_
                          refine m_geta x L74 72 rfl rfl (wm_in uf_204) dX12_setupAtSwitch_207 ?_
                          refine lv_iload hx hb dX12_setupAtSwitch_210 (lv_at hl 1 rfl) ?_
                          refine lv_iload hx hb dX12_setupAtSwitch_212 (lv_at hl 12 rfl) ?_
                          refine m_st x L74 72 rfl rv64 rfl (rj_72 (rg_any p4)) dX12_setupAtSwitch_214 (fun g81 H81 k81 eg81 L81 => ?_)
                          have hcp : v64.toNatClampNeg ≠ v75.toNatClampNeg := fun q => by have q2 : v64.toInt.toNat = v75.toInt.toNat := q; omega
                          have hJ82 := mJ_72s hp74.2.2.1 rv64.1 eg81 q30 rfl (fun _ => Or.inl (by rw [hw79 _ hcp, ← (mm_up ev66 eg72 rfl)]; omega))
                          refine lv_aload_n hx hb dX12_setupAtSwitch_215 rfl (lv_at hl 8 rfl) ?_
                          refine m_geta x L81 72 rfl rfl (wm_in uf_204) dX12_setupAtSwitch_216 ?_
                          refine lv_iload hx hb dX12_setupAtSwitch_219 (lv_at hl 0 rfl) ?_
                          refine lv_iload hx hb dX12_setupAtSwitch_221 (lv_at hl 12 rfl) ?_
                          refine m_st x L81 72 rfl rv75 rfl (rj_72 (rg_any p4)) dX12_setupAtSwitch_223 (fun g83 H83 k83 eg83 L83 => ?_)
                          have hA := mJ_72s hJ82 rv75.1 eg83 q30 rfl (fun _ => Or.inl (by rw [← (mm_up ev77 eg81 rfl)]; omega))
                          have h13 : r13 p4 := ⟨by omega, by omega⟩
                          have h72p : r13 (g83 72 v75.toNatClampNeg) := by rw [← mm_st eg83]; exact h13
                          have h72c : r13 (g83 72 v64.toNatClampNeg) := by rw [← mm_un (mm_st eg81) eg83 hcp]; exact h13
                          have hJ84 := mJ_told (mJ_told hA rv75.1 h72p) (by omega) h72c
                          refine lv_aload_n hx hb dX12_setupAtSwitch_224 rfl (lv_at hl 8 rfl) ?_
                          refine m_geta x L83 73 rfl rfl (wm_in uf_207) dX12_setupAtSwitch_225 ?_
                          refine lv_iload hx hb dX12_setupAtSwitch_228 (lv_at hl 1 rfl) ?_
                          refine lv_iload_n hx hb dX12_setupAtSwitch_230 rfl (lv_at hl 11 rfl) ?_
                          refine m_st x L83 73 rfl rv64 rfl (rj_73 (rg_any p3)) dX12_setupAtSwitch_231 (fun g85 H85 k85 eg85 L85 => ?_)
                          refine lv_aload_n hx hb dX12_setupAtSwitch_232 rfl (lv_at hl 8 rfl) ?_
                          refine m_geta x L85 73 rfl rfl (wm_in uf_207) dX12_setupAtSwitch_233 ?_
                          refine lv_iload hx hb dX12_setupAtSwitch_236 (lv_at hl 0 rfl) ?_
                          refine lv_iload hx hb dX12_setupAtSwitch_238 (lv_at hl 7 rfl) ?_
                          refine m_st x L85 73 rfl rv75 rfl (rj_73 (rg_any v2)) dX12_setupAtSwitch_240 (fun g86 H86 k86 eg86 L86 => ?_)
                          refine lv_aload_n hx hb dX12_setupAtSwitch_241 rfl (lv_at hl 8 rfl) ?_
                          refine m_geta x L86 71 rfl rfl (wm_in uf_201) dX12_setupAtSwitch_242 ?_
                          refine lv_iload hx hb dX12_setupAtSwitch_245 (lv_at hl 1 rfl) ?_
                          refine lv_iload hx hb dX12_setupAtSwitch_247 (lv_at hl 3 rfl) ?_
                          refine m_st x L86 71 rfl rv64 rfl (rj_71 (rg_any v60)) dX12_setupAtSwitch_249 (fun g87 H87 k87 eg87 L87 => ?_)
                          refine lv_aload_n hx hb dX12_setupAtSwitch_250 rfl (lv_at hl 8 rfl) ?_
                          refine m_geta x L87 71 rfl rfl (wm_in uf_201) dX12_setupAtSwitch_251 ?_
                          refine lv_iload hx hb dX12_setupAtSwitch_254 (lv_at hl 0 rfl) ?_
                          refine lv_iload hx hb dX12_setupAtSwitch_256 (lv_at hl 2 rfl) ?_
                          refine m_st x L87 71 rfl rv75 rfl (rj_71 (rg_any v62)) dX12_setupAtSwitch_258 (fun g88 H88 k88 eg88 L88 => ?_)
                          refine lv_aload_n hx hb dX12_setupAtSwitch_259 rfl (lv_at hl 8 rfl) ?_
                          refine m_geta x L88 77 rfl rfl (wm_in uf_219) dX12_setupAtSwitch_260 ?_
                          refine lv_iload hx hb dX12_setupAtSwitch_263 (lv_at hl 1 rfl) ?_
                          refine lv_iload hx hb dX12_setupAtSwitch_265 (lv_at hl 0 rfl) ?_
                          refine m_st x L88 77 rfl rv64 rfl (show rg (-2) (80 * nn - 1) v75 from ⟨by omega, by omega⟩) dX12_setupAtSwitch_267 (fun g89 H89 k89 eg89 L89 => ?_)
                          have hJ90 := mJ_77s (mJ_up (mJ_up (mJ_up (mJ_up hJ84 eg85 rfl) eg86 rfl) eg87 rfl) eg88 rfl) eg89 (by omega) (by rw [← (show g83 72 v75.toNatClampNeg = g88 72 v75.toNatClampNeg from (mm_up (mm_up (mm_up (mm_up rfl eg85 rfl) eg86 rfl) eg87 rfl) eg88 rfl))]; exact h72p)
                          refine lv_aload_n hx hb dX12_setupAtSwitch_268 rfl (lv_at hl 8 rfl) ?_
                          refine m_geta x L89 77 rfl rfl (wm_in uf_219) dX12_setupAtSwitch_269 ?_
                          refine lv_iload hx hb dX12_setupAtSwitch_272 (lv_at hl 0 rfl) ?_
                          refine lv_iload hx hb dX12_setupAtSwitch_274 (lv_at hl 1 rfl) ?_
                          refine m_st x L89 77 rfl rv75 rfl (show rg (-2) (80 * nn - 1) v64 from ⟨by omega, by omega⟩) dX12_setupAtSwitch_276 (fun g91 H91 k91 eg91 L91 => ?_)
                          have hJ92 := mJ_77s hJ90 eg91 (by omega) (by rw [← (show g83 72 v64.toNatClampNeg = g89 72 v64.toNatClampNeg from (mm_up (mm_up (mm_up (mm_up (mm_up rfl eg85 rfl) eg86 rfl) eg87 rfl) eg88 rfl) eg89 rfl))]; exact h72c)
                          refine lv_aload_n hx hb dX12_setupAtSwitch_277 rfl (lv_at hl 8 rfl) ?_
                          refine lv_iconst (v := 0) hx hb dX12_setupAtSwitch_278 (by decide) ?_
                          refine lv_iload_n hx hb dX12_setupAtSwitch_279 rfl (lv_at hl 10 rfl) ?_
                          refine lv_iconst (v := 2) hx hb dX12_setupAtSwitch_280 (by decide) ?_
                          refine lv_bipush (v := 6) hx hb dX12_setupAtSwitch_281 (by decide) ?_
                          refine m_cv (As := [.int (0 : Int32), .int p2, .int (2 : Int32), .int (6 : Int32)]) (rest := []) x hml L91 (c_beginText l nn X g91 (0 : Int32) p2 (2 : Int32) (6 : Int32) hnn hX (rg_w kc_0 rfl)) (wm_V uc_beginText ul_475 ui_beginText us_beginText u_init) rfl ⟨rfl, rfl⟩ hd_beginText ⟨Nat.le_of_ble_eq_true rfl, Nat.le_of_ble_eq_true rfl⟩ rfl hl.1 rfl (lv_room (Nat.le_of_ble_eq_true rfl)) dX12_setupAtSwitch_283 (fun  g93 H93 k93 hp93 L93 => ?_)
                          obtain ⟨v94, ev94⟩ : ∃ y : Int32, y = g93 91 0 := ⟨_, rfl⟩
                          have rv94 : rg (9) (9) v94 := rg_eqv ev94.symm hp93.2
                          have uv94 : (9 : Int) ≤ v94.toInt ∧ v94.toInt ≤ 9 := rv94
                          refine lv_aload_n hx hb dX12_setupAtSwitch_286 rfl (lv_at hl 8 rfl) ?_
                          refine lv_bipush (v := 90) hx hb dX12_setupAtSwitch_287 (by decide) ?_
                          refine lv_iconst (v := 2) hx hb dX12_setupAtSwitch_289 (by decide) ?_
                          refine lv_iload hx hb dX12_setupAtSwitch_290 (lv_at hl 3 rfl) ?_
                          refine m_cv (As := [.int (90 : Int32), .int (2 : Int32), .int v60]) (rest := []) x hml L93 (c_element l nn X g93 (90 : Int32) (2 : Int32) v60 hnn hX (rg_w kc_2 rfl) (rg_eqv ev94 (rg_w rv94 rfl))) (wm_V uc_element ul_482 ui_element us_element u_init) rfl ⟨rfl, rfl⟩ hd_element ⟨Nat.le_of_ble_eq_true rfl, Nat.le_of_ble_eq_true rfl⟩ rfl hl.1 rfl (lv_room (Nat.le_of_ble_eq_true rfl)) dX12_setupAtSwitch_292 (fun  g95 H95 k95 hp95 L95 => ?_)
                          obtain ⟨v96, ev96⟩ : ∃ y : Int32, y = g95 91 0 := ⟨_, rfl⟩
                          have rv96 : rg (14) (15) v96 := rg_rel ev94 ev96 rv94 hp95.2 rfl
                          have hv96 := rel_conv ev94 ev96 hp95.2
                          have uv96 : (14 : Int) ≤ v96.toInt ∧ v96.toInt ≤ 15 := rv96
                          refine lv_aload_n hx hb dX12_setupAtSwitch_295 rfl (lv_at hl 8 rfl) ?_
                          refine lv_iload_n hx hb dX12_setupAtSwitch_296 rfl (lv_at hl 9 rfl) ?_
                          refine m_cv (As := [.int p1]) (rest := []) x hml L95 (c_sendText l nn X g95 p1 hnn hX (rg_w rp1 rfl)) (wm_V uc_sendText ul_479 ui_sendText us_sendText u_init) rfl ⟨rfl, rfl⟩ hd_sendText ⟨Nat.le_of_ble_eq_true rfl, Nat.le_of_ble_eq_true rfl⟩ rfl hl.1 rfl (lv_room (Nat.le_of_ble_eq_true rfl)) dX12_setupAtSwitch_297 (fun  g97 H97 k97 hp97 L97 => ?_)
                          refine lv_aload_n hx hb dX12_setupAtSwitch_300 rfl (lv_at hl 8 rfl) ?_
                          refine lv_iload hx hb dX12_setupAtSwitch_301 (lv_at hl 0 rfl) ?_
                          refine m_cv (As := [.int v75]) (rest := []) x hml L97 (c_sendSetup l nn X g97 v75 hnn hX (rg_w rv75 rfl)) (wm_V uc_sendSetup ul_513 ui_sendSetup us_sendSetup u_init) rfl ⟨rfl, rfl⟩ hd_sendSetup ⟨Nat.le_of_ble_eq_true rfl, Nat.le_of_ble_eq_true rfl⟩ rfl hl.1 rfl (lv_room (Nat.le_of_ble_eq_true rfl)) dX12_setupAtSwitch_303 (fun  g98 H98 k98 hp98 L98 => ?_)
                          exact hQ _ _ _ _ _ dX12_setupAtSwitch_306 L98 ⟨(mFr.tr (mFr.tr (mFr.tr (mFr.tr (mFr.upE (mFr.upE (mFr.upE (mFr.upE (mFr.upE (mFr.upE (mFr.upE (mFr.upE (mFr.tr (mFr.upE (mFr.tr (mFr.tr (mFr.tr (mFr.tr (mFr.tr (mFr.tr (mFr.tr mFr.rf hp31.1 rfl) hp39.1 rfl) hp43.1 rfl) hp52.1 rfl) hp59.1 rfl) hp61.1 rfl) hp63.1 rfl) eg72 rfl) hp74.1 rfl) eg81 rfl) eg83 rfl) eg85 rfl) eg86 rfl) eg87 rfl) eg88 rfl) eg89 rfl) eg91 rfl) hp93.1 rfl) hp95.1 rfl) hp97.1 rfl) hp98.1 rfl), (mJ_fr (mJ_fr (mJ_fr (mJ_fr hJ92 hp93.1 rfl) hp95.1 rfl) hp97.1 rfl) hp98.1 rfl), trivial⟩
                        · skip
                          exact absurd c137_58 (by decide)
                      · skip
                        have ic124_56 := Int32.lt_iff_toInt_lt.mp (rg_nle c124_56)
                        have q99 : rg (4) (2147483647) v55 := (rg_lt (rg_nle c124_56) kc_3 rv55).2
                        have uq99 : (4 : Int) ≤ v55.toInt ∧ v55.toInt ≤ 2147483647 := q99
                        refine lv_bipush (v := 37) hx hb dX12_setupAtSwitch_127 (by decide) ?_
                        refine lv_goto (tgt := 133) hx hb dX12_setupAtSwitch_129 (by decide) ?_
                        refine lv_istore (lv' := [(8, .int (37 : Int32)), (7, .int v22), (6, .int (0 : Int32)), (5, .int v2), (0, .ref h0), (1, .int p1), (2, .int p2), (3, .int p3), (4, .int p4)]) hx hb dX12_setupAtSwitch_133 hl (by decide) rfl (fun ls hl => ?_)
                        refine lv_iload hx hb dX12_setupAtSwitch_135 (lv_at hl 0 rfl) ?_
                        refine lv_if_le (tgt := 152) hx hb dX12_setupAtSwitch_137 (by decide) (fun c137_100 => ?_) (fun c137_100 => ?_)
                        · skip
                          exact absurd c137_100 (by decide)
                        · skip
                          refine lv_aload_n hx hb dX12_setupAtSwitch_140 rfl (lv_at hl 4 rfl) ?_
                          refine lv_iload_n hx hb dX12_setupAtSwitch_141 rfl (lv_at hl 5 rfl) ?_
                          refine lv_iconst (v := 0) hx hb dX12_setupAtSwitch_142 (by decide) ?_
                          refine lv_iload_n hx hb dX12_setupAtSwitch_143 rfl (lv_at hl 6 rfl) ?_
                          refine lv_bipush (v := 90) hx hb dX12_setupAtSwitch_144 (by decide) ?_
                          refine lv_iload hx hb dX12_setupAtSwitch_146 (lv_at hl 0 rfl) ?_
                          refine m_cv (As := [.int p1, .int (0 : Int32), .int p2, .int (90 : Int32), .int (37 : Int32)]) (rest := []) x hml L52 (c_withCause l nn X g52 p1 (0 : Int32) p2 (90 : Int32) (37 : Int32) hnn hX (rg_w rp1 rfl) (rg_w kc_0 rfl)) (wm_V uc_withCause ul_488 ui_withCause us_withCause u_init) rfl ⟨rfl, rfl⟩ hd_withCause ⟨Nat.le_of_ble_eq_true rfl, Nat.le_of_ble_eq_true rfl⟩ rfl hl.1 rfl (lv_room (Nat.le_of_ble_eq_true rfl)) dX12_setupAtSwitch_148 (fun  g101 H101 k101 hp101 L101 => ?_)
                          exact hQ _ _ _ _ _ dX12_setupAtSwitch_151 L101 ⟨(mFr.tr (mFr.tr (mFr.tr (mFr.tr (mFr.tr mFr.rf hp31.1 rfl) hp39.1 rfl) hp43.1 rfl) hp52.1 rfl) hp101.1 rfl), (mJ_fr (mJ_fr (mJ_fr (mJ_fr (mJ_fr hJ hp31.1 rfl) hp39.1 rfl) hp43.1 rfl) hp52.1 rfl) hp101.1 rfl), trivial⟩
                  · skip
                    have ic94_41 := congrArg Int32.toInt c94_41
                    have y102 : (8 : Int32).toInt = 8 := by decide
                    have q103 : rg (8) (8) v40 := (rg_eq c94_41 rv40 kc_8).1
                    have uq103 : (8 : Int) ≤ v40.toInt ∧ v40.toInt ≤ 8 := q103
                    refine lv_bipush (v := 47) hx hb dX12_setupAtSwitch_97 (by decide) ?_
                    refine lv_goto (tgt := 133) hx hb dX12_setupAtSwitch_99 (by decide) ?_
                    refine lv_istore (lv' := [(8, .int (47 : Int32)), (7, .int v22), (6, .int (0 : Int32)), (5, .int v2), (0, .ref h0), (1, .int p1), (2, .int p2), (3, .int p3), (4, .int p4)]) hx hb dX12_setupAtSwitch_133 hl (by decide) rfl (fun ls hl => ?_)
                    refine lv_iload hx hb dX12_setupAtSwitch_135 (lv_at hl 0 rfl) ?_
                    refine lv_if_le (tgt := 152) hx hb dX12_setupAtSwitch_137 (by decide) (fun c137_104 => ?_) (fun c137_104 => ?_)
                    · skip
                      exact absurd c137_104 (by decide)
                    · skip
                      refine lv_aload_n hx hb dX12_setupAtSwitch_140 rfl (lv_at hl 4 rfl) ?_
                      refine lv_iload_n hx hb dX12_setupAtSwitch_141 rfl (lv_at hl 5 rfl) ?_
                      refine lv_iconst (v := 0) hx hb dX12_setupAtSwitch_142 (by decide) ?_
                      refine lv_iload_n hx hb dX12_setupAtSwitch_143 rfl (lv_at hl 6 rfl) ?_
                      refine lv_bipush (v := 90) hx hb dX12_setupAtSwitch_144 (by decide) ?_
                      refine lv_iload hx hb dX12_setupAtSwitch_146 (lv_at hl 0 rfl) ?_
                      refine m_cv (As := [.int p1, .int (0 : Int32), .int p2, .int (90 : Int32), .int (47 : Int32)]) (rest := []) x hml L39 (c_withCause l nn X g39 p1 (0 : Int32) p2 (90 : Int32) (47 : Int32) hnn hX (rg_w rp1 rfl) (rg_w kc_0 rfl)) (wm_V uc_withCause ul_488 ui_withCause us_withCause u_init) rfl ⟨rfl, rfl⟩ hd_withCause ⟨Nat.le_of_ble_eq_true rfl, Nat.le_of_ble_eq_true rfl⟩ rfl hl.1 rfl (lv_room (Nat.le_of_ble_eq_true rfl)) dX12_setupAtSwitch_148 (fun  g105 H105 k105 hp105 L105 => ?_)
                      exact hQ _ _ _ _ _ dX12_setupAtSwitch_151 L105 ⟨(mFr.tr (mFr.tr (mFr.tr mFr.rf hp31.1 rfl) hp39.1 rfl) hp105.1 rfl), (mJ_fr (mJ_fr (mJ_fr hJ hp31.1 rfl) hp39.1 rfl) hp105.1 rfl), trivial⟩
              · skip
                have ic68_29 := Int32.lt_iff_toInt_lt.mp (rg_nle c68_29)
                have q106 : rg (4) (2147483647) p4 := (rg_lt (rg_nle c68_29) kc_3 q28).2
                have uq106 : (4 : Int) ≤ p4.toInt ∧ p4.toInt ≤ 2147483647 := q106
                refine lv_bipush (v := 96) hx hb dX12_setupAtSwitch_71 (by decide) ?_
                refine lv_goto (tgt := 133) hx hb dX12_setupAtSwitch_73 (by decide) ?_
                refine lv_istore (lv' := [(8, .int (96 : Int32)), (7, .int v22), (6, .int (0 : Int32)), (5, .int v2), (0, .ref h0), (1, .int p1), (2, .int p2), (3, .int p3), (4, .int p4)]) hx hb dX12_setupAtSwitch_133 hl (by decide) rfl (fun ls hl => ?_)
                refine lv_iload hx hb dX12_setupAtSwitch_135 (lv_at hl 0 rfl) ?_
                refine lv_if_le (tgt := 152) hx hb dX12_setupAtSwitch_137 (by decide) (fun c137_107 => ?_) (fun c137_107 => ?_)
                · skip
                  exact absurd c137_107 (by decide)
                · skip
                  refine lv_aload_n hx hb dX12_setupAtSwitch_140 rfl (lv_at hl 4 rfl) ?_
                  refine lv_iload_n hx hb dX12_setupAtSwitch_141 rfl (lv_at hl 5 rfl) ?_
                  refine lv_iconst (v := 0) hx hb dX12_setupAtSwitch_142 (by decide) ?_
                  refine lv_iload_n hx hb dX12_setupAtSwitch_143 rfl (lv_at hl 6 rfl) ?_
                  refine lv_bipush (v := 90) hx hb dX12_setupAtSwitch_144 (by decide) ?_
                  refine lv_iload hx hb dX12_setupAtSwitch_146 (lv_at hl 0 rfl) ?_
                  refine m_cv (As := [.int p1, .int (0 : Int32), .int p2, .int (90 : Int32), .int (96 : Int32)]) (rest := []) x hml L (c_withCause l nn X g p1 (0 : Int32) p2 (90 : Int32) (96 : Int32) hnn hX (rg_w rp1 rfl) (rg_w kc_0 rfl)) (wm_V uc_withCause ul_488 ui_withCause us_withCause u_init) rfl ⟨rfl, rfl⟩ hd_withCause ⟨Nat.le_of_ble_eq_true rfl, Nat.le_of_ble_eq_true rfl⟩ rfl hl.1 rfl (lv_room (Nat.le_of_ble_eq_true rfl)) dX12_setupAtSwitch_148 (fun  g108 H108 k108 hp108 L108 => ?_)
                  exact hQ _ _ _ _ _ dX12_setupAtSwitch_151 L108 ⟨(mFr.tr mFr.rf hp108.1 rfl), (mJ_fr hJ hp108.1 rfl), trivial⟩
          · skip
            exact absurd c52_23 (by decide)
        · skip
          exact absurd c35_20 (by decide)
      · skip
        have ic23_19 := congrArg Int32.toInt c23_19
        have q109 : rg (0) (3) v2 := (rg_eq c23_19 q18 rv2).2
        have uq109 : (0 : Int) ≤ v2.toInt ∧ v2.toInt ≤ 3 := q109
        refine lv_iconst (v := 1) hx hb dX12_setupAtSwitch_26 (by decide) ?_
        refine lv_goto (tgt := 31) hx hb dX12_setupAtSwitch_27 (by decide) ?_
        refine lv_istore (lv' := [(6, .int (1 : Int32)), (5, .int v2), (0, .ref h0), (1, .int p1), (2, .int p2), (3, .int p3), (4, .int p4)]) hx hb dX12_setupAtSwitch_31 hl (by decide) rfl (fun ls hl => ?_)
        refine lv_iload hx hb dX12_setupAtSwitch_33 (lv_at hl 0 rfl) ?_
        refine lv_if_eq (tgt := 42) hx hb dX12_setupAtSwitch_35 (by decide) (fun c35_110 => ?_) (fun c35_110 => ?_)
        · skip
          exact absurd c35_110 (by decide)
        · skip
          refine lv_iload_n hx hb dX12_setupAtSwitch_38 rfl (lv_at hl 3 rfl) ?_
          refine lv_goto (tgt := 48) hx hb dX12_setupAtSwitch_39 (by decide) ?_
          refine lv_istore (lv' := [(7, .int p1), (6, .int (1 : Int32)), (5, .int v2), (0, .ref h0), (1, .int p1), (2, .int p2), (3, .int p3), (4, .int p4)]) hx hb dX12_setupAtSwitch_48 hl (by decide) rfl (fun ls hl => ?_)
          refine lv_iload hx hb dX12_setupAtSwitch_50 (lv_at hl 1 rfl) ?_
          refine lv_if_eq (tgt := 59) hx hb dX12_setupAtSwitch_52 (by decide) (fun c52_111 => ?_) (fun c52_111 => ?_)
          · skip
            exact absurd c52_111 (by decide)
          · skip
            refine lv_iconst (v := 1) hx hb dX12_setupAtSwitch_55 (by decide) ?_
            refine lv_goto (tgt := 133) hx hb dX12_setupAtSwitch_56 (by decide) ?_
            refine lv_istore (lv' := [(8, .int (1 : Int32)), (7, .int p1), (6, .int (1 : Int32)), (5, .int v2), (0, .ref h0), (1, .int p1), (2, .int p2), (3, .int p3), (4, .int p4)]) hx hb dX12_setupAtSwitch_133 hl (by decide) rfl (fun ls hl => ?_)
            refine lv_iload hx hb dX12_setupAtSwitch_135 (lv_at hl 0 rfl) ?_
            refine lv_if_le (tgt := 152) hx hb dX12_setupAtSwitch_137 (by decide) (fun c137_112 => ?_) (fun c137_112 => ?_)
            · skip
              exact absurd c137_112 (by decide)
            · skip
              refine lv_aload_n hx hb dX12_setupAtSwitch_140 rfl (lv_at hl 4 rfl) ?_
              refine lv_iload_n hx hb dX12_setupAtSwitch_141 rfl (lv_at hl 5 rfl) ?_
              refine lv_iconst (v := 0) hx hb dX12_setupAtSwitch_142 (by decide) ?_
              refine lv_iload_n hx hb dX12_setupAtSwitch_143 rfl (lv_at hl 6 rfl) ?_
              refine lv_bipush (v := 90) hx hb dX12_setupAtSwitch_144 (by decide) ?_
              refine lv_iload hx hb dX12_setupAtSwitch_146 (lv_at hl 0 rfl) ?_
              refine m_cv (As := [.int p1, .int (0 : Int32), .int p2, .int (90 : Int32), .int (1 : Int32)]) (rest := []) x hml L (c_withCause l nn X g p1 (0 : Int32) p2 (90 : Int32) (1 : Int32) hnn hX (rg_w rp1 rfl) (rg_w kc_0 rfl)) (wm_V uc_withCause ul_488 ui_withCause us_withCause u_init) rfl ⟨rfl, rfl⟩ hd_withCause ⟨Nat.le_of_ble_eq_true rfl, Nat.le_of_ble_eq_true rfl⟩ rfl hl.1 rfl (lv_room (Nat.le_of_ble_eq_true rfl)) dX12_setupAtSwitch_148 (fun  g113 H113 k113 hp113 L113 => ?_)
              exact hQ _ _ _ _ _ dX12_setupAtSwitch_151 L113 ⟨(mFr.tr mFr.rf hp113.1 rfl), (mJ_fr hJ hp113.1 rfl), trivial⟩
theorem c_setupAtSwitch (l : Launch) {G : mG} {h0 : Nat} {ad : Nat → Nat} (nn X : Int) (g : mSt) (p1 : Int32) (p2 : Int32) (p3 : Int32) (p4 : Int32) (hnn : 2 ≤ nn ∧ nn ≤ 4) (hX : 0 ≤ X ∧ X ≤ 2000000000) (hJ : mJ nn [] g) (rp1 : rg (0) (7) p1) (np1 : p1.toInt < 2 * nn) (hs : nn ≤ p1.toInt) : Met l yX12_setupAtSwitch (wm (Cond.code yX12_setupAtSwitch cX12_setupAtSwitch 13 none)) rm_setupAtSwitch (va_Pc [.ref h0, .int p1, .int p2, .int p3, .int p4] (mPre G h0 ad nn X g)) (mQv G h0 ad nn X (fun g1 => mFr [58, 59, 60, 68, 69, 70, 71, 72, 73, 74, 75, 76, 77, 78, 79, 80, 81, 86, 87, 89, 90, 91] g g1 ∧ mJ nn [] g1 ∧ True)) 0 0 (mA h0 ad) := by
  refine Met.ofW (cc := cX12_setupAtSwitch) (maxL := 13) (ret := none) (by decide) rfl ?_
  intro p e s m args below meth c s₁ B hml hv
  obtain ⟨rfl, hv⟩ := hv
  have hr := B.returns
  have hlocks := B.notSynchronized
  obtain ⟨x, L⟩ := m_start B rfl wm_X hv
  have hl := lv_entry ([.ref h0, .int p1, .int p2, .int p3, .int p4]) (n := 13) (Nat.le_of_ble_eq_true rfl)
  rw [lg_entry_eq]
  generalize (lg_sl ([.ref h0, .int p1, .int p2, .int p3, .int p4]) ++ List.replicate (13 - (lg_sl ([.ref h0, .int p1, .int p2, .int p3, .int p4])).length) Slot.unset).toArray = ls at hl ⊢
  exact w_setupAtSwitch x hml L hnn hX p1 p2 p3 p4 hJ rp1 np1 hs hl (fun pc' ls' g1 H1 locs1 hdg L hp => m_vret x L hr hlocks (Int.le_refl _) hp hdg)

def rm_message : Room := { frames := 5, cells := 0, slots := 0, locals := 116 }
theorem hd_message : yX12_message.cls = RX12 ∧ yX12_message.cls ≠ "java/lang/invoke/MethodHandle" ∧ yX12_message.cls ≠ "java/lang/invoke/VarHandle" ∧ (parseMethodDescriptor yX12_message.desc).map (fun d => d.parameters.length) = some 2 := by decide +kernel
set_option maxHeartbeats 4000000 in
set_option maxRecDepth 100000 in
theorem w_message {p : Program} {l : Launch} {e : Env} {s : State} {m : MethodId} {args : Array Value} {below : List Frame} {meth : Method} {c : Code} {H : Heap} {locs : List Loc} {Q : State → Prop} {ls : Array Slot} {G : mG} {h0 : Nat} {ad : Nat → Nat} {g : mSt} {H0 : Heap} {nn X : Int} (x : mX p c cX12_message s args (wm (Cond.code yX12_message cX12_message 8 none)) m G h0 ad) (hml : c.maxLocals = 8) (L : mL G h0 ad H0 nn X g H locs) (hnn : 2 ≤ nn ∧ nn ≤ 4) (hX : 0 ≤ X ∧ X ≤ 2000000000) (p1 : Int32) (p2 : Int32) (hJ : mJ nn [] g) (rp1 : rg (0) (7) p1) (np1 : p1.toInt < 2 * nn) (rp2 : rg (0) (60) p2) (hl : lv_has ls 8 [(0, .ref h0), (1, .int p1), (2, .int p2)]) (hQ : ∀ (pc' : Nat) (ls' : Array Slot) (g1 : mSt) (H1 : Heap) (locs1 : List Loc), decode cX12_message pc' = .ok (.return_, 1) → mL G h0 ad H0 nn X g1 H1 locs1 → (mFr [58, 59, 60, 68, 69, 70, 71, 72, 73, 74, 75, 76, 77, 78, 79, 80, 81, 86, 87, 89, 90, 91] g g1 ∧ mJ nn [] g1 ∧ True) → W p l e rm_message s m args below meth c H1 locs1 0 0 Q (F0 m pc' ls' [])) : W p l e rm_message s m args below meth c H locs 0 0 Q (F0 m 0 ls []) := by
  have hx := x.1
  have hb := x.2.1
  have up1 : (0 : Int) ≤ p1.toInt ∧ p1.toInt ≤ 7 := rp1
  have up2 : (0 : Int) ≤ p2.toInt ∧ p2.toInt ≤ 60 := rp2
  refine lv_aload_n hx hb dX12_message_0 rfl (lv_at hl 0 rfl) ?_
  refine lv_iload_n hx hb dX12_message_1 rfl (lv_at hl 2 rfl) ?_
  refine lv_iload_n hx hb dX12_message_2 rfl (lv_at hl 1 rfl) ?_
  refine lv_aload_n hx hb dX12_message_3 rfl (lv_at hl 0 rfl) ?_
  refine m_geti x L 0 rfl rfl (wm_in uf_260) dX12_message_4 (fun v1 ev1 wv1 => ?_)
  have rv1 : rg 2 4 v1 := rg_nn hnn wv1
  have tv1 : v1.toInt = nn := rg_n0 wv1
  have lv1 : v1.toInt = 1 * nn + 0 := by omega
  have uv1 : (2 : Int) ≤ v1.toInt ∧ v1.toInt ≤ 4 := rv1
  have sv1 : v1.toInt = (g 0 0).toInt := congrArg Int32.toInt (ev1.trans (congrFun ((show mFr [58, 59, 60, 68, 69, 70, 71, 72, 73, 74, 75, 76, 77, 78, 79, 80, 81, 86, 87, 89, 90, 91] g g from mFr.rf).at 0 rfl) _))
  refine lv_icmp_ge (tgt := 14) hx hb dX12_message_7 (by decide) (fun c7_2 => ?_) (fun c7_2 => ?_)
  · skip
    have ic7_2 := Int32.le_iff_toInt_le.mp c7_2
    have q3 : rg (2) (7) p1 := (rg_le c7_2 rv1 rp1).2
    have uq3 : (2 : Int) ≤ p1.toInt ∧ p1.toInt ≤ 7 := q3
    refine lv_iconst (v := 0) hx hb dX12_message_14 (by decide) ?_
    refine m_ci (As := [.int p2, .int (0 : Int32)]) (rest := []) x hml L (c_isFormed l nn X g p2 (0 : Int32) hnn hX (rg_w rp2 rfl) (rg_w kc_0 rfl)) (wm_V uc_isFormed ul_523 ui_isFormed us_isFormed u_init) rfl ⟨rfl, rfl⟩ hd_isFormed ⟨Nat.le_of_ble_eq_true rfl, Nat.le_of_ble_eq_true rfl⟩ rfl hl.1 rfl (lv_room (Nat.le_of_ble_eq_true rfl)) dX12_message_15 (fun v5 g4 H4 k4 hp4 L4 => ?_)
    have rv5 : rg (0) (1) v5 := hp4.2.1
    have uv5 : (0 : Int) ≤ v5.toInt ∧ v5.toInt ≤ 1 := rv5
    have hw6 := hp4.2.2
    refine lv_if_ne (tgt := 22) hx hb dX12_message_18 (by decide) (fun c18_7 => ?_) (fun c18_7 => ?_)
    · skip
      have ic18_7 : v5.toInt ≠ (0 : Int32).toInt := fun z => c18_7 (Int32.toInt_inj.mp z)
      have y8 : (0 : Int32).toInt = 0 := by decide
      have q9 : rg (1) (1) v5 := rg_neL c18_7 rv5 kc_0
      have uq9 : (1 : Int) ≤ v5.toInt ∧ v5.toInt ≤ 1 := q9
      refine lv_aload_n hx hb dX12_message_22 rfl (lv_at hl 0 rfl) ?_
      refine m_geta x L4 33 rfl rfl (wm_in uf_89) dX12_message_23 ?_
      refine lv_iconst (v := 2) hx hb dX12_message_26 (by decide) ?_
      refine m_ld x L4 33 rfl kc_2 rfl dX12_message_27 (fun v10 ev10 wv10 => ?_)
      have rv10 : rg (-2147483648) (2147483647) v10 := lj_33 wv10
      have uv10 : (-2147483648 : Int) ≤ v10.toInt ∧ v10.toInt ≤ 2147483647 := rv10
      have sv10 : v10.toInt = (g 33 (2 : Int32).toNatClampNeg).toInt := congrArg Int32.toInt (ev10.trans (congrFun ((show mFr [58, 59, 60, 68, 69, 70, 71, 72, 73, 74, 75, 76, 77, 78, 79, 80, 81, 86, 87, 89, 90, 91] g g4 from (mFr.tr mFr.rf hp4.1 rfl)).at 33 rfl) _))
      refine lv_sipush (v := 128) hx hb dX12_message_28 (by decide) ?_
      refine lv_icmp_lt (tgt := 38) hx hb dX12_message_31 (by decide) (fun c31_11 => ?_) (fun c31_11 => ?_)
      · skip
        have ic31_11 := Int32.lt_iff_toInt_lt.mp c31_11
        have q12 : rg (-2147483648) (127) v10 := (rg_lt c31_11 rv10 kc_128).1
        have uq12 : (-2147483648 : Int) ≤ v10.toInt ∧ v10.toInt ≤ 127 := q12
        refine lv_iconst (v := 0) hx hb dX12_message_38 (by decide) ?_
        refine lv_istore_n (lv' := [(3, .int (0 : Int32)), (0, .ref h0), (1, .int p1), (2, .int p2)]) hx hb dX12_message_39 rfl hl (by decide) rfl (fun ls hl => ?_)
        refine lv_aload_n hx hb dX12_message_40 rfl (lv_at hl 1 rfl) ?_
        refine m_geta x L4 33 rfl rfl (wm_in uf_89) dX12_message_41 ?_
        refine lv_iconst (v := 2) hx hb dX12_message_44 (by decide) ?_
        refine m_ld x L4 33 rfl kc_2 rfl dX12_message_45 (fun v13 ev13 wv13 => ?_)
        refine m_top ((ev10).trans ev13.symm) ?_
        refine lv_bipush (v := 127) hx hb dX12_message_46 (by decide) ?_
        refine lv_iand hx hb dX12_message_48 ?_
        refine lv_topi (fun v14 ev14 => ?_)
        have rv14 : rg (0) (127) v14 := rg_and ev14 7 127 (by decide) rfl
        have uv14 : (0 : Int) ≤ v14.toInt ∧ v14.toInt ≤ 127 := rv14
        refine lv_bipush (v := 16) hx hb dX12_message_49 (by decide) ?_
        refine lv_ishl hx hb dX12_message_51 ?_
        refine lv_topi (fun v15 ev15 => ?_)
        have rv15 : rg (-2147483648) (2147483647) v15 := rg_any v15
        have uv15 : (-2147483648 : Int) ≤ v15.toInt ∧ v15.toInt ≤ 2147483647 := rv15
        refine lv_aload_n hx hb dX12_message_52 rfl (lv_at hl 1 rfl) ?_
        refine m_geta x L4 33 rfl rfl (wm_in uf_89) dX12_message_53 ?_
        refine lv_iconst (v := 3) hx hb dX12_message_56 (by decide) ?_
        refine m_ld x L4 33 rfl kc_3 rfl dX12_message_57 (fun v16 ev16 wv16 => ?_)
        have rv16 : rg (-2147483648) (2147483647) v16 := lj_33 wv16
        have uv16 : (-2147483648 : Int) ≤ v16.toInt ∧ v16.toInt ≤ 2147483647 := rv16
        have sv16 : v16.toInt = (g 33 (3 : Int32).toNatClampNeg).toInt := congrArg Int32.toInt (ev16.trans (congrFun ((show mFr [58, 59, 60, 68, 69, 70, 71, 72, 73, 74, 75, 76, 77, 78, 79, 80, 81, 86, 87, 89, 90, 91] g g4 from (mFr.tr mFr.rf hp4.1 rfl)).at 33 rfl) _))
        refine lv_bipush (v := 8) hx hb dX12_message_58 (by decide) ?_
        refine lv_ishl hx hb dX12_message_60 ?_
        refine lv_topi (fun v17 ev17 => ?_)
        have rv17 : rg (-2147483648) (2147483647) v17 := rg_any v17
        have uv17 : (-2147483648 : Int) ≤ v17.toInt ∧ v17.toInt ≤ 2147483647 := rv17
        refine lv_ior hx hb dX12_message_61 ?_
        refine lv_topi (fun v18 ev18 => ?_)
        have rv18 : rg (-2147483648) (2147483647) v18 := rg_any v18
        have uv18 : (-2147483648 : Int) ≤ v18.toInt ∧ v18.toInt ≤ 2147483647 := rv18
        refine lv_aload_n hx hb dX12_message_62 rfl (lv_at hl 1 rfl) ?_
        refine m_geta x L4 33 rfl rfl (wm_in uf_89) dX12_message_63 ?_
        refine lv_iconst (v := 4) hx hb dX12_message_66 (by decide) ?_
        refine m_ld x L4 33 rfl kc_4 rfl dX12_message_67 (fun v19 ev19 wv19 => ?_)
        have rv19 : rg (-2147483648) (2147483647) v19 := lj_33 wv19
        have uv19 : (-2147483648 : Int) ≤ v19.toInt ∧ v19.toInt ≤ 2147483647 := rv19
        have sv19 : v19.toInt = (g 33 (4 : Int32).toNatClampNeg).toInt := congrArg Int32.toInt (ev19.trans (congrFun ((show mFr [58, 59, 60, 68, 69, 70, 71, 72, 73, 74, 75, 76, 77, 78, 79, 80, 81, 86, 87, 89, 90, 91] g g4 from (mFr.tr mFr.rf hp4.1 rfl)).at 33 rfl) _))
        refine lv_ior hx hb dX12_message_68 ?_
        refine lv_topi (fun v20 ev20 => ?_)
        have rv20 : rg (-2147483648) (2147483647) v20 := rg_any v20
        have uv20 : (-2147483648 : Int) ≤ v20.toInt ∧ v20.toInt ≤ 2147483647 := rv20
        refine lv_istore (lv' := [(4, .int v20), (3, .int (0 : Int32)), (0, .ref h0), (1, .int p1), (2, .int p2)]) hx hb dX12_message_69 hl (by decide) rfl (fun ls hl => ?_)
        refine lv_aload_n hx hb dX12_message_71 rfl (lv_at hl 2 rfl) ?_
        refine m_geta x L4 33 rfl rfl (wm_in uf_89) dX12_message_72 ?_
        refine lv_iconst (v := 5) hx hb dX12_message_75 (by decide) ?_
        refine m_ld x L4 33 rfl kc_5 rfl dX12_message_76 (fun v21 ev21 wv21 => ?_)
        have rv21 : rg (-2147483648) (2147483647) v21 := lj_33 wv21
        have uv21 : (-2147483648 : Int) ≤ v21.toInt ∧ v21.toInt ≤ 2147483647 := rv21
        have sv21 : v21.toInt = (g 33 (5 : Int32).toNatClampNeg).toInt := congrArg Int32.toInt (ev21.trans (congrFun ((show mFr [58, 59, 60, 68, 69, 70, 71, 72, 73, 74, 75, 76, 77, 78, 79, 80, 81, 86, 87, 89, 90, 91] g g4 from (mFr.tr mFr.rf hp4.1 rfl)).at 33 rfl) _))
        refine lv_istore (lv' := [(5, .int v21), (4, .int v20), (3, .int (0 : Int32)), (0, .ref h0), (1, .int p1), (2, .int p2)]) hx hb dX12_message_77 hl (by decide) rfl (fun ls hl => ?_)
        refine lv_aload_n hx hb dX12_message_79 rfl (lv_at hl 3 rfl) ?_
        refine lv_bipush (v := 8) hx hb dX12_message_80 (by decide) ?_
        refine lv_iload_n hx hb dX12_message_82 rfl (lv_at hl 5 rfl) ?_
        refine m_ci (As := [.int (8 : Int32), .int p2]) (rest := []) x hml L4 (c_found l nn X g4 (8 : Int32) p2 hnn hX (rg_w rp2 rfl) (by obtain ⟨n, hn⟩ := hw6 (by omega); exact ⟨n, ch_fr ((show mFr [58, 59, 60, 68, 69, 70, 71, 72, 73, 74, 75, 76, 77, 78, 79, 80, 81, 86, 87, 89, 90, 91] g g4 from (mFr.tr mFr.rf hp4.1 rfl)).at 33 rfl) n _ hn⟩)) (wm_V uc_found ul_527 ui_found us_found u_init) rfl ⟨rfl, rfl⟩ hd_found ⟨Nat.le_of_ble_eq_true rfl, Nat.le_of_ble_eq_true rfl⟩ rfl hl.1 rfl (lv_room (Nat.le_of_ble_eq_true rfl)) dX12_message_83 (fun v23 g22 H22 k22 hp22 L22 => ?_)
        have rv23 : rg (-2147483648) (2147483647) v23 := hp22.2.1
        have uv23 : (-2147483648 : Int) ≤ v23.toInt ∧ v23.toInt ≤ 2147483647 := rv23
        refine lv_istore (lv' := [(6, .int v23), (5, .int v21), (4, .int v20), (3, .int (0 : Int32)), (0, .ref h0), (1, .int p1), (2, .int p2)]) hx hb dX12_message_86 hl (by decide) rfl (fun ls hl => ?_)
        refine lv_aload_n hx hb dX12_message_88 rfl (lv_at hl 4 rfl) ?_
        refine lv_iload_n hx hb dX12_message_89 rfl (lv_at hl 5 rfl) ?_
        refine lv_iload_n hx hb dX12_message_90 rfl (lv_at hl 3 rfl) ?_
        refine lv_iload hx hb dX12_message_91 (lv_at hl 2 rfl) ?_
        refine m_ci (As := [.int p1, .int (0 : Int32), .int v20]) (rest := []) x hml L22 (c_callAt l nn X g22 p1 (0 : Int32) v20 hnn hX (rg_w q3 rfl) (rg_w kc_0 rfl)) (wm_V uc_callAt ul_530 ui_callAt us_callAt u_init) rfl ⟨rfl, rfl⟩ hd_callAt ⟨Nat.le_of_ble_eq_true rfl, Nat.le_of_ble_eq_true rfl⟩ rfl hl.1 rfl (lv_room (Nat.le_of_ble_eq_true rfl)) dX12_message_93 (fun v25 g24 H24 k24 hp24 L24 => ?_)
        have rv25 : rg (-2) (319) v25 := hp24.2.1
        have uv25 : (-2 : Int) ≤ v25.toInt ∧ v25.toInt ≤ 319 := rv25
        have hw26 := hp24.2.2
        refine lv_istore (lv' := [(7, .int v25), (6, .int v23), (5, .int v21), (4, .int v20), (3, .int (0 : Int32)), (0, .ref h0), (1, .int p1), (2, .int p2)]) hx hb dX12_message_96 hl (by decide) rfl (fun ls hl => ?_)
        refine lv_iload hx hb dX12_message_98 (lv_at hl 0 rfl) ?_
        refine lv_if_ge (tgt := 196) hx hb dX12_message_100 (by decide) (fun c100_27 => ?_) (fun c100_27 => ?_)
        · skip
          have ic100_27 := Int32.le_iff_toInt_le.mp c100_27
          have q28 : rg (0) (319) v25 := (rg_le c100_27 kc_0 rv25).2
          have uq28 : (0 : Int) ≤ v25.toInt ∧ v25.toInt ≤ 319 := q28
          obtain ⟨v29, ev29⟩ : ∃ y : Int32, y = g24 68 v25.toNatClampNeg := ⟨_, rfl⟩
          have hcv29 := hw26 (by omega)
          have rv29 : rg (1) (11) v29 := ⟨by rw [ev29, (show mFr [] g22 g24 from (mFr.tr mFr.rf hp24.1 rfl)).at 68 rfl]; exact hcv29.1, by rw [ev29]; exact (lj_68 (L24.2.2 68 _)).2⟩
          refine lv_iload hx hb dX12_message_196 (lv_at hl 2 rfl) ?_
          refine lv_bipush (v := 77) hx hb dX12_message_198 (by decide) ?_
          have j338_30 : ∀ (g30 : mSt) (H30 : Heap) (k30 : List Loc) (ls : Array Slot), mFr [58, 59, 60, 68, 71, 74, 75, 76, 77, 86, 87, 89, 90, 91] g24 g30 → mL G h0 ad H0 nn X g30 H30 k30 → mJ nn [] g30 → lv_has ls 8 [(0, .ref h0)] → W p l e rm_message s m args below meth c H30 k30 0 0 Q (F0 m 338 ls []) := by
            intro  g30 H30 k30 ls hF30 L30 hJ30  hl
            exact hQ _ _ _ _ _ dX12_message_338 L30 ⟨(mFr.tr (mFr.tr (mFr.tr (mFr.tr mFr.rf hp4.1 rfl) hp22.1 rfl) hp24.1 rfl) hF30 rfl), hJ30, trivial⟩
          refine lv_icmp_ne (tgt := 256) hx hb dX12_message_200 (by decide) (fun c200_31 => ?_) (fun c200_31 => ?_)
          · skip
            have ic200_31 : v21.toInt ≠ (77 : Int32).toInt := fun z => c200_31 (Int32.toInt_inj.mp z)
            have y32 : (77 : Int32).toInt = 77 := by decide
            refine lv_iload hx hb dX12_message_256 (lv_at hl 2 rfl) ?_
            refine lv_bipush (v := 90) hx hb dX12_message_258 (by decide) ?_
            refine lv_icmp_ne (tgt := 304) hx hb dX12_message_260 (by decide) (fun c260_33 => ?_) (fun c260_33 => ?_)
            · skip
              have ic260_33 : v21.toInt ≠ (90 : Int32).toInt := fun z => c260_33 (Int32.toInt_inj.mp z)
              have y34 : (90 : Int32).toInt = 90 := by decide
              refine lv_iload_n hx hb dX12_message_304 rfl (lv_at hl 6 rfl) ?_
              refine lv_aload_n hx hb dX12_message_305 rfl (lv_at hl 5 rfl) ?_
              refine m_geti x L24 0 rfl rfl (wm_in uf_260) dX12_message_306 (fun v35 ev35 wv35 => ?_)
              refine m_top (((mm_fr (mm_fr (mm_fr ev1 hp4.1 rfl) hp22.1 rfl) hp24.1 rfl)).trans ev35.symm) ?_
              refine lv_icmp_ge (tgt := 330) hx hb dX12_message_309 (by decide) (fun c309_36 => ?_) (fun c309_36 => ?_)
              · skip
                have ic309_36 := Int32.le_iff_toInt_le.mp c309_36
                refine lv_aload_n hx hb dX12_message_330 rfl (lv_at hl 5 rfl) ?_
                refine lv_iload hx hb dX12_message_331 (lv_at hl 0 rfl) ?_
                refine lv_iload hx hb dX12_message_333 (lv_at hl 2 rfl) ?_
                refine m_cv (As := [.int v25, .int v21]) (rest := []) x hml L24 (c_switchMessage l nn X g24 v25 v21 hnn hX (mJ_fr (mJ_fr (mJ_fr hJ hp4.1 rfl) hp22.1 rfl) hp24.1 rfl) (rg_w q28 rfl) (by omega) (rg_eqv ev29 (rg_w rv29 rfl))) (wm_V uc_switchMessage ul_543 ui_switchMessage us_switchMessage u_init) rfl ⟨rfl, rfl⟩ hd_switchMessage ⟨Nat.le_of_ble_eq_true rfl, Nat.le_of_ble_eq_true rfl⟩ rfl hl.1 rfl (lv_room (Nat.le_of_ble_eq_true rfl)) dX12_message_335 (fun  g37 H37 k37 hp37 L37 => ?_)
                exact j338_30  g37 _ _ ls (mFr.tr mFr.rf hp37.1 rfl) L37 hp37.2.1 (lv_sub hl [5] rfl)
              · skip
                have b1p1_38 : p1.toInt < 1 * nn := by have := Int32.lt_iff_toInt_lt.mp (rg_nle c309_36); have := lv1; omega
                have ic309_36 := Int32.lt_iff_toInt_lt.mp (rg_nle c309_36)
                have q39 : rg (2) (3) p1 := (rg_lt (rg_nle c309_36) q3 rv1).1
                have uq39 : (2 : Int) ≤ p1.toInt ∧ p1.toInt ≤ 3 := q39
                have q40 : rg (3) (4) v1 := (rg_lt (rg_nle c309_36) q3 rv1).2
                have uq40 : (3 : Int) ≤ v1.toInt ∧ v1.toInt ≤ 4 := q40
                have q41 : rg (0) (159) v25 := ⟨by omega, by omega⟩
                refine lv_aload_n hx hb dX12_message_312 rfl (lv_at hl 5 rfl) ?_
                refine lv_iload hx hb dX12_message_313 (lv_at hl 0 rfl) ?_
                refine lv_iload hx hb dX12_message_315 (lv_at hl 2 rfl) ?_
                refine lv_aload_n hx hb dX12_message_317 rfl (lv_at hl 5 rfl) ?_
                refine lv_bipush (v := 90) hx hb dX12_message_318 (by decide) ?_
                refine lv_iload_n hx hb dX12_message_320 rfl (lv_at hl 7 rfl) ?_
                refine m_ci (As := [.int (90 : Int32), .int p2]) (rest := [.int v21, .int v25, .ref h0]) x hml L24 (c_found l nn X g24 (90 : Int32) p2 hnn hX (rg_w rp2 rfl) (by obtain ⟨n, hn⟩ := hw6 (by omega); exact ⟨n, ch_fr ((show mFr [58, 59, 60, 68, 69, 70, 71, 72, 73, 74, 75, 76, 77, 78, 79, 80, 81, 86, 87, 89, 90, 91] g g24 from (mFr.tr (mFr.tr (mFr.tr mFr.rf hp4.1 rfl) hp22.1 rfl) hp24.1 rfl)).at 33 rfl) n _ hn⟩)) (wm_V uc_found ul_527 ui_found us_found u_init) rfl ⟨rfl, rfl⟩ hd_found ⟨Nat.le_of_ble_eq_true rfl, Nat.le_of_ble_eq_true rfl⟩ rfl hl.1 rfl (lv_room (Nat.le_of_ble_eq_true rfl)) dX12_message_321 (fun v43 g42 H42 k42 hp42 L42 => ?_)
                have rv43 : rg (-2147483648) (2147483647) v43 := hp42.2.1
                have uv43 : (-2147483648 : Int) ≤ v43.toInt ∧ v43.toInt ≤ 2147483647 := rv43
                refine m_cv (As := [.int v25, .int v21, .int v43]) (rest := []) x hml L42 (c_endMessage l nn X g42 v25 v21 v43 hnn hX (mJ_fr (mJ_fr (mJ_fr (mJ_fr hJ hp4.1 rfl) hp22.1 rfl) hp24.1 rfl) hp42.1 rfl) (rg_w q41 rfl) (rg_eqv (mm_fr ev29 hp42.1 rfl) (rg_w rv29 rfl))) (wm_V uc_endMessage ul_540 ui_endMessage us_endMessage u_init) rfl ⟨rfl, rfl⟩ hd_endMessage ⟨Nat.le_of_ble_eq_true rfl, Nat.le_of_ble_eq_true rfl⟩ rfl hl.1 rfl (lv_room (Nat.le_of_ble_eq_true rfl)) dX12_message_324 (fun  g44 H44 k44 hp44 L44 => ?_)
                refine lv_goto (tgt := 338) hx hb dX12_message_327 (by decide) ?_
                exact j338_30  g44 _ _ ls (mFr.tr (mFr.tr mFr.rf hp42.1 rfl) hp44.1 rfl) L44 hp44.2.1 (lv_sub hl [5] rfl)
            · skip
              have ic260_33 := congrArg Int32.toInt c260_33
              have y45 : (90 : Int32).toInt = 90 := by decide
              have q46 : rg (90) (90) v21 := (rg_eq c260_33 rv21 kc_90).1
              have uq46 : (90 : Int) ≤ v21.toInt ∧ v21.toInt ≤ 90 := q46
              refine lv_aload_n hx hb dX12_message_263 rfl (lv_at hl 5 rfl) ?_
              refine lv_iload hx hb dX12_message_264 (lv_at hl 0 rfl) ?_
              refine lv_aload_n hx hb dX12_message_266 rfl (lv_at hl 5 rfl) ?_
              refine m_geta x L24 68 rfl rfl (wm_in uf_192) dX12_message_267 ?_
              refine lv_iload hx hb dX12_message_270 (lv_at hl 0 rfl) ?_
              refine m_ld x L24 68 rfl q28 rfl dX12_message_272 (fun v47 ev47 wv47 => ?_)
              refine m_top ((ev29).trans ev47.symm) ?_
              refine lv_bipush (v := 11) hx hb dX12_message_273 (by decide) ?_
              have j290_49 : ∀ (b290_2_48 : Int32) (g49 : mSt) (H49 : Heap) (k49 : List Loc) (ls : Array Slot), mFr [] g24 g49 → mL G h0 ad H0 nn X g49 H49 k49 → mJ nn [] g49 → rg (-2147483648) (2147483647) b290_2_48 → lv_has ls 8 [(0, .ref h0), (6, .int v23), (7, .int v25)] → W p l e rm_message s m args below meth c H49 k49 0 0 Q (F0 m 290 ls [.int b290_2_48, .int v25, .ref h0]) := by
                intro b290_2_48 g49 H49 k49 ls hF49 L49 hJ49 rb290_2_48 hl
                have ub290_2_48 : (-2147483648 : Int) ≤ b290_2_48.toInt ∧ b290_2_48.toInt ≤ 2147483647 := rb290_2_48
                refine m_cv (As := [.int v25, .int b290_2_48]) (rest := []) x hml L49 (c_over l nn X g49 v25 b290_2_48 hnn hX hJ49 (rg_w q28 rfl)) (wm_V uc_over ul_498 ui_over us_over u_init) rfl ⟨rfl, rfl⟩ hd_over ⟨Nat.le_of_ble_eq_true rfl, Nat.le_of_ble_eq_true rfl⟩ rfl hl.1 rfl (lv_room (Nat.le_of_ble_eq_true rfl)) dX12_message_290 (fun  g50 H50 k50 hp50 L50 => ?_)
                refine lv_aload_n hx hb dX12_message_293 rfl (lv_at hl 0 rfl) ?_
                refine lv_iload hx hb dX12_message_294 (lv_at hl 2 rfl) ?_
                refine lv_iload hx hb dX12_message_296 (lv_at hl 1 rfl) ?_
                refine m_cv (As := [.int v25, .int v23]) (rest := []) x hml L50 (c_releaseOther l nn X g50 v25 v23 hnn hX hp50.2.1 (rg_w q28 rfl)) (wm_V uc_releaseOther ul_501 ui_releaseOther us_releaseOther u_init) rfl ⟨rfl, rfl⟩ hd_releaseOther ⟨Nat.le_of_ble_eq_true rfl, Nat.le_of_ble_eq_true rfl⟩ rfl hl.1 rfl (lv_room (Nat.le_of_ble_eq_true rfl)) dX12_message_298 (fun  g51 H51 k51 hp51 L51 => ?_)
                refine lv_goto (tgt := 338) hx hb dX12_message_301 (by decide) ?_
                exact j338_30  g51 _ _ ls (mFr.tr (mFr.tr (mFr.tr mFr.rf hF49 rfl) hp50.1 rfl) hp51.1 rfl) L51 hp51.2.1 (lv_sub hl [0] rfl)
              refine lv_icmp_ne (tgt := 288) hx hb dX12_message_275 (by decide) (fun c275_52 => ?_) (fun c275_52 => ?_)
              · skip
                have ic275_52 : v29.toInt ≠ (11 : Int32).toInt := fun z => c275_52 (Int32.toInt_inj.mp z)
                have y53 : (11 : Int32).toInt = 11 := by decide
                have q54 : rg (1) (10) v29 := rg_neH c275_52 rv29 kc_11
                have uq54 : (1 : Int) ≤ v29.toInt ∧ v29.toInt ≤ 10 := q54
                refine lv_iload hx hb dX12_message_288 (lv_at hl 1 rfl) ?_
                exact j290_49 v23 g24 _ _ ls mFr.rf L24 (mJ_fr (mJ_fr (mJ_fr hJ hp4.1 rfl) hp22.1 rfl) hp24.1 rfl) (rg_w rv23 rfl) (lv_sub hl [5, 1, 0] rfl)
              · skip
                have ic275_52 := congrArg Int32.toInt c275_52
                have y55 : (11 : Int32).toInt = 11 := by decide
                have q56 : rg (11) (11) v29 := (rg_eq c275_52 rv29 kc_11).1
                have uq56 : (11 : Int) ≤ v29.toInt ∧ v29.toInt ≤ 11 := q56
                refine lv_aload_n hx hb dX12_message_278 rfl (lv_at hl 5 rfl) ?_
                refine m_geta x L24 74 rfl rfl (wm_in uf_210) dX12_message_279 ?_
                refine lv_iload hx hb dX12_message_282 (lv_at hl 0 rfl) ?_
                refine m_ld x L24 74 rfl q28 rfl dX12_message_284 (fun v57 ev57 wv57 => ?_)
                have rv57 : rg (-2147483648) (2147483647) v57 := lj_74 wv57
                have uv57 : (-2147483648 : Int) ≤ v57.toInt ∧ v57.toInt ≤ 2147483647 := rv57
                refine lv_goto (tgt := 290) hx hb dX12_message_285 (by decide) ?_
                exact j290_49 v57 g24 _ _ ls mFr.rf L24 (mJ_fr (mJ_fr (mJ_fr hJ hp4.1 rfl) hp22.1 rfl) hp24.1 rfl) (rg_w rv57 rfl) (lv_sub hl [5, 1, 0] rfl)
          · skip
            have ic200_31 := congrArg Int32.toInt c200_31
            have y58 : (77 : Int32).toInt = 77 := by decide
            have q59 : rg (77) (77) v21 := (rg_eq c200_31 rv21 kc_77).1
            have uq59 : (77 : Int) ≤ v21.toInt ∧ v21.toInt ≤ 77 := q59
            refine lv_aload_n hx hb dX12_message_203 rfl (lv_at hl 5 rfl) ?_
            refine lv_iload_n hx hb dX12_message_204 rfl (lv_at hl 6 rfl) ?_
            refine lv_iload_n hx hb dX12_message_205 rfl (lv_at hl 4 rfl) ?_
            refine lv_iload hx hb dX12_message_206 (lv_at hl 3 rfl) ?_
            refine lv_bipush (v := 90) hx hb dX12_message_208 (by decide) ?_
            refine lv_iload hx hb dX12_message_210 (lv_at hl 1 rfl) ?_
            refine m_cv (As := [.int p1, .int (0 : Int32), .int v20, .int (90 : Int32), .int v23]) (rest := []) x hml L24 (c_withCause l nn X g24 p1 (0 : Int32) v20 (90 : Int32) v23 hnn hX (rg_w q3 rfl) (rg_w kc_0 rfl)) (wm_V uc_withCause ul_488 ui_withCause us_withCause u_init) rfl ⟨rfl, rfl⟩ hd_withCause ⟨Nat.le_of_ble_eq_true rfl, Nat.le_of_ble_eq_true rfl⟩ rfl hl.1 rfl (lv_room (Nat.le_of_ble_eq_true rfl)) dX12_message_212 (fun  g60 H60 k60 hp60 L60 => ?_)
            refine lv_aload_n hx hb dX12_message_215 rfl (lv_at hl 5 rfl) ?_
            refine lv_iload hx hb dX12_message_216 (lv_at hl 0 rfl) ?_
            refine lv_aload_n hx hb dX12_message_218 rfl (lv_at hl 5 rfl) ?_
            refine m_geta x L60 68 rfl rfl (wm_in uf_192) dX12_message_219 ?_
            refine lv_iload hx hb dX12_message_222 (lv_at hl 0 rfl) ?_
            refine m_ld x L60 68 rfl q28 rfl dX12_message_224 (fun v61 ev61 wv61 => ?_)
            refine m_top (((mm_fr ev29 hp60.1 rfl)).trans ev61.symm) ?_
            refine lv_bipush (v := 11) hx hb dX12_message_225 (by decide) ?_
            have j242_63 : ∀ (b242_2_62 : Int32) (g63 : mSt) (H63 : Heap) (k63 : List Loc) (ls : Array Slot), mFr [] g60 g63 → mL G h0 ad H0 nn X g63 H63 k63 → mJ nn [] g63 → rg (-2147483648) (2147483647) b242_2_62 → lv_has ls 8 [(0, .ref h0), (6, .int v23), (7, .int v25)] → W p l e rm_message s m args below meth c H63 k63 0 0 Q (F0 m 242 ls [.int b242_2_62, .int v25, .ref h0]) := by
              intro b242_2_62 g63 H63 k63 ls hF63 L63 hJ63 rb242_2_62 hl
              have ub242_2_62 : (-2147483648 : Int) ≤ b242_2_62.toInt ∧ b242_2_62.toInt ≤ 2147483647 := rb242_2_62
              refine m_cv (As := [.int v25, .int b242_2_62]) (rest := []) x hml L63 (c_over l nn X g63 v25 b242_2_62 hnn hX hJ63 (rg_w q28 rfl)) (wm_V uc_over ul_498 ui_over us_over u_init) rfl ⟨rfl, rfl⟩ hd_over ⟨Nat.le_of_ble_eq_true rfl, Nat.le_of_ble_eq_true rfl⟩ rfl hl.1 rfl (lv_room (Nat.le_of_ble_eq_true rfl)) dX12_message_242 (fun  g64 H64 k64 hp64 L64 => ?_)
              refine lv_aload_n hx hb dX12_message_245 rfl (lv_at hl 0 rfl) ?_
              refine lv_iload hx hb dX12_message_246 (lv_at hl 2 rfl) ?_
              refine lv_iload hx hb dX12_message_248 (lv_at hl 1 rfl) ?_
              refine m_cv (As := [.int v25, .int v23]) (rest := []) x hml L64 (c_releaseOther l nn X g64 v25 v23 hnn hX hp64.2.1 (rg_w q28 rfl)) (wm_V uc_releaseOther ul_501 ui_releaseOther us_releaseOther u_init) rfl ⟨rfl, rfl⟩ hd_releaseOther ⟨Nat.le_of_ble_eq_true rfl, Nat.le_of_ble_eq_true rfl⟩ rfl hl.1 rfl (lv_room (Nat.le_of_ble_eq_true rfl)) dX12_message_250 (fun  g65 H65 k65 hp65 L65 => ?_)
              refine lv_goto (tgt := 338) hx hb dX12_message_253 (by decide) ?_
              exact j338_30  g65 _ _ ls (mFr.tr (mFr.tr (mFr.tr (mFr.tr mFr.rf hp60.1 rfl) hF63 rfl) hp64.1 rfl) hp65.1 rfl) L65 hp65.2.1 (lv_sub hl [0] rfl)
            refine lv_icmp_ne (tgt := 240) hx hb dX12_message_227 (by decide) (fun c227_66 => ?_) (fun c227_66 => ?_)
            · skip
              have ic227_66 : v29.toInt ≠ (11 : Int32).toInt := fun z => c227_66 (Int32.toInt_inj.mp z)
              have y67 : (11 : Int32).toInt = 11 := by decide
              have q68 : rg (1) (10) v29 := rg_neH c227_66 rv29 kc_11
              have uq68 : (1 : Int) ≤ v29.toInt ∧ v29.toInt ≤ 10 := q68
              refine lv_iload hx hb dX12_message_240 (lv_at hl 1 rfl) ?_
              exact j242_63 v23 g60 _ _ ls mFr.rf L60 (mJ_fr (mJ_fr (mJ_fr (mJ_fr hJ hp4.1 rfl) hp22.1 rfl) hp24.1 rfl) hp60.1 rfl) (rg_w rv23 rfl) (lv_sub hl [5, 1, 0] rfl)
            · skip
              have ic227_66 := congrArg Int32.toInt c227_66
              have y69 : (11 : Int32).toInt = 11 := by decide
              have q70 : rg (11) (11) v29 := (rg_eq c227_66 rv29 kc_11).1
              have uq70 : (11 : Int) ≤ v29.toInt ∧ v29.toInt ≤ 11 := q70
              refine lv_aload_n hx hb dX12_message_230 rfl (lv_at hl 5 rfl) ?_
              refine m_geta x L60 74 rfl rfl (wm_in uf_210) dX12_message_231 ?_
              refine lv_iload hx hb dX12_message_234 (lv_at hl 0 rfl) ?_
              refine m_ld x L60 74 rfl q28 rfl dX12_message_236 (fun v71 ev71 wv71 => ?_)
              have rv71 : rg (-2147483648) (2147483647) v71 := lj_74 wv71
              have uv71 : (-2147483648 : Int) ≤ v71.toInt ∧ v71.toInt ≤ 2147483647 := rv71
              refine lv_goto (tgt := 242) hx hb dX12_message_237 (by decide) ?_
              exact j242_63 v71 g60 _ _ ls mFr.rf L60 (mJ_fr (mJ_fr (mJ_fr (mJ_fr hJ hp4.1 rfl) hp22.1 rfl) hp24.1 rfl) hp60.1 rfl) (rg_w rv71 rfl) (lv_sub hl [5, 1, 0] rfl)
        · skip
          have ic100_27 := Int32.lt_iff_toInt_lt.mp (rg_nle c100_27)
          have q72 : rg (-2) (-1) v25 := (rg_lt (rg_nle c100_27) rv25 kc_0).1
          have uq72 : (-2 : Int) ≤ v25.toInt ∧ v25.toInt ≤ -1 := q72
          refine lv_iload hx hb dX12_message_103 (lv_at hl 2 rfl) ?_
          refine lv_bipush (v := 77) hx hb dX12_message_105 (by decide) ?_
          have j195_73 : ∀ (g73 : mSt) (H73 : Heap) (k73 : List Loc) (ls : Array Slot), mFr [58, 59, 60, 68, 69, 70, 71, 72, 73, 74, 75, 76, 77, 78, 79, 80, 81, 86, 87, 89, 90, 91] g24 g73 → mL G h0 ad H0 nn X g73 H73 k73 → mJ nn [] g73 → lv_has ls 8 [(0, .ref h0)] → W p l e rm_message s m args below meth c H73 k73 0 0 Q (F0 m 195 ls []) := by
            intro  g73 H73 k73 ls hF73 L73 hJ73  hl
            exact hQ _ _ _ _ _ dX12_message_195 L73 ⟨(mFr.tr (mFr.tr (mFr.tr (mFr.tr mFr.rf hp4.1 rfl) hp22.1 rfl) hp24.1 rfl) hF73 rfl), hJ73, trivial⟩
          refine lv_icmp_ne (tgt := 125) hx hb dX12_message_107 (by decide) (fun c107_74 => ?_) (fun c107_74 => ?_)
          · skip
            have ic107_74 : v21.toInt ≠ (77 : Int32).toInt := fun z => c107_74 (Int32.toInt_inj.mp z)
            have y75 : (77 : Int32).toInt = 77 := by decide
            refine lv_iload hx hb dX12_message_125 (lv_at hl 2 rfl) ?_
            refine lv_iconst (v := 5) hx hb dX12_message_127 (by decide) ?_
            refine lv_icmp_ne (tgt := 195) hx hb dX12_message_128 (by decide) (fun c128_76 => ?_) (fun c128_76 => ?_)
            · skip
              have ic128_76 : v21.toInt ≠ (5 : Int32).toInt := fun z => c128_76 (Int32.toInt_inj.mp z)
              have y77 : (5 : Int32).toInt = 5 := by decide
              exact j195_73  g24 _ _ ls mFr.rf L24 (mJ_fr (mJ_fr (mJ_fr hJ hp4.1 rfl) hp22.1 rfl) hp24.1 rfl) (lv_sub hl [5] rfl)
            · skip
              have ic128_76 := congrArg Int32.toInt c128_76
              have y78 : (5 : Int32).toInt = 5 := by decide
              have q79 : rg (5) (5) v21 := (rg_eq c128_76 rv21 kc_5).1
              have uq79 : (5 : Int) ≤ v21.toInt ∧ v21.toInt ≤ 5 := q79
              refine lv_iload_n hx hb dX12_message_131 rfl (lv_at hl 4 rfl) ?_
              refine lv_if_ne (tgt := 195) hx hb dX12_message_132 (by decide) (fun c132_80 => ?_) (fun c132_80 => ?_)
              · skip
                exact absurd c132_80 (by decide)
              · skip
                refine lv_iload_n hx hb dX12_message_135 rfl (lv_at hl 6 rfl) ?_
                refine lv_aload_n hx hb dX12_message_136 rfl (lv_at hl 5 rfl) ?_
                refine m_geti x L24 0 rfl rfl (wm_in uf_260) dX12_message_137 (fun v81 ev81 wv81 => ?_)
                refine m_top (((mm_fr (mm_fr (mm_fr ev1 hp4.1 rfl) hp22.1 rfl) hp24.1 rfl)).trans ev81.symm) ?_
                refine lv_icmp_ge (tgt := 174) hx hb dX12_message_140 (by decide) (fun c140_82 => ?_) (fun c140_82 => ?_)
                · skip
                  have ic140_82 := Int32.le_iff_toInt_le.mp c140_82
                  refine lv_aload_n hx hb dX12_message_174 rfl (lv_at hl 5 rfl) ?_
                  refine lv_iload_n hx hb dX12_message_175 rfl (lv_at hl 6 rfl) ?_
                  refine lv_iload hx hb dX12_message_176 (lv_at hl 3 rfl) ?_
                  refine lv_aload_n hx hb dX12_message_178 rfl (lv_at hl 5 rfl) ?_
                  refine lv_bipush (v := 112) hx hb dX12_message_179 (by decide) ?_
                  refine lv_iload_n hx hb dX12_message_181 rfl (lv_at hl 7 rfl) ?_
                  refine m_ci (As := [.int (112 : Int32), .int p2]) (rest := [.int v20, .int p1, .ref h0]) x hml L24 (c_found l nn X g24 (112 : Int32) p2 hnn hX (rg_w rp2 rfl) (by obtain ⟨n, hn⟩ := hw6 (by omega); exact ⟨n, ch_fr ((show mFr [58, 59, 60, 68, 69, 70, 71, 72, 73, 74, 75, 76, 77, 78, 79, 80, 81, 86, 87, 89, 90, 91] g g24 from (mFr.tr (mFr.tr (mFr.tr mFr.rf hp4.1 rfl) hp22.1 rfl) hp24.1 rfl)).at 33 rfl) n _ hn⟩)) (wm_V uc_found ul_527 ui_found us_found u_init) rfl ⟨rfl, rfl⟩ hd_found ⟨Nat.le_of_ble_eq_true rfl, Nat.le_of_ble_eq_true rfl⟩ rfl hl.1 rfl (lv_room (Nat.le_of_ble_eq_true rfl)) dX12_message_182 (fun v84 g83 H83 k83 hp83 L83 => ?_)
                  have rv84 : rg (-2147483648) (2147483647) v84 := hp83.2.1
                  have uv84 : (-2147483648 : Int) ≤ v84.toInt ∧ v84.toInt ≤ 2147483647 := rv84
                  refine lv_aload_n hx hb dX12_message_185 rfl (lv_at hl 5 rfl) ?_
                  refine lv_bipush (v := 89) hx hb dX12_message_186 (by decide) ?_
                  refine lv_iload_n hx hb dX12_message_188 rfl (lv_at hl 7 rfl) ?_
                  refine m_ci (As := [.int (89 : Int32), .int p2]) (rest := [.int v84, .int v20, .int p1, .ref h0]) x hml L83 (c_found l nn X g83 (89 : Int32) p2 hnn hX (rg_w rp2 rfl) (by obtain ⟨n, hn⟩ := hw6 (by omega); exact ⟨n, ch_fr ((show mFr [58, 59, 60, 68, 69, 70, 71, 72, 73, 74, 75, 76, 77, 78, 79, 80, 81, 86, 87, 89, 90, 91] g g83 from (mFr.tr (mFr.tr (mFr.tr (mFr.tr mFr.rf hp4.1 rfl) hp22.1 rfl) hp24.1 rfl) hp83.1 rfl)).at 33 rfl) n _ hn⟩)) (wm_V uc_found ul_527 ui_found us_found u_init) rfl ⟨rfl, rfl⟩ hd_found ⟨Nat.le_of_ble_eq_true rfl, Nat.le_of_ble_eq_true rfl⟩ rfl hl.1 rfl (lv_room (Nat.le_of_ble_eq_true rfl)) dX12_message_189 (fun v86 g85 H85 k85 hp85 L85 => ?_)
                  have rv86 : rg (-2147483648) (2147483647) v86 := hp85.2.1
                  have uv86 : (-2147483648 : Int) ≤ v86.toInt ∧ v86.toInt ≤ 2147483647 := rv86
                  refine m_cv (As := [.int p1, .int v20, .int v84, .int v86]) (rest := []) x hml L85 (c_setupAtSwitch l nn X g85 p1 v20 v84 v86 hnn hX (mJ_fr (mJ_fr (mJ_fr (mJ_fr (mJ_fr hJ hp4.1 rfl) hp22.1 rfl) hp24.1 rfl) hp83.1 rfl) hp85.1 rfl) (rg_w q3 rfl) np1 (by omega)) (wm_V uc_setupAtSwitch ul_537 ui_setupAtSwitch us_setupAtSwitch u_init) rfl ⟨rfl, rfl⟩ hd_setupAtSwitch ⟨Nat.le_of_ble_eq_true rfl, Nat.le_of_ble_eq_true rfl⟩ rfl hl.1 rfl (lv_room (Nat.le_of_ble_eq_true rfl)) dX12_message_192 (fun  g87 H87 k87 hp87 L87 => ?_)
                  exact j195_73  g87 _ _ ls (mFr.tr (mFr.tr (mFr.tr mFr.rf hp83.1 rfl) hp85.1 rfl) hp87.1 rfl) L87 hp87.2.1 (lv_sub hl [5] rfl)
                · skip
                  have b1p1_88 : p1.toInt < 1 * nn := by have := Int32.lt_iff_toInt_lt.mp (rg_nle c140_82); have := lv1; omega
                  have ic140_82 := Int32.lt_iff_toInt_lt.mp (rg_nle c140_82)
                  have q89 : rg (2) (3) p1 := (rg_lt (rg_nle c140_82) q3 rv1).1
                  have uq89 : (2 : Int) ≤ p1.toInt ∧ p1.toInt ≤ 3 := q89
                  have q90 : rg (3) (4) v1 := (rg_lt (rg_nle c140_82) q3 rv1).2
                  have uq90 : (3 : Int) ≤ v1.toInt ∧ v1.toInt ≤ 4 := q90
                  refine lv_aload_n hx hb dX12_message_143 rfl (lv_at hl 5 rfl) ?_
                  refine lv_iload_n hx hb dX12_message_144 rfl (lv_at hl 6 rfl) ?_
                  refine lv_iload hx hb dX12_message_145 (lv_at hl 3 rfl) ?_
                  refine lv_aload_n hx hb dX12_message_147 rfl (lv_at hl 5 rfl) ?_
                  refine lv_bipush (v := 89) hx hb dX12_message_148 (by decide) ?_
                  refine lv_iload_n hx hb dX12_message_150 rfl (lv_at hl 7 rfl) ?_
                  refine m_ci (As := [.int (89 : Int32), .int p2]) (rest := [.int v20, .int p1, .ref h0]) x hml L24 (c_found l nn X g24 (89 : Int32) p2 hnn hX (rg_w rp2 rfl) (by obtain ⟨n, hn⟩ := hw6 (by omega); exact ⟨n, ch_fr ((show mFr [58, 59, 60, 68, 69, 70, 71, 72, 73, 74, 75, 76, 77, 78, 79, 80, 81, 86, 87, 89, 90, 91] g g24 from (mFr.tr (mFr.tr (mFr.tr mFr.rf hp4.1 rfl) hp22.1 rfl) hp24.1 rfl)).at 33 rfl) n _ hn⟩)) (wm_V uc_found ul_527 ui_found us_found u_init) rfl ⟨rfl, rfl⟩ hd_found ⟨Nat.le_of_ble_eq_true rfl, Nat.le_of_ble_eq_true rfl⟩ rfl hl.1 rfl (lv_room (Nat.le_of_ble_eq_true rfl)) dX12_message_151 (fun v92 g91 H91 k91 hp91 L91 => ?_)
                  have rv92 : rg (-2147483648) (2147483647) v92 := hp91.2.1
                  have uv92 : (-2147483648 : Int) ≤ v92.toInt ∧ v92.toInt ≤ 2147483647 := rv92
                  refine lv_aload_n hx hb dX12_message_154 rfl (lv_at hl 5 rfl) ?_
                  refine lv_bipush (v := 108) hx hb dX12_message_155 (by decide) ?_
                  refine lv_iload_n hx hb dX12_message_157 rfl (lv_at hl 7 rfl) ?_
                  refine m_ci (As := [.int (108 : Int32), .int p2]) (rest := [.int v92, .int v20, .int p1, .ref h0]) x hml L91 (c_found l nn X g91 (108 : Int32) p2 hnn hX (rg_w rp2 rfl) (by obtain ⟨n, hn⟩ := hw6 (by omega); exact ⟨n, ch_fr ((show mFr [58, 59, 60, 68, 69, 70, 71, 72, 73, 74, 75, 76, 77, 78, 79, 80, 81, 86, 87, 89, 90, 91] g g91 from (mFr.tr (mFr.tr (mFr.tr (mFr.tr mFr.rf hp4.1 rfl) hp22.1 rfl) hp24.1 rfl) hp91.1 rfl)).at 33 rfl) n _ hn⟩)) (wm_V uc_found ul_527 ui_found us_found u_init) rfl ⟨rfl, rfl⟩ hd_found ⟨Nat.le_of_ble_eq_true rfl, Nat.le_of_ble_eq_true rfl⟩ rfl hl.1 rfl (lv_room (Nat.le_of_ble_eq_true rfl)) dX12_message_158 (fun v94 g93 H93 k93 hp93 L93 => ?_)
                  have rv94 : rg (-2147483648) (2147483647) v94 := hp93.2.1
                  have uv94 : (-2147483648 : Int) ≤ v94.toInt ∧ v94.toInt ≤ 2147483647 := rv94
                  refine lv_aload_n hx hb dX12_message_161 rfl (lv_at hl 5 rfl) ?_
                  refine lv_bipush (v := 90) hx hb dX12_message_162 (by decide) ?_
                  refine lv_iload_n hx hb dX12_message_164 rfl (lv_at hl 7 rfl) ?_
                  refine m_ci (As := [.int (90 : Int32), .int p2]) (rest := [.int v94, .int v92, .int v20, .int p1, .ref h0]) x hml L93 (c_found l nn X g93 (90 : Int32) p2 hnn hX (rg_w rp2 rfl) (by obtain ⟨n, hn⟩ := hw6 (by omega); exact ⟨n, ch_fr ((show mFr [58, 59, 60, 68, 69, 70, 71, 72, 73, 74, 75, 76, 77, 78, 79, 80, 81, 86, 87, 89, 90, 91] g g93 from (mFr.tr (mFr.tr (mFr.tr (mFr.tr (mFr.tr mFr.rf hp4.1 rfl) hp22.1 rfl) hp24.1 rfl) hp91.1 rfl) hp93.1 rfl)).at 33 rfl) n _ hn⟩)) (wm_V uc_found ul_527 ui_found us_found u_init) rfl ⟨rfl, rfl⟩ hd_found ⟨Nat.le_of_ble_eq_true rfl, Nat.le_of_ble_eq_true rfl⟩ rfl hl.1 rfl (lv_room (Nat.le_of_ble_eq_true rfl)) dX12_message_165 (fun v96 g95 H95 k95 hp95 L95 => ?_)
                  have rv96 : rg (-2147483648) (2147483647) v96 := hp95.2.1
                  have uv96 : (-2147483648 : Int) ≤ v96.toInt ∧ v96.toInt ≤ 2147483647 := rv96
                  refine m_cv (As := [.int p1, .int v20, .int v92, .int v94, .int v96]) (rest := []) x hml L95 (c_setupAtEnd l nn X g95 p1 v20 v92 v94 v96 hnn hX (mJ_fr (mJ_fr (mJ_fr (mJ_fr (mJ_fr (mJ_fr hJ hp4.1 rfl) hp22.1 rfl) hp24.1 rfl) hp91.1 rfl) hp93.1 rfl) hp95.1 rfl) (rg_w q89 rfl) b1p1_88) (wm_V uc_setupAtEnd ul_534 ui_setupAtEnd us_setupAtEnd u_init) rfl ⟨rfl, rfl⟩ hd_setupAtEnd ⟨Nat.le_of_ble_eq_true rfl, Nat.le_of_ble_eq_true rfl⟩ rfl hl.1 rfl (lv_room (Nat.le_of_ble_eq_true rfl)) dX12_message_168 (fun  g97 H97 k97 hp97 L97 => ?_)
                  refine lv_goto (tgt := 195) hx hb dX12_message_171 (by decide) ?_
                  exact j195_73  g97 _ _ ls (mFr.tr (mFr.tr (mFr.tr (mFr.tr mFr.rf hp91.1 rfl) hp93.1 rfl) hp95.1 rfl) hp97.1 rfl) L97 hp97.2.1 (lv_sub hl [5] rfl)
          · skip
            have ic107_74 := congrArg Int32.toInt c107_74
            have y98 : (77 : Int32).toInt = 77 := by decide
            have q99 : rg (77) (77) v21 := (rg_eq c107_74 rv21 kc_77).1
            have uq99 : (77 : Int) ≤ v21.toInt ∧ v21.toInt ≤ 77 := q99
            refine lv_aload_n hx hb dX12_message_110 rfl (lv_at hl 5 rfl) ?_
            refine lv_iload_n hx hb dX12_message_111 rfl (lv_at hl 6 rfl) ?_
            refine lv_iload_n hx hb dX12_message_112 rfl (lv_at hl 4 rfl) ?_
            refine lv_iload hx hb dX12_message_113 (lv_at hl 3 rfl) ?_
            refine lv_bipush (v := 90) hx hb dX12_message_115 (by decide) ?_
            refine lv_bipush (v := 81) hx hb dX12_message_117 (by decide) ?_
            refine m_cv (As := [.int p1, .int (0 : Int32), .int v20, .int (90 : Int32), .int (81 : Int32)]) (rest := []) x hml L24 (c_withCause l nn X g24 p1 (0 : Int32) v20 (90 : Int32) (81 : Int32) hnn hX (rg_w q3 rfl) (rg_w kc_0 rfl)) (wm_V uc_withCause ul_488 ui_withCause us_withCause u_init) rfl ⟨rfl, rfl⟩ hd_withCause ⟨Nat.le_of_ble_eq_true rfl, Nat.le_of_ble_eq_true rfl⟩ rfl hl.1 rfl (lv_room (Nat.le_of_ble_eq_true rfl)) dX12_message_119 (fun  g100 H100 k100 hp100 L100 => ?_)
            refine lv_goto (tgt := 195) hx hb dX12_message_122 (by decide) ?_
            exact j195_73  g100 _ _ ls (mFr.tr mFr.rf hp100.1 rfl) L100 (mJ_fr (mJ_fr (mJ_fr (mJ_fr hJ hp4.1 rfl) hp22.1 rfl) hp24.1 rfl) hp100.1 rfl) (lv_sub hl [5] rfl)
      · skip
        have ic31_11 := Int32.le_iff_toInt_le.mp (rg_nlt c31_11)
        have q101 : rg (128) (2147483647) v10 := (rg_le (rg_nlt c31_11) kc_128 rv10).2
        have uq101 : (128 : Int) ≤ v10.toInt ∧ v10.toInt ≤ 2147483647 := q101
        refine lv_iconst (v := 1) hx hb dX12_message_34 (by decide) ?_
        refine lv_goto (tgt := 39) hx hb dX12_message_35 (by decide) ?_
        refine lv_istore_n (lv' := [(3, .int (1 : Int32)), (0, .ref h0), (1, .int p1), (2, .int p2)]) hx hb dX12_message_39 rfl hl (by decide) rfl (fun ls hl => ?_)
        refine lv_aload_n hx hb dX12_message_40 rfl (lv_at hl 1 rfl) ?_
        refine m_geta x L4 33 rfl rfl (wm_in uf_89) dX12_message_41 ?_
        refine lv_iconst (v := 2) hx hb dX12_message_44 (by decide) ?_
        refine m_ld x L4 33 rfl kc_2 rfl dX12_message_45 (fun v102 ev102 wv102 => ?_)
        refine m_top ((ev10).trans ev102.symm) ?_
        refine lv_bipush (v := 127) hx hb dX12_message_46 (by decide) ?_
        refine lv_iand hx hb dX12_message_48 ?_
        refine lv_topi (fun v103 ev103 => ?_)
        have rv103 : rg (0) (127) v103 := rg_and ev103 7 127 (by decide) rfl
        have uv103 : (0 : Int) ≤ v103.toInt ∧ v103.toInt ≤ 127 := rv103
        refine lv_bipush (v := 16) hx hb dX12_message_49 (by decide) ?_
        refine lv_ishl hx hb dX12_message_51 ?_
        refine lv_topi (fun v104 ev104 => ?_)
        have rv104 : rg (-2147483648) (2147483647) v104 := rg_any v104
        have uv104 : (-2147483648 : Int) ≤ v104.toInt ∧ v104.toInt ≤ 2147483647 := rv104
        refine lv_aload_n hx hb dX12_message_52 rfl (lv_at hl 1 rfl) ?_
        refine m_geta x L4 33 rfl rfl (wm_in uf_89) dX12_message_53 ?_
        refine lv_iconst (v := 3) hx hb dX12_message_56 (by decide) ?_
        refine m_ld x L4 33 rfl kc_3 rfl dX12_message_57 (fun v105 ev105 wv105 => ?_)
        have rv105 : rg (-2147483648) (2147483647) v105 := lj_33 wv105
        have uv105 : (-2147483648 : Int) ≤ v105.toInt ∧ v105.toInt ≤ 2147483647 := rv105
        have sv105 : v105.toInt = (g 33 (3 : Int32).toNatClampNeg).toInt := congrArg Int32.toInt (ev105.trans (congrFun ((show mFr [58, 59, 60, 68, 69, 70, 71, 72, 73, 74, 75, 76, 77, 78, 79, 80, 81, 86, 87, 89, 90, 91] g g4 from (mFr.tr mFr.rf hp4.1 rfl)).at 33 rfl) _))
        refine lv_bipush (v := 8) hx hb dX12_message_58 (by decide) ?_
        refine lv_ishl hx hb dX12_message_60 ?_
        refine lv_topi (fun v106 ev106 => ?_)
        have rv106 : rg (-2147483648) (2147483647) v106 := rg_any v106
        have uv106 : (-2147483648 : Int) ≤ v106.toInt ∧ v106.toInt ≤ 2147483647 := rv106
        refine lv_ior hx hb dX12_message_61 ?_
        refine lv_topi (fun v107 ev107 => ?_)
        have rv107 : rg (-2147483648) (2147483647) v107 := rg_any v107
        have uv107 : (-2147483648 : Int) ≤ v107.toInt ∧ v107.toInt ≤ 2147483647 := rv107
        refine lv_aload_n hx hb dX12_message_62 rfl (lv_at hl 1 rfl) ?_
        refine m_geta x L4 33 rfl rfl (wm_in uf_89) dX12_message_63 ?_
        refine lv_iconst (v := 4) hx hb dX12_message_66 (by decide) ?_
        refine m_ld x L4 33 rfl kc_4 rfl dX12_message_67 (fun v108 ev108 wv108 => ?_)
        have rv108 : rg (-2147483648) (2147483647) v108 := lj_33 wv108
        have uv108 : (-2147483648 : Int) ≤ v108.toInt ∧ v108.toInt ≤ 2147483647 := rv108
        have sv108 : v108.toInt = (g 33 (4 : Int32).toNatClampNeg).toInt := congrArg Int32.toInt (ev108.trans (congrFun ((show mFr [58, 59, 60, 68, 69, 70, 71, 72, 73, 74, 75, 76, 77, 78, 79, 80, 81, 86, 87, 89, 90, 91] g g4 from (mFr.tr mFr.rf hp4.1 rfl)).at 33 rfl) _))
        refine lv_ior hx hb dX12_message_68 ?_
        refine lv_topi (fun v109 ev109 => ?_)
        have rv109 : rg (-2147483648) (2147483647) v109 := rg_any v109
        have uv109 : (-2147483648 : Int) ≤ v109.toInt ∧ v109.toInt ≤ 2147483647 := rv109
        refine lv_istore (lv' := [(4, .int v109), (3, .int (1 : Int32)), (0, .ref h0), (1, .int p1), (2, .int p2)]) hx hb dX12_message_69 hl (by decide) rfl (fun ls hl => ?_)
        refine lv_aload_n hx hb dX12_message_71 rfl (lv_at hl 2 rfl) ?_
        refine m_geta x L4 33 rfl rfl (wm_in uf_89) dX12_message_72 ?_
        refine lv_iconst (v := 5) hx hb dX12_message_75 (by decide) ?_
        refine m_ld x L4 33 rfl kc_5 rfl dX12_message_76 (fun v110 ev110 wv110 => ?_)
        have rv110 : rg (-2147483648) (2147483647) v110 := lj_33 wv110
        have uv110 : (-2147483648 : Int) ≤ v110.toInt ∧ v110.toInt ≤ 2147483647 := rv110
        have sv110 : v110.toInt = (g 33 (5 : Int32).toNatClampNeg).toInt := congrArg Int32.toInt (ev110.trans (congrFun ((show mFr [58, 59, 60, 68, 69, 70, 71, 72, 73, 74, 75, 76, 77, 78, 79, 80, 81, 86, 87, 89, 90, 91] g g4 from (mFr.tr mFr.rf hp4.1 rfl)).at 33 rfl) _))
        refine lv_istore (lv' := [(5, .int v110), (4, .int v109), (3, .int (1 : Int32)), (0, .ref h0), (1, .int p1), (2, .int p2)]) hx hb dX12_message_77 hl (by decide) rfl (fun ls hl => ?_)
        refine lv_aload_n hx hb dX12_message_79 rfl (lv_at hl 3 rfl) ?_
        refine lv_bipush (v := 8) hx hb dX12_message_80 (by decide) ?_
        refine lv_iload_n hx hb dX12_message_82 rfl (lv_at hl 5 rfl) ?_
        refine m_ci (As := [.int (8 : Int32), .int p2]) (rest := []) x hml L4 (c_found l nn X g4 (8 : Int32) p2 hnn hX (rg_w rp2 rfl) (by obtain ⟨n, hn⟩ := hw6 (by omega); exact ⟨n, ch_fr ((show mFr [58, 59, 60, 68, 69, 70, 71, 72, 73, 74, 75, 76, 77, 78, 79, 80, 81, 86, 87, 89, 90, 91] g g4 from (mFr.tr mFr.rf hp4.1 rfl)).at 33 rfl) n _ hn⟩)) (wm_V uc_found ul_527 ui_found us_found u_init) rfl ⟨rfl, rfl⟩ hd_found ⟨Nat.le_of_ble_eq_true rfl, Nat.le_of_ble_eq_true rfl⟩ rfl hl.1 rfl (lv_room (Nat.le_of_ble_eq_true rfl)) dX12_message_83 (fun v112 g111 H111 k111 hp111 L111 => ?_)
        have rv112 : rg (-2147483648) (2147483647) v112 := hp111.2.1
        have uv112 : (-2147483648 : Int) ≤ v112.toInt ∧ v112.toInt ≤ 2147483647 := rv112
        refine lv_istore (lv' := [(6, .int v112), (5, .int v110), (4, .int v109), (3, .int (1 : Int32)), (0, .ref h0), (1, .int p1), (2, .int p2)]) hx hb dX12_message_86 hl (by decide) rfl (fun ls hl => ?_)
        refine lv_aload_n hx hb dX12_message_88 rfl (lv_at hl 4 rfl) ?_
        refine lv_iload_n hx hb dX12_message_89 rfl (lv_at hl 5 rfl) ?_
        refine lv_iload_n hx hb dX12_message_90 rfl (lv_at hl 3 rfl) ?_
        refine lv_iload hx hb dX12_message_91 (lv_at hl 2 rfl) ?_
        refine m_ci (As := [.int p1, .int (1 : Int32), .int v109]) (rest := []) x hml L111 (c_callAt l nn X g111 p1 (1 : Int32) v109 hnn hX (rg_w q3 rfl) (rg_w kc_1 rfl)) (wm_V uc_callAt ul_530 ui_callAt us_callAt u_init) rfl ⟨rfl, rfl⟩ hd_callAt ⟨Nat.le_of_ble_eq_true rfl, Nat.le_of_ble_eq_true rfl⟩ rfl hl.1 rfl (lv_room (Nat.le_of_ble_eq_true rfl)) dX12_message_93 (fun v114 g113 H113 k113 hp113 L113 => ?_)
        have rv114 : rg (-2) (319) v114 := hp113.2.1
        have uv114 : (-2 : Int) ≤ v114.toInt ∧ v114.toInt ≤ 319 := rv114
        have hw115 := hp113.2.2
        refine lv_istore (lv' := [(7, .int v114), (6, .int v112), (5, .int v110), (4, .int v109), (3, .int (1 : Int32)), (0, .ref h0), (1, .int p1), (2, .int p2)]) hx hb dX12_message_96 hl (by decide) rfl (fun ls hl => ?_)
        refine lv_iload hx hb dX12_message_98 (lv_at hl 0 rfl) ?_
        refine lv_if_ge (tgt := 196) hx hb dX12_message_100 (by decide) (fun c100_116 => ?_) (fun c100_116 => ?_)
        · skip
          have ic100_116 := Int32.le_iff_toInt_le.mp c100_116
          have q117 : rg (0) (319) v114 := (rg_le c100_116 kc_0 rv114).2
          have uq117 : (0 : Int) ≤ v114.toInt ∧ v114.toInt ≤ 319 := q117
          obtain ⟨v118, ev118⟩ : ∃ y : Int32, y = g113 68 v114.toNatClampNeg := ⟨_, rfl⟩
          have hcv118 := hw115 (by omega)
          have rv118 : rg (1) (11) v118 := ⟨by rw [ev118, (show mFr [] g111 g113 from (mFr.tr mFr.rf hp113.1 rfl)).at 68 rfl]; exact hcv118.1, by rw [ev118]; exact (lj_68 (L113.2.2 68 _)).2⟩
          refine lv_iload hx hb dX12_message_196 (lv_at hl 2 rfl) ?_
          refine lv_bipush (v := 77) hx hb dX12_message_198 (by decide) ?_
          have j338_119 : ∀ (g119 : mSt) (H119 : Heap) (k119 : List Loc) (ls : Array Slot), mFr [58, 59, 60, 68, 71, 74, 75, 76, 77, 86, 87, 89, 90, 91] g113 g119 → mL G h0 ad H0 nn X g119 H119 k119 → mJ nn [] g119 → lv_has ls 8 [(0, .ref h0)] → W p l e rm_message s m args below meth c H119 k119 0 0 Q (F0 m 338 ls []) := by
            intro  g119 H119 k119 ls hF119 L119 hJ119  hl
            exact hQ _ _ _ _ _ dX12_message_338 L119 ⟨(mFr.tr (mFr.tr (mFr.tr (mFr.tr mFr.rf hp4.1 rfl) hp111.1 rfl) hp113.1 rfl) hF119 rfl), hJ119, trivial⟩
          refine lv_icmp_ne (tgt := 256) hx hb dX12_message_200 (by decide) (fun c200_120 => ?_) (fun c200_120 => ?_)
          · skip
            have ic200_120 : v110.toInt ≠ (77 : Int32).toInt := fun z => c200_120 (Int32.toInt_inj.mp z)
            have y121 : (77 : Int32).toInt = 77 := by decide
            refine lv_iload hx hb dX12_message_256 (lv_at hl 2 rfl) ?_
            refine lv_bipush (v := 90) hx hb dX12_message_258 (by decide) ?_
            refine lv_icmp_ne (tgt := 304) hx hb dX12_message_260 (by decide) (fun c260_122 => ?_) (fun c260_122 => ?_)
            · skip
              have ic260_122 : v110.toInt ≠ (90 : Int32).toInt := fun z => c260_122 (Int32.toInt_inj.mp z)
              have y123 : (90 : Int32).toInt = 90 := by decide
              refine lv_iload_n hx hb dX12_message_304 rfl (lv_at hl 6 rfl) ?_
              refine lv_aload_n hx hb dX12_message_305 rfl (lv_at hl 5 rfl) ?_
              refine m_geti x L113 0 rfl rfl (wm_in uf_260) dX12_message_306 (fun v124 ev124 wv124 => ?_)
              refine m_top (((mm_fr (mm_fr (mm_fr ev1 hp4.1 rfl) hp111.1 rfl) hp113.1 rfl)).trans ev124.symm) ?_
              refine lv_icmp_ge (tgt := 330) hx hb dX12_message_309 (by decide) (fun c309_125 => ?_) (fun c309_125 => ?_)
              · skip
                have ic309_125 := Int32.le_iff_toInt_le.mp c309_125
                refine lv_aload_n hx hb dX12_message_330 rfl (lv_at hl 5 rfl) ?_
                refine lv_iload hx hb dX12_message_331 (lv_at hl 0 rfl) ?_
                refine lv_iload hx hb dX12_message_333 (lv_at hl 2 rfl) ?_
                refine m_cv (As := [.int v114, .int v110]) (rest := []) x hml L113 (c_switchMessage l nn X g113 v114 v110 hnn hX (mJ_fr (mJ_fr (mJ_fr hJ hp4.1 rfl) hp111.1 rfl) hp113.1 rfl) (rg_w q117 rfl) (by omega) (rg_eqv ev118 (rg_w rv118 rfl))) (wm_V uc_switchMessage ul_543 ui_switchMessage us_switchMessage u_init) rfl ⟨rfl, rfl⟩ hd_switchMessage ⟨Nat.le_of_ble_eq_true rfl, Nat.le_of_ble_eq_true rfl⟩ rfl hl.1 rfl (lv_room (Nat.le_of_ble_eq_true rfl)) dX12_message_335 (fun  g126 H126 k126 hp126 L126 => ?_)
                exact j338_119  g126 _ _ ls (mFr.tr mFr.rf hp126.1 rfl) L126 hp126.2.1 (lv_sub hl [5] rfl)
              · skip
                have b1p1_127 : p1.toInt < 1 * nn := by have := Int32.lt_iff_toInt_lt.mp (rg_nle c309_125); have := lv1; omega
                have ic309_125 := Int32.lt_iff_toInt_lt.mp (rg_nle c309_125)
                have q128 : rg (2) (3) p1 := (rg_lt (rg_nle c309_125) q3 rv1).1
                have uq128 : (2 : Int) ≤ p1.toInt ∧ p1.toInt ≤ 3 := q128
                have q129 : rg (3) (4) v1 := (rg_lt (rg_nle c309_125) q3 rv1).2
                have uq129 : (3 : Int) ≤ v1.toInt ∧ v1.toInt ≤ 4 := q129
                have q130 : rg (0) (159) v114 := ⟨by omega, by omega⟩
                refine lv_aload_n hx hb dX12_message_312 rfl (lv_at hl 5 rfl) ?_
                refine lv_iload hx hb dX12_message_313 (lv_at hl 0 rfl) ?_
                refine lv_iload hx hb dX12_message_315 (lv_at hl 2 rfl) ?_
                refine lv_aload_n hx hb dX12_message_317 rfl (lv_at hl 5 rfl) ?_
                refine lv_bipush (v := 90) hx hb dX12_message_318 (by decide) ?_
                refine lv_iload_n hx hb dX12_message_320 rfl (lv_at hl 7 rfl) ?_
                refine m_ci (As := [.int (90 : Int32), .int p2]) (rest := [.int v110, .int v114, .ref h0]) x hml L113 (c_found l nn X g113 (90 : Int32) p2 hnn hX (rg_w rp2 rfl) (by obtain ⟨n, hn⟩ := hw6 (by omega); exact ⟨n, ch_fr ((show mFr [58, 59, 60, 68, 69, 70, 71, 72, 73, 74, 75, 76, 77, 78, 79, 80, 81, 86, 87, 89, 90, 91] g g113 from (mFr.tr (mFr.tr (mFr.tr mFr.rf hp4.1 rfl) hp111.1 rfl) hp113.1 rfl)).at 33 rfl) n _ hn⟩)) (wm_V uc_found ul_527 ui_found us_found u_init) rfl ⟨rfl, rfl⟩ hd_found ⟨Nat.le_of_ble_eq_true rfl, Nat.le_of_ble_eq_true rfl⟩ rfl hl.1 rfl (lv_room (Nat.le_of_ble_eq_true rfl)) dX12_message_321 (fun v132 g131 H131 k131 hp131 L131 => ?_)
                have rv132 : rg (-2147483648) (2147483647) v132 := hp131.2.1
                have uv132 : (-2147483648 : Int) ≤ v132.toInt ∧ v132.toInt ≤ 2147483647 := rv132
                refine m_cv (As := [.int v114, .int v110, .int v132]) (rest := []) x hml L131 (c_endMessage l nn X g131 v114 v110 v132 hnn hX (mJ_fr (mJ_fr (mJ_fr (mJ_fr hJ hp4.1 rfl) hp111.1 rfl) hp113.1 rfl) hp131.1 rfl) (rg_w q130 rfl) (rg_eqv (mm_fr ev118 hp131.1 rfl) (rg_w rv118 rfl))) (wm_V uc_endMessage ul_540 ui_endMessage us_endMessage u_init) rfl ⟨rfl, rfl⟩ hd_endMessage ⟨Nat.le_of_ble_eq_true rfl, Nat.le_of_ble_eq_true rfl⟩ rfl hl.1 rfl (lv_room (Nat.le_of_ble_eq_true rfl)) dX12_message_324 (fun  g133 H133 k133 hp133 L133 => ?_)
                refine lv_goto (tgt := 338) hx hb dX12_message_327 (by decide) ?_
                exact j338_119  g133 _ _ ls (mFr.tr (mFr.tr mFr.rf hp131.1 rfl) hp133.1 rfl) L133 hp133.2.1 (lv_sub hl [5] rfl)
            · skip
              have ic260_122 := congrArg Int32.toInt c260_122
              have y134 : (90 : Int32).toInt = 90 := by decide
              have q135 : rg (90) (90) v110 := (rg_eq c260_122 rv110 kc_90).1
              have uq135 : (90 : Int) ≤ v110.toInt ∧ v110.toInt ≤ 90 := q135
              refine lv_aload_n hx hb dX12_message_263 rfl (lv_at hl 5 rfl) ?_
              refine lv_iload hx hb dX12_message_264 (lv_at hl 0 rfl) ?_
              refine lv_aload_n hx hb dX12_message_266 rfl (lv_at hl 5 rfl) ?_
              refine m_geta x L113 68 rfl rfl (wm_in uf_192) dX12_message_267 ?_
              refine lv_iload hx hb dX12_message_270 (lv_at hl 0 rfl) ?_
              refine m_ld x L113 68 rfl q117 rfl dX12_message_272 (fun v136 ev136 wv136 => ?_)
              refine m_top ((ev118).trans ev136.symm) ?_
              refine lv_bipush (v := 11) hx hb dX12_message_273 (by decide) ?_
              have j290_138 : ∀ (b290_2_137 : Int32) (g138 : mSt) (H138 : Heap) (k138 : List Loc) (ls : Array Slot), mFr [] g113 g138 → mL G h0 ad H0 nn X g138 H138 k138 → mJ nn [] g138 → rg (-2147483648) (2147483647) b290_2_137 → lv_has ls 8 [(0, .ref h0), (6, .int v112), (7, .int v114)] → W p l e rm_message s m args below meth c H138 k138 0 0 Q (F0 m 290 ls [.int b290_2_137, .int v114, .ref h0]) := by
                intro b290_2_137 g138 H138 k138 ls hF138 L138 hJ138 rb290_2_137 hl
                have ub290_2_137 : (-2147483648 : Int) ≤ b290_2_137.toInt ∧ b290_2_137.toInt ≤ 2147483647 := rb290_2_137
                refine m_cv (As := [.int v114, .int b290_2_137]) (rest := []) x hml L138 (c_over l nn X g138 v114 b290_2_137 hnn hX hJ138 (rg_w q117 rfl)) (wm_V uc_over ul_498 ui_over us_over u_init) rfl ⟨rfl, rfl⟩ hd_over ⟨Nat.le_of_ble_eq_true rfl, Nat.le_of_ble_eq_true rfl⟩ rfl hl.1 rfl (lv_room (Nat.le_of_ble_eq_true rfl)) dX12_message_290 (fun  g139 H139 k139 hp139 L139 => ?_)
                refine lv_aload_n hx hb dX12_message_293 rfl (lv_at hl 0 rfl) ?_
                refine lv_iload hx hb dX12_message_294 (lv_at hl 2 rfl) ?_
                refine lv_iload hx hb dX12_message_296 (lv_at hl 1 rfl) ?_
                refine m_cv (As := [.int v114, .int v112]) (rest := []) x hml L139 (c_releaseOther l nn X g139 v114 v112 hnn hX hp139.2.1 (rg_w q117 rfl)) (wm_V uc_releaseOther ul_501 ui_releaseOther us_releaseOther u_init) rfl ⟨rfl, rfl⟩ hd_releaseOther ⟨Nat.le_of_ble_eq_true rfl, Nat.le_of_ble_eq_true rfl⟩ rfl hl.1 rfl (lv_room (Nat.le_of_ble_eq_true rfl)) dX12_message_298 (fun  g140 H140 k140 hp140 L140 => ?_)
                refine lv_goto (tgt := 338) hx hb dX12_message_301 (by decide) ?_
                exact j338_119  g140 _ _ ls (mFr.tr (mFr.tr (mFr.tr mFr.rf hF138 rfl) hp139.1 rfl) hp140.1 rfl) L140 hp140.2.1 (lv_sub hl [0] rfl)
              refine lv_icmp_ne (tgt := 288) hx hb dX12_message_275 (by decide) (fun c275_141 => ?_) (fun c275_141 => ?_)
              · skip
                have ic275_141 : v118.toInt ≠ (11 : Int32).toInt := fun z => c275_141 (Int32.toInt_inj.mp z)
                have y142 : (11 : Int32).toInt = 11 := by decide
                have q143 : rg (1) (10) v118 := rg_neH c275_141 rv118 kc_11
                have uq143 : (1 : Int) ≤ v118.toInt ∧ v118.toInt ≤ 10 := q143
                refine lv_iload hx hb dX12_message_288 (lv_at hl 1 rfl) ?_
                exact j290_138 v112 g113 _ _ ls mFr.rf L113 (mJ_fr (mJ_fr (mJ_fr hJ hp4.1 rfl) hp111.1 rfl) hp113.1 rfl) (rg_w rv112 rfl) (lv_sub hl [5, 1, 0] rfl)
              · skip
                have ic275_141 := congrArg Int32.toInt c275_141
                have y144 : (11 : Int32).toInt = 11 := by decide
                have q145 : rg (11) (11) v118 := (rg_eq c275_141 rv118 kc_11).1
                have uq145 : (11 : Int) ≤ v118.toInt ∧ v118.toInt ≤ 11 := q145
                refine lv_aload_n hx hb dX12_message_278 rfl (lv_at hl 5 rfl) ?_
                refine m_geta x L113 74 rfl rfl (wm_in uf_210) dX12_message_279 ?_
                refine lv_iload hx hb dX12_message_282 (lv_at hl 0 rfl) ?_
                refine m_ld x L113 74 rfl q117 rfl dX12_message_284 (fun v146 ev146 wv146 => ?_)
                have rv146 : rg (-2147483648) (2147483647) v146 := lj_74 wv146
                have uv146 : (-2147483648 : Int) ≤ v146.toInt ∧ v146.toInt ≤ 2147483647 := rv146
                refine lv_goto (tgt := 290) hx hb dX12_message_285 (by decide) ?_
                exact j290_138 v146 g113 _ _ ls mFr.rf L113 (mJ_fr (mJ_fr (mJ_fr hJ hp4.1 rfl) hp111.1 rfl) hp113.1 rfl) (rg_w rv146 rfl) (lv_sub hl [5, 1, 0] rfl)
          · skip
            have ic200_120 := congrArg Int32.toInt c200_120
            have y147 : (77 : Int32).toInt = 77 := by decide
            have q148 : rg (77) (77) v110 := (rg_eq c200_120 rv110 kc_77).1
            have uq148 : (77 : Int) ≤ v110.toInt ∧ v110.toInt ≤ 77 := q148
            refine lv_aload_n hx hb dX12_message_203 rfl (lv_at hl 5 rfl) ?_
            refine lv_iload_n hx hb dX12_message_204 rfl (lv_at hl 6 rfl) ?_
            refine lv_iload_n hx hb dX12_message_205 rfl (lv_at hl 4 rfl) ?_
            refine lv_iload hx hb dX12_message_206 (lv_at hl 3 rfl) ?_
            refine lv_bipush (v := 90) hx hb dX12_message_208 (by decide) ?_
            refine lv_iload hx hb dX12_message_210 (lv_at hl 1 rfl) ?_
            refine m_cv (As := [.int p1, .int (1 : Int32), .int v109, .int (90 : Int32), .int v112]) (rest := []) x hml L113 (c_withCause l nn X g113 p1 (1 : Int32) v109 (90 : Int32) v112 hnn hX (rg_w q3 rfl) (rg_w kc_1 rfl)) (wm_V uc_withCause ul_488 ui_withCause us_withCause u_init) rfl ⟨rfl, rfl⟩ hd_withCause ⟨Nat.le_of_ble_eq_true rfl, Nat.le_of_ble_eq_true rfl⟩ rfl hl.1 rfl (lv_room (Nat.le_of_ble_eq_true rfl)) dX12_message_212 (fun  g149 H149 k149 hp149 L149 => ?_)
            refine lv_aload_n hx hb dX12_message_215 rfl (lv_at hl 5 rfl) ?_
            refine lv_iload hx hb dX12_message_216 (lv_at hl 0 rfl) ?_
            refine lv_aload_n hx hb dX12_message_218 rfl (lv_at hl 5 rfl) ?_
            refine m_geta x L149 68 rfl rfl (wm_in uf_192) dX12_message_219 ?_
            refine lv_iload hx hb dX12_message_222 (lv_at hl 0 rfl) ?_
            refine m_ld x L149 68 rfl q117 rfl dX12_message_224 (fun v150 ev150 wv150 => ?_)
            refine m_top (((mm_fr ev118 hp149.1 rfl)).trans ev150.symm) ?_
            refine lv_bipush (v := 11) hx hb dX12_message_225 (by decide) ?_
            have j242_152 : ∀ (b242_2_151 : Int32) (g152 : mSt) (H152 : Heap) (k152 : List Loc) (ls : Array Slot), mFr [] g149 g152 → mL G h0 ad H0 nn X g152 H152 k152 → mJ nn [] g152 → rg (-2147483648) (2147483647) b242_2_151 → lv_has ls 8 [(0, .ref h0), (6, .int v112), (7, .int v114)] → W p l e rm_message s m args below meth c H152 k152 0 0 Q (F0 m 242 ls [.int b242_2_151, .int v114, .ref h0]) := by
              intro b242_2_151 g152 H152 k152 ls hF152 L152 hJ152 rb242_2_151 hl
              have ub242_2_151 : (-2147483648 : Int) ≤ b242_2_151.toInt ∧ b242_2_151.toInt ≤ 2147483647 := rb242_2_151
              refine m_cv (As := [.int v114, .int b242_2_151]) (rest := []) x hml L152 (c_over l nn X g152 v114 b242_2_151 hnn hX hJ152 (rg_w q117 rfl)) (wm_V uc_over ul_498 ui_over us_over u_init) rfl ⟨rfl, rfl⟩ hd_over ⟨Nat.le_of_ble_eq_true rfl, Nat.le_of_ble_eq_true rfl⟩ rfl hl.1 rfl (lv_room (Nat.le_of_ble_eq_true rfl)) dX12_message_242 (fun  g153 H153 k153 hp153 L153 => ?_)
              refine lv_aload_n hx hb dX12_message_245 rfl (lv_at hl 0 rfl) ?_
              refine lv_iload hx hb dX12_message_246 (lv_at hl 2 rfl) ?_
              refine lv_iload hx hb dX12_message_248 (lv_at hl 1 rfl) ?_
              refine m_cv (As := [.int v114, .int v112]) (rest := []) x hml L153 (c_releaseOther l nn X g153 v114 v112 hnn hX hp153.2.1 (rg_w q117 rfl)) (wm_V uc_releaseOther ul_501 ui_releaseOther us_releaseOther u_init) rfl ⟨rfl, rfl⟩ hd_releaseOther ⟨Nat.le_of_ble_eq_true rfl, Nat.le_of_ble_eq_true rfl⟩ rfl hl.1 rfl (lv_room (Nat.le_of_ble_eq_true rfl)) dX12_message_250 (fun  g154 H154 k154 hp154 L154 => ?_)
              refine lv_goto (tgt := 338) hx hb dX12_message_253 (by decide) ?_
              exact j338_119  g154 _ _ ls (mFr.tr (mFr.tr (mFr.tr (mFr.tr mFr.rf hp149.1 rfl) hF152 rfl) hp153.1 rfl) hp154.1 rfl) L154 hp154.2.1 (lv_sub hl [0] rfl)
            refine lv_icmp_ne (tgt := 240) hx hb dX12_message_227 (by decide) (fun c227_155 => ?_) (fun c227_155 => ?_)
            · skip
              have ic227_155 : v118.toInt ≠ (11 : Int32).toInt := fun z => c227_155 (Int32.toInt_inj.mp z)
              have y156 : (11 : Int32).toInt = 11 := by decide
              have q157 : rg (1) (10) v118 := rg_neH c227_155 rv118 kc_11
              have uq157 : (1 : Int) ≤ v118.toInt ∧ v118.toInt ≤ 10 := q157
              refine lv_iload hx hb dX12_message_240 (lv_at hl 1 rfl) ?_
              exact j242_152 v112 g149 _ _ ls mFr.rf L149 (mJ_fr (mJ_fr (mJ_fr (mJ_fr hJ hp4.1 rfl) hp111.1 rfl) hp113.1 rfl) hp149.1 rfl) (rg_w rv112 rfl) (lv_sub hl [5, 1, 0] rfl)
            · skip
              have ic227_155 := congrArg Int32.toInt c227_155
              have y158 : (11 : Int32).toInt = 11 := by decide
              have q159 : rg (11) (11) v118 := (rg_eq c227_155 rv118 kc_11).1
              have uq159 : (11 : Int) ≤ v118.toInt ∧ v118.toInt ≤ 11 := q159
              refine lv_aload_n hx hb dX12_message_230 rfl (lv_at hl 5 rfl) ?_
              refine m_geta x L149 74 rfl rfl (wm_in uf_210) dX12_message_231 ?_
              refine lv_iload hx hb dX12_message_234 (lv_at hl 0 rfl) ?_
              refine m_ld x L149 74 rfl q117 rfl dX12_message_236 (fun v160 ev160 wv160 => ?_)
              have rv160 : rg (-2147483648) (2147483647) v160 := lj_74 wv160
              have uv160 : (-2147483648 : Int) ≤ v160.toInt ∧ v160.toInt ≤ 2147483647 := rv160
              refine lv_goto (tgt := 242) hx hb dX12_message_237 (by decide) ?_
              exact j242_152 v160 g149 _ _ ls mFr.rf L149 (mJ_fr (mJ_fr (mJ_fr (mJ_fr hJ hp4.1 rfl) hp111.1 rfl) hp113.1 rfl) hp149.1 rfl) (rg_w rv160 rfl) (lv_sub hl [5, 1, 0] rfl)
        · skip
          have ic100_116 := Int32.lt_iff_toInt_lt.mp (rg_nle c100_116)
          have q161 : rg (-2) (-1) v114 := (rg_lt (rg_nle c100_116) rv114 kc_0).1
          have uq161 : (-2 : Int) ≤ v114.toInt ∧ v114.toInt ≤ -1 := q161
          refine lv_iload hx hb dX12_message_103 (lv_at hl 2 rfl) ?_
          refine lv_bipush (v := 77) hx hb dX12_message_105 (by decide) ?_
          have j195_162 : ∀ (g162 : mSt) (H162 : Heap) (k162 : List Loc) (ls : Array Slot), mFr [58, 59, 60, 68, 69, 70, 71, 72, 73, 74, 75, 76, 77, 78, 79, 80, 81, 86, 87, 89, 90, 91] g113 g162 → mL G h0 ad H0 nn X g162 H162 k162 → mJ nn [] g162 → lv_has ls 8 [(0, .ref h0)] → W p l e rm_message s m args below meth c H162 k162 0 0 Q (F0 m 195 ls []) := by
            intro  g162 H162 k162 ls hF162 L162 hJ162  hl
            exact hQ _ _ _ _ _ dX12_message_195 L162 ⟨(mFr.tr (mFr.tr (mFr.tr (mFr.tr mFr.rf hp4.1 rfl) hp111.1 rfl) hp113.1 rfl) hF162 rfl), hJ162, trivial⟩
          refine lv_icmp_ne (tgt := 125) hx hb dX12_message_107 (by decide) (fun c107_163 => ?_) (fun c107_163 => ?_)
          · skip
            have ic107_163 : v110.toInt ≠ (77 : Int32).toInt := fun z => c107_163 (Int32.toInt_inj.mp z)
            have y164 : (77 : Int32).toInt = 77 := by decide
            refine lv_iload hx hb dX12_message_125 (lv_at hl 2 rfl) ?_
            refine lv_iconst (v := 5) hx hb dX12_message_127 (by decide) ?_
            refine lv_icmp_ne (tgt := 195) hx hb dX12_message_128 (by decide) (fun c128_165 => ?_) (fun c128_165 => ?_)
            · skip
              have ic128_165 : v110.toInt ≠ (5 : Int32).toInt := fun z => c128_165 (Int32.toInt_inj.mp z)
              have y166 : (5 : Int32).toInt = 5 := by decide
              exact j195_162  g113 _ _ ls mFr.rf L113 (mJ_fr (mJ_fr (mJ_fr hJ hp4.1 rfl) hp111.1 rfl) hp113.1 rfl) (lv_sub hl [5] rfl)
            · skip
              have ic128_165 := congrArg Int32.toInt c128_165
              have y167 : (5 : Int32).toInt = 5 := by decide
              have q168 : rg (5) (5) v110 := (rg_eq c128_165 rv110 kc_5).1
              have uq168 : (5 : Int) ≤ v110.toInt ∧ v110.toInt ≤ 5 := q168
              refine lv_iload_n hx hb dX12_message_131 rfl (lv_at hl 4 rfl) ?_
              refine lv_if_ne (tgt := 195) hx hb dX12_message_132 (by decide) (fun c132_169 => ?_) (fun c132_169 => ?_)
              · skip
                exact j195_162  g113 _ _ ls mFr.rf L113 (mJ_fr (mJ_fr (mJ_fr hJ hp4.1 rfl) hp111.1 rfl) hp113.1 rfl) (lv_sub hl [5] rfl)
              · skip
                exact absurd c132_169 (by decide)
          · skip
            have ic107_163 := congrArg Int32.toInt c107_163
            have y170 : (77 : Int32).toInt = 77 := by decide
            have q171 : rg (77) (77) v110 := (rg_eq c107_163 rv110 kc_77).1
            have uq171 : (77 : Int) ≤ v110.toInt ∧ v110.toInt ≤ 77 := q171
            refine lv_aload_n hx hb dX12_message_110 rfl (lv_at hl 5 rfl) ?_
            refine lv_iload_n hx hb dX12_message_111 rfl (lv_at hl 6 rfl) ?_
            refine lv_iload_n hx hb dX12_message_112 rfl (lv_at hl 4 rfl) ?_
            refine lv_iload hx hb dX12_message_113 (lv_at hl 3 rfl) ?_
            refine lv_bipush (v := 90) hx hb dX12_message_115 (by decide) ?_
            refine lv_bipush (v := 81) hx hb dX12_message_117 (by decide) ?_
            refine m_cv (As := [.int p1, .int (1 : Int32), .int v109, .int (90 : Int32), .int (81 : Int32)]) (rest := []) x hml L113 (c_withCause l nn X g113 p1 (1 : Int32) v109 (90 : Int32) (81 : Int32) hnn hX (rg_w q3 rfl) (rg_w kc_1 rfl)) (wm_V uc_withCause ul_488 ui_withCause us_withCause u_init) rfl ⟨rfl, rfl⟩ hd_withCause ⟨Nat.le_of_ble_eq_true rfl, Nat.le_of_ble_eq_true rfl⟩ rfl hl.1 rfl (lv_room (Nat.le_of_ble_eq_true rfl)) dX12_message_119 (fun  g172 H172 k172 hp172 L172 => ?_)
            refine lv_goto (tgt := 195) hx hb dX12_message_122 (by decide) ?_
            exact j195_162  g172 _ _ ls (mFr.tr mFr.rf hp172.1 rfl) L172 (mJ_fr (mJ_fr (mJ_fr (mJ_fr hJ hp4.1 rfl) hp111.1 rfl) hp113.1 rfl) hp172.1 rfl) (lv_sub hl [5] rfl)
    · skip
      have ic18_7 := congrArg Int32.toInt c18_7
      have y173 : (0 : Int32).toInt = 0 := by decide
      have q174 : rg (0) (0) v5 := (rg_eq c18_7 rv5 kc_0).1
      have uq174 : (0 : Int) ≤ v5.toInt ∧ v5.toInt ≤ 0 := q174
      exact hQ _ _ _ _ _ dX12_message_21 L4 ⟨(mFr.tr mFr.rf hp4.1 rfl), (mJ_fr hJ hp4.1 rfl), trivial⟩
  · skip
    have b1p1_175 : p1.toInt < 1 * nn := by have := Int32.lt_iff_toInt_lt.mp (rg_nle c7_2); have := lv1; omega
    have ic7_2 := Int32.lt_iff_toInt_lt.mp (rg_nle c7_2)
    have q176 : rg (0) (3) p1 := (rg_lt (rg_nle c7_2) rp1 rv1).1
    have uq176 : (0 : Int) ≤ p1.toInt ∧ p1.toInt ≤ 3 := q176
    refine lv_iconst (v := 1) hx hb dX12_message_10 (by decide) ?_
    refine lv_goto (tgt := 15) hx hb dX12_message_11 (by decide) ?_
    refine m_ci (As := [.int p2, .int (1 : Int32)]) (rest := []) x hml L (c_isFormed l nn X g p2 (1 : Int32) hnn hX (rg_w rp2 rfl) (rg_w kc_1 rfl)) (wm_V uc_isFormed ul_523 ui_isFormed us_isFormed u_init) rfl ⟨rfl, rfl⟩ hd_isFormed ⟨Nat.le_of_ble_eq_true rfl, Nat.le_of_ble_eq_true rfl⟩ rfl hl.1 rfl (lv_room (Nat.le_of_ble_eq_true rfl)) dX12_message_15 (fun v178 g177 H177 k177 hp177 L177 => ?_)
    have rv178 : rg (0) (1) v178 := hp177.2.1
    have uv178 : (0 : Int) ≤ v178.toInt ∧ v178.toInt ≤ 1 := rv178
    have hw179 := hp177.2.2
    refine lv_if_ne (tgt := 22) hx hb dX12_message_18 (by decide) (fun c18_180 => ?_) (fun c18_180 => ?_)
    · skip
      have ic18_180 : v178.toInt ≠ (0 : Int32).toInt := fun z => c18_180 (Int32.toInt_inj.mp z)
      have y181 : (0 : Int32).toInt = 0 := by decide
      have q182 : rg (1) (1) v178 := rg_neL c18_180 rv178 kc_0
      have uq182 : (1 : Int) ≤ v178.toInt ∧ v178.toInt ≤ 1 := q182
      refine lv_aload_n hx hb dX12_message_22 rfl (lv_at hl 0 rfl) ?_
      refine m_geta x L177 33 rfl rfl (wm_in uf_89) dX12_message_23 ?_
      refine lv_iconst (v := 2) hx hb dX12_message_26 (by decide) ?_
      refine m_ld x L177 33 rfl kc_2 rfl dX12_message_27 (fun v183 ev183 wv183 => ?_)
      have rv183 : rg (-2147483648) (2147483647) v183 := lj_33 wv183
      have uv183 : (-2147483648 : Int) ≤ v183.toInt ∧ v183.toInt ≤ 2147483647 := rv183
      have sv183 : v183.toInt = (g 33 (2 : Int32).toNatClampNeg).toInt := congrArg Int32.toInt (ev183.trans (congrFun ((show mFr [58, 59, 60, 68, 69, 70, 71, 72, 73, 74, 75, 76, 77, 78, 79, 80, 81, 86, 87, 89, 90, 91] g g177 from (mFr.tr mFr.rf hp177.1 rfl)).at 33 rfl) _))
      refine lv_sipush (v := 128) hx hb dX12_message_28 (by decide) ?_
      refine lv_icmp_lt (tgt := 38) hx hb dX12_message_31 (by decide) (fun c31_184 => ?_) (fun c31_184 => ?_)
      · skip
        have ic31_184 := Int32.lt_iff_toInt_lt.mp c31_184
        have q185 : rg (-2147483648) (127) v183 := (rg_lt c31_184 rv183 kc_128).1
        have uq185 : (-2147483648 : Int) ≤ v183.toInt ∧ v183.toInt ≤ 127 := q185
        refine lv_iconst (v := 0) hx hb dX12_message_38 (by decide) ?_
        refine lv_istore_n (lv' := [(3, .int (0 : Int32)), (0, .ref h0), (1, .int p1), (2, .int p2)]) hx hb dX12_message_39 rfl hl (by decide) rfl (fun ls hl => ?_)
        refine lv_aload_n hx hb dX12_message_40 rfl (lv_at hl 1 rfl) ?_
        refine m_geta x L177 33 rfl rfl (wm_in uf_89) dX12_message_41 ?_
        refine lv_iconst (v := 2) hx hb dX12_message_44 (by decide) ?_
        refine m_ld x L177 33 rfl kc_2 rfl dX12_message_45 (fun v186 ev186 wv186 => ?_)
        refine m_top ((ev183).trans ev186.symm) ?_
        refine lv_bipush (v := 127) hx hb dX12_message_46 (by decide) ?_
        refine lv_iand hx hb dX12_message_48 ?_
        refine lv_topi (fun v187 ev187 => ?_)
        have rv187 : rg (0) (127) v187 := rg_and ev187 7 127 (by decide) rfl
        have uv187 : (0 : Int) ≤ v187.toInt ∧ v187.toInt ≤ 127 := rv187
        refine lv_bipush (v := 16) hx hb dX12_message_49 (by decide) ?_
        refine lv_ishl hx hb dX12_message_51 ?_
        refine lv_topi (fun v188 ev188 => ?_)
        have rv188 : rg (-2147483648) (2147483647) v188 := rg_any v188
        have uv188 : (-2147483648 : Int) ≤ v188.toInt ∧ v188.toInt ≤ 2147483647 := rv188
        refine lv_aload_n hx hb dX12_message_52 rfl (lv_at hl 1 rfl) ?_
        refine m_geta x L177 33 rfl rfl (wm_in uf_89) dX12_message_53 ?_
        refine lv_iconst (v := 3) hx hb dX12_message_56 (by decide) ?_
        refine m_ld x L177 33 rfl kc_3 rfl dX12_message_57 (fun v189 ev189 wv189 => ?_)
        have rv189 : rg (-2147483648) (2147483647) v189 := lj_33 wv189
        have uv189 : (-2147483648 : Int) ≤ v189.toInt ∧ v189.toInt ≤ 2147483647 := rv189
        have sv189 : v189.toInt = (g 33 (3 : Int32).toNatClampNeg).toInt := congrArg Int32.toInt (ev189.trans (congrFun ((show mFr [58, 59, 60, 68, 69, 70, 71, 72, 73, 74, 75, 76, 77, 78, 79, 80, 81, 86, 87, 89, 90, 91] g g177 from (mFr.tr mFr.rf hp177.1 rfl)).at 33 rfl) _))
        refine lv_bipush (v := 8) hx hb dX12_message_58 (by decide) ?_
        refine lv_ishl hx hb dX12_message_60 ?_
        refine lv_topi (fun v190 ev190 => ?_)
        have rv190 : rg (-2147483648) (2147483647) v190 := rg_any v190
        have uv190 : (-2147483648 : Int) ≤ v190.toInt ∧ v190.toInt ≤ 2147483647 := rv190
        refine lv_ior hx hb dX12_message_61 ?_
        refine lv_topi (fun v191 ev191 => ?_)
        have rv191 : rg (-2147483648) (2147483647) v191 := rg_any v191
        have uv191 : (-2147483648 : Int) ≤ v191.toInt ∧ v191.toInt ≤ 2147483647 := rv191
        refine lv_aload_n hx hb dX12_message_62 rfl (lv_at hl 1 rfl) ?_
        refine m_geta x L177 33 rfl rfl (wm_in uf_89) dX12_message_63 ?_
        refine lv_iconst (v := 4) hx hb dX12_message_66 (by decide) ?_
        refine m_ld x L177 33 rfl kc_4 rfl dX12_message_67 (fun v192 ev192 wv192 => ?_)
        have rv192 : rg (-2147483648) (2147483647) v192 := lj_33 wv192
        have uv192 : (-2147483648 : Int) ≤ v192.toInt ∧ v192.toInt ≤ 2147483647 := rv192
        have sv192 : v192.toInt = (g 33 (4 : Int32).toNatClampNeg).toInt := congrArg Int32.toInt (ev192.trans (congrFun ((show mFr [58, 59, 60, 68, 69, 70, 71, 72, 73, 74, 75, 76, 77, 78, 79, 80, 81, 86, 87, 89, 90, 91] g g177 from (mFr.tr mFr.rf hp177.1 rfl)).at 33 rfl) _))
        refine lv_ior hx hb dX12_message_68 ?_
        refine lv_topi (fun v193 ev193 => ?_)
        have rv193 : rg (-2147483648) (2147483647) v193 := rg_any v193
        have uv193 : (-2147483648 : Int) ≤ v193.toInt ∧ v193.toInt ≤ 2147483647 := rv193
        refine lv_istore (lv' := [(4, .int v193), (3, .int (0 : Int32)), (0, .ref h0), (1, .int p1), (2, .int p2)]) hx hb dX12_message_69 hl (by decide) rfl (fun ls hl => ?_)
        refine lv_aload_n hx hb dX12_message_71 rfl (lv_at hl 2 rfl) ?_
        refine m_geta x L177 33 rfl rfl (wm_in uf_89) dX12_message_72 ?_
        refine lv_iconst (v := 5) hx hb dX12_message_75 (by decide) ?_
        refine m_ld x L177 33 rfl kc_5 rfl dX12_message_76 (fun v194 ev194 wv194 => ?_)
        have rv194 : rg (-2147483648) (2147483647) v194 := lj_33 wv194
        have uv194 : (-2147483648 : Int) ≤ v194.toInt ∧ v194.toInt ≤ 2147483647 := rv194
        have sv194 : v194.toInt = (g 33 (5 : Int32).toNatClampNeg).toInt := congrArg Int32.toInt (ev194.trans (congrFun ((show mFr [58, 59, 60, 68, 69, 70, 71, 72, 73, 74, 75, 76, 77, 78, 79, 80, 81, 86, 87, 89, 90, 91] g g177 from (mFr.tr mFr.rf hp177.1 rfl)).at 33 rfl) _))
        refine lv_istore (lv' := [(5, .int v194), (4, .int v193), (3, .int (0 : Int32)), (0, .ref h0), (1, .int p1), (2, .int p2)]) hx hb dX12_message_77 hl (by decide) rfl (fun ls hl => ?_)
        refine lv_aload_n hx hb dX12_message_79 rfl (lv_at hl 3 rfl) ?_
        refine lv_bipush (v := 8) hx hb dX12_message_80 (by decide) ?_
        refine lv_iload_n hx hb dX12_message_82 rfl (lv_at hl 5 rfl) ?_
        refine m_ci (As := [.int (8 : Int32), .int p2]) (rest := []) x hml L177 (c_found l nn X g177 (8 : Int32) p2 hnn hX (rg_w rp2 rfl) (by obtain ⟨n, hn⟩ := hw179 (by omega); exact ⟨n, ch_fr ((show mFr [58, 59, 60, 68, 69, 70, 71, 72, 73, 74, 75, 76, 77, 78, 79, 80, 81, 86, 87, 89, 90, 91] g g177 from (mFr.tr mFr.rf hp177.1 rfl)).at 33 rfl) n _ hn⟩)) (wm_V uc_found ul_527 ui_found us_found u_init) rfl ⟨rfl, rfl⟩ hd_found ⟨Nat.le_of_ble_eq_true rfl, Nat.le_of_ble_eq_true rfl⟩ rfl hl.1 rfl (lv_room (Nat.le_of_ble_eq_true rfl)) dX12_message_83 (fun v196 g195 H195 k195 hp195 L195 => ?_)
        have rv196 : rg (-2147483648) (2147483647) v196 := hp195.2.1
        have uv196 : (-2147483648 : Int) ≤ v196.toInt ∧ v196.toInt ≤ 2147483647 := rv196
        refine lv_istore (lv' := [(6, .int v196), (5, .int v194), (4, .int v193), (3, .int (0 : Int32)), (0, .ref h0), (1, .int p1), (2, .int p2)]) hx hb dX12_message_86 hl (by decide) rfl (fun ls hl => ?_)
        refine lv_aload_n hx hb dX12_message_88 rfl (lv_at hl 4 rfl) ?_
        refine lv_iload_n hx hb dX12_message_89 rfl (lv_at hl 5 rfl) ?_
        refine lv_iload_n hx hb dX12_message_90 rfl (lv_at hl 3 rfl) ?_
        refine lv_iload hx hb dX12_message_91 (lv_at hl 2 rfl) ?_
        refine m_ci (As := [.int p1, .int (0 : Int32), .int v193]) (rest := []) x hml L195 (c_callAt l nn X g195 p1 (0 : Int32) v193 hnn hX (rg_w q176 rfl) (rg_w kc_0 rfl)) (wm_V uc_callAt ul_530 ui_callAt us_callAt u_init) rfl ⟨rfl, rfl⟩ hd_callAt ⟨Nat.le_of_ble_eq_true rfl, Nat.le_of_ble_eq_true rfl⟩ rfl hl.1 rfl (lv_room (Nat.le_of_ble_eq_true rfl)) dX12_message_93 (fun v198 g197 H197 k197 hp197 L197 => ?_)
        have rv198 : rg (-2) (319) v198 := hp197.2.1
        have uv198 : (-2 : Int) ≤ v198.toInt ∧ v198.toInt ≤ 319 := rv198
        have hw199 := hp197.2.2
        refine lv_istore (lv' := [(7, .int v198), (6, .int v196), (5, .int v194), (4, .int v193), (3, .int (0 : Int32)), (0, .ref h0), (1, .int p1), (2, .int p2)]) hx hb dX12_message_96 hl (by decide) rfl (fun ls hl => ?_)
        refine lv_iload hx hb dX12_message_98 (lv_at hl 0 rfl) ?_
        refine lv_if_ge (tgt := 196) hx hb dX12_message_100 (by decide) (fun c100_200 => ?_) (fun c100_200 => ?_)
        · skip
          have ic100_200 := Int32.le_iff_toInt_le.mp c100_200
          have q201 : rg (0) (319) v198 := (rg_le c100_200 kc_0 rv198).2
          have uq201 : (0 : Int) ≤ v198.toInt ∧ v198.toInt ≤ 319 := q201
          obtain ⟨v202, ev202⟩ : ∃ y : Int32, y = g197 68 v198.toNatClampNeg := ⟨_, rfl⟩
          have hcv202 := hw199 (by omega)
          have rv202 : rg (1) (11) v202 := ⟨by rw [ev202, (show mFr [] g195 g197 from (mFr.tr mFr.rf hp197.1 rfl)).at 68 rfl]; exact hcv202.1, by rw [ev202]; exact (lj_68 (L197.2.2 68 _)).2⟩
          refine lv_iload hx hb dX12_message_196 (lv_at hl 2 rfl) ?_
          refine lv_bipush (v := 77) hx hb dX12_message_198 (by decide) ?_
          have j338_203 : ∀ (g203 : mSt) (H203 : Heap) (k203 : List Loc) (ls : Array Slot), mFr [58, 59, 60, 68, 71, 74, 75, 76, 77, 86, 87, 89, 90, 91] g197 g203 → mL G h0 ad H0 nn X g203 H203 k203 → mJ nn [] g203 → lv_has ls 8 [(0, .ref h0)] → W p l e rm_message s m args below meth c H203 k203 0 0 Q (F0 m 338 ls []) := by
            intro  g203 H203 k203 ls hF203 L203 hJ203  hl
            exact hQ _ _ _ _ _ dX12_message_338 L203 ⟨(mFr.tr (mFr.tr (mFr.tr (mFr.tr mFr.rf hp177.1 rfl) hp195.1 rfl) hp197.1 rfl) hF203 rfl), hJ203, trivial⟩
          refine lv_icmp_ne (tgt := 256) hx hb dX12_message_200 (by decide) (fun c200_204 => ?_) (fun c200_204 => ?_)
          · skip
            have ic200_204 : v194.toInt ≠ (77 : Int32).toInt := fun z => c200_204 (Int32.toInt_inj.mp z)
            have y205 : (77 : Int32).toInt = 77 := by decide
            refine lv_iload hx hb dX12_message_256 (lv_at hl 2 rfl) ?_
            refine lv_bipush (v := 90) hx hb dX12_message_258 (by decide) ?_
            refine lv_icmp_ne (tgt := 304) hx hb dX12_message_260 (by decide) (fun c260_206 => ?_) (fun c260_206 => ?_)
            · skip
              have ic260_206 : v194.toInt ≠ (90 : Int32).toInt := fun z => c260_206 (Int32.toInt_inj.mp z)
              have y207 : (90 : Int32).toInt = 90 := by decide
              refine lv_iload_n hx hb dX12_message_304 rfl (lv_at hl 6 rfl) ?_
              refine lv_aload_n hx hb dX12_message_305 rfl (lv_at hl 5 rfl) ?_
              refine m_geti x L197 0 rfl rfl (wm_in uf_260) dX12_message_306 (fun v208 ev208 wv208 => ?_)
              refine m_top (((mm_fr (mm_fr (mm_fr ev1 hp177.1 rfl) hp195.1 rfl) hp197.1 rfl)).trans ev208.symm) ?_
              refine lv_icmp_ge (tgt := 330) hx hb dX12_message_309 (by decide) (fun c309_209 => ?_) (fun c309_209 => ?_)
              · skip
                have ic309_209 := Int32.le_iff_toInt_le.mp c309_209
                have q210 : rg (2) (3) v1 := (rg_le c309_209 rv1 q176).1
                have uq210 : (2 : Int) ≤ v1.toInt ∧ v1.toInt ≤ 3 := q210
                have q211 : rg (2) (3) p1 := (rg_le c309_209 rv1 q176).2
                have uq211 : (2 : Int) ≤ p1.toInt ∧ p1.toInt ≤ 3 := q211
                refine lv_aload_n hx hb dX12_message_330 rfl (lv_at hl 5 rfl) ?_
                refine lv_iload hx hb dX12_message_331 (lv_at hl 0 rfl) ?_
                refine lv_iload hx hb dX12_message_333 (lv_at hl 2 rfl) ?_
                refine m_cv (As := [.int v198, .int v194]) (rest := []) x hml L197 (c_switchMessage l nn X g197 v198 v194 hnn hX (mJ_fr (mJ_fr (mJ_fr hJ hp177.1 rfl) hp195.1 rfl) hp197.1 rfl) (rg_w q201 rfl) (by omega) (rg_eqv ev202 (rg_w rv202 rfl))) (wm_V uc_switchMessage ul_543 ui_switchMessage us_switchMessage u_init) rfl ⟨rfl, rfl⟩ hd_switchMessage ⟨Nat.le_of_ble_eq_true rfl, Nat.le_of_ble_eq_true rfl⟩ rfl hl.1 rfl (lv_room (Nat.le_of_ble_eq_true rfl)) dX12_message_335 (fun  g212 H212 k212 hp212 L212 => ?_)
                exact j338_203  g212 _ _ ls (mFr.tr mFr.rf hp212.1 rfl) L212 hp212.2.1 (lv_sub hl [5] rfl)
              · skip
                have b1p1_213 : p1.toInt < 1 * nn := by have := Int32.lt_iff_toInt_lt.mp (rg_nle c309_209); have := lv1; omega
                have ic309_209 := Int32.lt_iff_toInt_lt.mp (rg_nle c309_209)
                have q214 : rg (0) (159) v198 := ⟨by omega, by omega⟩
                refine lv_aload_n hx hb dX12_message_312 rfl (lv_at hl 5 rfl) ?_
                refine lv_iload hx hb dX12_message_313 (lv_at hl 0 rfl) ?_
                refine lv_iload hx hb dX12_message_315 (lv_at hl 2 rfl) ?_
                refine lv_aload_n hx hb dX12_message_317 rfl (lv_at hl 5 rfl) ?_
                refine lv_bipush (v := 90) hx hb dX12_message_318 (by decide) ?_
                refine lv_iload_n hx hb dX12_message_320 rfl (lv_at hl 7 rfl) ?_
                refine m_ci (As := [.int (90 : Int32), .int p2]) (rest := [.int v194, .int v198, .ref h0]) x hml L197 (c_found l nn X g197 (90 : Int32) p2 hnn hX (rg_w rp2 rfl) (by obtain ⟨n, hn⟩ := hw179 (by omega); exact ⟨n, ch_fr ((show mFr [58, 59, 60, 68, 69, 70, 71, 72, 73, 74, 75, 76, 77, 78, 79, 80, 81, 86, 87, 89, 90, 91] g g197 from (mFr.tr (mFr.tr (mFr.tr mFr.rf hp177.1 rfl) hp195.1 rfl) hp197.1 rfl)).at 33 rfl) n _ hn⟩)) (wm_V uc_found ul_527 ui_found us_found u_init) rfl ⟨rfl, rfl⟩ hd_found ⟨Nat.le_of_ble_eq_true rfl, Nat.le_of_ble_eq_true rfl⟩ rfl hl.1 rfl (lv_room (Nat.le_of_ble_eq_true rfl)) dX12_message_321 (fun v216 g215 H215 k215 hp215 L215 => ?_)
                have rv216 : rg (-2147483648) (2147483647) v216 := hp215.2.1
                have uv216 : (-2147483648 : Int) ≤ v216.toInt ∧ v216.toInt ≤ 2147483647 := rv216
                refine m_cv (As := [.int v198, .int v194, .int v216]) (rest := []) x hml L215 (c_endMessage l nn X g215 v198 v194 v216 hnn hX (mJ_fr (mJ_fr (mJ_fr (mJ_fr hJ hp177.1 rfl) hp195.1 rfl) hp197.1 rfl) hp215.1 rfl) (rg_w q214 rfl) (rg_eqv (mm_fr ev202 hp215.1 rfl) (rg_w rv202 rfl))) (wm_V uc_endMessage ul_540 ui_endMessage us_endMessage u_init) rfl ⟨rfl, rfl⟩ hd_endMessage ⟨Nat.le_of_ble_eq_true rfl, Nat.le_of_ble_eq_true rfl⟩ rfl hl.1 rfl (lv_room (Nat.le_of_ble_eq_true rfl)) dX12_message_324 (fun  g217 H217 k217 hp217 L217 => ?_)
                refine lv_goto (tgt := 338) hx hb dX12_message_327 (by decide) ?_
                exact j338_203  g217 _ _ ls (mFr.tr (mFr.tr mFr.rf hp215.1 rfl) hp217.1 rfl) L217 hp217.2.1 (lv_sub hl [5] rfl)
            · skip
              have ic260_206 := congrArg Int32.toInt c260_206
              have y218 : (90 : Int32).toInt = 90 := by decide
              have q219 : rg (90) (90) v194 := (rg_eq c260_206 rv194 kc_90).1
              have uq219 : (90 : Int) ≤ v194.toInt ∧ v194.toInt ≤ 90 := q219
              refine lv_aload_n hx hb dX12_message_263 rfl (lv_at hl 5 rfl) ?_
              refine lv_iload hx hb dX12_message_264 (lv_at hl 0 rfl) ?_
              refine lv_aload_n hx hb dX12_message_266 rfl (lv_at hl 5 rfl) ?_
              refine m_geta x L197 68 rfl rfl (wm_in uf_192) dX12_message_267 ?_
              refine lv_iload hx hb dX12_message_270 (lv_at hl 0 rfl) ?_
              refine m_ld x L197 68 rfl q201 rfl dX12_message_272 (fun v220 ev220 wv220 => ?_)
              refine m_top ((ev202).trans ev220.symm) ?_
              refine lv_bipush (v := 11) hx hb dX12_message_273 (by decide) ?_
              have j290_222 : ∀ (b290_2_221 : Int32) (g222 : mSt) (H222 : Heap) (k222 : List Loc) (ls : Array Slot), mFr [] g197 g222 → mL G h0 ad H0 nn X g222 H222 k222 → mJ nn [] g222 → rg (-2147483648) (2147483647) b290_2_221 → lv_has ls 8 [(0, .ref h0), (6, .int v196), (7, .int v198)] → W p l e rm_message s m args below meth c H222 k222 0 0 Q (F0 m 290 ls [.int b290_2_221, .int v198, .ref h0]) := by
                intro b290_2_221 g222 H222 k222 ls hF222 L222 hJ222 rb290_2_221 hl
                have ub290_2_221 : (-2147483648 : Int) ≤ b290_2_221.toInt ∧ b290_2_221.toInt ≤ 2147483647 := rb290_2_221
                refine m_cv (As := [.int v198, .int b290_2_221]) (rest := []) x hml L222 (c_over l nn X g222 v198 b290_2_221 hnn hX hJ222 (rg_w q201 rfl)) (wm_V uc_over ul_498 ui_over us_over u_init) rfl ⟨rfl, rfl⟩ hd_over ⟨Nat.le_of_ble_eq_true rfl, Nat.le_of_ble_eq_true rfl⟩ rfl hl.1 rfl (lv_room (Nat.le_of_ble_eq_true rfl)) dX12_message_290 (fun  g223 H223 k223 hp223 L223 => ?_)
                refine lv_aload_n hx hb dX12_message_293 rfl (lv_at hl 0 rfl) ?_
                refine lv_iload hx hb dX12_message_294 (lv_at hl 2 rfl) ?_
                refine lv_iload hx hb dX12_message_296 (lv_at hl 1 rfl) ?_
                refine m_cv (As := [.int v198, .int v196]) (rest := []) x hml L223 (c_releaseOther l nn X g223 v198 v196 hnn hX hp223.2.1 (rg_w q201 rfl)) (wm_V uc_releaseOther ul_501 ui_releaseOther us_releaseOther u_init) rfl ⟨rfl, rfl⟩ hd_releaseOther ⟨Nat.le_of_ble_eq_true rfl, Nat.le_of_ble_eq_true rfl⟩ rfl hl.1 rfl (lv_room (Nat.le_of_ble_eq_true rfl)) dX12_message_298 (fun  g224 H224 k224 hp224 L224 => ?_)
                refine lv_goto (tgt := 338) hx hb dX12_message_301 (by decide) ?_
                exact j338_203  g224 _ _ ls (mFr.tr (mFr.tr (mFr.tr mFr.rf hF222 rfl) hp223.1 rfl) hp224.1 rfl) L224 hp224.2.1 (lv_sub hl [0] rfl)
              refine lv_icmp_ne (tgt := 288) hx hb dX12_message_275 (by decide) (fun c275_225 => ?_) (fun c275_225 => ?_)
              · skip
                have ic275_225 : v202.toInt ≠ (11 : Int32).toInt := fun z => c275_225 (Int32.toInt_inj.mp z)
                have y226 : (11 : Int32).toInt = 11 := by decide
                have q227 : rg (1) (10) v202 := rg_neH c275_225 rv202 kc_11
                have uq227 : (1 : Int) ≤ v202.toInt ∧ v202.toInt ≤ 10 := q227
                refine lv_iload hx hb dX12_message_288 (lv_at hl 1 rfl) ?_
                exact j290_222 v196 g197 _ _ ls mFr.rf L197 (mJ_fr (mJ_fr (mJ_fr hJ hp177.1 rfl) hp195.1 rfl) hp197.1 rfl) (rg_w rv196 rfl) (lv_sub hl [5, 1, 0] rfl)
              · skip
                have ic275_225 := congrArg Int32.toInt c275_225
                have y228 : (11 : Int32).toInt = 11 := by decide
                have q229 : rg (11) (11) v202 := (rg_eq c275_225 rv202 kc_11).1
                have uq229 : (11 : Int) ≤ v202.toInt ∧ v202.toInt ≤ 11 := q229
                refine lv_aload_n hx hb dX12_message_278 rfl (lv_at hl 5 rfl) ?_
                refine m_geta x L197 74 rfl rfl (wm_in uf_210) dX12_message_279 ?_
                refine lv_iload hx hb dX12_message_282 (lv_at hl 0 rfl) ?_
                refine m_ld x L197 74 rfl q201 rfl dX12_message_284 (fun v230 ev230 wv230 => ?_)
                have rv230 : rg (-2147483648) (2147483647) v230 := lj_74 wv230
                have uv230 : (-2147483648 : Int) ≤ v230.toInt ∧ v230.toInt ≤ 2147483647 := rv230
                refine lv_goto (tgt := 290) hx hb dX12_message_285 (by decide) ?_
                exact j290_222 v230 g197 _ _ ls mFr.rf L197 (mJ_fr (mJ_fr (mJ_fr hJ hp177.1 rfl) hp195.1 rfl) hp197.1 rfl) (rg_w rv230 rfl) (lv_sub hl [5, 1, 0] rfl)
          · skip
            have ic200_204 := congrArg Int32.toInt c200_204
            have y231 : (77 : Int32).toInt = 77 := by decide
            have q232 : rg (77) (77) v194 := (rg_eq c200_204 rv194 kc_77).1
            have uq232 : (77 : Int) ≤ v194.toInt ∧ v194.toInt ≤ 77 := q232
            refine lv_aload_n hx hb dX12_message_203 rfl (lv_at hl 5 rfl) ?_
            refine lv_iload_n hx hb dX12_message_204 rfl (lv_at hl 6 rfl) ?_
            refine lv_iload_n hx hb dX12_message_205 rfl (lv_at hl 4 rfl) ?_
            refine lv_iload hx hb dX12_message_206 (lv_at hl 3 rfl) ?_
            refine lv_bipush (v := 90) hx hb dX12_message_208 (by decide) ?_
            refine lv_iload hx hb dX12_message_210 (lv_at hl 1 rfl) ?_
            refine m_cv (As := [.int p1, .int (0 : Int32), .int v193, .int (90 : Int32), .int v196]) (rest := []) x hml L197 (c_withCause l nn X g197 p1 (0 : Int32) v193 (90 : Int32) v196 hnn hX (rg_w q176 rfl) (rg_w kc_0 rfl)) (wm_V uc_withCause ul_488 ui_withCause us_withCause u_init) rfl ⟨rfl, rfl⟩ hd_withCause ⟨Nat.le_of_ble_eq_true rfl, Nat.le_of_ble_eq_true rfl⟩ rfl hl.1 rfl (lv_room (Nat.le_of_ble_eq_true rfl)) dX12_message_212 (fun  g233 H233 k233 hp233 L233 => ?_)
            refine lv_aload_n hx hb dX12_message_215 rfl (lv_at hl 5 rfl) ?_
            refine lv_iload hx hb dX12_message_216 (lv_at hl 0 rfl) ?_
            refine lv_aload_n hx hb dX12_message_218 rfl (lv_at hl 5 rfl) ?_
            refine m_geta x L233 68 rfl rfl (wm_in uf_192) dX12_message_219 ?_
            refine lv_iload hx hb dX12_message_222 (lv_at hl 0 rfl) ?_
            refine m_ld x L233 68 rfl q201 rfl dX12_message_224 (fun v234 ev234 wv234 => ?_)
            refine m_top (((mm_fr ev202 hp233.1 rfl)).trans ev234.symm) ?_
            refine lv_bipush (v := 11) hx hb dX12_message_225 (by decide) ?_
            have j242_236 : ∀ (b242_2_235 : Int32) (g236 : mSt) (H236 : Heap) (k236 : List Loc) (ls : Array Slot), mFr [] g233 g236 → mL G h0 ad H0 nn X g236 H236 k236 → mJ nn [] g236 → rg (-2147483648) (2147483647) b242_2_235 → lv_has ls 8 [(0, .ref h0), (6, .int v196), (7, .int v198)] → W p l e rm_message s m args below meth c H236 k236 0 0 Q (F0 m 242 ls [.int b242_2_235, .int v198, .ref h0]) := by
              intro b242_2_235 g236 H236 k236 ls hF236 L236 hJ236 rb242_2_235 hl
              have ub242_2_235 : (-2147483648 : Int) ≤ b242_2_235.toInt ∧ b242_2_235.toInt ≤ 2147483647 := rb242_2_235
              refine m_cv (As := [.int v198, .int b242_2_235]) (rest := []) x hml L236 (c_over l nn X g236 v198 b242_2_235 hnn hX hJ236 (rg_w q201 rfl)) (wm_V uc_over ul_498 ui_over us_over u_init) rfl ⟨rfl, rfl⟩ hd_over ⟨Nat.le_of_ble_eq_true rfl, Nat.le_of_ble_eq_true rfl⟩ rfl hl.1 rfl (lv_room (Nat.le_of_ble_eq_true rfl)) dX12_message_242 (fun  g237 H237 k237 hp237 L237 => ?_)
              refine lv_aload_n hx hb dX12_message_245 rfl (lv_at hl 0 rfl) ?_
              refine lv_iload hx hb dX12_message_246 (lv_at hl 2 rfl) ?_
              refine lv_iload hx hb dX12_message_248 (lv_at hl 1 rfl) ?_
              refine m_cv (As := [.int v198, .int v196]) (rest := []) x hml L237 (c_releaseOther l nn X g237 v198 v196 hnn hX hp237.2.1 (rg_w q201 rfl)) (wm_V uc_releaseOther ul_501 ui_releaseOther us_releaseOther u_init) rfl ⟨rfl, rfl⟩ hd_releaseOther ⟨Nat.le_of_ble_eq_true rfl, Nat.le_of_ble_eq_true rfl⟩ rfl hl.1 rfl (lv_room (Nat.le_of_ble_eq_true rfl)) dX12_message_250 (fun  g238 H238 k238 hp238 L238 => ?_)
              refine lv_goto (tgt := 338) hx hb dX12_message_253 (by decide) ?_
              exact j338_203  g238 _ _ ls (mFr.tr (mFr.tr (mFr.tr (mFr.tr mFr.rf hp233.1 rfl) hF236 rfl) hp237.1 rfl) hp238.1 rfl) L238 hp238.2.1 (lv_sub hl [0] rfl)
            refine lv_icmp_ne (tgt := 240) hx hb dX12_message_227 (by decide) (fun c227_239 => ?_) (fun c227_239 => ?_)
            · skip
              have ic227_239 : v202.toInt ≠ (11 : Int32).toInt := fun z => c227_239 (Int32.toInt_inj.mp z)
              have y240 : (11 : Int32).toInt = 11 := by decide
              have q241 : rg (1) (10) v202 := rg_neH c227_239 rv202 kc_11
              have uq241 : (1 : Int) ≤ v202.toInt ∧ v202.toInt ≤ 10 := q241
              refine lv_iload hx hb dX12_message_240 (lv_at hl 1 rfl) ?_
              exact j242_236 v196 g233 _ _ ls mFr.rf L233 (mJ_fr (mJ_fr (mJ_fr (mJ_fr hJ hp177.1 rfl) hp195.1 rfl) hp197.1 rfl) hp233.1 rfl) (rg_w rv196 rfl) (lv_sub hl [5, 1, 0] rfl)
            · skip
              have ic227_239 := congrArg Int32.toInt c227_239
              have y242 : (11 : Int32).toInt = 11 := by decide
              have q243 : rg (11) (11) v202 := (rg_eq c227_239 rv202 kc_11).1
              have uq243 : (11 : Int) ≤ v202.toInt ∧ v202.toInt ≤ 11 := q243
              refine lv_aload_n hx hb dX12_message_230 rfl (lv_at hl 5 rfl) ?_
              refine m_geta x L233 74 rfl rfl (wm_in uf_210) dX12_message_231 ?_
              refine lv_iload hx hb dX12_message_234 (lv_at hl 0 rfl) ?_
              refine m_ld x L233 74 rfl q201 rfl dX12_message_236 (fun v244 ev244 wv244 => ?_)
              have rv244 : rg (-2147483648) (2147483647) v244 := lj_74 wv244
              have uv244 : (-2147483648 : Int) ≤ v244.toInt ∧ v244.toInt ≤ 2147483647 := rv244
              refine lv_goto (tgt := 242) hx hb dX12_message_237 (by decide) ?_
              exact j242_236 v244 g233 _ _ ls mFr.rf L233 (mJ_fr (mJ_fr (mJ_fr (mJ_fr hJ hp177.1 rfl) hp195.1 rfl) hp197.1 rfl) hp233.1 rfl) (rg_w rv244 rfl) (lv_sub hl [5, 1, 0] rfl)
        · skip
          have ic100_200 := Int32.lt_iff_toInt_lt.mp (rg_nle c100_200)
          have q245 : rg (-2) (-1) v198 := (rg_lt (rg_nle c100_200) rv198 kc_0).1
          have uq245 : (-2 : Int) ≤ v198.toInt ∧ v198.toInt ≤ -1 := q245
          refine lv_iload hx hb dX12_message_103 (lv_at hl 2 rfl) ?_
          refine lv_bipush (v := 77) hx hb dX12_message_105 (by decide) ?_
          have j195_246 : ∀ (g246 : mSt) (H246 : Heap) (k246 : List Loc) (ls : Array Slot), mFr [58, 59, 60, 68, 69, 70, 71, 72, 73, 74, 75, 76, 77, 78, 79, 80, 81, 86, 87, 89, 90, 91] g197 g246 → mL G h0 ad H0 nn X g246 H246 k246 → mJ nn [] g246 → lv_has ls 8 [(0, .ref h0)] → W p l e rm_message s m args below meth c H246 k246 0 0 Q (F0 m 195 ls []) := by
            intro  g246 H246 k246 ls hF246 L246 hJ246  hl
            exact hQ _ _ _ _ _ dX12_message_195 L246 ⟨(mFr.tr (mFr.tr (mFr.tr (mFr.tr mFr.rf hp177.1 rfl) hp195.1 rfl) hp197.1 rfl) hF246 rfl), hJ246, trivial⟩
          refine lv_icmp_ne (tgt := 125) hx hb dX12_message_107 (by decide) (fun c107_247 => ?_) (fun c107_247 => ?_)
          · skip
            have ic107_247 : v194.toInt ≠ (77 : Int32).toInt := fun z => c107_247 (Int32.toInt_inj.mp z)
            have y248 : (77 : Int32).toInt = 77 := by decide
            refine lv_iload hx hb dX12_message_125 (lv_at hl 2 rfl) ?_
            refine lv_iconst (v := 5) hx hb dX12_message_127 (by decide) ?_
            refine lv_icmp_ne (tgt := 195) hx hb dX12_message_128 (by decide) (fun c128_249 => ?_) (fun c128_249 => ?_)
            · skip
              have ic128_249 : v194.toInt ≠ (5 : Int32).toInt := fun z => c128_249 (Int32.toInt_inj.mp z)
              have y250 : (5 : Int32).toInt = 5 := by decide
              exact j195_246  g197 _ _ ls mFr.rf L197 (mJ_fr (mJ_fr (mJ_fr hJ hp177.1 rfl) hp195.1 rfl) hp197.1 rfl) (lv_sub hl [5] rfl)
            · skip
              have ic128_249 := congrArg Int32.toInt c128_249
              have y251 : (5 : Int32).toInt = 5 := by decide
              have q252 : rg (5) (5) v194 := (rg_eq c128_249 rv194 kc_5).1
              have uq252 : (5 : Int) ≤ v194.toInt ∧ v194.toInt ≤ 5 := q252
              refine lv_iload_n hx hb dX12_message_131 rfl (lv_at hl 4 rfl) ?_
              refine lv_if_ne (tgt := 195) hx hb dX12_message_132 (by decide) (fun c132_253 => ?_) (fun c132_253 => ?_)
              · skip
                exact absurd c132_253 (by decide)
              · skip
                refine lv_iload_n hx hb dX12_message_135 rfl (lv_at hl 6 rfl) ?_
                refine lv_aload_n hx hb dX12_message_136 rfl (lv_at hl 5 rfl) ?_
                refine m_geti x L197 0 rfl rfl (wm_in uf_260) dX12_message_137 (fun v254 ev254 wv254 => ?_)
                refine m_top (((mm_fr (mm_fr (mm_fr ev1 hp177.1 rfl) hp195.1 rfl) hp197.1 rfl)).trans ev254.symm) ?_
                refine lv_icmp_ge (tgt := 174) hx hb dX12_message_140 (by decide) (fun c140_255 => ?_) (fun c140_255 => ?_)
                · skip
                  have ic140_255 := Int32.le_iff_toInt_le.mp c140_255
                  have q256 : rg (2) (3) v1 := (rg_le c140_255 rv1 q176).1
                  have uq256 : (2 : Int) ≤ v1.toInt ∧ v1.toInt ≤ 3 := q256
                  have q257 : rg (2) (3) p1 := (rg_le c140_255 rv1 q176).2
                  have uq257 : (2 : Int) ≤ p1.toInt ∧ p1.toInt ≤ 3 := q257
                  refine lv_aload_n hx hb dX12_message_174 rfl (lv_at hl 5 rfl) ?_
                  refine lv_iload_n hx hb dX12_message_175 rfl (lv_at hl 6 rfl) ?_
                  refine lv_iload hx hb dX12_message_176 (lv_at hl 3 rfl) ?_
                  refine lv_aload_n hx hb dX12_message_178 rfl (lv_at hl 5 rfl) ?_
                  refine lv_bipush (v := 112) hx hb dX12_message_179 (by decide) ?_
                  refine lv_iload_n hx hb dX12_message_181 rfl (lv_at hl 7 rfl) ?_
                  refine m_ci (As := [.int (112 : Int32), .int p2]) (rest := [.int v193, .int p1, .ref h0]) x hml L197 (c_found l nn X g197 (112 : Int32) p2 hnn hX (rg_w rp2 rfl) (by obtain ⟨n, hn⟩ := hw179 (by omega); exact ⟨n, ch_fr ((show mFr [58, 59, 60, 68, 69, 70, 71, 72, 73, 74, 75, 76, 77, 78, 79, 80, 81, 86, 87, 89, 90, 91] g g197 from (mFr.tr (mFr.tr (mFr.tr mFr.rf hp177.1 rfl) hp195.1 rfl) hp197.1 rfl)).at 33 rfl) n _ hn⟩)) (wm_V uc_found ul_527 ui_found us_found u_init) rfl ⟨rfl, rfl⟩ hd_found ⟨Nat.le_of_ble_eq_true rfl, Nat.le_of_ble_eq_true rfl⟩ rfl hl.1 rfl (lv_room (Nat.le_of_ble_eq_true rfl)) dX12_message_182 (fun v259 g258 H258 k258 hp258 L258 => ?_)
                  have rv259 : rg (-2147483648) (2147483647) v259 := hp258.2.1
                  have uv259 : (-2147483648 : Int) ≤ v259.toInt ∧ v259.toInt ≤ 2147483647 := rv259
                  refine lv_aload_n hx hb dX12_message_185 rfl (lv_at hl 5 rfl) ?_
                  refine lv_bipush (v := 89) hx hb dX12_message_186 (by decide) ?_
                  refine lv_iload_n hx hb dX12_message_188 rfl (lv_at hl 7 rfl) ?_
                  refine m_ci (As := [.int (89 : Int32), .int p2]) (rest := [.int v259, .int v193, .int p1, .ref h0]) x hml L258 (c_found l nn X g258 (89 : Int32) p2 hnn hX (rg_w rp2 rfl) (by obtain ⟨n, hn⟩ := hw179 (by omega); exact ⟨n, ch_fr ((show mFr [58, 59, 60, 68, 69, 70, 71, 72, 73, 74, 75, 76, 77, 78, 79, 80, 81, 86, 87, 89, 90, 91] g g258 from (mFr.tr (mFr.tr (mFr.tr (mFr.tr mFr.rf hp177.1 rfl) hp195.1 rfl) hp197.1 rfl) hp258.1 rfl)).at 33 rfl) n _ hn⟩)) (wm_V uc_found ul_527 ui_found us_found u_init) rfl ⟨rfl, rfl⟩ hd_found ⟨Nat.le_of_ble_eq_true rfl, Nat.le_of_ble_eq_true rfl⟩ rfl hl.1 rfl (lv_room (Nat.le_of_ble_eq_true rfl)) dX12_message_189 (fun v261 g260 H260 k260 hp260 L260 => ?_)
                  have rv261 : rg (-2147483648) (2147483647) v261 := hp260.2.1
                  have uv261 : (-2147483648 : Int) ≤ v261.toInt ∧ v261.toInt ≤ 2147483647 := rv261
                  refine m_cv (As := [.int p1, .int v193, .int v259, .int v261]) (rest := []) x hml L260 (c_setupAtSwitch l nn X g260 p1 v193 v259 v261 hnn hX (mJ_fr (mJ_fr (mJ_fr (mJ_fr (mJ_fr hJ hp177.1 rfl) hp195.1 rfl) hp197.1 rfl) hp258.1 rfl) hp260.1 rfl) (rg_w q257 rfl) np1 (by omega)) (wm_V uc_setupAtSwitch ul_537 ui_setupAtSwitch us_setupAtSwitch u_init) rfl ⟨rfl, rfl⟩ hd_setupAtSwitch ⟨Nat.le_of_ble_eq_true rfl, Nat.le_of_ble_eq_true rfl⟩ rfl hl.1 rfl (lv_room (Nat.le_of_ble_eq_true rfl)) dX12_message_192 (fun  g262 H262 k262 hp262 L262 => ?_)
                  exact j195_246  g262 _ _ ls (mFr.tr (mFr.tr (mFr.tr mFr.rf hp258.1 rfl) hp260.1 rfl) hp262.1 rfl) L262 hp262.2.1 (lv_sub hl [5] rfl)
                · skip
                  have b1p1_263 : p1.toInt < 1 * nn := by have := Int32.lt_iff_toInt_lt.mp (rg_nle c140_255); have := lv1; omega
                  have ic140_255 := Int32.lt_iff_toInt_lt.mp (rg_nle c140_255)
                  refine lv_aload_n hx hb dX12_message_143 rfl (lv_at hl 5 rfl) ?_
                  refine lv_iload_n hx hb dX12_message_144 rfl (lv_at hl 6 rfl) ?_
                  refine lv_iload hx hb dX12_message_145 (lv_at hl 3 rfl) ?_
                  refine lv_aload_n hx hb dX12_message_147 rfl (lv_at hl 5 rfl) ?_
                  refine lv_bipush (v := 89) hx hb dX12_message_148 (by decide) ?_
                  refine lv_iload_n hx hb dX12_message_150 rfl (lv_at hl 7 rfl) ?_
                  refine m_ci (As := [.int (89 : Int32), .int p2]) (rest := [.int v193, .int p1, .ref h0]) x hml L197 (c_found l nn X g197 (89 : Int32) p2 hnn hX (rg_w rp2 rfl) (by obtain ⟨n, hn⟩ := hw179 (by omega); exact ⟨n, ch_fr ((show mFr [58, 59, 60, 68, 69, 70, 71, 72, 73, 74, 75, 76, 77, 78, 79, 80, 81, 86, 87, 89, 90, 91] g g197 from (mFr.tr (mFr.tr (mFr.tr mFr.rf hp177.1 rfl) hp195.1 rfl) hp197.1 rfl)).at 33 rfl) n _ hn⟩)) (wm_V uc_found ul_527 ui_found us_found u_init) rfl ⟨rfl, rfl⟩ hd_found ⟨Nat.le_of_ble_eq_true rfl, Nat.le_of_ble_eq_true rfl⟩ rfl hl.1 rfl (lv_room (Nat.le_of_ble_eq_true rfl)) dX12_message_151 (fun v265 g264 H264 k264 hp264 L264 => ?_)
                  have rv265 : rg (-2147483648) (2147483647) v265 := hp264.2.1
                  have uv265 : (-2147483648 : Int) ≤ v265.toInt ∧ v265.toInt ≤ 2147483647 := rv265
                  refine lv_aload_n hx hb dX12_message_154 rfl (lv_at hl 5 rfl) ?_
                  refine lv_bipush (v := 108) hx hb dX12_message_155 (by decide) ?_
                  refine lv_iload_n hx hb dX12_message_157 rfl (lv_at hl 7 rfl) ?_
                  refine m_ci (As := [.int (108 : Int32), .int p2]) (rest := [.int v265, .int v193, .int p1, .ref h0]) x hml L264 (c_found l nn X g264 (108 : Int32) p2 hnn hX (rg_w rp2 rfl) (by obtain ⟨n, hn⟩ := hw179 (by omega); exact ⟨n, ch_fr ((show mFr [58, 59, 60, 68, 69, 70, 71, 72, 73, 74, 75, 76, 77, 78, 79, 80, 81, 86, 87, 89, 90, 91] g g264 from (mFr.tr (mFr.tr (mFr.tr (mFr.tr mFr.rf hp177.1 rfl) hp195.1 rfl) hp197.1 rfl) hp264.1 rfl)).at 33 rfl) n _ hn⟩)) (wm_V uc_found ul_527 ui_found us_found u_init) rfl ⟨rfl, rfl⟩ hd_found ⟨Nat.le_of_ble_eq_true rfl, Nat.le_of_ble_eq_true rfl⟩ rfl hl.1 rfl (lv_room (Nat.le_of_ble_eq_true rfl)) dX12_message_158 (fun v267 g266 H266 k266 hp266 L266 => ?_)
                  have rv267 : rg (-2147483648) (2147483647) v267 := hp266.2.1
                  have uv267 : (-2147483648 : Int) ≤ v267.toInt ∧ v267.toInt ≤ 2147483647 := rv267
                  refine lv_aload_n hx hb dX12_message_161 rfl (lv_at hl 5 rfl) ?_
                  refine lv_bipush (v := 90) hx hb dX12_message_162 (by decide) ?_
                  refine lv_iload_n hx hb dX12_message_164 rfl (lv_at hl 7 rfl) ?_
                  refine m_ci (As := [.int (90 : Int32), .int p2]) (rest := [.int v267, .int v265, .int v193, .int p1, .ref h0]) x hml L266 (c_found l nn X g266 (90 : Int32) p2 hnn hX (rg_w rp2 rfl) (by obtain ⟨n, hn⟩ := hw179 (by omega); exact ⟨n, ch_fr ((show mFr [58, 59, 60, 68, 69, 70, 71, 72, 73, 74, 75, 76, 77, 78, 79, 80, 81, 86, 87, 89, 90, 91] g g266 from (mFr.tr (mFr.tr (mFr.tr (mFr.tr (mFr.tr mFr.rf hp177.1 rfl) hp195.1 rfl) hp197.1 rfl) hp264.1 rfl) hp266.1 rfl)).at 33 rfl) n _ hn⟩)) (wm_V uc_found ul_527 ui_found us_found u_init) rfl ⟨rfl, rfl⟩ hd_found ⟨Nat.le_of_ble_eq_true rfl, Nat.le_of_ble_eq_true rfl⟩ rfl hl.1 rfl (lv_room (Nat.le_of_ble_eq_true rfl)) dX12_message_165 (fun v269 g268 H268 k268 hp268 L268 => ?_)
                  have rv269 : rg (-2147483648) (2147483647) v269 := hp268.2.1
                  have uv269 : (-2147483648 : Int) ≤ v269.toInt ∧ v269.toInt ≤ 2147483647 := rv269
                  refine m_cv (As := [.int p1, .int v193, .int v265, .int v267, .int v269]) (rest := []) x hml L268 (c_setupAtEnd l nn X g268 p1 v193 v265 v267 v269 hnn hX (mJ_fr (mJ_fr (mJ_fr (mJ_fr (mJ_fr (mJ_fr hJ hp177.1 rfl) hp195.1 rfl) hp197.1 rfl) hp264.1 rfl) hp266.1 rfl) hp268.1 rfl) (rg_w q176 rfl) b1p1_263) (wm_V uc_setupAtEnd ul_534 ui_setupAtEnd us_setupAtEnd u_init) rfl ⟨rfl, rfl⟩ hd_setupAtEnd ⟨Nat.le_of_ble_eq_true rfl, Nat.le_of_ble_eq_true rfl⟩ rfl hl.1 rfl (lv_room (Nat.le_of_ble_eq_true rfl)) dX12_message_168 (fun  g270 H270 k270 hp270 L270 => ?_)
                  refine lv_goto (tgt := 195) hx hb dX12_message_171 (by decide) ?_
                  exact j195_246  g270 _ _ ls (mFr.tr (mFr.tr (mFr.tr (mFr.tr mFr.rf hp264.1 rfl) hp266.1 rfl) hp268.1 rfl) hp270.1 rfl) L270 hp270.2.1 (lv_sub hl [5] rfl)
          · skip
            have ic107_247 := congrArg Int32.toInt c107_247
            have y271 : (77 : Int32).toInt = 77 := by decide
            have q272 : rg (77) (77) v194 := (rg_eq c107_247 rv194 kc_77).1
            have uq272 : (77 : Int) ≤ v194.toInt ∧ v194.toInt ≤ 77 := q272
            refine lv_aload_n hx hb dX12_message_110 rfl (lv_at hl 5 rfl) ?_
            refine lv_iload_n hx hb dX12_message_111 rfl (lv_at hl 6 rfl) ?_
            refine lv_iload_n hx hb dX12_message_112 rfl (lv_at hl 4 rfl) ?_
            refine lv_iload hx hb dX12_message_113 (lv_at hl 3 rfl) ?_
            refine lv_bipush (v := 90) hx hb dX12_message_115 (by decide) ?_
            refine lv_bipush (v := 81) hx hb dX12_message_117 (by decide) ?_
            refine m_cv (As := [.int p1, .int (0 : Int32), .int v193, .int (90 : Int32), .int (81 : Int32)]) (rest := []) x hml L197 (c_withCause l nn X g197 p1 (0 : Int32) v193 (90 : Int32) (81 : Int32) hnn hX (rg_w q176 rfl) (rg_w kc_0 rfl)) (wm_V uc_withCause ul_488 ui_withCause us_withCause u_init) rfl ⟨rfl, rfl⟩ hd_withCause ⟨Nat.le_of_ble_eq_true rfl, Nat.le_of_ble_eq_true rfl⟩ rfl hl.1 rfl (lv_room (Nat.le_of_ble_eq_true rfl)) dX12_message_119 (fun  g273 H273 k273 hp273 L273 => ?_)
            refine lv_goto (tgt := 195) hx hb dX12_message_122 (by decide) ?_
            exact j195_246  g273 _ _ ls (mFr.tr mFr.rf hp273.1 rfl) L273 (mJ_fr (mJ_fr (mJ_fr (mJ_fr hJ hp177.1 rfl) hp195.1 rfl) hp197.1 rfl) hp273.1 rfl) (lv_sub hl [5] rfl)
      · skip
        have ic31_184 := Int32.le_iff_toInt_le.mp (rg_nlt c31_184)
        have q274 : rg (128) (2147483647) v183 := (rg_le (rg_nlt c31_184) kc_128 rv183).2
        have uq274 : (128 : Int) ≤ v183.toInt ∧ v183.toInt ≤ 2147483647 := q274
        refine lv_iconst (v := 1) hx hb dX12_message_34 (by decide) ?_
        refine lv_goto (tgt := 39) hx hb dX12_message_35 (by decide) ?_
        refine lv_istore_n (lv' := [(3, .int (1 : Int32)), (0, .ref h0), (1, .int p1), (2, .int p2)]) hx hb dX12_message_39 rfl hl (by decide) rfl (fun ls hl => ?_)
        refine lv_aload_n hx hb dX12_message_40 rfl (lv_at hl 1 rfl) ?_
        refine m_geta x L177 33 rfl rfl (wm_in uf_89) dX12_message_41 ?_
        refine lv_iconst (v := 2) hx hb dX12_message_44 (by decide) ?_
        refine m_ld x L177 33 rfl kc_2 rfl dX12_message_45 (fun v275 ev275 wv275 => ?_)
        refine m_top ((ev183).trans ev275.symm) ?_
        refine lv_bipush (v := 127) hx hb dX12_message_46 (by decide) ?_
        refine lv_iand hx hb dX12_message_48 ?_
        refine lv_topi (fun v276 ev276 => ?_)
        have rv276 : rg (0) (127) v276 := rg_and ev276 7 127 (by decide) rfl
        have uv276 : (0 : Int) ≤ v276.toInt ∧ v276.toInt ≤ 127 := rv276
        refine lv_bipush (v := 16) hx hb dX12_message_49 (by decide) ?_
        refine lv_ishl hx hb dX12_message_51 ?_
        refine lv_topi (fun v277 ev277 => ?_)
        have rv277 : rg (-2147483648) (2147483647) v277 := rg_any v277
        have uv277 : (-2147483648 : Int) ≤ v277.toInt ∧ v277.toInt ≤ 2147483647 := rv277
        refine lv_aload_n hx hb dX12_message_52 rfl (lv_at hl 1 rfl) ?_
        refine m_geta x L177 33 rfl rfl (wm_in uf_89) dX12_message_53 ?_
        refine lv_iconst (v := 3) hx hb dX12_message_56 (by decide) ?_
        refine m_ld x L177 33 rfl kc_3 rfl dX12_message_57 (fun v278 ev278 wv278 => ?_)
        have rv278 : rg (-2147483648) (2147483647) v278 := lj_33 wv278
        have uv278 : (-2147483648 : Int) ≤ v278.toInt ∧ v278.toInt ≤ 2147483647 := rv278
        have sv278 : v278.toInt = (g 33 (3 : Int32).toNatClampNeg).toInt := congrArg Int32.toInt (ev278.trans (congrFun ((show mFr [58, 59, 60, 68, 69, 70, 71, 72, 73, 74, 75, 76, 77, 78, 79, 80, 81, 86, 87, 89, 90, 91] g g177 from (mFr.tr mFr.rf hp177.1 rfl)).at 33 rfl) _))
        refine lv_bipush (v := 8) hx hb dX12_message_58 (by decide) ?_
        refine lv_ishl hx hb dX12_message_60 ?_
        refine lv_topi (fun v279 ev279 => ?_)
        have rv279 : rg (-2147483648) (2147483647) v279 := rg_any v279
        have uv279 : (-2147483648 : Int) ≤ v279.toInt ∧ v279.toInt ≤ 2147483647 := rv279
        refine lv_ior hx hb dX12_message_61 ?_
        refine lv_topi (fun v280 ev280 => ?_)
        have rv280 : rg (-2147483648) (2147483647) v280 := rg_any v280
        have uv280 : (-2147483648 : Int) ≤ v280.toInt ∧ v280.toInt ≤ 2147483647 := rv280
        refine lv_aload_n hx hb dX12_message_62 rfl (lv_at hl 1 rfl) ?_
        refine m_geta x L177 33 rfl rfl (wm_in uf_89) dX12_message_63 ?_
        refine lv_iconst (v := 4) hx hb dX12_message_66 (by decide) ?_
        refine m_ld x L177 33 rfl kc_4 rfl dX12_message_67 (fun v281 ev281 wv281 => ?_)
        have rv281 : rg (-2147483648) (2147483647) v281 := lj_33 wv281
        have uv281 : (-2147483648 : Int) ≤ v281.toInt ∧ v281.toInt ≤ 2147483647 := rv281
        have sv281 : v281.toInt = (g 33 (4 : Int32).toNatClampNeg).toInt := congrArg Int32.toInt (ev281.trans (congrFun ((show mFr [58, 59, 60, 68, 69, 70, 71, 72, 73, 74, 75, 76, 77, 78, 79, 80, 81, 86, 87, 89, 90, 91] g g177 from (mFr.tr mFr.rf hp177.1 rfl)).at 33 rfl) _))
        refine lv_ior hx hb dX12_message_68 ?_
        refine lv_topi (fun v282 ev282 => ?_)
        have rv282 : rg (-2147483648) (2147483647) v282 := rg_any v282
        have uv282 : (-2147483648 : Int) ≤ v282.toInt ∧ v282.toInt ≤ 2147483647 := rv282
        refine lv_istore (lv' := [(4, .int v282), (3, .int (1 : Int32)), (0, .ref h0), (1, .int p1), (2, .int p2)]) hx hb dX12_message_69 hl (by decide) rfl (fun ls hl => ?_)
        refine lv_aload_n hx hb dX12_message_71 rfl (lv_at hl 2 rfl) ?_
        refine m_geta x L177 33 rfl rfl (wm_in uf_89) dX12_message_72 ?_
        refine lv_iconst (v := 5) hx hb dX12_message_75 (by decide) ?_
        refine m_ld x L177 33 rfl kc_5 rfl dX12_message_76 (fun v283 ev283 wv283 => ?_)
        have rv283 : rg (-2147483648) (2147483647) v283 := lj_33 wv283
        have uv283 : (-2147483648 : Int) ≤ v283.toInt ∧ v283.toInt ≤ 2147483647 := rv283
        have sv283 : v283.toInt = (g 33 (5 : Int32).toNatClampNeg).toInt := congrArg Int32.toInt (ev283.trans (congrFun ((show mFr [58, 59, 60, 68, 69, 70, 71, 72, 73, 74, 75, 76, 77, 78, 79, 80, 81, 86, 87, 89, 90, 91] g g177 from (mFr.tr mFr.rf hp177.1 rfl)).at 33 rfl) _))
        refine lv_istore (lv' := [(5, .int v283), (4, .int v282), (3, .int (1 : Int32)), (0, .ref h0), (1, .int p1), (2, .int p2)]) hx hb dX12_message_77 hl (by decide) rfl (fun ls hl => ?_)
        refine lv_aload_n hx hb dX12_message_79 rfl (lv_at hl 3 rfl) ?_
        refine lv_bipush (v := 8) hx hb dX12_message_80 (by decide) ?_
        refine lv_iload_n hx hb dX12_message_82 rfl (lv_at hl 5 rfl) ?_
        refine m_ci (As := [.int (8 : Int32), .int p2]) (rest := []) x hml L177 (c_found l nn X g177 (8 : Int32) p2 hnn hX (rg_w rp2 rfl) (by obtain ⟨n, hn⟩ := hw179 (by omega); exact ⟨n, ch_fr ((show mFr [58, 59, 60, 68, 69, 70, 71, 72, 73, 74, 75, 76, 77, 78, 79, 80, 81, 86, 87, 89, 90, 91] g g177 from (mFr.tr mFr.rf hp177.1 rfl)).at 33 rfl) n _ hn⟩)) (wm_V uc_found ul_527 ui_found us_found u_init) rfl ⟨rfl, rfl⟩ hd_found ⟨Nat.le_of_ble_eq_true rfl, Nat.le_of_ble_eq_true rfl⟩ rfl hl.1 rfl (lv_room (Nat.le_of_ble_eq_true rfl)) dX12_message_83 (fun v285 g284 H284 k284 hp284 L284 => ?_)
        have rv285 : rg (-2147483648) (2147483647) v285 := hp284.2.1
        have uv285 : (-2147483648 : Int) ≤ v285.toInt ∧ v285.toInt ≤ 2147483647 := rv285
        refine lv_istore (lv' := [(6, .int v285), (5, .int v283), (4, .int v282), (3, .int (1 : Int32)), (0, .ref h0), (1, .int p1), (2, .int p2)]) hx hb dX12_message_86 hl (by decide) rfl (fun ls hl => ?_)
        refine lv_aload_n hx hb dX12_message_88 rfl (lv_at hl 4 rfl) ?_
        refine lv_iload_n hx hb dX12_message_89 rfl (lv_at hl 5 rfl) ?_
        refine lv_iload_n hx hb dX12_message_90 rfl (lv_at hl 3 rfl) ?_
        refine lv_iload hx hb dX12_message_91 (lv_at hl 2 rfl) ?_
        refine m_ci (As := [.int p1, .int (1 : Int32), .int v282]) (rest := []) x hml L284 (c_callAt l nn X g284 p1 (1 : Int32) v282 hnn hX (rg_w q176 rfl) (rg_w kc_1 rfl)) (wm_V uc_callAt ul_530 ui_callAt us_callAt u_init) rfl ⟨rfl, rfl⟩ hd_callAt ⟨Nat.le_of_ble_eq_true rfl, Nat.le_of_ble_eq_true rfl⟩ rfl hl.1 rfl (lv_room (Nat.le_of_ble_eq_true rfl)) dX12_message_93 (fun v287 g286 H286 k286 hp286 L286 => ?_)
        have rv287 : rg (-2) (319) v287 := hp286.2.1
        have uv287 : (-2 : Int) ≤ v287.toInt ∧ v287.toInt ≤ 319 := rv287
        have hw288 := hp286.2.2
        refine lv_istore (lv' := [(7, .int v287), (6, .int v285), (5, .int v283), (4, .int v282), (3, .int (1 : Int32)), (0, .ref h0), (1, .int p1), (2, .int p2)]) hx hb dX12_message_96 hl (by decide) rfl (fun ls hl => ?_)
        refine lv_iload hx hb dX12_message_98 (lv_at hl 0 rfl) ?_
        refine lv_if_ge (tgt := 196) hx hb dX12_message_100 (by decide) (fun c100_289 => ?_) (fun c100_289 => ?_)
        · skip
          have ic100_289 := Int32.le_iff_toInt_le.mp c100_289
          have q290 : rg (0) (319) v287 := (rg_le c100_289 kc_0 rv287).2
          have uq290 : (0 : Int) ≤ v287.toInt ∧ v287.toInt ≤ 319 := q290
          obtain ⟨v291, ev291⟩ : ∃ y : Int32, y = g286 68 v287.toNatClampNeg := ⟨_, rfl⟩
          have hcv291 := hw288 (by omega)
          have rv291 : rg (1) (11) v291 := ⟨by rw [ev291, (show mFr [] g284 g286 from (mFr.tr mFr.rf hp286.1 rfl)).at 68 rfl]; exact hcv291.1, by rw [ev291]; exact (lj_68 (L286.2.2 68 _)).2⟩
          refine lv_iload hx hb dX12_message_196 (lv_at hl 2 rfl) ?_
          refine lv_bipush (v := 77) hx hb dX12_message_198 (by decide) ?_
          have j338_292 : ∀ (g292 : mSt) (H292 : Heap) (k292 : List Loc) (ls : Array Slot), mFr [58, 59, 60, 68, 71, 74, 75, 76, 77, 86, 87, 89, 90, 91] g286 g292 → mL G h0 ad H0 nn X g292 H292 k292 → mJ nn [] g292 → lv_has ls 8 [(0, .ref h0)] → W p l e rm_message s m args below meth c H292 k292 0 0 Q (F0 m 338 ls []) := by
            intro  g292 H292 k292 ls hF292 L292 hJ292  hl
            exact hQ _ _ _ _ _ dX12_message_338 L292 ⟨(mFr.tr (mFr.tr (mFr.tr (mFr.tr mFr.rf hp177.1 rfl) hp284.1 rfl) hp286.1 rfl) hF292 rfl), hJ292, trivial⟩
          refine lv_icmp_ne (tgt := 256) hx hb dX12_message_200 (by decide) (fun c200_293 => ?_) (fun c200_293 => ?_)
          · skip
            have ic200_293 : v283.toInt ≠ (77 : Int32).toInt := fun z => c200_293 (Int32.toInt_inj.mp z)
            have y294 : (77 : Int32).toInt = 77 := by decide
            refine lv_iload hx hb dX12_message_256 (lv_at hl 2 rfl) ?_
            refine lv_bipush (v := 90) hx hb dX12_message_258 (by decide) ?_
            refine lv_icmp_ne (tgt := 304) hx hb dX12_message_260 (by decide) (fun c260_295 => ?_) (fun c260_295 => ?_)
            · skip
              have ic260_295 : v283.toInt ≠ (90 : Int32).toInt := fun z => c260_295 (Int32.toInt_inj.mp z)
              have y296 : (90 : Int32).toInt = 90 := by decide
              refine lv_iload_n hx hb dX12_message_304 rfl (lv_at hl 6 rfl) ?_
              refine lv_aload_n hx hb dX12_message_305 rfl (lv_at hl 5 rfl) ?_
              refine m_geti x L286 0 rfl rfl (wm_in uf_260) dX12_message_306 (fun v297 ev297 wv297 => ?_)
              refine m_top (((mm_fr (mm_fr (mm_fr ev1 hp177.1 rfl) hp284.1 rfl) hp286.1 rfl)).trans ev297.symm) ?_
              refine lv_icmp_ge (tgt := 330) hx hb dX12_message_309 (by decide) (fun c309_298 => ?_) (fun c309_298 => ?_)
              · skip
                have ic309_298 := Int32.le_iff_toInt_le.mp c309_298
                have q299 : rg (2) (3) v1 := (rg_le c309_298 rv1 q176).1
                have uq299 : (2 : Int) ≤ v1.toInt ∧ v1.toInt ≤ 3 := q299
                have q300 : rg (2) (3) p1 := (rg_le c309_298 rv1 q176).2
                have uq300 : (2 : Int) ≤ p1.toInt ∧ p1.toInt ≤ 3 := q300
                refine lv_aload_n hx hb dX12_message_330 rfl (lv_at hl 5 rfl) ?_
                refine lv_iload hx hb dX12_message_331 (lv_at hl 0 rfl) ?_
                refine lv_iload hx hb dX12_message_333 (lv_at hl 2 rfl) ?_
                refine m_cv (As := [.int v287, .int v283]) (rest := []) x hml L286 (c_switchMessage l nn X g286 v287 v283 hnn hX (mJ_fr (mJ_fr (mJ_fr hJ hp177.1 rfl) hp284.1 rfl) hp286.1 rfl) (rg_w q290 rfl) (by omega) (rg_eqv ev291 (rg_w rv291 rfl))) (wm_V uc_switchMessage ul_543 ui_switchMessage us_switchMessage u_init) rfl ⟨rfl, rfl⟩ hd_switchMessage ⟨Nat.le_of_ble_eq_true rfl, Nat.le_of_ble_eq_true rfl⟩ rfl hl.1 rfl (lv_room (Nat.le_of_ble_eq_true rfl)) dX12_message_335 (fun  g301 H301 k301 hp301 L301 => ?_)
                exact j338_292  g301 _ _ ls (mFr.tr mFr.rf hp301.1 rfl) L301 hp301.2.1 (lv_sub hl [5] rfl)
              · skip
                have b1p1_302 : p1.toInt < 1 * nn := by have := Int32.lt_iff_toInt_lt.mp (rg_nle c309_298); have := lv1; omega
                have ic309_298 := Int32.lt_iff_toInt_lt.mp (rg_nle c309_298)
                have q303 : rg (0) (159) v287 := ⟨by omega, by omega⟩
                refine lv_aload_n hx hb dX12_message_312 rfl (lv_at hl 5 rfl) ?_
                refine lv_iload hx hb dX12_message_313 (lv_at hl 0 rfl) ?_
                refine lv_iload hx hb dX12_message_315 (lv_at hl 2 rfl) ?_
                refine lv_aload_n hx hb dX12_message_317 rfl (lv_at hl 5 rfl) ?_
                refine lv_bipush (v := 90) hx hb dX12_message_318 (by decide) ?_
                refine lv_iload_n hx hb dX12_message_320 rfl (lv_at hl 7 rfl) ?_
                refine m_ci (As := [.int (90 : Int32), .int p2]) (rest := [.int v283, .int v287, .ref h0]) x hml L286 (c_found l nn X g286 (90 : Int32) p2 hnn hX (rg_w rp2 rfl) (by obtain ⟨n, hn⟩ := hw179 (by omega); exact ⟨n, ch_fr ((show mFr [58, 59, 60, 68, 69, 70, 71, 72, 73, 74, 75, 76, 77, 78, 79, 80, 81, 86, 87, 89, 90, 91] g g286 from (mFr.tr (mFr.tr (mFr.tr mFr.rf hp177.1 rfl) hp284.1 rfl) hp286.1 rfl)).at 33 rfl) n _ hn⟩)) (wm_V uc_found ul_527 ui_found us_found u_init) rfl ⟨rfl, rfl⟩ hd_found ⟨Nat.le_of_ble_eq_true rfl, Nat.le_of_ble_eq_true rfl⟩ rfl hl.1 rfl (lv_room (Nat.le_of_ble_eq_true rfl)) dX12_message_321 (fun v305 g304 H304 k304 hp304 L304 => ?_)
                have rv305 : rg (-2147483648) (2147483647) v305 := hp304.2.1
                have uv305 : (-2147483648 : Int) ≤ v305.toInt ∧ v305.toInt ≤ 2147483647 := rv305
                refine m_cv (As := [.int v287, .int v283, .int v305]) (rest := []) x hml L304 (c_endMessage l nn X g304 v287 v283 v305 hnn hX (mJ_fr (mJ_fr (mJ_fr (mJ_fr hJ hp177.1 rfl) hp284.1 rfl) hp286.1 rfl) hp304.1 rfl) (rg_w q303 rfl) (rg_eqv (mm_fr ev291 hp304.1 rfl) (rg_w rv291 rfl))) (wm_V uc_endMessage ul_540 ui_endMessage us_endMessage u_init) rfl ⟨rfl, rfl⟩ hd_endMessage ⟨Nat.le_of_ble_eq_true rfl, Nat.le_of_ble_eq_true rfl⟩ rfl hl.1 rfl (lv_room (Nat.le_of_ble_eq_true rfl)) dX12_message_324 (fun  g306 H306 k306 hp306 L306 => ?_)
                refine lv_goto (tgt := 338) hx hb dX12_message_327 (by decide) ?_
                exact j338_292  g306 _ _ ls (mFr.tr (mFr.tr mFr.rf hp304.1 rfl) hp306.1 rfl) L306 hp306.2.1 (lv_sub hl [5] rfl)
            · skip
              have ic260_295 := congrArg Int32.toInt c260_295
              have y307 : (90 : Int32).toInt = 90 := by decide
              have q308 : rg (90) (90) v283 := (rg_eq c260_295 rv283 kc_90).1
              have uq308 : (90 : Int) ≤ v283.toInt ∧ v283.toInt ≤ 90 := q308
              refine lv_aload_n hx hb dX12_message_263 rfl (lv_at hl 5 rfl) ?_
              refine lv_iload hx hb dX12_message_264 (lv_at hl 0 rfl) ?_
              refine lv_aload_n hx hb dX12_message_266 rfl (lv_at hl 5 rfl) ?_
              refine m_geta x L286 68 rfl rfl (wm_in uf_192) dX12_message_267 ?_
              refine lv_iload hx hb dX12_message_270 (lv_at hl 0 rfl) ?_
              refine m_ld x L286 68 rfl q290 rfl dX12_message_272 (fun v309 ev309 wv309 => ?_)
              refine m_top ((ev291).trans ev309.symm) ?_
              refine lv_bipush (v := 11) hx hb dX12_message_273 (by decide) ?_
              have j290_311 : ∀ (b290_2_310 : Int32) (g311 : mSt) (H311 : Heap) (k311 : List Loc) (ls : Array Slot), mFr [] g286 g311 → mL G h0 ad H0 nn X g311 H311 k311 → mJ nn [] g311 → rg (-2147483648) (2147483647) b290_2_310 → lv_has ls 8 [(0, .ref h0), (6, .int v285), (7, .int v287)] → W p l e rm_message s m args below meth c H311 k311 0 0 Q (F0 m 290 ls [.int b290_2_310, .int v287, .ref h0]) := by
                intro b290_2_310 g311 H311 k311 ls hF311 L311 hJ311 rb290_2_310 hl
                have ub290_2_310 : (-2147483648 : Int) ≤ b290_2_310.toInt ∧ b290_2_310.toInt ≤ 2147483647 := rb290_2_310
                refine m_cv (As := [.int v287, .int b290_2_310]) (rest := []) x hml L311 (c_over l nn X g311 v287 b290_2_310 hnn hX hJ311 (rg_w q290 rfl)) (wm_V uc_over ul_498 ui_over us_over u_init) rfl ⟨rfl, rfl⟩ hd_over ⟨Nat.le_of_ble_eq_true rfl, Nat.le_of_ble_eq_true rfl⟩ rfl hl.1 rfl (lv_room (Nat.le_of_ble_eq_true rfl)) dX12_message_290 (fun  g312 H312 k312 hp312 L312 => ?_)
                refine lv_aload_n hx hb dX12_message_293 rfl (lv_at hl 0 rfl) ?_
                refine lv_iload hx hb dX12_message_294 (lv_at hl 2 rfl) ?_
                refine lv_iload hx hb dX12_message_296 (lv_at hl 1 rfl) ?_
                refine m_cv (As := [.int v287, .int v285]) (rest := []) x hml L312 (c_releaseOther l nn X g312 v287 v285 hnn hX hp312.2.1 (rg_w q290 rfl)) (wm_V uc_releaseOther ul_501 ui_releaseOther us_releaseOther u_init) rfl ⟨rfl, rfl⟩ hd_releaseOther ⟨Nat.le_of_ble_eq_true rfl, Nat.le_of_ble_eq_true rfl⟩ rfl hl.1 rfl (lv_room (Nat.le_of_ble_eq_true rfl)) dX12_message_298 (fun  g313 H313 k313 hp313 L313 => ?_)
                refine lv_goto (tgt := 338) hx hb dX12_message_301 (by decide) ?_
                exact j338_292  g313 _ _ ls (mFr.tr (mFr.tr (mFr.tr mFr.rf hF311 rfl) hp312.1 rfl) hp313.1 rfl) L313 hp313.2.1 (lv_sub hl [0] rfl)
              refine lv_icmp_ne (tgt := 288) hx hb dX12_message_275 (by decide) (fun c275_314 => ?_) (fun c275_314 => ?_)
              · skip
                have ic275_314 : v291.toInt ≠ (11 : Int32).toInt := fun z => c275_314 (Int32.toInt_inj.mp z)
                have y315 : (11 : Int32).toInt = 11 := by decide
                have q316 : rg (1) (10) v291 := rg_neH c275_314 rv291 kc_11
                have uq316 : (1 : Int) ≤ v291.toInt ∧ v291.toInt ≤ 10 := q316
                refine lv_iload hx hb dX12_message_288 (lv_at hl 1 rfl) ?_
                exact j290_311 v285 g286 _ _ ls mFr.rf L286 (mJ_fr (mJ_fr (mJ_fr hJ hp177.1 rfl) hp284.1 rfl) hp286.1 rfl) (rg_w rv285 rfl) (lv_sub hl [5, 1, 0] rfl)
              · skip
                have ic275_314 := congrArg Int32.toInt c275_314
                have y317 : (11 : Int32).toInt = 11 := by decide
                have q318 : rg (11) (11) v291 := (rg_eq c275_314 rv291 kc_11).1
                have uq318 : (11 : Int) ≤ v291.toInt ∧ v291.toInt ≤ 11 := q318
                refine lv_aload_n hx hb dX12_message_278 rfl (lv_at hl 5 rfl) ?_
                refine m_geta x L286 74 rfl rfl (wm_in uf_210) dX12_message_279 ?_
                refine lv_iload hx hb dX12_message_282 (lv_at hl 0 rfl) ?_
                refine m_ld x L286 74 rfl q290 rfl dX12_message_284 (fun v319 ev319 wv319 => ?_)
                have rv319 : rg (-2147483648) (2147483647) v319 := lj_74 wv319
                have uv319 : (-2147483648 : Int) ≤ v319.toInt ∧ v319.toInt ≤ 2147483647 := rv319
                refine lv_goto (tgt := 290) hx hb dX12_message_285 (by decide) ?_
                exact j290_311 v319 g286 _ _ ls mFr.rf L286 (mJ_fr (mJ_fr (mJ_fr hJ hp177.1 rfl) hp284.1 rfl) hp286.1 rfl) (rg_w rv319 rfl) (lv_sub hl [5, 1, 0] rfl)
          · skip
            have ic200_293 := congrArg Int32.toInt c200_293
            have y320 : (77 : Int32).toInt = 77 := by decide
            have q321 : rg (77) (77) v283 := (rg_eq c200_293 rv283 kc_77).1
            have uq321 : (77 : Int) ≤ v283.toInt ∧ v283.toInt ≤ 77 := q321
            refine lv_aload_n hx hb dX12_message_203 rfl (lv_at hl 5 rfl) ?_
            refine lv_iload_n hx hb dX12_message_204 rfl (lv_at hl 6 rfl) ?_
            refine lv_iload_n hx hb dX12_message_205 rfl (lv_at hl 4 rfl) ?_
            refine lv_iload hx hb dX12_message_206 (lv_at hl 3 rfl) ?_
            refine lv_bipush (v := 90) hx hb dX12_message_208 (by decide) ?_
            refine lv_iload hx hb dX12_message_210 (lv_at hl 1 rfl) ?_
            refine m_cv (As := [.int p1, .int (1 : Int32), .int v282, .int (90 : Int32), .int v285]) (rest := []) x hml L286 (c_withCause l nn X g286 p1 (1 : Int32) v282 (90 : Int32) v285 hnn hX (rg_w q176 rfl) (rg_w kc_1 rfl)) (wm_V uc_withCause ul_488 ui_withCause us_withCause u_init) rfl ⟨rfl, rfl⟩ hd_withCause ⟨Nat.le_of_ble_eq_true rfl, Nat.le_of_ble_eq_true rfl⟩ rfl hl.1 rfl (lv_room (Nat.le_of_ble_eq_true rfl)) dX12_message_212 (fun  g322 H322 k322 hp322 L322 => ?_)
            refine lv_aload_n hx hb dX12_message_215 rfl (lv_at hl 5 rfl) ?_
            refine lv_iload hx hb dX12_message_216 (lv_at hl 0 rfl) ?_
            refine lv_aload_n hx hb dX12_message_218 rfl (lv_at hl 5 rfl) ?_
            refine m_geta x L322 68 rfl rfl (wm_in uf_192) dX12_message_219 ?_
            refine lv_iload hx hb dX12_message_222 (lv_at hl 0 rfl) ?_
            refine m_ld x L322 68 rfl q290 rfl dX12_message_224 (fun v323 ev323 wv323 => ?_)
            refine m_top (((mm_fr ev291 hp322.1 rfl)).trans ev323.symm) ?_
            refine lv_bipush (v := 11) hx hb dX12_message_225 (by decide) ?_
            have j242_325 : ∀ (b242_2_324 : Int32) (g325 : mSt) (H325 : Heap) (k325 : List Loc) (ls : Array Slot), mFr [] g322 g325 → mL G h0 ad H0 nn X g325 H325 k325 → mJ nn [] g325 → rg (-2147483648) (2147483647) b242_2_324 → lv_has ls 8 [(0, .ref h0), (6, .int v285), (7, .int v287)] → W p l e rm_message s m args below meth c H325 k325 0 0 Q (F0 m 242 ls [.int b242_2_324, .int v287, .ref h0]) := by
              intro b242_2_324 g325 H325 k325 ls hF325 L325 hJ325 rb242_2_324 hl
              have ub242_2_324 : (-2147483648 : Int) ≤ b242_2_324.toInt ∧ b242_2_324.toInt ≤ 2147483647 := rb242_2_324
              refine m_cv (As := [.int v287, .int b242_2_324]) (rest := []) x hml L325 (c_over l nn X g325 v287 b242_2_324 hnn hX hJ325 (rg_w q290 rfl)) (wm_V uc_over ul_498 ui_over us_over u_init) rfl ⟨rfl, rfl⟩ hd_over ⟨Nat.le_of_ble_eq_true rfl, Nat.le_of_ble_eq_true rfl⟩ rfl hl.1 rfl (lv_room (Nat.le_of_ble_eq_true rfl)) dX12_message_242 (fun  g326 H326 k326 hp326 L326 => ?_)
              refine lv_aload_n hx hb dX12_message_245 rfl (lv_at hl 0 rfl) ?_
              refine lv_iload hx hb dX12_message_246 (lv_at hl 2 rfl) ?_
              refine lv_iload hx hb dX12_message_248 (lv_at hl 1 rfl) ?_
              refine m_cv (As := [.int v287, .int v285]) (rest := []) x hml L326 (c_releaseOther l nn X g326 v287 v285 hnn hX hp326.2.1 (rg_w q290 rfl)) (wm_V uc_releaseOther ul_501 ui_releaseOther us_releaseOther u_init) rfl ⟨rfl, rfl⟩ hd_releaseOther ⟨Nat.le_of_ble_eq_true rfl, Nat.le_of_ble_eq_true rfl⟩ rfl hl.1 rfl (lv_room (Nat.le_of_ble_eq_true rfl)) dX12_message_250 (fun  g327 H327 k327 hp327 L327 => ?_)
              refine lv_goto (tgt := 338) hx hb dX12_message_253 (by decide) ?_
              exact j338_292  g327 _ _ ls (mFr.tr (mFr.tr (mFr.tr (mFr.tr mFr.rf hp322.1 rfl) hF325 rfl) hp326.1 rfl) hp327.1 rfl) L327 hp327.2.1 (lv_sub hl [0] rfl)
            refine lv_icmp_ne (tgt := 240) hx hb dX12_message_227 (by decide) (fun c227_328 => ?_) (fun c227_328 => ?_)
            · skip
              have ic227_328 : v291.toInt ≠ (11 : Int32).toInt := fun z => c227_328 (Int32.toInt_inj.mp z)
              have y329 : (11 : Int32).toInt = 11 := by decide
              have q330 : rg (1) (10) v291 := rg_neH c227_328 rv291 kc_11
              have uq330 : (1 : Int) ≤ v291.toInt ∧ v291.toInt ≤ 10 := q330
              refine lv_iload hx hb dX12_message_240 (lv_at hl 1 rfl) ?_
              exact j242_325 v285 g322 _ _ ls mFr.rf L322 (mJ_fr (mJ_fr (mJ_fr (mJ_fr hJ hp177.1 rfl) hp284.1 rfl) hp286.1 rfl) hp322.1 rfl) (rg_w rv285 rfl) (lv_sub hl [5, 1, 0] rfl)
            · skip
              have ic227_328 := congrArg Int32.toInt c227_328
              have y331 : (11 : Int32).toInt = 11 := by decide
              have q332 : rg (11) (11) v291 := (rg_eq c227_328 rv291 kc_11).1
              have uq332 : (11 : Int) ≤ v291.toInt ∧ v291.toInt ≤ 11 := q332
              refine lv_aload_n hx hb dX12_message_230 rfl (lv_at hl 5 rfl) ?_
              refine m_geta x L322 74 rfl rfl (wm_in uf_210) dX12_message_231 ?_
              refine lv_iload hx hb dX12_message_234 (lv_at hl 0 rfl) ?_
              refine m_ld x L322 74 rfl q290 rfl dX12_message_236 (fun v333 ev333 wv333 => ?_)
              have rv333 : rg (-2147483648) (2147483647) v333 := lj_74 wv333
              have uv333 : (-2147483648 : Int) ≤ v333.toInt ∧ v333.toInt ≤ 2147483647 := rv333
              refine lv_goto (tgt := 242) hx hb dX12_message_237 (by decide) ?_
              exact j242_325 v333 g322 _ _ ls mFr.rf L322 (mJ_fr (mJ_fr (mJ_fr (mJ_fr hJ hp177.1 rfl) hp284.1 rfl) hp286.1 rfl) hp322.1 rfl) (rg_w rv333 rfl) (lv_sub hl [5, 1, 0] rfl)
        · skip
          have ic100_289 := Int32.lt_iff_toInt_lt.mp (rg_nle c100_289)
          have q334 : rg (-2) (-1) v287 := (rg_lt (rg_nle c100_289) rv287 kc_0).1
          have uq334 : (-2 : Int) ≤ v287.toInt ∧ v287.toInt ≤ -1 := q334
          refine lv_iload hx hb dX12_message_103 (lv_at hl 2 rfl) ?_
          refine lv_bipush (v := 77) hx hb dX12_message_105 (by decide) ?_
          have j195_335 : ∀ (g335 : mSt) (H335 : Heap) (k335 : List Loc) (ls : Array Slot), mFr [58, 59, 60, 68, 69, 70, 71, 72, 73, 74, 75, 76, 77, 78, 79, 80, 81, 86, 87, 89, 90, 91] g286 g335 → mL G h0 ad H0 nn X g335 H335 k335 → mJ nn [] g335 → lv_has ls 8 [(0, .ref h0)] → W p l e rm_message s m args below meth c H335 k335 0 0 Q (F0 m 195 ls []) := by
            intro  g335 H335 k335 ls hF335 L335 hJ335  hl
            exact hQ _ _ _ _ _ dX12_message_195 L335 ⟨(mFr.tr (mFr.tr (mFr.tr (mFr.tr mFr.rf hp177.1 rfl) hp284.1 rfl) hp286.1 rfl) hF335 rfl), hJ335, trivial⟩
          refine lv_icmp_ne (tgt := 125) hx hb dX12_message_107 (by decide) (fun c107_336 => ?_) (fun c107_336 => ?_)
          · skip
            have ic107_336 : v283.toInt ≠ (77 : Int32).toInt := fun z => c107_336 (Int32.toInt_inj.mp z)
            have y337 : (77 : Int32).toInt = 77 := by decide
            refine lv_iload hx hb dX12_message_125 (lv_at hl 2 rfl) ?_
            refine lv_iconst (v := 5) hx hb dX12_message_127 (by decide) ?_
            refine lv_icmp_ne (tgt := 195) hx hb dX12_message_128 (by decide) (fun c128_338 => ?_) (fun c128_338 => ?_)
            · skip
              have ic128_338 : v283.toInt ≠ (5 : Int32).toInt := fun z => c128_338 (Int32.toInt_inj.mp z)
              have y339 : (5 : Int32).toInt = 5 := by decide
              exact j195_335  g286 _ _ ls mFr.rf L286 (mJ_fr (mJ_fr (mJ_fr hJ hp177.1 rfl) hp284.1 rfl) hp286.1 rfl) (lv_sub hl [5] rfl)
            · skip
              have ic128_338 := congrArg Int32.toInt c128_338
              have y340 : (5 : Int32).toInt = 5 := by decide
              have q341 : rg (5) (5) v283 := (rg_eq c128_338 rv283 kc_5).1
              have uq341 : (5 : Int) ≤ v283.toInt ∧ v283.toInt ≤ 5 := q341
              refine lv_iload_n hx hb dX12_message_131 rfl (lv_at hl 4 rfl) ?_
              refine lv_if_ne (tgt := 195) hx hb dX12_message_132 (by decide) (fun c132_342 => ?_) (fun c132_342 => ?_)
              · skip
                exact j195_335  g286 _ _ ls mFr.rf L286 (mJ_fr (mJ_fr (mJ_fr hJ hp177.1 rfl) hp284.1 rfl) hp286.1 rfl) (lv_sub hl [5] rfl)
              · skip
                exact absurd c132_342 (by decide)
          · skip
            have ic107_336 := congrArg Int32.toInt c107_336
            have y343 : (77 : Int32).toInt = 77 := by decide
            have q344 : rg (77) (77) v283 := (rg_eq c107_336 rv283 kc_77).1
            have uq344 : (77 : Int) ≤ v283.toInt ∧ v283.toInt ≤ 77 := q344
            refine lv_aload_n hx hb dX12_message_110 rfl (lv_at hl 5 rfl) ?_
            refine lv_iload_n hx hb dX12_message_111 rfl (lv_at hl 6 rfl) ?_
            refine lv_iload_n hx hb dX12_message_112 rfl (lv_at hl 4 rfl) ?_
            refine lv_iload hx hb dX12_message_113 (lv_at hl 3 rfl) ?_
            refine lv_bipush (v := 90) hx hb dX12_message_115 (by decide) ?_
            refine lv_bipush (v := 81) hx hb dX12_message_117 (by decide) ?_
            refine m_cv (As := [.int p1, .int (1 : Int32), .int v282, .int (90 : Int32), .int (81 : Int32)]) (rest := []) x hml L286 (c_withCause l nn X g286 p1 (1 : Int32) v282 (90 : Int32) (81 : Int32) hnn hX (rg_w q176 rfl) (rg_w kc_1 rfl)) (wm_V uc_withCause ul_488 ui_withCause us_withCause u_init) rfl ⟨rfl, rfl⟩ hd_withCause ⟨Nat.le_of_ble_eq_true rfl, Nat.le_of_ble_eq_true rfl⟩ rfl hl.1 rfl (lv_room (Nat.le_of_ble_eq_true rfl)) dX12_message_119 (fun  g345 H345 k345 hp345 L345 => ?_)
            refine lv_goto (tgt := 195) hx hb dX12_message_122 (by decide) ?_
            exact j195_335  g345 _ _ ls (mFr.tr mFr.rf hp345.1 rfl) L345 (mJ_fr (mJ_fr (mJ_fr (mJ_fr hJ hp177.1 rfl) hp284.1 rfl) hp286.1 rfl) hp345.1 rfl) (lv_sub hl [5] rfl)
    · skip
      have ic18_180 := congrArg Int32.toInt c18_180
      have y346 : (0 : Int32).toInt = 0 := by decide
      have q347 : rg (0) (0) v178 := (rg_eq c18_180 rv178 kc_0).1
      have uq347 : (0 : Int) ≤ v178.toInt ∧ v178.toInt ≤ 0 := q347
      exact hQ _ _ _ _ _ dX12_message_21 L177 ⟨(mFr.tr mFr.rf hp177.1 rfl), (mJ_fr hJ hp177.1 rfl), trivial⟩
theorem c_message (l : Launch) {G : mG} {h0 : Nat} {ad : Nat → Nat} (nn X : Int) (g : mSt) (p1 : Int32) (p2 : Int32) (hnn : 2 ≤ nn ∧ nn ≤ 4) (hX : 0 ≤ X ∧ X ≤ 2000000000) (hJ : mJ nn [] g) (rp1 : rg (0) (7) p1) (np1 : p1.toInt < 2 * nn) (rp2 : rg (0) (60) p2) : Met l yX12_message (wm (Cond.code yX12_message cX12_message 8 none)) rm_message (va_Pc [.ref h0, .int p1, .int p2] (mPre G h0 ad nn X g)) (mQv G h0 ad nn X (fun g1 => mFr [58, 59, 60, 68, 69, 70, 71, 72, 73, 74, 75, 76, 77, 78, 79, 80, 81, 86, 87, 89, 90, 91] g g1 ∧ mJ nn [] g1 ∧ True)) 0 0 (mA h0 ad) := by
  refine Met.ofW (cc := cX12_message) (maxL := 8) (ret := none) (by decide) rfl ?_
  intro p e s m args below meth c s₁ B hml hv
  obtain ⟨rfl, hv⟩ := hv
  have hr := B.returns
  have hlocks := B.notSynchronized
  obtain ⟨x, L⟩ := m_start B rfl wm_X hv
  have hl := lv_entry ([.ref h0, .int p1, .int p2]) (n := 8) (Nat.le_of_ble_eq_true rfl)
  rw [lg_entry_eq]
  generalize (lg_sl ([.ref h0, .int p1, .int p2]) ++ List.replicate (8 - (lg_sl ([.ref h0, .int p1, .int p2])).length) Slot.unset).toArray = ls at hl ⊢
  exact w_message x hml L hnn hX p1 p2 hJ rp1 np1 rp2 hl (fun pc' ls' g1 H1 locs1 hdg L hp => m_vret x L hr hlocks (Int.le_refl _) hp hdg)

def rm_takeAhead : Room := { frames := 6, cells := 0, slots := 0, locals := 143 }
theorem hd_takeAhead : yX12_takeAhead.cls = RX12 ∧ yX12_takeAhead.cls ≠ "java/lang/invoke/MethodHandle" ∧ yX12_takeAhead.cls ≠ "java/lang/invoke/VarHandle" ∧ (parseMethodDescriptor yX12_takeAhead.desc).map (fun d => d.parameters.length) = some 1 := by decide +kernel
set_option maxHeartbeats 4000000 in
set_option maxRecDepth 100000 in
theorem w_takeAhead {p : Program} {l : Launch} {e : Env} {s : State} {m : MethodId} {args : Array Value} {below : List Frame} {meth : Method} {c : Code} {H : Heap} {locs : List Loc} {Q : State → Prop} {ls : Array Slot} {G : mG} {h0 : Nat} {ad : Nat → Nat} {g : mSt} {H0 : Heap} {nn X : Int} (x : mX p c cX12_takeAhead s args (wm (Cond.code yX12_takeAhead cX12_takeAhead 4 none)) m G h0 ad) (hml : c.maxLocals = 4) (L : mL G h0 ad H0 nn X g H locs) (hnn : 2 ≤ nn ∧ nn ≤ 4) (hX : 0 ≤ X ∧ X ≤ 2000000000) (p1 : Int32) (hJ : mJ nn [] g) (rp1 : rg (0) (7) p1) (np1 : p1.toInt < 2 * nn) (hpre0 : rg (0) (16777216) (g 46 p1.toNatClampNeg)) (hl : lv_has ls 4 [(0, .ref h0), (1, .int p1)]) (hQ : ∀ (pc' : Nat) (ls' : Array Slot) (g1 : mSt) (H1 : Heap) (locs1 : List Loc), decode cX12_takeAhead pc' = .ok (.return_, 1) → mL G h0 ad H0 nn X g1 H1 locs1 → (mFr [33, 46, 47, 58, 59, 60, 67, 68, 69, 70, 71, 72, 73, 74, 75, 76, 77, 78, 79, 80, 81, 86, 87, 89, 90, 91] g g1 ∧ mJ nn [] g1 ∧ True) → W p l e rm_takeAhead s m args below meth c H1 locs1 0 0 Q (F0 m pc' ls' [])) : W p l e rm_takeAhead s m args below meth c H locs 0 0 Q (F0 m 0 ls []) := by
  have hx := x.1
  have hb := x.2.1
  obtain ⟨z0, ez0⟩ : ∃ y : Int32, y = g 46 p1.toNatClampNeg := ⟨_, rfl⟩
  have rz0 : rg (0) (16777216) z0 := rg_eqv ez0.symm hpre0
  have sz0 := congrArg Int32.toInt ez0
  have uz0 : (0 : Int) ≤ z0.toInt ∧ z0.toInt ≤ 16777216 := rz0
  have up1 : (0 : Int) ≤ p1.toInt ∧ p1.toInt ≤ 7 := rp1
  refine lv_bipush (v := 8) hx hb dX12_takeAhead_0 (by decide) ?_
  refine lv_iload_n hx hb dX12_takeAhead_2 rfl (lv_at hl 1 rfl) ?_
  refine lv_imul hx hb dX12_takeAhead_3 ?_
  refine lv_topi (fun v1 ev1 => ?_)
  have rv1 : rg (0) (56) v1 := (rg_mulL ev1 kc_8 rp1 rfl).1
  have tv1 := (rg_mulL ev1 kc_8 rp1 rfl).2
  have y2 : (8 : Int32).toInt = 8 := by decide
  have b16v1 : v1.toInt < 16 * nn := by have := np1; have : (8 : Int32).toInt = 8 := (by decide); omega
  have uv1 : (0 : Int) ≤ v1.toInt ∧ v1.toInt ≤ 56 := rv1
  refine lv_aload_n hx hb dX12_takeAhead_4 rfl (lv_at hl 0 rfl) ?_
  refine m_geta x L 46 rfl rfl (wm_in uf_125) dX12_takeAhead_5 ?_
  refine lv_iload_n hx hb dX12_takeAhead_8 rfl (lv_at hl 1 rfl) ?_
  refine m_ld x L 46 rfl rp1 rfl dX12_takeAhead_9 (fun v3 ev3 wv3 => ?_)
  refine m_top ((ez0).trans ev3.symm) ?_
  refine lv_bipush (v := 8) hx hb dX12_takeAhead_10 (by decide) ?_
  refine lv_irem hx hb dX12_takeAhead_12 (by decide) ?_
  refine lv_topi (fun v4 ev4 => ?_)
  have rv4 : rg (0) (7) v4 := (rg_rem ev4 rz0 kc_8 rfl).1
  have tv4 := (rg_rem ev4 rz0 kc_8 rfl).2
  have y5 : (8 : Int32).toInt = 8 := by decide
  have uv4 : (0 : Int) ≤ v4.toInt ∧ v4.toInt ≤ 7 := rv4
  refine lv_iadd hx hb dX12_takeAhead_13 ?_
  refine lv_topi (fun v6 ev6 => ?_)
  have rv6 : rg (0) (63) v6 := (rg_add ev6 rv1 rv4 rfl).1
  have tv6 := (rg_add ev6 rv1 rv4 rfl).2
  have uv6 : (0 : Int) ≤ v6.toInt ∧ v6.toInt ≤ 63 := rv6
  refine lv_istore_n (lv' := [(2, .int v6), (0, .ref h0), (1, .int p1)]) hx hb dX12_takeAhead_14 rfl hl (by decide) rfl (fun ls hl => ?_)
  have j15_8 : ∀ (n : Nat) (a15_2_7 : Int32) (g8 : mSt) (H8 : Heap) (k8 : List Loc) (ls : Array Slot), mFr [33, 46, 47, 58, 59, 60, 67, 68, 69, 70, 71, 72, 73, 74, 75, 76, 77, 78, 79, 80, 81, 86, 87, 89, 90, 91] g g8 → mL G h0 ad H0 nn X g8 H8 k8 → mJ nn [] g8 → rg (0) (63) a15_2_7 → rg (0) (16777224) (g8 46 p1.toNatClampNeg) → (8 * p1.toInt ≤ a15_2_7.toInt ∧ a15_2_7.toInt < 8 * p1.toInt + 8) → ((g8 46 p1.toNatClampNeg)).toInt + (cA g8 p1.toInt : Int) ≤ 16777224 → lv_has ls 4 [(0, .ref h0), (1, .int p1), (2, .int a15_2_7)] → cA g8 p1.toInt = n → W p l e rm_takeAhead s m args below meth c H8 k8 0 0 Q (F0 m 15 ls []) := by
    intro n
    induction n using Nat.strongRecOn with
    | _ n ih8 =>
      intro a15_2_7 g8 H8 k8 ls hF8 L8 hJ8 ra15_2_7 hm8_0 hv8_0 hv8_1 hl hn8
      subst hn8
      obtain ⟨z8_0, ez8_0⟩ : ∃ y : Int32, y = g8 46 p1.toNatClampNeg := ⟨_, rfl⟩
      have rz8_0 : rg (0) (16777224) z8_0 := rg_eqv ez8_0.symm hm8_0
      have uz8_0 : (0 : Int) ≤ z8_0.toInt ∧ z8_0.toInt ≤ 16777224 := rz8_0
      have sz8_0 := congrArg Int32.toInt ez8_0
      have ua15_2_7 : (0 : Int) ≤ a15_2_7.toInt ∧ a15_2_7.toInt ≤ 63 := ra15_2_7
      refine lv_aload_n hx hb dX12_takeAhead_15 rfl (lv_at hl 0 rfl) ?_
      refine m_geta x L8 40 rfl rfl (wm_in uf_107) dX12_takeAhead_16 ?_
      refine lv_iload_n hx hb dX12_takeAhead_19 rfl (lv_at hl 1 rfl) ?_
      refine m_ld x L8 40 rfl rp1 rfl dX12_takeAhead_20 (fun v9 ev9 wv9 => ?_)
      have rv9 : rg (-2147483648) (2147483647) v9 := lj_40 wv9
      have uv9 : (-2147483648 : Int) ≤ v9.toInt ∧ v9.toInt ≤ 2147483647 := rv9
      have sv9 : v9.toInt = (g 40 p1.toNatClampNeg).toInt := congrArg Int32.toInt (ev9.trans (congrFun ((show mFr [33, 46, 47, 58, 59, 60, 67, 68, 69, 70, 71, 72, 73, 74, 75, 76, 77, 78, 79, 80, 81, 86, 87, 89, 90, 91] g g8 from (mFr.tr mFr.rf hF8 rfl)).at 40 rfl) _))
      refine lv_iconst (v := 2) hx hb dX12_takeAhead_21 (by decide) ?_
      have j151_10 : ∀ (g10 : mSt) (H10 : Heap) (k10 : List Loc) (ls : Array Slot), mFr [] g8 g10 → mL G h0 ad H0 nn X g10 H10 k10 → mJ nn [] g10 → lv_has ls 4 [(0, .ref h0)] → W p l e rm_takeAhead s m args below meth c H10 k10 0 0 Q (F0 m 151 ls []) := by
        intro  g10 H10 k10 ls hF10 L10 hJ10  hl
        exact hQ _ _ _ _ _ dX12_takeAhead_151 L10 ⟨(mFr.tr (mFr.tr mFr.rf hF8 rfl) hF10 rfl), hJ10, trivial⟩
      refine lv_icmp_ne (tgt := 151) hx hb dX12_takeAhead_22 (by decide) (fun c22_11 => ?_) (fun c22_11 => ?_)
      · skip
        have ic22_11 : v9.toInt ≠ (2 : Int32).toInt := fun z => c22_11 (Int32.toInt_inj.mp z)
        have y12 : (2 : Int32).toInt = 2 := by decide
        exact j151_10  g8 _ _ ls mFr.rf L8 hJ8 (lv_sub hl [0] rfl)
      · skip
        have ic22_11 := congrArg Int32.toInt c22_11
        have y13 : (2 : Int32).toInt = 2 := by decide
        have q14 : rg (2) (2) v9 := (rg_eq c22_11 rv9 kc_2).1
        have uq14 : (2 : Int) ≤ v9.toInt ∧ v9.toInt ≤ 2 := q14
        refine lv_aload_n hx hb dX12_takeAhead_25 rfl (lv_at hl 0 rfl) ?_
        refine m_geta x L8 67 rfl rfl (wm_in uf_189) dX12_takeAhead_26 ?_
        refine lv_iload_n hx hb dX12_takeAhead_29 rfl (lv_at hl 2 rfl) ?_
        refine m_ldz x L8 67 rfl ra15_2_7 rfl dX12_takeAhead_30 (fun v15 ev15 wv15 => ?_)
        have rv15 : rg (0) (1) v15 := lj_67 wv15
        have uv15 : (0 : Int) ≤ v15.toInt ∧ v15.toInt ≤ 1 := rv15
        refine lv_if_eq (tgt := 151) hx hb dX12_takeAhead_31 (by decide) (fun c31_16 => ?_) (fun c31_16 => ?_)
        · skip
          have ic31_16 := congrArg Int32.toInt c31_16
          have y17 : (0 : Int32).toInt = 0 := by decide
          have q18 : rg (0) (0) v15 := (rg_eq c31_16 rv15 kc_0).1
          have uq18 : (0 : Int) ≤ v15.toInt ∧ v15.toInt ≤ 0 := q18
          exact j151_10  g8 _ _ ls mFr.rf L8 hJ8 (lv_sub hl [0] rfl)
        · skip
          have ic31_16 : v15.toInt ≠ (0 : Int32).toInt := fun z => c31_16 (Int32.toInt_inj.mp z)
          have y19 : (0 : Int32).toInt = 0 := by decide
          have q20 : rg (1) (1) v15 := rg_neL c31_16 rv15 kc_0
          have uq20 : (1 : Int) ≤ v15.toInt ∧ v15.toInt ≤ 1 := q20
          have hah : (g8 67 a15_2_7.toNatClampNeg).toInt = 1 := by rw [← ev15]; omega
          have hA1 := cA_lt (s := p1.toInt) (by omega) hv8_0 hah
          refine lv_aload_n hx hb dX12_takeAhead_34 rfl (lv_at hl 0 rfl) ?_
          refine m_geta x L8 67 rfl rfl (wm_in uf_189) dX12_takeAhead_35 ?_
          refine lv_iload_n hx hb dX12_takeAhead_38 rfl (lv_at hl 2 rfl) ?_
          refine lv_iconst (v := 0) hx hb dX12_takeAhead_39 (by decide) ?_
          refine m_stz x L8 67 rfl ra15_2_7 rfl (rg_w kc_0 rfl) (rj_67 (rg_w kc_0 rfl)) dX12_takeAhead_40 (fun g21 H21 k21 eg21 L21 => ?_)
          refine lv_aload_n hx hb dX12_takeAhead_41 rfl (lv_at hl 0 rfl) ?_
          refine m_geta x L21 46 rfl rfl (wm_in uf_125) dX12_takeAhead_42 ?_
          refine lv_iload_n hx hb dX12_takeAhead_45 rfl (lv_at hl 1 rfl) ?_
          refine lv_dup2_11 hx hb dX12_takeAhead_46 rfl rfl ?_
          refine m_ld x L21 46 rfl rp1 rfl dX12_takeAhead_47 (fun v22 ev22 wv22 => ?_)
          refine m_top (((mm_up ez8_0 eg21 rfl)).trans ev22.symm) ?_
          refine lv_iconst (v := 1) hx hb dX12_takeAhead_48 (by decide) ?_
          refine lv_iadd hx hb dX12_takeAhead_49 ?_
          refine lv_topi (fun v23 ev23 => ?_)
          have rv23 : rg (1) (16777225) v23 := (rg_add ev23 rz8_0 kc_1 rfl).1
          have tv23 := (rg_add ev23 rz8_0 kc_1 rfl).2
          have y24 : (1 : Int32).toInt = 1 := by decide
          have q25 : rg (1) (16777224) v23 := ⟨by omega, by omega⟩
          have uv23 : (1 : Int) ≤ v23.toInt ∧ v23.toInt ≤ 16777224 := q25
          refine m_st x L21 46 rfl rp1 rfl (rj_46 (rg_w q25 rfl)) dX12_takeAhead_50 (fun g26 H26 k26 eg26 L26 => ?_)
          refine lv_aload_n hx hb dX12_takeAhead_51 rfl (lv_at hl 0 rfl) ?_
          refine m_geta x L26 47 rfl rfl (wm_in uf_128) dX12_takeAhead_52 ?_
          refine lv_iload_n hx hb dX12_takeAhead_55 rfl (lv_at hl 1 rfl) ?_
          refine lv_aload_n hx hb dX12_takeAhead_56 rfl (lv_at hl 0 rfl) ?_
          refine m_geta x L26 47 rfl rfl (wm_in uf_128) dX12_takeAhead_57 ?_
          refine lv_iload_n hx hb dX12_takeAhead_60 rfl (lv_at hl 1 rfl) ?_
          refine m_ld x L26 47 rfl rp1 rfl dX12_takeAhead_61 (fun v27 ev27 wv27 => ?_)
          have rv27 : rg (-2147483648) (2147483647) v27 := lj_47 wv27
          have uv27 : (-2147483648 : Int) ≤ v27.toInt ∧ v27.toInt ≤ 2147483647 := rv27
          refine lv_aload_n hx hb dX12_takeAhead_62 rfl (lv_at hl 0 rfl) ?_
          refine m_geta x L26 46 rfl rfl (wm_in uf_125) dX12_takeAhead_63 ?_
          refine lv_iload_n hx hb dX12_takeAhead_66 rfl (lv_at hl 1 rfl) ?_
          refine m_ld x L26 46 rfl rp1 rfl dX12_takeAhead_67 (fun v28 ev28 wv28 => ?_)
          refine m_top (((mm_st eg26)).trans ev28.symm) ?_
          refine lv_icmp_ge (tgt := 80) hx hb dX12_takeAhead_68 (by decide) (fun c68_29 => ?_) (fun c68_29 => ?_)
          · skip
            have ic68_29 := Int32.le_iff_toInt_le.mp c68_29
            have q30 : rg (1) (2147483647) v27 := (rg_le c68_29 q25 rv27).2
            have uq30 : (1 : Int) ≤ v27.toInt ∧ v27.toInt ≤ 2147483647 := q30
            refine lv_aload_n hx hb dX12_takeAhead_80 rfl (lv_at hl 0 rfl) ?_
            refine m_geta x L26 47 rfl rfl (wm_in uf_128) dX12_takeAhead_81 ?_
            refine lv_iload_n hx hb dX12_takeAhead_84 rfl (lv_at hl 1 rfl) ?_
            refine m_ld x L26 47 rfl rp1 rfl dX12_takeAhead_85 (fun v31 ev31 wv31 => ?_)
            refine m_top ((ev27).trans ev31.symm) ?_
            refine m_st x L26 47 rfl rp1 rfl (rj_47 (rg_any v27)) dX12_takeAhead_86 (fun g32 H32 k32 eg32 L32 => ?_)
            refine lv_iconst (v := 0) hx hb dX12_takeAhead_87 (by decide) ?_
            refine lv_istore_n (lv' := [(3, .int (0 : Int32)), (0, .ref h0), (1, .int p1), (2, .int a15_2_7)]) hx hb dX12_takeAhead_88 rfl hl (by decide) rfl (fun ls hl => ?_)
            have j89_34 : ∀ (n : Nat) (a89_3_33 : Int32) (g34 : mSt) (H34 : Heap) (k34 : List Loc) (ls : Array Slot), mFr [33] g32 g34 → mL G h0 ad H0 nn X g34 H34 k34 → mJ nn [] g34 → rg (0) (60) a89_3_33 → lv_has ls 4 [(0, .ref h0), (1, .int p1), (2, .int a15_2_7), (3, .int a89_3_33)] → ((60 : Int) - a89_3_33.toInt).toNat = n → W p l e rm_takeAhead s m args below meth c H34 k34 0 0 Q (F0 m 89 ls []) := by
              intro n
              induction n using Nat.strongRecOn with
              | _ n ih34 =>
                intro a89_3_33 g34 H34 k34 ls hF34 L34 hJ34 ra89_3_33 hl hn34
                subst hn34
                have ua89_3_33 : (0 : Int) ≤ a89_3_33.toInt ∧ a89_3_33.toInt ≤ 60 := ra89_3_33
                refine lv_iload_n hx hb dX12_takeAhead_89 rfl (lv_at hl 3 rfl) ?_
                refine lv_aload_n hx hb dX12_takeAhead_90 rfl (lv_at hl 0 rfl) ?_
                refine m_geta x L34 66 rfl rfl (wm_in uf_186) dX12_takeAhead_91 ?_
                refine lv_iload_n hx hb dX12_takeAhead_94 rfl (lv_at hl 2 rfl) ?_
                refine m_ld x L34 66 rfl ra15_2_7 rfl dX12_takeAhead_95 (fun v35 ev35 wv35 => ?_)
                have rv35 : rg (0) (60) v35 := lj_66 wv35
                have uv35 : (0 : Int) ≤ v35.toInt ∧ v35.toInt ≤ 60 := rv35
                have sv35 : v35.toInt = (g 66 a15_2_7.toNatClampNeg).toInt := congrArg Int32.toInt (ev35.trans (congrFun ((show mFr [33, 46, 47, 58, 59, 60, 67, 68, 69, 70, 71, 72, 73, 74, 75, 76, 77, 78, 79, 80, 81, 86, 87, 89, 90, 91] g g34 from (mFr.tr (mFr.upE (mFr.upE (mFr.upE (mFr.tr mFr.rf hF8 rfl) eg21 rfl) eg26 rfl) eg32 rfl) hF34 rfl)).at 66 rfl) _))
                refine lv_icmp_ge (tgt := 122) hx hb dX12_takeAhead_96 (by decide) (fun c96_36 => ?_) (fun c96_36 => ?_)
                · skip
                  have ic96_36 := Int32.le_iff_toInt_le.mp c96_36
                  refine lv_aload_n hx hb dX12_takeAhead_122 rfl (lv_at hl 0 rfl) ?_
                  refine lv_iload_n hx hb dX12_takeAhead_123 rfl (lv_at hl 1 rfl) ?_
                  refine lv_aload_n hx hb dX12_takeAhead_124 rfl (lv_at hl 0 rfl) ?_
                  refine m_geta x L34 66 rfl rfl (wm_in uf_186) dX12_takeAhead_125 ?_
                  refine lv_iload_n hx hb dX12_takeAhead_128 rfl (lv_at hl 2 rfl) ?_
                  refine m_ld x L34 66 rfl ra15_2_7 rfl dX12_takeAhead_129 (fun v37 ev37 wv37 => ?_)
                  refine m_top ((ev35).trans ev37.symm) ?_
                  refine m_cv (As := [.int p1, .int v35]) (rest := []) x hml L34 (c_message l nn X g34 p1 v35 hnn hX hJ34 (rg_w rp1 rfl) np1 (rg_w rv35 rfl)) (wm_V uc_message ul_438 ui_message us_message u_init) rfl ⟨rfl, rfl⟩ hd_message ⟨Nat.le_of_ble_eq_true rfl, Nat.le_of_ble_eq_true rfl⟩ rfl hl.1 rfl (lv_room (Nat.le_of_ble_eq_true rfl)) dX12_takeAhead_130 (fun  g38 H38 k38 hp38 L38 => ?_)
                  refine lv_bipush (v := 8) hx hb dX12_takeAhead_133 (by decide) ?_
                  refine lv_iload_n hx hb dX12_takeAhead_135 rfl (lv_at hl 1 rfl) ?_
                  refine lv_imul hx hb dX12_takeAhead_136 ?_
                  refine m_top ev1 ?_
                  refine lv_aload_n hx hb dX12_takeAhead_137 rfl (lv_at hl 0 rfl) ?_
                  refine m_geta x L38 46 rfl rfl (wm_in uf_125) dX12_takeAhead_138 ?_
                  refine lv_iload_n hx hb dX12_takeAhead_141 rfl (lv_at hl 1 rfl) ?_
                  refine m_ld x L38 46 rfl rp1 rfl dX12_takeAhead_142 (fun v39 ev39 wv39 => ?_)
                  refine m_top (((mm_fr (mm_fr (mm_up (mm_st eg26) eg32 rfl) hF34 rfl) hp38.1 rfl)).trans ev39.symm) ?_
                  refine lv_bipush (v := 8) hx hb dX12_takeAhead_143 (by decide) ?_
                  refine lv_irem hx hb dX12_takeAhead_145 (by decide) ?_
                  refine lv_topi (fun v40 ev40 => ?_)
                  have rv40 : rg (0) (7) v40 := (rg_rem ev40 q25 kc_8 rfl).1
                  have tv40 := (rg_rem ev40 q25 kc_8 rfl).2
                  have y41 : (8 : Int32).toInt = 8 := by decide
                  have uv40 : (0 : Int) ≤ v40.toInt ∧ v40.toInt ≤ 7 := rv40
                  refine lv_iadd hx hb dX12_takeAhead_146 ?_
                  refine lv_topi (fun v42 ev42 => ?_)
                  have rv42 : rg (0) (63) v42 := (rg_add ev42 rv1 rv40 rfl).1
                  have tv42 := (rg_add ev42 rv1 rv40 rfl).2
                  have uv42 : (0 : Int) ≤ v42.toInt ∧ v42.toInt ≤ 63 := rv42
                  refine lv_istore_n (lv' := [(2, .int v42), (0, .ref h0), (1, .int p1), (3, .int a89_3_33)]) hx hb dX12_takeAhead_147 rfl hl (by decide) rfl (fun ls hl => ?_)
                  refine lv_goto (tgt := 15) hx hb dX12_takeAhead_148 (by decide) ?_
                  have hA2 := cA_fr (s := p1.toInt) ((show mFr [33, 46, 47, 58, 59, 60, 68, 69, 70, 71, 72, 73, 74, 75, 76, 77, 78, 79, 80, 81, 86, 87, 89, 90, 91] g21 g38 from (mFr.tr (mFr.tr (mFr.upE (mFr.upE mFr.rf eg26 rfl) eg32 rfl) hF34 rfl) hp38.1 rfl)).at 67 rfl)
                  rw [eg21] at hA2
                  have y43 := congrArg Int32.toInt (mm_fr (mm_fr (mm_up (mm_st eg26) eg32 rfl) hF34 rfl) hp38.1 rfl)
                  exact ih8 _ (by omega) v42 g38 _ _ ls (mFr.tr (mFr.tr (mFr.upE (mFr.upE (mFr.upE hF8 eg21 rfl) eg26 rfl) eg32 rfl) hF34 rfl) hp38.1 rfl) L38 hp38.2.1 (rg_w rv42 rfl) (rg_eqv (mm_fr (mm_fr (mm_up (mm_st eg26) eg32 rfl) hF34 rfl) hp38.1 rfl) (rg_w q25 rfl)) (by omega) (by omega) (lv_sub hl [1, 2, 0] rfl) rfl
                · skip
                  have ic96_36 := Int32.lt_iff_toInt_lt.mp (rg_nle c96_36)
                  have q44 : rg (0) (59) a89_3_33 := (rg_lt (rg_nle c96_36) ra89_3_33 rv35).1
                  have uq44 : (0 : Int) ≤ a89_3_33.toInt ∧ a89_3_33.toInt ≤ 59 := q44
                  have q45 : rg (1) (60) v35 := (rg_lt (rg_nle c96_36) ra89_3_33 rv35).2
                  have uq45 : (1 : Int) ≤ v35.toInt ∧ v35.toInt ≤ 60 := q45
                  refine lv_aload_n hx hb dX12_takeAhead_99 rfl (lv_at hl 0 rfl) ?_
                  refine m_geta x L34 33 rfl rfl (wm_in uf_89) dX12_takeAhead_100 ?_
                  refine lv_iload_n hx hb dX12_takeAhead_103 rfl (lv_at hl 3 rfl) ?_
                  refine lv_aload_n hx hb dX12_takeAhead_104 rfl (lv_at hl 0 rfl) ?_
                  refine m_geta x L34 65 rfl rfl (wm_in uf_183) dX12_takeAhead_105 ?_
                  refine lv_bipush (v := 60) hx hb dX12_takeAhead_108 (by decide) ?_
                  refine lv_iload_n hx hb dX12_takeAhead_110 rfl (lv_at hl 2 rfl) ?_
                  refine lv_imul hx hb dX12_takeAhead_111 ?_
                  refine lv_topi (fun v46 ev46 => ?_)
                  have rv46 : rg (0) (3780) v46 := (rg_mulL ev46 kc_60 ra15_2_7 rfl).1
                  have tv46 := (rg_mulL ev46 kc_60 ra15_2_7 rfl).2
                  have y47 : (60 : Int32).toInt = 60 := by decide
                  have uv46 : (0 : Int) ≤ v46.toInt ∧ v46.toInt ≤ 3780 := rv46
                  refine lv_iload_n hx hb dX12_takeAhead_112 rfl (lv_at hl 3 rfl) ?_
                  refine lv_iadd hx hb dX12_takeAhead_113 ?_
                  refine lv_topi (fun v48 ev48 => ?_)
                  have rv48 : rg (0) (3839) v48 := (rg_add ev48 rv46 q44 rfl).1
                  have tv48 := (rg_add ev48 rv46 q44 rfl).2
                  have uv48 : (0 : Int) ≤ v48.toInt ∧ v48.toInt ≤ 3839 := rv48
                  refine m_ld x L34 65 rfl rv48 rfl dX12_takeAhead_114 (fun v49 ev49 wv49 => ?_)
                  have rv49 : rg (-2147483648) (2147483647) v49 := lj_65 wv49
                  have uv49 : (-2147483648 : Int) ≤ v49.toInt ∧ v49.toInt ≤ 2147483647 := rv49
                  have sv49 : v49.toInt = (g 65 v48.toNatClampNeg).toInt := congrArg Int32.toInt (ev49.trans (congrFun ((show mFr [33, 46, 47, 58, 59, 60, 67, 68, 69, 70, 71, 72, 73, 74, 75, 76, 77, 78, 79, 80, 81, 86, 87, 89, 90, 91] g g34 from (mFr.tr (mFr.upE (mFr.upE (mFr.upE (mFr.tr mFr.rf hF8 rfl) eg21 rfl) eg26 rfl) eg32 rfl) hF34 rfl)).at 65 rfl) _))
                  refine m_st x L34 33 rfl q44 rfl (rj_33 (rg_any v49)) dX12_takeAhead_115 (fun g50 H50 k50 eg50 L50 => ?_)
                  obtain ⟨v51, ev51, fv51⟩ := inc_ex a89_3_33 (1) (1 : Int32) (by decide)
                  have rv51 : rg (1) (60) v51 := (rg_add ev51 q44 kc_1 rfl).1
                  have tv51 := (rg_add ev51 q44 kc_1 rfl).2
                  have yv51 : (1 : Int32).toInt = 1 := by decide
                  refine lv_iinc (v := v51) (lv' := [(3, .int v51), (0, .ref h0), (1, .int p1), (2, .int a15_2_7)]) hx hb dX12_takeAhead_116 hl (k := 3) rfl fv51 (by decide) rfl (fun ls hl => ?_)
                  refine lv_goto (tgt := 89) hx hb dX12_takeAhead_119 (by decide) ?_
                  exact ih34 _ (ms_up tv51 kc_1 q44 rfl rfl) v51 g50 _ _ ls (mFr.upE hF34 eg50 rfl) L50 (mJ_up hJ34 eg50 rfl) (rg_w rv51 rfl) (lv_sub hl [1, 2, 3, 0] rfl) rfl
            have y52 : (0 : Int32).toInt = 0 := by decide
            exact j89_34 _ (0 : Int32) g32 _ _ ls mFr.rf L32 (mJ_up (mJ_up (mJ_up hJ8 eg21 rfl) eg26 rfl) eg32 rfl) (rg_w kc_0 rfl) (lv_sub hl [1, 2, 3, 0] rfl) rfl
          · skip
            have ic68_29 := Int32.lt_iff_toInt_lt.mp (rg_nle c68_29)
            have q53 : rg (-2147483648) (16777223) v27 := (rg_lt (rg_nle c68_29) rv27 q25).1
            have uq53 : (-2147483648 : Int) ≤ v27.toInt ∧ v27.toInt ≤ 16777223 := q53
            refine lv_aload_n hx hb dX12_takeAhead_71 rfl (lv_at hl 0 rfl) ?_
            refine m_geta x L26 46 rfl rfl (wm_in uf_125) dX12_takeAhead_72 ?_
            refine lv_iload_n hx hb dX12_takeAhead_75 rfl (lv_at hl 1 rfl) ?_
            refine m_ld x L26 46 rfl rp1 rfl dX12_takeAhead_76 (fun v54 ev54 wv54 => ?_)
            refine m_top (((mm_st eg26)).trans ev54.symm) ?_
            refine lv_goto (tgt := 86) hx hb dX12_takeAhead_77 (by decide) ?_
            refine m_st x L26 47 rfl rp1 rfl (rj_47 (rg_any v23)) dX12_takeAhead_86 (fun g55 H55 k55 eg55 L55 => ?_)
            refine lv_iconst (v := 0) hx hb dX12_takeAhead_87 (by decide) ?_
            refine lv_istore_n (lv' := [(3, .int (0 : Int32)), (0, .ref h0), (1, .int p1), (2, .int a15_2_7)]) hx hb dX12_takeAhead_88 rfl hl (by decide) rfl (fun ls hl => ?_)
            have j89_57 : ∀ (n : Nat) (a89_3_56 : Int32) (g57 : mSt) (H57 : Heap) (k57 : List Loc) (ls : Array Slot), mFr [33] g55 g57 → mL G h0 ad H0 nn X g57 H57 k57 → mJ nn [] g57 → rg (0) (60) a89_3_56 → lv_has ls 4 [(0, .ref h0), (1, .int p1), (2, .int a15_2_7), (3, .int a89_3_56)] → ((60 : Int) - a89_3_56.toInt).toNat = n → W p l e rm_takeAhead s m args below meth c H57 k57 0 0 Q (F0 m 89 ls []) := by
              intro n
              induction n using Nat.strongRecOn with
              | _ n ih57 =>
                intro a89_3_56 g57 H57 k57 ls hF57 L57 hJ57 ra89_3_56 hl hn57
                subst hn57
                have ua89_3_56 : (0 : Int) ≤ a89_3_56.toInt ∧ a89_3_56.toInt ≤ 60 := ra89_3_56
                refine lv_iload_n hx hb dX12_takeAhead_89 rfl (lv_at hl 3 rfl) ?_
                refine lv_aload_n hx hb dX12_takeAhead_90 rfl (lv_at hl 0 rfl) ?_
                refine m_geta x L57 66 rfl rfl (wm_in uf_186) dX12_takeAhead_91 ?_
                refine lv_iload_n hx hb dX12_takeAhead_94 rfl (lv_at hl 2 rfl) ?_
                refine m_ld x L57 66 rfl ra15_2_7 rfl dX12_takeAhead_95 (fun v58 ev58 wv58 => ?_)
                have rv58 : rg (0) (60) v58 := lj_66 wv58
                have uv58 : (0 : Int) ≤ v58.toInt ∧ v58.toInt ≤ 60 := rv58
                have sv58 : v58.toInt = (g 66 a15_2_7.toNatClampNeg).toInt := congrArg Int32.toInt (ev58.trans (congrFun ((show mFr [33, 46, 47, 58, 59, 60, 67, 68, 69, 70, 71, 72, 73, 74, 75, 76, 77, 78, 79, 80, 81, 86, 87, 89, 90, 91] g g57 from (mFr.tr (mFr.upE (mFr.upE (mFr.upE (mFr.tr mFr.rf hF8 rfl) eg21 rfl) eg26 rfl) eg55 rfl) hF57 rfl)).at 66 rfl) _))
                refine lv_icmp_ge (tgt := 122) hx hb dX12_takeAhead_96 (by decide) (fun c96_59 => ?_) (fun c96_59 => ?_)
                · skip
                  have ic96_59 := Int32.le_iff_toInt_le.mp c96_59
                  refine lv_aload_n hx hb dX12_takeAhead_122 rfl (lv_at hl 0 rfl) ?_
                  refine lv_iload_n hx hb dX12_takeAhead_123 rfl (lv_at hl 1 rfl) ?_
                  refine lv_aload_n hx hb dX12_takeAhead_124 rfl (lv_at hl 0 rfl) ?_
                  refine m_geta x L57 66 rfl rfl (wm_in uf_186) dX12_takeAhead_125 ?_
                  refine lv_iload_n hx hb dX12_takeAhead_128 rfl (lv_at hl 2 rfl) ?_
                  refine m_ld x L57 66 rfl ra15_2_7 rfl dX12_takeAhead_129 (fun v60 ev60 wv60 => ?_)
                  refine m_top ((ev58).trans ev60.symm) ?_
                  refine m_cv (As := [.int p1, .int v58]) (rest := []) x hml L57 (c_message l nn X g57 p1 v58 hnn hX hJ57 (rg_w rp1 rfl) np1 (rg_w rv58 rfl)) (wm_V uc_message ul_438 ui_message us_message u_init) rfl ⟨rfl, rfl⟩ hd_message ⟨Nat.le_of_ble_eq_true rfl, Nat.le_of_ble_eq_true rfl⟩ rfl hl.1 rfl (lv_room (Nat.le_of_ble_eq_true rfl)) dX12_takeAhead_130 (fun  g61 H61 k61 hp61 L61 => ?_)
                  refine lv_bipush (v := 8) hx hb dX12_takeAhead_133 (by decide) ?_
                  refine lv_iload_n hx hb dX12_takeAhead_135 rfl (lv_at hl 1 rfl) ?_
                  refine lv_imul hx hb dX12_takeAhead_136 ?_
                  refine m_top ev1 ?_
                  refine lv_aload_n hx hb dX12_takeAhead_137 rfl (lv_at hl 0 rfl) ?_
                  refine m_geta x L61 46 rfl rfl (wm_in uf_125) dX12_takeAhead_138 ?_
                  refine lv_iload_n hx hb dX12_takeAhead_141 rfl (lv_at hl 1 rfl) ?_
                  refine m_ld x L61 46 rfl rp1 rfl dX12_takeAhead_142 (fun v62 ev62 wv62 => ?_)
                  refine m_top (((mm_fr (mm_fr (mm_up (mm_st eg26) eg55 rfl) hF57 rfl) hp61.1 rfl)).trans ev62.symm) ?_
                  refine lv_bipush (v := 8) hx hb dX12_takeAhead_143 (by decide) ?_
                  refine lv_irem hx hb dX12_takeAhead_145 (by decide) ?_
                  refine lv_topi (fun v63 ev63 => ?_)
                  have rv63 : rg (0) (7) v63 := (rg_rem ev63 q25 kc_8 rfl).1
                  have tv63 := (rg_rem ev63 q25 kc_8 rfl).2
                  have y64 : (8 : Int32).toInt = 8 := by decide
                  have uv63 : (0 : Int) ≤ v63.toInt ∧ v63.toInt ≤ 7 := rv63
                  refine lv_iadd hx hb dX12_takeAhead_146 ?_
                  refine lv_topi (fun v65 ev65 => ?_)
                  have rv65 : rg (0) (63) v65 := (rg_add ev65 rv1 rv63 rfl).1
                  have tv65 := (rg_add ev65 rv1 rv63 rfl).2
                  have uv65 : (0 : Int) ≤ v65.toInt ∧ v65.toInt ≤ 63 := rv65
                  refine lv_istore_n (lv' := [(2, .int v65), (0, .ref h0), (1, .int p1), (3, .int a89_3_56)]) hx hb dX12_takeAhead_147 rfl hl (by decide) rfl (fun ls hl => ?_)
                  refine lv_goto (tgt := 15) hx hb dX12_takeAhead_148 (by decide) ?_
                  have hA2 := cA_fr (s := p1.toInt) ((show mFr [33, 46, 47, 58, 59, 60, 68, 69, 70, 71, 72, 73, 74, 75, 76, 77, 78, 79, 80, 81, 86, 87, 89, 90, 91] g21 g61 from (mFr.tr (mFr.tr (mFr.upE (mFr.upE mFr.rf eg26 rfl) eg55 rfl) hF57 rfl) hp61.1 rfl)).at 67 rfl)
                  rw [eg21] at hA2
                  have y66 := congrArg Int32.toInt (mm_fr (mm_fr (mm_up (mm_st eg26) eg55 rfl) hF57 rfl) hp61.1 rfl)
                  exact ih8 _ (by omega) v65 g61 _ _ ls (mFr.tr (mFr.tr (mFr.upE (mFr.upE (mFr.upE hF8 eg21 rfl) eg26 rfl) eg55 rfl) hF57 rfl) hp61.1 rfl) L61 hp61.2.1 (rg_w rv65 rfl) (rg_eqv (mm_fr (mm_fr (mm_up (mm_st eg26) eg55 rfl) hF57 rfl) hp61.1 rfl) (rg_w q25 rfl)) (by omega) (by omega) (lv_sub hl [1, 2, 0] rfl) rfl
                · skip
                  have ic96_59 := Int32.lt_iff_toInt_lt.mp (rg_nle c96_59)
                  have q67 : rg (0) (59) a89_3_56 := (rg_lt (rg_nle c96_59) ra89_3_56 rv58).1
                  have uq67 : (0 : Int) ≤ a89_3_56.toInt ∧ a89_3_56.toInt ≤ 59 := q67
                  have q68 : rg (1) (60) v58 := (rg_lt (rg_nle c96_59) ra89_3_56 rv58).2
                  have uq68 : (1 : Int) ≤ v58.toInt ∧ v58.toInt ≤ 60 := q68
                  refine lv_aload_n hx hb dX12_takeAhead_99 rfl (lv_at hl 0 rfl) ?_
                  refine m_geta x L57 33 rfl rfl (wm_in uf_89) dX12_takeAhead_100 ?_
                  refine lv_iload_n hx hb dX12_takeAhead_103 rfl (lv_at hl 3 rfl) ?_
                  refine lv_aload_n hx hb dX12_takeAhead_104 rfl (lv_at hl 0 rfl) ?_
                  refine m_geta x L57 65 rfl rfl (wm_in uf_183) dX12_takeAhead_105 ?_
                  refine lv_bipush (v := 60) hx hb dX12_takeAhead_108 (by decide) ?_
                  refine lv_iload_n hx hb dX12_takeAhead_110 rfl (lv_at hl 2 rfl) ?_
                  refine lv_imul hx hb dX12_takeAhead_111 ?_
                  refine lv_topi (fun v69 ev69 => ?_)
                  have rv69 : rg (0) (3780) v69 := (rg_mulL ev69 kc_60 ra15_2_7 rfl).1
                  have tv69 := (rg_mulL ev69 kc_60 ra15_2_7 rfl).2
                  have y70 : (60 : Int32).toInt = 60 := by decide
                  have uv69 : (0 : Int) ≤ v69.toInt ∧ v69.toInt ≤ 3780 := rv69
                  refine lv_iload_n hx hb dX12_takeAhead_112 rfl (lv_at hl 3 rfl) ?_
                  refine lv_iadd hx hb dX12_takeAhead_113 ?_
                  refine lv_topi (fun v71 ev71 => ?_)
                  have rv71 : rg (0) (3839) v71 := (rg_add ev71 rv69 q67 rfl).1
                  have tv71 := (rg_add ev71 rv69 q67 rfl).2
                  have uv71 : (0 : Int) ≤ v71.toInt ∧ v71.toInt ≤ 3839 := rv71
                  refine m_ld x L57 65 rfl rv71 rfl dX12_takeAhead_114 (fun v72 ev72 wv72 => ?_)
                  have rv72 : rg (-2147483648) (2147483647) v72 := lj_65 wv72
                  have uv72 : (-2147483648 : Int) ≤ v72.toInt ∧ v72.toInt ≤ 2147483647 := rv72
                  have sv72 : v72.toInt = (g 65 v71.toNatClampNeg).toInt := congrArg Int32.toInt (ev72.trans (congrFun ((show mFr [33, 46, 47, 58, 59, 60, 67, 68, 69, 70, 71, 72, 73, 74, 75, 76, 77, 78, 79, 80, 81, 86, 87, 89, 90, 91] g g57 from (mFr.tr (mFr.upE (mFr.upE (mFr.upE (mFr.tr mFr.rf hF8 rfl) eg21 rfl) eg26 rfl) eg55 rfl) hF57 rfl)).at 65 rfl) _))
                  refine m_st x L57 33 rfl q67 rfl (rj_33 (rg_any v72)) dX12_takeAhead_115 (fun g73 H73 k73 eg73 L73 => ?_)
                  obtain ⟨v74, ev74, fv74⟩ := inc_ex a89_3_56 (1) (1 : Int32) (by decide)
                  have rv74 : rg (1) (60) v74 := (rg_add ev74 q67 kc_1 rfl).1
                  have tv74 := (rg_add ev74 q67 kc_1 rfl).2
                  have yv74 : (1 : Int32).toInt = 1 := by decide
                  refine lv_iinc (v := v74) (lv' := [(3, .int v74), (0, .ref h0), (1, .int p1), (2, .int a15_2_7)]) hx hb dX12_takeAhead_116 hl (k := 3) rfl fv74 (by decide) rfl (fun ls hl => ?_)
                  refine lv_goto (tgt := 89) hx hb dX12_takeAhead_119 (by decide) ?_
                  exact ih57 _ (ms_up tv74 kc_1 q67 rfl rfl) v74 g73 _ _ ls (mFr.upE hF57 eg73 rfl) L73 (mJ_up hJ57 eg73 rfl) (rg_w rv74 rfl) (lv_sub hl [1, 2, 3, 0] rfl) rfl
            have y75 : (0 : Int32).toInt = 0 := by decide
            exact j89_57 _ (0 : Int32) g55 _ _ ls mFr.rf L55 (mJ_up (mJ_up (mJ_up hJ8 eg21 rfl) eg26 rfl) eg55 rfl) (rg_w kc_0 rfl) (lv_sub hl [1, 2, 3, 0] rfl) rfl
  have hA0 := cA_le g p1.toInt
  have y76 := congrArg Int32.toInt ez0
  exact j15_8 _ v6 g _ _ ls mFr.rf L hJ (rg_w rv6 rfl) (rg_eqv ez0 (rg_w rz0 rfl)) (by omega) (by omega) (lv_sub hl [1, 2, 0] rfl) rfl
theorem c_takeAhead (l : Launch) {G : mG} {h0 : Nat} {ad : Nat → Nat} (nn X : Int) (g : mSt) (p1 : Int32) (hnn : 2 ≤ nn ∧ nn ≤ 4) (hX : 0 ≤ X ∧ X ≤ 2000000000) (hJ : mJ nn [] g) (rp1 : rg (0) (7) p1) (np1 : p1.toInt < 2 * nn) (hpre0 : rg (0) (16777216) (g 46 p1.toNatClampNeg)) : Met l yX12_takeAhead (wm (Cond.code yX12_takeAhead cX12_takeAhead 4 none)) rm_takeAhead (va_Pc [.ref h0, .int p1] (mPre G h0 ad nn X g)) (mQv G h0 ad nn X (fun g1 => mFr [33, 46, 47, 58, 59, 60, 67, 68, 69, 70, 71, 72, 73, 74, 75, 76, 77, 78, 79, 80, 81, 86, 87, 89, 90, 91] g g1 ∧ mJ nn [] g1 ∧ True)) 0 0 (mA h0 ad) := by
  refine Met.ofW (cc := cX12_takeAhead) (maxL := 4) (ret := none) (by decide) rfl ?_
  intro p e s m args below meth c s₁ B hml hv
  obtain ⟨rfl, hv⟩ := hv
  have hr := B.returns
  have hlocks := B.notSynchronized
  obtain ⟨x, L⟩ := m_start B rfl wm_X hv
  have hl := lv_entry ([.ref h0, .int p1]) (n := 4) (Nat.le_of_ble_eq_true rfl)
  rw [lg_entry_eq]
  generalize (lg_sl ([.ref h0, .int p1]) ++ List.replicate (4 - (lg_sl ([.ref h0, .int p1])).length) Slot.unset).toArray = ls at hl ⊢
  exact w_takeAhead x hml L hnn hX p1 hJ rp1 np1 hpre0 hl (fun pc' ls' g1 H1 locs1 hdg L hp => m_vret x L hr hlocks (Int.le_refl _) hp hdg)

def rm_data : Room := { frames := 7, cells := 0, slots := 0, locals := 166 }
theorem hd_data : yX12_data.cls = RX12 ∧ yX12_data.cls ≠ "java/lang/invoke/MethodHandle" ∧ yX12_data.cls ≠ "java/lang/invoke/VarHandle" ∧ (parseMethodDescriptor yX12_data.desc).map (fun d => d.parameters.length) = some 2 := by decide +kernel
set_option maxHeartbeats 4000000 in
set_option maxRecDepth 100000 in
theorem w_data {p : Program} {l : Launch} {e : Env} {s : State} {m : MethodId} {args : Array Value} {below : List Frame} {meth : Method} {c : Code} {H : Heap} {locs : List Loc} {Q : State → Prop} {ls : Array Slot} {G : mG} {h0 : Nat} {ad : Nat → Nat} {g : mSt} {H0 : Heap} {nn X : Int} (x : mX p c cX12_data s args (wm (Cond.code yX12_data cX12_data 6 none)) m G h0 ad) (hml : c.maxLocals = 6) (L : mL G h0 ad H0 nn X g H locs) (hnn : 2 ≤ nn ∧ nn ≤ 4) (hX : 0 ≤ X ∧ X ≤ 2000000000) (p1 : Int32) (p2 : Int32) (hJ : mJ nn [] g) (rp1 : rg (0) (7) p1) (np1 : p1.toInt < 2 * nn) (rp2 : rg (0) (16777215) p2) (hpre0 : rg (5) (64) (g 34 0)) (hl : lv_has ls 6 [(0, .ref h0), (1, .int p1), (2, .int p2)]) (hQ : ∀ (pc' : Nat) (ls' : Array Slot) (g1 : mSt) (H1 : Heap) (locs1 : List Loc), decode cX12_data pc' = .ok (.return_, 1) → mL G h0 ad H0 nn X g1 H1 locs1 → (mFr [4, 5, 7, 8, 9, 10, 11, 33, 46, 47, 58, 59, 60, 65, 66, 67, 68, 69, 70, 71, 72, 73, 74, 75, 76, 77, 78, 79, 80, 81, 86, 87, 89, 90, 91] g g1 ∧ mJ nn [] g1 ∧ True) → W p l e rm_data s m args below meth c H1 locs1 0 0 Q (F0 m pc' ls' [])) : W p l e rm_data s m args below meth c H locs 0 0 Q (F0 m 0 ls []) := by
  have hx := x.1
  have hb := x.2.1
  obtain ⟨z0, ez0⟩ : ∃ y : Int32, y = g 34 0 := ⟨_, rfl⟩
  have rz0 : rg (5) (64) z0 := rg_eqv ez0.symm hpre0
  refine lv_aload_n hx hb dX12_data_0 rfl (lv_at hl 0 rfl) ?_
  refine m_geti x L 34 rfl rfl (wm_in uf_357) dX12_data_1 (fun v1 ev1 wv1 => ?_)
  refine m_top ((ez0).trans ev1.symm) ?_
  refine lv_iconst (v := 4) hx hb dX12_data_4 (by decide) ?_
  refine lv_isub hx hb dX12_data_5 ?_
  refine lv_topi (fun v2 ev2 => ?_)
  have rv2 : rg (1) (60) v2 := (rg_sub ev2 rz0 kc_4 rfl).1
  refine lv_istore_n (lv' := [(3, .int v2), (0, .ref h0), (1, .int p1), (2, .int p2)]) hx hb dX12_data_6 rfl hl (by decide) rfl (fun ls hl => ?_)
  refine lv_iload_n hx hb dX12_data_7 rfl (lv_at hl 3 rfl) ?_
  refine lv_aload_n hx hb dX12_data_8 rfl (lv_at hl 1 rfl) ?_
  refine m_geta x L 46 rfl rfl (wm_in uf_125) dX12_data_9 ?_
  refine lv_iload_n hx hb dX12_data_12 rfl (lv_at hl 2 rfl) ?_
  refine m_ld x L 46 rfl rp1 rfl dX12_data_13 (fun v3 ev3 wv3 => ?_)
  have rv3 : rg (0) (16777224) v3 := lj_46 wv3
  have j245_4 : ∀ (g4 : mSt) (H4 : Heap) (k4 : List Loc) (ls : Array Slot), mFr [4, 5, 7, 8, 9, 10, 11, 33, 46, 47, 58, 59, 60, 65, 66, 67, 68, 69, 70, 71, 72, 73, 74, 75, 76, 77, 78, 79, 80, 81, 86, 87, 89, 90, 91] g g4 → mL G h0 ad H0 nn X g4 H4 k4 → mJ nn [] g4 → lv_has ls 6 [(0, .ref h0)] → W p l e rm_data s m args below meth c H4 k4 0 0 Q (F0 m 245 ls []) := by
    intro  g4 H4 k4 ls hF4 L4 hJ4  hl
    exact hQ _ _ _ _ _ dX12_data_245 L4 ⟨(mFr.tr mFr.rf hF4 rfl), hJ4, trivial⟩
  refine lv_icmp_ne (tgt := 77) hx hb dX12_data_14 (by decide) (fun c14_5 => ?_) (fun c14_5 => ?_)
  · skip
    refine lv_iload_n hx hb dX12_data_77 rfl (lv_at hl 3 rfl) ?_
    refine lv_aload_n hx hb dX12_data_78 rfl (lv_at hl 1 rfl) ?_
    refine m_geta x L 46 rfl rfl (wm_in uf_125) dX12_data_79 ?_
    refine lv_iload_n hx hb dX12_data_82 rfl (lv_at hl 2 rfl) ?_
    refine m_ld x L 46 rfl rp1 rfl dX12_data_83 (fun v6 ev6 wv6 => ?_)
    refine m_top ((ev3).trans ev6.symm) ?_
    refine lv_icmp_le (tgt := 245) hx hb dX12_data_84 (by decide) (fun c84_7 => ?_) (fun c84_7 => ?_)
    · skip
      exact j245_4  g _ _ ls mFr.rf L hJ (lv_sub hl [1] rfl)
    · skip
      have q8 : rg (0) (16777214) v3 := (rg_lt (rg_nle c84_7) rv3 rp2).1
      have q9 : rg (1) (16777215) p2 := (rg_lt (rg_nle c84_7) rv3 rp2).2
      refine lv_iload_n hx hb dX12_data_87 rfl (lv_at hl 3 rfl) ?_
      refine lv_aload_n hx hb dX12_data_88 rfl (lv_at hl 1 rfl) ?_
      refine m_geta x L 46 rfl rfl (wm_in uf_125) dX12_data_89 ?_
      refine lv_iload_n hx hb dX12_data_92 rfl (lv_at hl 2 rfl) ?_
      refine m_ld x L 46 rfl rp1 rfl dX12_data_93 (fun v10 ev10 wv10 => ?_)
      refine m_top ((ev3).trans ev10.symm) ?_
      refine lv_bipush (v := 8) hx hb dX12_data_94 (by decide) ?_
      refine lv_iadd hx hb dX12_data_96 ?_
      refine lv_topi (fun v11 ev11 => ?_)
      have rv11 : rg (8) (16777222) v11 := (rg_add ev11 q8 kc_8 rfl).1
      refine lv_icmp_ge (tgt := 245) hx hb dX12_data_97 (by decide) (fun c97_12 => ?_) (fun c97_12 => ?_)
      · skip
        have q13 : rg (8) (16777215) v11 := (rg_le c97_12 rv11 q9).1
        have q14 : rg (8) (16777215) p2 := (rg_le c97_12 rv11 q9).2
        exact j245_4  g _ _ ls mFr.rf L hJ (lv_sub hl [1] rfl)
      · skip
        refine lv_iload_n hx hb dX12_data_100 rfl (lv_at hl 3 rfl) ?_
        refine lv_aload_n hx hb dX12_data_101 rfl (lv_at hl 1 rfl) ?_
        refine m_geta x L 47 rfl rfl (wm_in uf_128) dX12_data_102 ?_
        refine lv_iload_n hx hb dX12_data_105 rfl (lv_at hl 2 rfl) ?_
        refine m_ld x L 47 rfl rp1 rfl dX12_data_106 (fun v15 ev15 wv15 => ?_)
        have rv15 : rg (-2147483648) (2147483647) v15 := lj_47 wv15
        have j155_16 : ∀ (g16 : mSt) (H16 : Heap) (k16 : List Loc) (ls : Array Slot), mFr [4, 5, 7, 8, 9, 10, 11] g g16 → mL G h0 ad H0 nn X g16 H16 k16 → mJ nn [] g16 → lv_has ls 6 [(0, .ref h0), (1, .int p1), (2, .int p2), (3, .int v2)] → W p l e rm_data s m args below meth c H16 k16 0 0 Q (F0 m 155 ls []) := by
          intro  g16 H16 k16 ls hF16 L16 hJ16  hl
          refine lv_aload_n hx hb dX12_data_155 rfl (lv_at hl 0 rfl) ?_
          refine m_geta x L16 47 rfl rfl (wm_in uf_128) dX12_data_156 ?_
          refine lv_iload_n hx hb dX12_data_159 rfl (lv_at hl 1 rfl) ?_
          refine lv_iload_n hx hb dX12_data_160 rfl (lv_at hl 2 rfl) ?_
          refine lv_aload_n hx hb dX12_data_161 rfl (lv_at hl 0 rfl) ?_
          refine m_geta x L16 47 rfl rfl (wm_in uf_128) dX12_data_162 ?_
          refine lv_iload_n hx hb dX12_data_165 rfl (lv_at hl 1 rfl) ?_
          refine m_ld x L16 47 rfl rp1 rfl dX12_data_166 (fun v17 ev17 wv17 => ?_)
          refine m_top (((mm_fr ev15 hF16 rfl)).trans ev17.symm) ?_
          have j182_19 : ∀ (b182_2_18 : Int32) (g19 : mSt) (H19 : Heap) (k19 : List Loc) (ls : Array Slot), mFr [] g16 g19 → mL G h0 ad H0 nn X g19 H19 k19 → mJ nn [] g19 → rg (2) (2147483647) b182_2_18 → lv_has ls 6 [(0, .ref h0), (1, .int p1), (2, .int p2), (3, .int v2)] → W p l e rm_data s m args below meth c H19 k19 0 0 Q (F0 m 182 ls [.int b182_2_18, .int p1, .ref (ad 47)]) := by
            intro b182_2_18 g19 H19 k19 ls hF19 L19 hJ19 rb182_2_18 hl
            refine m_st x L19 47 rfl rp1 rfl (rj_47 (rg_any b182_2_18)) dX12_data_182 (fun g20 H20 k20 eg20 L20 => ?_)
            refine lv_bipush (v := 8) hx hb dX12_data_183 (by decide) ?_
            refine lv_iload_n hx hb dX12_data_185 rfl (lv_at hl 1 rfl) ?_
            refine lv_imul hx hb dX12_data_186 ?_
            refine lv_topi (fun v21 ev21 => ?_)
            have rv21 : rg (0) (56) v21 := (rg_mulL ev21 kc_8 rp1 rfl).1
            have tv21 := (rg_mulL ev21 kc_8 rp1 rfl).2
            have b16v21 : v21.toInt < 16 * nn := by have := np1; have : (8 : Int32).toInt = 8 := (by decide); omega
            refine lv_iload_n hx hb dX12_data_187 rfl (lv_at hl 2 rfl) ?_
            refine lv_bipush (v := 8) hx hb dX12_data_188 (by decide) ?_
            refine lv_irem hx hb dX12_data_190 (by decide) ?_
            refine lv_topi (fun v22 ev22 => ?_)
            have rv22 : rg (0) (7) v22 := (rg_rem ev22 q9 kc_8 rfl).1
            refine lv_iadd hx hb dX12_data_191 ?_
            refine lv_topi (fun v23 ev23 => ?_)
            have rv23 : rg (0) (63) v23 := (rg_add ev23 rv21 rv22 rfl).1
            have tv23 := (rg_add ev23 rv21 rv22 rfl).2
            refine lv_istore (lv' := [(4, .int v23), (0, .ref h0), (1, .int p1), (2, .int p2), (3, .int v2)]) hx hb dX12_data_192 hl (by decide) rfl (fun ls hl => ?_)
            refine lv_aload_n hx hb dX12_data_194 rfl (lv_at hl 1 rfl) ?_
            refine m_geta x L20 67 rfl rfl (wm_in uf_189) dX12_data_195 ?_
            refine lv_iload hx hb dX12_data_198 (lv_at hl 0 rfl) ?_
            refine lv_iconst (v := 1) hx hb dX12_data_200 (by decide) ?_
            refine m_stz x L20 67 rfl rv23 rfl (rg_w kc_1 rfl) (rj_67 (rg_w kc_1 rfl)) dX12_data_201 (fun g24 H24 k24 eg24 L24 => ?_)
            refine lv_aload_n hx hb dX12_data_202 rfl (lv_at hl 1 rfl) ?_
            refine m_geta x L24 66 rfl rfl (wm_in uf_186) dX12_data_203 ?_
            refine lv_iload hx hb dX12_data_206 (lv_at hl 0 rfl) ?_
            refine lv_iload_n hx hb dX12_data_208 rfl (lv_at hl 4 rfl) ?_
            refine m_st x L24 66 rfl rv23 rfl (rj_66 (rg_w rv2 rfl)) dX12_data_209 (fun g25 H25 k25 eg25 L25 => ?_)
            refine lv_iconst (v := 0) hx hb dX12_data_210 (by decide) ?_
            refine lv_istore (lv' := [(5, .int (0 : Int32)), (4, .int v23), (0, .ref h0), (1, .int p1), (2, .int p2), (3, .int v2)]) hx hb dX12_data_211 hl (by decide) rfl (fun ls hl => ?_)
            have j213_27 : ∀ (n : Nat) (a213_5_26 : Int32) (g27 : mSt) (H27 : Heap) (k27 : List Loc) (ls : Array Slot), mFr [65] g25 g27 → mL G h0 ad H0 nn X g27 H27 k27 → mJ nn [] g27 → rg (0) (60) a213_5_26 → lv_has ls 6 [(0, .ref h0), (3, .int v2), (4, .int v23), (5, .int a213_5_26)] → ((60 : Int) - a213_5_26.toInt).toNat = n → W p l e rm_data s m args below meth c H27 k27 0 0 Q (F0 m 213 ls []) := by
              intro n
              induction n using Nat.strongRecOn with
              | _ n ih27 =>
                intro a213_5_26 g27 H27 k27 ls hF27 L27 hJ27 ra213_5_26 hl hn27
                subst hn27
                refine lv_iload hx hb dX12_data_213 (lv_at hl 3 rfl) ?_
                refine lv_iload_n hx hb dX12_data_215 rfl (lv_at hl 1 rfl) ?_
                refine lv_icmp_ge (tgt := 245) hx hb dX12_data_216 (by decide) (fun c216_28 => ?_) (fun c216_28 => ?_)
                · skip
                  have q29 : rg (1) (60) a213_5_26 := (rg_le c216_28 rv2 ra213_5_26).2
                  exact j245_4  g27 _ _ ls (mFr.tr (mFr.upE (mFr.upE (mFr.upE (mFr.tr (mFr.tr mFr.rf hF16 rfl) hF19 rfl) eg20 rfl) eg24 rfl) eg25 rfl) hF27 rfl) L27 hJ27 (lv_sub hl [0] rfl)
                · skip
                  have q30 : rg (0) (59) a213_5_26 := (rg_lt (rg_nle c216_28) ra213_5_26 rv2).1
                  refine lv_aload_n hx hb dX12_data_219 rfl (lv_at hl 0 rfl) ?_
                  refine m_geta x L27 65 rfl rfl (wm_in uf_183) dX12_data_220 ?_
                  refine lv_bipush (v := 60) hx hb dX12_data_223 (by decide) ?_
                  refine lv_iload hx hb dX12_data_225 (lv_at hl 2 rfl) ?_
                  refine lv_imul hx hb dX12_data_227 ?_
                  refine lv_topi (fun v31 ev31 => ?_)
                  have rv31 : rg (0) (3780) v31 := (rg_mulL ev31 kc_60 rv23 rfl).1
                  refine lv_iload hx hb dX12_data_228 (lv_at hl 3 rfl) ?_
                  refine lv_iadd hx hb dX12_data_230 ?_
                  refine lv_topi (fun v32 ev32 => ?_)
                  have rv32 : rg (0) (3839) v32 := (rg_add ev32 rv31 q30 rfl).1
                  refine lv_aload_n hx hb dX12_data_231 rfl (lv_at hl 0 rfl) ?_
                  refine m_geta x L27 33 rfl rfl (wm_in uf_89) dX12_data_232 ?_
                  refine lv_iload hx hb dX12_data_235 (lv_at hl 3 rfl) ?_
                  refine m_ld x L27 33 rfl q30 rfl dX12_data_237 (fun v33 ev33 wv33 => ?_)
                  have rv33 : rg (-2147483648) (2147483647) v33 := lj_33 wv33
                  refine m_st x L27 65 rfl rv32 rfl (rj_65 (rg_any v33)) dX12_data_238 (fun g34 H34 k34 eg34 L34 => ?_)
                  obtain ⟨v35, ev35, fv35⟩ := inc_ex a213_5_26 (1) (1 : Int32) (by decide)
                  have rv35 : rg (1) (60) v35 := (rg_add ev35 q30 kc_1 rfl).1
                  have tv35 := (rg_add ev35 q30 kc_1 rfl).2
                  refine lv_iinc (v := v35) (lv' := [(5, .int v35), (0, .ref h0), (3, .int v2), (4, .int v23)]) hx hb dX12_data_239 hl (k := 3) rfl fv35 (by decide) rfl (fun ls hl => ?_)
                  refine lv_goto (tgt := 213) hx hb dX12_data_242 (by decide) ?_
                  exact ih27 _ (ms_up tv35 kc_1 q30 rfl rfl) v35 g34 _ _ ls (mFr.upE hF27 eg34 rfl) L34 (mJ_up hJ27 eg34 rfl) (rg_w rv35 rfl) (lv_sub hl [1, 2, 3, 0] rfl) rfl
            exact j213_27 _ (0 : Int32) g25 _ _ ls mFr.rf L25 (mJ_up (mJ_up (mJ_up hJ19 eg20 rfl) eg24 rfl) eg25 rfl) (rg_w kc_0 rfl) (lv_sub hl [2, 5, 1, 0] rfl) rfl
          refine lv_icmp_lt (tgt := 176) hx hb dX12_data_167 (by decide) (fun c167_36 => ?_) (fun c167_36 => ?_)
          · skip
            have q37 : rg (2) (2147483647) v15 := (rg_lt c167_36 q9 rv15).2
            refine lv_aload_n hx hb dX12_data_176 rfl (lv_at hl 0 rfl) ?_
            refine m_geta x L16 47 rfl rfl (wm_in uf_128) dX12_data_177 ?_
            refine lv_iload_n hx hb dX12_data_180 rfl (lv_at hl 1 rfl) ?_
            refine m_ld x L16 47 rfl rp1 rfl dX12_data_181 (fun v38 ev38 wv38 => ?_)
            refine m_top (((mm_fr ev15 hF16 rfl)).trans ev38.symm) ?_
            exact j182_19 v15 g16 _ _ ls mFr.rf L16 hJ16 (rg_w q37 rfl) (lv_sub hl [0, 1, 2, 3] rfl)
          · skip
            have q39 : rg (-2147483648) (16777215) v15 := (rg_le (rg_nlt c167_36) rv15 q9).1
            refine lv_iload_n hx hb dX12_data_170 rfl (lv_at hl 2 rfl) ?_
            refine lv_iconst (v := 1) hx hb dX12_data_171 (by decide) ?_
            refine lv_iadd hx hb dX12_data_172 ?_
            refine lv_topi (fun v40 ev40 => ?_)
            have rv40 : rg (2) (16777216) v40 := (rg_add ev40 q9 kc_1 rfl).1
            refine lv_goto (tgt := 182) hx hb dX12_data_173 (by decide) ?_
            exact j182_19 v40 g16 _ _ ls mFr.rf L16 hJ16 (rg_w rv40 rfl) (lv_sub hl [0, 1, 2, 3] rfl)
        refine lv_icmp_le (tgt := 155) hx hb dX12_data_107 (by decide) (fun c107_41 => ?_) (fun c107_41 => ?_)
        · skip
          have q42 : rg (1) (2147483647) v15 := (rg_le c107_41 q9 rv15).2
          exact j155_16  g _ _ ls mFr.rf L hJ (lv_sub hl [1, 2, 3, 0] rfl)
        · skip
          have q43 : rg (-2147483648) (16777214) v15 := (rg_lt (rg_nle c107_41) rv15 q9).1
          refine lv_aload_n hx hb dX12_data_110 rfl (lv_at hl 1 rfl) ?_
          refine m_cv (As := []) (rest := []) x hml L (c_unitBegin l nn X g hnn hX) (wm_V uc_unitBegin ul_313 ui_unitBegin us_unitBegin u_init) rfl ⟨rfl, rfl⟩ hd_unitBegin ⟨Nat.le_of_ble_eq_true rfl, Nat.le_of_ble_eq_true rfl⟩ rfl hl.1 rfl (lv_room (Nat.le_of_ble_eq_true rfl)) dX12_data_111 (fun  g44 H44 k44 hp44 L44 => ?_)
          obtain ⟨v45, ev45⟩ : ∃ y : Int32, y = g44 11 0 := ⟨_, rfl⟩
          have rv45 : rg (0) (0) v45 := rg_eqv ev45.symm hp44.2
          refine lv_aload_n hx hb dX12_data_114 rfl (lv_at hl 1 rfl) ?_
          refine lv_aload_n hx hb dX12_data_115 rfl (lv_at hl 1 rfl) ?_
          refine m_geta x L44 47 rfl rfl (wm_in uf_128) dX12_data_116 ?_
          refine lv_iload_n hx hb dX12_data_119 rfl (lv_at hl 2 rfl) ?_
          refine m_ld x L44 47 rfl rp1 rfl dX12_data_120 (fun v46 ev46 wv46 => ?_)
          refine m_top (((mm_fr ev15 hp44.1 rfl)).trans ev46.symm) ?_
          refine m_cv (As := [.int v15]) (rest := []) x hml L44 (c_word l nn X g44 v15 hnn hX (rg_eqv ev45 (rg_w rv45 rfl))) (wm_V uc_word ul_299 ui_word us_word u_init) rfl ⟨rfl, rfl⟩ hd_word ⟨Nat.le_of_ble_eq_true rfl, Nat.le_of_ble_eq_true rfl⟩ rfl hl.1 rfl (lv_room (Nat.le_of_ble_eq_true rfl)) dX12_data_121 (fun  g47 H47 k47 hp47 L47 => ?_)
          obtain ⟨v48, ev48⟩ : ∃ y : Int32, y = g47 11 0 := ⟨_, rfl⟩
          have rv48 : rg (4) (4) v48 := rg_rel ev45 ev48 rv45 hp47.2 rfl
          refine lv_aload_n hx hb dX12_data_124 rfl (lv_at hl 1 rfl) ?_
          refine lv_iload_n hx hb dX12_data_125 rfl (lv_at hl 3 rfl) ?_
          refine m_cv (As := [.int p2]) (rest := []) x hml L47 (c_word l nn X g47 p2 hnn hX (rg_eqv ev48 (rg_w rv48 rfl))) (wm_V uc_word ul_299 ui_word us_word u_init) rfl ⟨rfl, rfl⟩ hd_word ⟨Nat.le_of_ble_eq_true rfl, Nat.le_of_ble_eq_true rfl⟩ rfl hl.1 rfl (lv_room (Nat.le_of_ble_eq_true rfl)) dX12_data_126 (fun  g49 H49 k49 hp49 L49 => ?_)
          obtain ⟨v50, ev50⟩ : ∃ y : Int32, y = g49 11 0 := ⟨_, rfl⟩
          have rv50 : rg (8) (8) v50 := rg_rel ev48 ev50 rv48 hp49.2 rfl
          refine lv_aload_n hx hb dX12_data_129 rfl (lv_at hl 1 rfl) ?_
          refine lv_aload_n hx hb dX12_data_130 rfl (lv_at hl 1 rfl) ?_
          refine m_geta x L49 46 rfl rfl (wm_in uf_125) dX12_data_131 ?_
          refine lv_iload_n hx hb dX12_data_134 rfl (lv_at hl 2 rfl) ?_
          refine m_ld x L49 46 rfl rp1 rfl dX12_data_135 (fun v51 ev51 wv51 => ?_)
          refine m_top (((mm_fr (mm_fr (mm_fr ev3 hp44.1 rfl) hp47.1 rfl) hp49.1 rfl)).trans ev51.symm) ?_
          refine lv_bipush (v := 8) hx hb dX12_data_136 (by decide) ?_
          refine lv_iadd hx hb dX12_data_138 ?_
          refine m_top ev11 ?_
          refine m_cv (As := [.int v11]) (rest := []) x hml L49 (c_word l nn X g49 v11 hnn hX (rg_eqv ev50 (rg_w rv50 rfl))) (wm_V uc_word ul_299 ui_word us_word u_init) rfl ⟨rfl, rfl⟩ hd_word ⟨Nat.le_of_ble_eq_true rfl, Nat.le_of_ble_eq_true rfl⟩ rfl hl.1 rfl (lv_room (Nat.le_of_ble_eq_true rfl)) dX12_data_139 (fun  g52 H52 k52 hp52 L52 => ?_)
          obtain ⟨v53, ev53⟩ : ∃ y : Int32, y = g52 11 0 := ⟨_, rfl⟩
          have rv53 : rg (12) (12) v53 := rg_rel ev50 ev53 rv50 hp52.2 rfl
          refine lv_aload_n hx hb dX12_data_142 rfl (lv_at hl 1 rfl) ?_
          refine lv_iload_n hx hb dX12_data_143 rfl (lv_at hl 2 rfl) ?_
          refine lv_bipush (v := 12) hx hb dX12_data_144 (by decide) ?_
          refine lv_aload_n hx hb dX12_data_146 rfl (lv_at hl 1 rfl) ?_
          refine m_geta x L52 46 rfl rfl (wm_in uf_125) dX12_data_147 ?_
          refine lv_iload_n hx hb dX12_data_150 rfl (lv_at hl 2 rfl) ?_
          refine m_ld x L52 46 rfl rp1 rfl dX12_data_151 (fun v54 ev54 wv54 => ?_)
          refine m_top (((mm_fr (mm_fr (mm_fr (mm_fr ev3 hp44.1 rfl) hp47.1 rfl) hp49.1 rfl) hp52.1 rfl)).trans ev54.symm) ?_
          refine m_cv (As := [.int p1, .int (12 : Int32), .int v3]) (rest := []) x hml L52 (c_unitGo l nn X g52 p1 (12 : Int32) v3 hnn hX (rg_w rp1 rfl) np1 (rg_eqv ev53 (rg_w rv53 rfl))) (wm_V uc_unitGo ul_316 ui_unitGo us_unitGo u_init) rfl ⟨rfl, rfl⟩ hd_unitGo ⟨Nat.le_of_ble_eq_true rfl, Nat.le_of_ble_eq_true rfl⟩ rfl hl.1 rfl (lv_room (Nat.le_of_ble_eq_true rfl)) dX12_data_152 (fun  g55 H55 k55 hp55 L55 => ?_)
          exact j155_16  g55 _ _ ls (mFr.tr (mFr.tr (mFr.tr (mFr.tr (mFr.tr mFr.rf hp44.1 rfl) hp47.1 rfl) hp49.1 rfl) hp52.1 rfl) hp55.1 rfl) L55 (mJ_fr (mJ_fr (mJ_fr (mJ_fr (mJ_fr hJ hp44.1 rfl) hp47.1 rfl) hp49.1 rfl) hp52.1 rfl) hp55.1 rfl) (lv_sub hl [1, 2, 3, 0] rfl)
  · skip
    have q56 : rg (0) (16777215) v3 := (rg_eq c14_5 rp2 rv3).2
    refine lv_aload_n hx hb dX12_data_17 rfl (lv_at hl 1 rfl) ?_
    refine m_geta x L 46 rfl rfl (wm_in uf_125) dX12_data_18 ?_
    refine lv_iload_n hx hb dX12_data_21 rfl (lv_at hl 2 rfl) ?_
    refine lv_dup2_11 hx hb dX12_data_22 rfl rfl ?_
    refine m_ld x L 46 rfl rp1 rfl dX12_data_23 (fun v57 ev57 wv57 => ?_)
    refine m_top ((ev3).trans ev57.symm) ?_
    refine lv_iconst (v := 1) hx hb dX12_data_24 (by decide) ?_
    refine lv_iadd hx hb dX12_data_25 ?_
    refine lv_topi (fun v58 ev58 => ?_)
    have rv58 : rg (1) (16777216) v58 := (rg_add ev58 q56 kc_1 rfl).1
    refine m_st x L 46 rfl rp1 rfl (rj_46 (rg_w rv58 rfl)) dX12_data_26 (fun g59 H59 k59 eg59 L59 => ?_)
    refine lv_aload_n hx hb dX12_data_27 rfl (lv_at hl 1 rfl) ?_
    refine m_geta x L59 47 rfl rfl (wm_in uf_128) dX12_data_28 ?_
    refine lv_iload_n hx hb dX12_data_31 rfl (lv_at hl 2 rfl) ?_
    refine lv_aload_n hx hb dX12_data_32 rfl (lv_at hl 1 rfl) ?_
    refine m_geta x L59 47 rfl rfl (wm_in uf_128) dX12_data_33 ?_
    refine lv_iload_n hx hb dX12_data_36 rfl (lv_at hl 2 rfl) ?_
    refine m_ld x L59 47 rfl rp1 rfl dX12_data_37 (fun v60 ev60 wv60 => ?_)
    have rv60 : rg (-2147483648) (2147483647) v60 := lj_47 wv60
    refine lv_aload_n hx hb dX12_data_38 rfl (lv_at hl 1 rfl) ?_
    refine m_geta x L59 46 rfl rfl (wm_in uf_125) dX12_data_39 ?_
    refine lv_iload_n hx hb dX12_data_42 rfl (lv_at hl 2 rfl) ?_
    refine m_ld x L59 46 rfl rp1 rfl dX12_data_43 (fun v61 ev61 wv61 => ?_)
    refine m_top (((mm_st eg59)).trans ev61.symm) ?_
    have j62_63 : ∀ (b62_2_62 : Int32) (g63 : mSt) (H63 : Heap) (k63 : List Loc) (ls : Array Slot), mFr [] g59 g63 → mL G h0 ad H0 nn X g63 H63 k63 → mJ nn [] g63 → rg (1) (2147483647) b62_2_62 → lv_has ls 6 [(0, .ref h0), (1, .int p1), (3, .int v2)] → W p l e rm_data s m args below meth c H63 k63 0 0 Q (F0 m 62 ls [.int b62_2_62, .int p1, .ref (ad 47)]) := by
      intro b62_2_62 g63 H63 k63 ls hF63 L63 hJ63 rb62_2_62 hl
      refine m_st x L63 47 rfl rp1 rfl (rj_47 (rg_any b62_2_62)) dX12_data_62 (fun g64 H64 k64 eg64 L64 => ?_)
      refine lv_aload_n hx hb dX12_data_63 rfl (lv_at hl 0 rfl) ?_
      refine lv_iload_n hx hb dX12_data_64 rfl (lv_at hl 1 rfl) ?_
      refine lv_iload_n hx hb dX12_data_65 rfl (lv_at hl 2 rfl) ?_
      refine m_cv (As := [.int p1, .int v2]) (rest := []) x hml L64 (c_message l nn X g64 p1 v2 hnn hX (mJ_up hJ63 eg64 rfl) (rg_w rp1 rfl) np1 (rg_w rv2 rfl)) (wm_V uc_message ul_438 ui_message us_message u_init) rfl ⟨rfl, rfl⟩ hd_message ⟨Nat.le_of_ble_eq_true rfl, Nat.le_of_ble_eq_true rfl⟩ rfl hl.1 rfl (lv_room (Nat.le_of_ble_eq_true rfl)) dX12_data_66 (fun  g65 H65 k65 hp65 L65 => ?_)
      refine lv_aload_n hx hb dX12_data_69 rfl (lv_at hl 0 rfl) ?_
      refine lv_iload_n hx hb dX12_data_70 rfl (lv_at hl 1 rfl) ?_
      refine m_cv (As := [.int p1]) (rest := []) x hml L65 (c_takeAhead l nn X g65 p1 hnn hX hp65.2.1 (rg_w rp1 rfl) np1 (rg_eqv (mm_fr (mm_up (mm_fr (mm_st eg59) hF63 rfl) eg64 rfl) hp65.1 rfl) (rg_w rv58 rfl))) (wm_V uc_takeAhead ul_441 ui_takeAhead us_takeAhead u_init) rfl ⟨rfl, rfl⟩ hd_takeAhead ⟨Nat.le_of_ble_eq_true rfl, Nat.le_of_ble_eq_true rfl⟩ rfl hl.1 rfl (lv_room (Nat.le_of_ble_eq_true rfl)) dX12_data_71 (fun  g66 H66 k66 hp66 L66 => ?_)
      refine lv_goto (tgt := 245) hx hb dX12_data_74 (by decide) ?_
      exact j245_4  g66 _ _ ls (mFr.tr (mFr.tr (mFr.upE (mFr.tr (mFr.upE mFr.rf eg59 rfl) hF63 rfl) eg64 rfl) hp65.1 rfl) hp66.1 rfl) L66 hp66.2.1 (lv_sub hl [0] rfl)
    refine lv_icmp_ge (tgt := 56) hx hb dX12_data_44 (by decide) (fun c44_67 => ?_) (fun c44_67 => ?_)
    · skip
      have q68 : rg (1) (2147483647) v60 := (rg_le c44_67 rv58 rv60).2
      refine lv_aload_n hx hb dX12_data_56 rfl (lv_at hl 1 rfl) ?_
      refine m_geta x L59 47 rfl rfl (wm_in uf_128) dX12_data_57 ?_
      refine lv_iload_n hx hb dX12_data_60 rfl (lv_at hl 2 rfl) ?_
      refine m_ld x L59 47 rfl rp1 rfl dX12_data_61 (fun v69 ev69 wv69 => ?_)
      refine m_top ((ev60).trans ev69.symm) ?_
      exact j62_63 v60 g59 _ _ ls mFr.rf L59 (mJ_up hJ eg59 rfl) (rg_w q68 rfl) (lv_sub hl [1, 2, 0] rfl)
    · skip
      have q70 : rg (-2147483648) (16777215) v60 := (rg_lt (rg_nle c44_67) rv60 rv58).1
      refine lv_aload_n hx hb dX12_data_47 rfl (lv_at hl 1 rfl) ?_
      refine m_geta x L59 46 rfl rfl (wm_in uf_125) dX12_data_48 ?_
      refine lv_iload_n hx hb dX12_data_51 rfl (lv_at hl 2 rfl) ?_
      refine m_ld x L59 46 rfl rp1 rfl dX12_data_52 (fun v71 ev71 wv71 => ?_)
      refine m_top (((mm_st eg59)).trans ev71.symm) ?_
      refine lv_goto (tgt := 62) hx hb dX12_data_53 (by decide) ?_
      exact j62_63 v58 g59 _ _ ls mFr.rf L59 (mJ_up hJ eg59 rfl) (rg_w rv58 rfl) (lv_sub hl [1, 2, 0] rfl)
theorem c_data (l : Launch) {G : mG} {h0 : Nat} {ad : Nat → Nat} (nn X : Int) (g : mSt) (p1 : Int32) (p2 : Int32) (hnn : 2 ≤ nn ∧ nn ≤ 4) (hX : 0 ≤ X ∧ X ≤ 2000000000) (hJ : mJ nn [] g) (rp1 : rg (0) (7) p1) (np1 : p1.toInt < 2 * nn) (rp2 : rg (0) (16777215) p2) (hpre0 : rg (5) (64) (g 34 0)) : Met l yX12_data (wm (Cond.code yX12_data cX12_data 6 none)) rm_data (va_Pc [.ref h0, .int p1, .int p2] (mPre G h0 ad nn X g)) (mQv G h0 ad nn X (fun g1 => mFr [4, 5, 7, 8, 9, 10, 11, 33, 46, 47, 58, 59, 60, 65, 66, 67, 68, 69, 70, 71, 72, 73, 74, 75, 76, 77, 78, 79, 80, 81, 86, 87, 89, 90, 91] g g1 ∧ mJ nn [] g1 ∧ True)) 0 0 (mA h0 ad) := by
  refine Met.ofW (cc := cX12_data) (maxL := 6) (ret := none) (by decide) rfl ?_
  intro p e s m args below meth c s₁ B hml hv
  obtain ⟨rfl, hv⟩ := hv
  have hr := B.returns
  have hlocks := B.notSynchronized
  obtain ⟨x, L⟩ := m_start B rfl wm_X hv
  have hl := lv_entry ([.ref h0, .int p1, .int p2]) (n := 6) (Nat.le_of_ble_eq_true rfl)
  rw [lg_entry_eq]
  generalize (lg_sl ([.ref h0, .int p1, .int p2]) ++ List.replicate (6 - (lg_sl ([.ref h0, .int p1, .int p2])).length) Slot.unset).toArray = ls at hl ⊢
  exact w_data x hml L hnn hX p1 p2 hJ rp1 np1 rp2 hpre0 hl (fun pc' ls' g1 H1 locs1 hdg L hp => m_vret x L hr hlocks (Int.le_refl _) hp hdg)

def rm_readyUnit : Room := { frames := 9, cells := 0, slots := 0, locals := 217 }
theorem hd_readyUnit : yX12_readyUnit.cls = RX12 ∧ yX12_readyUnit.cls ≠ "java/lang/invoke/MethodHandle" ∧ yX12_readyUnit.cls ≠ "java/lang/invoke/VarHandle" ∧ (parseMethodDescriptor yX12_readyUnit.desc).map (fun d => d.parameters.length) = some 5 := by decide +kernel
set_option maxHeartbeats 4000000 in
set_option maxRecDepth 100000 in
theorem w_readyUnit {p : Program} {l : Launch} {e : Env} {s : State} {m : MethodId} {args : Array Value} {below : List Frame} {meth : Method} {c : Code} {H : Heap} {locs : List Loc} {Q : State → Prop} {ls : Array Slot} {G : mG} {h0 : Nat} {ad : Nat → Nat} {g : mSt} {H0 : Heap} {nn X : Int} (x : mX p c cX12_readyUnit s args (wm (Cond.code yX12_readyUnit cX12_readyUnit 6 none)) m G h0 ad) (hml : c.maxLocals = 6) (L : mL G h0 ad H0 nn X g H locs) (hnn : 2 ≤ nn ∧ nn ≤ 4) (hX : 0 ≤ X ∧ X ≤ 2000000000) (p1 : Int32) (p2 : Int32) (p3 : Int32) (p4 : Int32) (p5 : Int32) (rp1 : rg (0) (7) p1) (np1 : p1.toInt < 2 * nn) (rp3 : rg (0) (16777215) p3) (hl : lv_has ls 6 [(0, .ref h0), (1, .int p1), (2, .int p2), (3, .int p3), (4, .int p4), (5, .int p5)]) (hQ : ∀ (pc' : Nat) (ls' : Array Slot) (g1 : mSt) (H1 : Heap) (locs1 : List Loc), decode cX12_readyUnit pc' = .ok (.return_, 1) → mL G h0 ad H0 nn X g1 H1 locs1 → (mFr [4, 5, 7, 8, 9, 10, 11, 40, 42, 43, 45, 47, 49, 52, 53, 54, 55, 64] g g1 ∧ True) → W p l e rm_readyUnit s m args below meth c H1 locs1 0 0 Q (F0 m pc' ls' [])) : W p l e rm_readyUnit s m args below meth c H locs 0 0 Q (F0 m 0 ls []) := by
  have hx := x.1
  have hb := x.2.1
  refine lv_iload_n hx hb dX12_readyUnit_0 rfl (lv_at hl 2 rfl) ?_
  refine lv_bipush (v := 10) hx hb dX12_readyUnit_1 (by decide) ?_
  have j75_1 : ∀ (g1 : mSt) (H1 : Heap) (k1 : List Loc) (ls : Array Slot), mFr [4, 5, 7, 8, 9, 10, 11, 40, 42, 43, 45, 47, 49, 52, 53, 54, 55, 64] g g1 → mL G h0 ad H0 nn X g1 H1 k1 → lv_has ls 6 [(0, .ref h0)] → W p l e rm_readyUnit s m args below meth c H1 k1 0 0 Q (F0 m 75 ls []) := by
    intro  g1 H1 k1 ls hF1 L1  hl
    exact hQ _ _ _ _ _ dX12_readyUnit_75 L1 ⟨(mFr.tr mFr.rf hF1 rfl), trivial⟩
  have j23_2 : ∀ (g2 : mSt) (H2 : Heap) (k2 : List Loc) (ls : Array Slot), mFr [] g g2 → mL G h0 ad H0 nn X g2 H2 k2 → lv_has ls 6 [(0, .ref h0), (1, .int p1), (2, .int p2), (3, .int p3), (4, .int p4), (5, .int p5)] → W p l e rm_readyUnit s m args below meth c H2 k2 0 0 Q (F0 m 23 ls []) := by
    intro  g2 H2 k2 ls hF2 L2  hl
    refine lv_iload_n hx hb dX12_readyUnit_23 rfl (lv_at hl 2 rfl) ?_
    refine lv_bipush (v := 11) hx hb dX12_readyUnit_24 (by decide) ?_
    have j55_3 : ∀ (g3 : mSt) (H3 : Heap) (k3 : List Loc) (ls : Array Slot), mFr [] g2 g3 → mL G h0 ad H0 nn X g3 H3 k3 → lv_has ls 6 [(0, .ref h0), (1, .int p1), (2, .int p2), (3, .int p3), (4, .int p4), (5, .int p5)] → W p l e rm_readyUnit s m args below meth c H3 k3 0 0 Q (F0 m 55 ls []) := by
      intro  g3 H3 k3 ls hF3 L3  hl
      refine lv_iload_n hx hb dX12_readyUnit_55 rfl (lv_at hl 2 rfl) ?_
      refine lv_bipush (v := 12) hx hb dX12_readyUnit_56 (by decide) ?_
      refine lv_icmp_ne (tgt := 75) hx hb dX12_readyUnit_58 (by decide) (fun c58_4 => ?_) (fun c58_4 => ?_)
      · skip
        exact j75_1  g3 _ _ ls (mFr.tr (mFr.tr mFr.rf hF2 rfl) hF3 rfl) L3  (lv_sub hl [0] rfl)
      · skip
        have q5 : rg (12) (12) p2 := (rg_eq c58_4 (rg_any p2) kc_12).1
        refine lv_iload hx hb dX12_readyUnit_61 (lv_at hl 4 rfl) ?_
        refine lv_iconst (v := 4) hx hb dX12_readyUnit_63 (by decide) ?_
        refine lv_icmp_ne (tgt := 75) hx hb dX12_readyUnit_64 (by decide) (fun c64_6 => ?_) (fun c64_6 => ?_)
        · skip
          exact j75_1  g3 _ _ ls (mFr.tr (mFr.tr mFr.rf hF2 rfl) hF3 rfl) L3  (lv_sub hl [0] rfl)
        · skip
          have q7 : rg (4) (4) p4 := (rg_eq c64_6 (rg_any p4) kc_4).1
          refine lv_aload_n hx hb dX12_readyUnit_67 rfl (lv_at hl 0 rfl) ?_
          refine lv_iload_n hx hb dX12_readyUnit_68 rfl (lv_at hl 1 rfl) ?_
          refine lv_iload_n hx hb dX12_readyUnit_69 rfl (lv_at hl 3 rfl) ?_
          refine lv_iload hx hb dX12_readyUnit_70 (lv_at hl 5 rfl) ?_
          refine m_cv (As := [.int p1, .int p3, .int p5]) (rest := []) x hml L3 (c_gap l nn X g3 p1 p3 p5 hnn hX (rg_w rp1 rfl) np1 (rg_w rp3 rfl)) (wm_V uc_gap ul_435 ui_gap us_gap u_init) rfl ⟨rfl, rfl⟩ hd_gap ⟨Nat.le_of_ble_eq_true rfl, Nat.le_of_ble_eq_true rfl⟩ rfl hl.1 rfl (lv_room (Nat.le_of_ble_eq_true rfl)) dX12_readyUnit_72 (fun  g8 H8 k8 hp8 L8 => ?_)
          exact j75_1  g8 _ _ ls (mFr.tr (mFr.tr (mFr.tr mFr.rf hF2 rfl) hF3 rfl) hp8.1 rfl) L8  (lv_sub hl [0] rfl)
    refine lv_icmp_ne (tgt := 55) hx hb dX12_readyUnit_26 (by decide) (fun c26_9 => ?_) (fun c26_9 => ?_)
    · skip
      exact j55_3  g2 _ _ ls mFr.rf L2  (lv_sub hl [0, 1, 2, 3, 4, 5] rfl)
    · skip
      have q10 : rg (11) (11) p2 := (rg_eq c26_9 (rg_any p2) kc_11).1
      refine lv_iload hx hb dX12_readyUnit_29 (lv_at hl 4 rfl) ?_
      refine lv_iconst (v := 3) hx hb dX12_readyUnit_31 (by decide) ?_
      refine lv_icmp_lt (tgt := 55) hx hb dX12_readyUnit_32 (by decide) (fun c32_11 => ?_) (fun c32_11 => ?_)
      · skip
        have q12 : rg (-2147483648) (2) p4 := (rg_lt c32_11 (rg_any p4) kc_3).1
        exact j55_3  g2 _ _ ls mFr.rf L2  (lv_sub hl [0, 1, 2, 3, 4, 5] rfl)
      · skip
        have q13 : rg (3) (2147483647) p4 := (rg_le (rg_nlt c32_11) kc_3 (rg_any p4)).2
        refine lv_iload hx hb dX12_readyUnit_35 (lv_at hl 4 rfl) ?_
        refine lv_bipush (v := 15) hx hb dX12_readyUnit_37 (by decide) ?_
        refine lv_icmp_gt (tgt := 55) hx hb dX12_readyUnit_39 (by decide) (fun c39_14 => ?_) (fun c39_14 => ?_)
        · skip
          have q15 : rg (16) (2147483647) p4 := (rg_lt c39_14 kc_15 q13).2
          exact j55_3  g2 _ _ ls mFr.rf L2  (lv_sub hl [0, 1, 2, 3, 4, 5] rfl)
        · skip
          have q16 : rg (3) (15) p4 := (rg_le (rg_nlt c39_14) q13 kc_15).1
          refine lv_aload_n hx hb dX12_readyUnit_42 rfl (lv_at hl 0 rfl) ?_
          refine lv_iload_n hx hb dX12_readyUnit_43 rfl (lv_at hl 1 rfl) ?_
          refine lv_iload_n hx hb dX12_readyUnit_44 rfl (lv_at hl 3 rfl) ?_
          refine lv_iload hx hb dX12_readyUnit_45 (lv_at hl 4 rfl) ?_
          refine lv_iload hx hb dX12_readyUnit_47 (lv_at hl 5 rfl) ?_
          refine m_cv (As := [.int p1, .int p3, .int p4, .int p5]) (rest := []) x hml L2 (c_status l nn X g2 p1 p3 p4 p5 hnn hX (rg_w rp1 rfl) np1 (rg_w rp3 rfl) (rg_w q16 rfl)) (wm_V uc_status ul_432 ui_status us_status u_init) rfl ⟨rfl, rfl⟩ hd_status ⟨Nat.le_of_ble_eq_true rfl, Nat.le_of_ble_eq_true rfl⟩ rfl hl.1 rfl (lv_room (Nat.le_of_ble_eq_true rfl)) dX12_readyUnit_49 (fun  g17 H17 k17 hp17 L17 => ?_)
          refine lv_goto (tgt := 75) hx hb dX12_readyUnit_52 (by decide) ?_
          exact j75_1  g17 _ _ ls (mFr.tr (mFr.tr mFr.rf hF2 rfl) hp17.1 rfl) L17  (lv_sub hl [0] rfl)
  refine lv_icmp_ne (tgt := 23) hx hb dX12_readyUnit_3 (by decide) (fun c3_18 => ?_) (fun c3_18 => ?_)
  · skip
    exact j23_2  g _ _ ls mFr.rf L  (lv_sub hl [0, 1, 2, 3, 4, 5] rfl)
  · skip
    have q19 : rg (10) (10) p2 := (rg_eq c3_18 (rg_any p2) kc_10).1
    refine lv_iload hx hb dX12_readyUnit_6 (lv_at hl 4 rfl) ?_
    refine lv_iconst (v := 2) hx hb dX12_readyUnit_8 (by decide) ?_
    refine lv_icmp_ne (tgt := 23) hx hb dX12_readyUnit_9 (by decide) (fun c9_20 => ?_) (fun c9_20 => ?_)
    · skip
      exact j23_2  g _ _ ls mFr.rf L  (lv_sub hl [0, 1, 2, 3, 4, 5] rfl)
    · skip
      have q21 : rg (2) (2) p4 := (rg_eq c9_20 (rg_any p4) kc_2).1
      refine lv_aload_n hx hb dX12_readyUnit_12 rfl (lv_at hl 0 rfl) ?_
      refine lv_iload_n hx hb dX12_readyUnit_13 rfl (lv_at hl 1 rfl) ?_
      refine lv_iload hx hb dX12_readyUnit_14 (lv_at hl 5 rfl) ?_
      refine lv_iload_n hx hb dX12_readyUnit_16 rfl (lv_at hl 3 rfl) ?_
      refine m_cv (As := [.int p1, .int p5, .int p3]) (rest := []) x hml L (c_poll l nn X g p1 p5 p3 hnn hX (rg_w rp1 rfl) np1 (rg_w rp3 rfl)) (wm_V uc_poll ul_429 ui_poll us_poll u_init) rfl ⟨rfl, rfl⟩ hd_poll ⟨Nat.le_of_ble_eq_true rfl, Nat.le_of_ble_eq_true rfl⟩ rfl hl.1 rfl (lv_room (Nat.le_of_ble_eq_true rfl)) dX12_readyUnit_17 (fun  g22 H22 k22 hp22 L22 => ?_)
      refine lv_goto (tgt := 75) hx hb dX12_readyUnit_20 (by decide) ?_
      exact j75_1  g22 _ _ ls (mFr.tr mFr.rf hp22.1 rfl) L22  (lv_sub hl [0] rfl)
theorem c_readyUnit (l : Launch) {G : mG} {h0 : Nat} {ad : Nat → Nat} (nn X : Int) (g : mSt) (p1 : Int32) (p2 : Int32) (p3 : Int32) (p4 : Int32) (p5 : Int32) (hnn : 2 ≤ nn ∧ nn ≤ 4) (hX : 0 ≤ X ∧ X ≤ 2000000000) (rp1 : rg (0) (7) p1) (np1 : p1.toInt < 2 * nn) (rp3 : rg (0) (16777215) p3) : Met l yX12_readyUnit (wm (Cond.code yX12_readyUnit cX12_readyUnit 6 none)) rm_readyUnit (va_Pc [.ref h0, .int p1, .int p2, .int p3, .int p4, .int p5] (mPre G h0 ad nn X g)) (mQv G h0 ad nn X (fun g1 => mFr [4, 5, 7, 8, 9, 10, 11, 40, 42, 43, 45, 47, 49, 52, 53, 54, 55, 64] g g1 ∧ True)) 0 0 (mA h0 ad) := by
  refine Met.ofW (cc := cX12_readyUnit) (maxL := 6) (ret := none) (by decide) rfl ?_
  intro p e s m args below meth c s₁ B hml hv
  obtain ⟨rfl, hv⟩ := hv
  have hr := B.returns
  have hlocks := B.notSynchronized
  obtain ⟨x, L⟩ := m_start B rfl wm_X hv
  have hl := lv_entry ([.ref h0, .int p1, .int p2, .int p3, .int p4, .int p5]) (n := 6) (Nat.le_of_ble_eq_true rfl)
  rw [lg_entry_eq]
  generalize (lg_sl ([.ref h0, .int p1, .int p2, .int p3, .int p4, .int p5]) ++ List.replicate (6 - (lg_sl ([.ref h0, .int p1, .int p2, .int p3, .int p4, .int p5])).length) Slot.unset).toArray = ls at hl ⊢
  exact w_readyUnit x hml L hnn hX p1 p2 p3 p4 p5 rp1 np1 rp3 hl (fun pc' ls' g1 H1 locs1 hdg L hp => m_vret x L hr hlocks (Int.le_refl _) hp hdg)

def rm_unit : Room := { frames := 10, cells := 0, slots := 0, locals := 242 }
theorem hd_unit : yX12_unit.cls = RX12 ∧ yX12_unit.cls ≠ "java/lang/invoke/MethodHandle" ∧ yX12_unit.cls ≠ "java/lang/invoke/VarHandle" ∧ (parseMethodDescriptor yX12_unit.desc).map (fun d => d.parameters.length) = some 1 := by decide +kernel
set_option maxHeartbeats 4000000 in
set_option maxRecDepth 100000 in
theorem w_unit {p : Program} {l : Launch} {e : Env} {s : State} {m : MethodId} {args : Array Value} {below : List Frame} {meth : Method} {c : Code} {H : Heap} {locs : List Loc} {Q : State → Prop} {ls : Array Slot} {G : mG} {h0 : Nat} {ad : Nat → Nat} {g : mSt} {H0 : Heap} {nn X : Int} (x : mX p c cX12_unit s args (wm (Cond.code yX12_unit cX12_unit 11 none)) m G h0 ad) (hml : c.maxLocals = 11) (L : mL G h0 ad H0 nn X g H locs) (hnn : 2 ≤ nn ∧ nn ≤ 4) (hX : 0 ≤ X ∧ X ≤ 2000000000) (p1 : Int32) (hJ : mJ nn [] g) (rp1 : rg (0) (7) p1) (np1 : p1.toInt < 2 * nn) (hl : lv_has ls 11 [(0, .ref h0), (1, .int p1)]) (hQ : ∀ (pc' : Nat) (ls' : Array Slot) (g1 : mSt) (H1 : Heap) (locs1 : List Loc), decode cX12_unit pc' = .ok (.return_, 1) → mL G h0 ad H0 nn X g1 H1 locs1 → (mFr [4, 5, 7, 8, 9, 10, 11, 33, 40, 41, 42, 43, 44, 45, 46, 47, 48, 49, 50, 51, 52, 53, 54, 55, 56, 57, 58, 59, 60, 64, 65, 66, 67, 68, 69, 70, 71, 72, 73, 74, 75, 76, 77, 78, 79, 80, 81, 86, 87, 89, 90, 91] g g1 ∧ mJ nn [] g1 ∧ True) → W p l e rm_unit s m args below meth c H1 locs1 0 0 Q (F0 m pc' ls' [])) : W p l e rm_unit s m args below meth c H locs 0 0 Q (F0 m 0 ls []) := by
  have hx := x.1
  have hb := x.2.1
  have up1 : (0 : Int) ≤ p1.toInt ∧ p1.toInt ≤ 7 := rp1
  refine lv_aload_n hx hb dX12_unit_0 rfl (lv_at hl 0 rfl) ?_
  refine m_geti x L 34 rfl rfl (wm_in uf_357) dX12_unit_1 (fun v1 ev1 wv1 => ?_)
  have rv1 : rg (0) (200) v1 := lj_34 wv1
  have uv1 : (0 : Int) ≤ v1.toInt ∧ v1.toInt ≤ 200 := rv1
  have sv1 : v1.toInt = (g 34 0).toInt := congrArg Int32.toInt (ev1.trans (congrFun ((show mFr [4, 5, 7, 8, 9, 10, 11, 33, 40, 41, 42, 43, 44, 45, 46, 47, 48, 49, 50, 51, 52, 53, 54, 55, 56, 57, 58, 59, 60, 64, 65, 66, 67, 68, 69, 70, 71, 72, 73, 74, 75, 76, 77, 78, 79, 80, 81, 86, 87, 89, 90, 91] g g from mFr.rf).at 34 rfl) _))
  refine lv_iconst (v := 4) hx hb dX12_unit_4 (by decide) ?_
  refine lv_icmp_ge (tgt := 9) hx hb dX12_unit_5 (by decide) (fun c5_2 => ?_) (fun c5_2 => ?_)
  · skip
    have ic5_2 := Int32.le_iff_toInt_le.mp c5_2
    have q3 : rg (4) (200) v1 := (rg_le c5_2 kc_4 rv1).2
    have uq3 : (4 : Int) ≤ v1.toInt ∧ v1.toInt ≤ 200 := q3
    refine lv_aload_n hx hb dX12_unit_9 rfl (lv_at hl 0 rfl) ?_
    refine lv_aload_n hx hb dX12_unit_10 rfl (lv_at hl 0 rfl) ?_
    refine m_geti x L 34 rfl rfl (wm_in uf_357) dX12_unit_11 (fun v4 ev4 wv4 => ?_)
    refine m_top ((ev1).trans ev4.symm) ?_
    refine lv_iconst (v := 4) hx hb dX12_unit_14 (by decide) ?_
    refine lv_isub hx hb dX12_unit_15 ?_
    refine lv_topi (fun v5 ev5 => ?_)
    have rv5 : rg (0) (196) v5 := (rg_sub ev5 q3 kc_4 rfl).1
    have tv5 := (rg_sub ev5 q3 kc_4 rfl).2
    have y6 : (4 : Int32).toInt = 4 := by decide
    have uv5 : (0 : Int) ≤ v5.toInt ∧ v5.toInt ≤ 196 := rv5
    refine m_ci (As := [.int v5]) (rest := []) x hml L (c_byteOfWord l nn X g v5 hnn hX (rg_w rv5 rfl)) (wm_V uc_byteOfWord ul_406 ui_byteOfWord us_byteOfWord u_init) rfl ⟨rfl, rfl⟩ hd_byteOfWord ⟨Nat.le_of_ble_eq_true rfl, Nat.le_of_ble_eq_true rfl⟩ rfl hl.1 rfl (lv_room (Nat.le_of_ble_eq_true rfl)) dX12_unit_16 (fun v8 g7 H7 k7 hp7 L7 => ?_)
    have rv8 : rg (-2147483648) (2147483647) v8 := hp7.2.1
    have uv8 : (-2147483648 : Int) ≤ v8.toInt ∧ v8.toInt ≤ 2147483647 := rv8
    have hw9 := hp7.2.2
    refine lv_istore_n (lv' := [(2, .int v8), (0, .ref h0), (1, .int p1)]) hx hb dX12_unit_19 rfl hl (by decide) rfl (fun ls hl => ?_)
    refine lv_iload_n hx hb dX12_unit_20 rfl (lv_at hl 0 rfl) ?_
    refine lv_bipush (v := 24) hx hb dX12_unit_21 (by decide) ?_
    refine lv_iushr hx hb dX12_unit_23 rfl ?_
    refine lv_topi (fun v10 ev10 => ?_)
    have rv10 : rg (0) (255) v10 := rg_ush ev10 24 rfl
    have uv10 : (0 : Int) ≤ v10.toInt ∧ v10.toInt ≤ 255 := rv10
    refine lv_istore_n (lv' := [(3, .int v10), (2, .int v8), (0, .ref h0), (1, .int p1)]) hx hb dX12_unit_24 rfl hl (by decide) rfl (fun ls hl => ?_)
    refine lv_iload_n hx hb dX12_unit_25 rfl (lv_at hl 1 rfl) ?_
    refine lv_ldcw (own := RX12) (v := 16777215) hx hb x.2.2.2.2.1 (x.2.2.1 _ (wm_in uk_409)) dX12_unit_26 ?_
    refine lv_iand hx hb dX12_unit_29 ?_
    refine lv_topi (fun v11 ev11 => ?_)
    have rv11 : rg (0) (16777215) v11 := rg_and ev11 24 16777215 (by decide) rfl
    have uv11 : (0 : Int) ≤ v11.toInt ∧ v11.toInt ≤ 16777215 := rv11
    refine lv_istore (lv' := [(4, .int v11), (3, .int v10), (2, .int v8), (0, .ref h0), (1, .int p1)]) hx hb dX12_unit_30 hl (by decide) rfl (fun ls hl => ?_)
    refine lv_aload_n hx hb dX12_unit_32 rfl (lv_at hl 3 rfl) ?_
    refine m_geti x L7 34 rfl rfl (wm_in uf_357) dX12_unit_33 (fun v12 ev12 wv12 => ?_)
    refine m_top (((mm_fr ev1 hp7.1 rfl)).trans ev12.symm) ?_
    refine lv_iconst (v := 4) hx hb dX12_unit_36 (by decide) ?_
    refine lv_idiv hx hb dX12_unit_37 (by decide) ?_
    refine lv_topi (fun v13 ev13 => ?_)
    have rv13 : rg (1) (50) v13 := (rg_div ev13 q3 kc_4 rfl).1
    have tv13 := (rg_div ev13 q3 kc_4 rfl).2
    have y14 : (4 : Int32).toInt = 4 := by decide
    have uv13 : (1 : Int) ≤ v13.toInt ∧ v13.toInt ≤ 50 := rv13
    refine lv_istore (lv' := [(5, .int v13), (4, .int v11), (3, .int v10), (2, .int v8), (0, .ref h0), (1, .int p1)]) hx hb dX12_unit_38 hl (by decide) rfl (fun ls hl => ?_)
    refine lv_aload_n hx hb dX12_unit_40 rfl (lv_at hl 4 rfl) ?_
    refine m_geti x L7 34 rfl rfl (wm_in uf_357) dX12_unit_41 (fun v15 ev15 wv15 => ?_)
    refine m_top (((mm_fr ev1 hp7.1 rfl)).trans ev15.symm) ?_
    refine lv_bipush (v := 8) hx hb dX12_unit_44 (by decide) ?_
    have j64_17 : ∀ (b64_0_16 : Int32) (g17 : mSt) (H17 : Heap) (k17 : List Loc) (ls : Array Slot), mFr [] g7 g17 → mL G h0 ad H0 nn X g17 H17 k17 → mJ nn [] g17 → rg (-2147483648) (2147483647) b64_0_16 → lv_has ls 11 [(0, .ref h0), (1, .int p1), (3, .int v10), (4, .int v11), (5, .int v13)] → W p l e rm_unit s m args below meth c H17 k17 0 0 Q (F0 m 64 ls [.int b64_0_16]) := by
      intro b64_0_16 g17 H17 k17 ls hF17 L17 hJ17 rb64_0_16 hl
      have ub64_0_16 : (-2147483648 : Int) ≤ b64_0_16.toInt ∧ b64_0_16.toInt ≤ 2147483647 := rb64_0_16
      refine lv_istore (lv' := [(6, .int b64_0_16), (0, .ref h0), (1, .int p1), (3, .int v10), (4, .int v11), (5, .int v13)]) hx hb dX12_unit_64 hl (by decide) rfl (fun ls hl => ?_)
      refine lv_iload_n hx hb dX12_unit_66 rfl (lv_at hl 3 rfl) ?_
      refine lv_iconst (v := 1) hx hb dX12_unit_67 (by decide) ?_
      have j87_19 : ∀ (b87_0_18 : Int32) (g19 : mSt) (H19 : Heap) (k19 : List Loc) (ls : Array Slot), mFr [] g17 g19 → mL G h0 ad H0 nn X g19 H19 k19 → mJ nn [] g19 → rg (0) (1) b87_0_18 → lv_has ls 11 [(0, .ref h0), (1, .int p1), (3, .int v10), (4, .int v11), (5, .int v13), (6, .int b64_0_16)] → W p l e rm_unit s m args below meth c H19 k19 0 0 Q (F0 m 87 ls [.int b87_0_18]) := by
        intro b87_0_18 g19 H19 k19 ls hF19 L19 hJ19 rb87_0_18 hl
        have ub87_0_18 : (0 : Int) ≤ b87_0_18.toInt ∧ b87_0_18.toInt ≤ 1 := rb87_0_18
        refine lv_istore (lv' := [(7, .int b87_0_18), (0, .ref h0), (1, .int p1), (3, .int v10), (4, .int v11), (5, .int v13), (6, .int b64_0_16)]) hx hb dX12_unit_87 hl (by decide) rfl (fun ls hl => ?_)
        refine lv_iload_n hx hb dX12_unit_89 rfl (lv_at hl 3 rfl) ?_
        refine lv_iconst (v := 2) hx hb dX12_unit_90 (by decide) ?_
        have j111_21 : ∀ (b111_0_20 : Int32) (g21 : mSt) (H21 : Heap) (k21 : List Loc) (ls : Array Slot), mFr [] g19 g21 → mL G h0 ad H0 nn X g21 H21 k21 → mJ nn [] g21 → rg (0) (1) b111_0_20 → lv_has ls 11 [(0, .ref h0), (1, .int p1), (3, .int v10), (4, .int v11), (5, .int v13), (6, .int b64_0_16), (7, .int b87_0_18)] → W p l e rm_unit s m args below meth c H21 k21 0 0 Q (F0 m 111 ls [.int b111_0_20]) := by
          intro b111_0_20 g21 H21 k21 ls hF21 L21 hJ21 rb111_0_20 hl
          have ub111_0_20 : (0 : Int) ≤ b111_0_20.toInt ∧ b111_0_20.toInt ≤ 1 := rb111_0_20
          refine lv_istore (lv' := [(8, .int b111_0_20), (0, .ref h0), (1, .int p1), (3, .int v10), (4, .int v11), (5, .int v13), (6, .int b64_0_16), (7, .int b87_0_18)]) hx hb dX12_unit_111 hl (by decide) rfl (fun ls hl => ?_)
          refine lv_iload_n hx hb dX12_unit_113 rfl (lv_at hl 3 rfl) ?_
          refine lv_bipush (v := 11) hx hb dX12_unit_114 (by decide) ?_
          have j130_23 : ∀ (b130_0_22 : Int32) (g23 : mSt) (H23 : Heap) (k23 : List Loc) (ls : Array Slot), mFr [] g21 g23 → mL G h0 ad H0 nn X g23 H23 k23 → mJ nn [] g23 → rg (0) (1) b130_0_22 → lv_has ls 11 [(0, .ref h0), (1, .int p1), (3, .int v10), (4, .int v11), (5, .int v13), (6, .int b64_0_16), (7, .int b87_0_18), (8, .int b111_0_20)] → W p l e rm_unit s m args below meth c H23 k23 0 0 Q (F0 m 130 ls [.int b130_0_22]) := by
            intro b130_0_22 g23 H23 k23 ls hF23 L23 hJ23 rb130_0_22 hl
            have ub130_0_22 : (0 : Int) ≤ b130_0_22.toInt ∧ b130_0_22.toInt ≤ 1 := rb130_0_22
            refine lv_istore (lv' := [(9, .int b130_0_22), (0, .ref h0), (1, .int p1), (3, .int v10), (4, .int v11), (5, .int v13), (6, .int b64_0_16), (7, .int b87_0_18), (8, .int b111_0_20)]) hx hb dX12_unit_130 hl (by decide) rfl (fun ls hl => ?_)
            refine lv_iload hx hb dX12_unit_132 (lv_at hl 8 rfl) ?_
            have j163_25 : ∀ (b163_0_24 : Int32) (g25 : mSt) (H25 : Heap) (k25 : List Loc) (ls : Array Slot), mFr [] g23 g25 → mL G h0 ad H0 nn X g25 H25 k25 → mJ nn [] g25 → rg (0) (1) b163_0_24 → lv_has ls 11 [(0, .ref h0), (1, .int p1), (3, .int v10), (4, .int v11), (5, .int v13), (6, .int b64_0_16), (7, .int b87_0_18), (8, .int b111_0_20), (9, .int b130_0_22)] → W p l e rm_unit s m args below meth c H25 k25 0 0 Q (F0 m 163 ls [.int b163_0_24]) := by
              intro b163_0_24 g25 H25 k25 ls hF25 L25 hJ25 rb163_0_24 hl
              have ub163_0_24 : (0 : Int) ≤ b163_0_24.toInt ∧ b163_0_24.toInt ≤ 1 := rb163_0_24
              refine lv_istore (lv' := [(10, .int b163_0_24), (0, .ref h0), (1, .int p1), (3, .int v10), (4, .int v11), (5, .int v13), (6, .int b64_0_16), (7, .int b87_0_18), (8, .int b111_0_20), (9, .int b130_0_22)]) hx hb dX12_unit_163 hl (by decide) rfl (fun ls hl => ?_)
              refine lv_iload hx hb dX12_unit_165 (lv_at hl 0 rfl) ?_
              have j212_26 : ∀ (g26 : mSt) (H26 : Heap) (k26 : List Loc) (ls : Array Slot), mFr [] g25 g26 → mL G h0 ad H0 nn X g26 H26 k26 → mJ nn [] g26 → lv_has ls 11 [(0, .ref h0)] → W p l e rm_unit s m args below meth c H26 k26 0 0 Q (F0 m 212 ls []) := by
                intro  g26 H26 k26 ls hF26 L26 hJ26  hl
                exact hQ _ _ _ _ _ dX12_unit_212 L26 ⟨(mFr.tr (mFr.tr (mFr.tr (mFr.tr (mFr.tr (mFr.tr (mFr.tr mFr.rf hp7.1 rfl) hF17 rfl) hF19 rfl) hF21 rfl) hF23 rfl) hF25 rfl) hF26 rfl), hJ26, trivial⟩
              refine lv_if_ne (tgt := 212) hx hb dX12_unit_167 (by decide) (fun c167_27 => ?_) (fun c167_27 => ?_)
              · skip
                have ic167_27 : b163_0_24.toInt ≠ (0 : Int32).toInt := fun z => c167_27 (Int32.toInt_inj.mp z)
                have y28 : (0 : Int32).toInt = 0 := by decide
                have q29 : rg (1) (1) b163_0_24 := rg_neL c167_27 rb163_0_24 kc_0
                have uq29 : (1 : Int) ≤ b163_0_24.toInt ∧ b163_0_24.toInt ≤ 1 := q29
                exact j212_26  g25 _ _ ls mFr.rf L25 hJ25 (lv_sub hl [1] rfl)
              · skip
                have ic167_27 := congrArg Int32.toInt c167_27
                have y30 : (0 : Int32).toInt = 0 := by decide
                have q31 : rg (0) (0) b163_0_24 := (rg_eq c167_27 rb163_0_24 kc_0).1
                have uq31 : (0 : Int) ≤ b163_0_24.toInt ∧ b163_0_24.toInt ≤ 0 := q31
                refine lv_iload hx hb dX12_unit_170 (lv_at hl 7 rfl) ?_
                have j180_32 : ∀ (g32 : mSt) (H32 : Heap) (k32 : List Loc) (ls : Array Slot), mFr [] g25 g32 → mL G h0 ad H0 nn X g32 H32 k32 → mJ nn [] g32 → lv_has ls 11 [(0, .ref h0), (1, .int p1), (3, .int v10), (4, .int v11), (5, .int v13), (6, .int b64_0_16), (7, .int b87_0_18), (8, .int b111_0_20), (9, .int b130_0_22)] → W p l e rm_unit s m args below meth c H32 k32 0 0 Q (F0 m 180 ls []) := by
                  intro  g32 H32 k32 ls hF32 L32 hJ32  hl
                  refine lv_iload hx hb dX12_unit_180 (lv_at hl 6 rfl) ?_
                  have j197_33 : ∀ (g33 : mSt) (H33 : Heap) (k33 : List Loc) (ls : Array Slot), mFr [] g32 g33 → mL G h0 ad H0 nn X g33 H33 k33 → mJ nn [] g33 → lv_has ls 11 [(0, .ref h0), (1, .int p1), (3, .int v10), (4, .int v11), (5, .int v13), (6, .int b64_0_16), (9, .int b130_0_22)] → W p l e rm_unit s m args below meth c H33 k33 0 0 Q (F0 m 197 ls []) := by
                    intro  g33 H33 k33 ls hF33 L33 hJ33  hl
                    refine lv_iload hx hb dX12_unit_197 (lv_at hl 6 rfl) ?_
                    have j213_34 : ∀ (g34 : mSt) (H34 : Heap) (k34 : List Loc) (ls : Array Slot), mFr [] g33 g34 → mL G h0 ad H0 nn X g34 H34 k34 → mJ nn [] g34 → lv_has ls 11 [(0, .ref h0), (1, .int p1), (3, .int v10), (4, .int v11), (5, .int v13), (6, .int b64_0_16)] → W p l e rm_unit s m args below meth c H34 k34 0 0 Q (F0 m 213 ls []) := by
                      intro  g34 H34 k34 ls hF34 L34 hJ34  hl
                      refine lv_iload_n hx hb dX12_unit_213 rfl (lv_at hl 2 rfl) ?_
                      refine lv_bipush (v := 8) hx hb dX12_unit_214 (by decide) ?_
                      refine lv_icmp_ne (tgt := 254) hx hb dX12_unit_216 (by decide) (fun c216_35 => ?_) (fun c216_35 => ?_)
                      · skip
                        have ic216_35 : v10.toInt ≠ (8 : Int32).toInt := fun z => c216_35 (Int32.toInt_inj.mp z)
                        have y36 : (8 : Int32).toInt = 8 := by decide
                        refine lv_aload_n hx hb dX12_unit_254 rfl (lv_at hl 0 rfl) ?_
                        refine m_geti x L34 34 rfl rfl (wm_in uf_357) dX12_unit_255 (fun v37 ev37 wv37 => ?_)
                        refine m_top (((mm_fr (mm_fr (mm_fr (mm_fr (mm_fr (mm_fr (mm_fr (mm_fr (mm_fr ev1 hp7.1 rfl) hF17 rfl) hF19 rfl) hF21 rfl) hF23 rfl) hF25 rfl) hF32 rfl) hF33 rfl) hF34 rfl)).trans ev37.symm) ?_
                        refine lv_iconst (v := 4) hx hb dX12_unit_258 (by decide) ?_
                        refine lv_irem hx hb dX12_unit_259 (by decide) ?_
                        refine lv_topi (fun v38 ev38 => ?_)
                        have rv38 : rg (0) (3) v38 := (rg_rem ev38 q3 kc_4 rfl).1
                        have tv38 := (rg_rem ev38 q3 kc_4 rfl).2
                        have y39 : (4 : Int32).toInt = 4 := by decide
                        have uv38 : (0 : Int) ≤ v38.toInt ∧ v38.toInt ≤ 3 := rv38
                        refine lv_if_eq (tgt := 264) hx hb dX12_unit_260 (by decide) (fun c260_40 => ?_) (fun c260_40 => ?_)
                        · skip
                          have ic260_40 := congrArg Int32.toInt c260_40
                          have y41 : (0 : Int32).toInt = 0 := by decide
                          have q42 : rg (0) (0) v38 := (rg_eq c260_40 rv38 kc_0).1
                          have uq42 : (0 : Int) ≤ v38.toInt ∧ v38.toInt ≤ 0 := q42
                          refine lv_iload_n hx hb dX12_unit_264 rfl (lv_at hl 2 rfl) ?_
                          have j544_43 : ∀ (g43 : mSt) (H43 : Heap) (k43 : List Loc) (ls : Array Slot), mFr [4, 5, 7, 8, 9, 10, 11, 40, 41, 42, 43, 44, 45, 46, 47, 48, 49, 50, 51, 52, 53, 54, 55, 56, 57, 58, 59, 60, 64, 67, 68, 74, 75, 76, 77, 86, 87, 89, 90, 91] g34 g43 → mL G h0 ad H0 nn X g43 H43 k43 → mJ nn [] g43 → lv_has ls 11 [(0, .ref h0)] → W p l e rm_unit s m args below meth c H43 k43 0 0 Q (F0 m 544 ls []) := by
                            intro  g43 H43 k43 ls hF43 L43 hJ43  hl
                            exact hQ _ _ _ _ _ dX12_unit_544 L43 ⟨(mFr.tr (mFr.tr (mFr.tr (mFr.tr (mFr.tr (mFr.tr (mFr.tr (mFr.tr (mFr.tr (mFr.tr mFr.rf hp7.1 rfl) hF17 rfl) hF19 rfl) hF21 rfl) hF23 rfl) hF25 rfl) hF32 rfl) hF33 rfl) hF34 rfl) hF43 rfl), hJ43, trivial⟩
                          have j522_44 : ∀ (g44 : mSt) (H44 : Heap) (k44 : List Loc) (ls : Array Slot), mFr [] g34 g44 → mL G h0 ad H0 nn X g44 H44 k44 → mJ nn [] g44 → lv_has ls 11 [(0, .ref h0), (1, .int p1), (3, .int v10), (4, .int v11), (5, .int v13), (6, .int b64_0_16)] → W p l e rm_unit s m args below meth c H44 k44 0 0 Q (F0 m 522 ls []) := by
                            intro  g44 H44 k44 ls hF44 L44 hJ44  hl
                            refine lv_aload_n hx hb dX12_unit_522 rfl (lv_at hl 0 rfl) ?_
                            refine m_geta x L44 40 rfl rfl (wm_in uf_107) dX12_unit_523 ?_
                            refine lv_iload_n hx hb dX12_unit_526 rfl (lv_at hl 1 rfl) ?_
                            refine m_ld x L44 40 rfl rp1 rfl dX12_unit_527 (fun v45 ev45 wv45 => ?_)
                            have rv45 : rg (-2147483648) (2147483647) v45 := lj_40 wv45
                            have uv45 : (-2147483648 : Int) ≤ v45.toInt ∧ v45.toInt ≤ 2147483647 := rv45
                            refine lv_iconst (v := 2) hx hb dX12_unit_528 (by decide) ?_
                            refine lv_icmp_ne (tgt := 544) hx hb dX12_unit_529 (by decide) (fun c529_46 => ?_) (fun c529_46 => ?_)
                            · skip
                              have ic529_46 : v45.toInt ≠ (2 : Int32).toInt := fun z => c529_46 (Int32.toInt_inj.mp z)
                              have y47 : (2 : Int32).toInt = 2 := by decide
                              exact j544_43  g44 _ _ ls (mFr.tr mFr.rf hF44 rfl) L44 hJ44 (lv_sub hl [0] rfl)
                            · skip
                              have ic529_46 := congrArg Int32.toInt c529_46
                              have y48 : (2 : Int32).toInt = 2 := by decide
                              have q49 : rg (2) (2) v45 := (rg_eq c529_46 rv45 kc_2).1
                              have uq49 : (2 : Int) ≤ v45.toInt ∧ v45.toInt ≤ 2 := q49
                              refine lv_aload_n hx hb dX12_unit_532 rfl (lv_at hl 0 rfl) ?_
                              refine lv_iload_n hx hb dX12_unit_533 rfl (lv_at hl 1 rfl) ?_
                              refine lv_iload_n hx hb dX12_unit_534 rfl (lv_at hl 2 rfl) ?_
                              refine lv_iload hx hb dX12_unit_535 (lv_at hl 3 rfl) ?_
                              refine lv_iload hx hb dX12_unit_537 (lv_at hl 4 rfl) ?_
                              refine lv_iload hx hb dX12_unit_539 (lv_at hl 5 rfl) ?_
                              refine m_cv (As := [.int p1, .int v10, .int v11, .int v13, .int b64_0_16]) (rest := []) x hml L44 (c_readyUnit l nn X g44 p1 v10 v11 v13 b64_0_16 hnn hX (rg_w rp1 rfl) np1 (rg_w rv11 rfl)) (wm_V uc_readyUnit ul_425 ui_readyUnit us_readyUnit u_init) rfl ⟨rfl, rfl⟩ hd_readyUnit ⟨Nat.le_of_ble_eq_true rfl, Nat.le_of_ble_eq_true rfl⟩ rfl hl.1 rfl (lv_room (Nat.le_of_ble_eq_true rfl)) dX12_unit_541 (fun  g50 H50 k50 hp50 L50 => ?_)
                              exact j544_43  g50 _ _ ls (mFr.tr (mFr.tr mFr.rf hF44 rfl) hp50.1 rfl) L50 (mJ_fr hJ44 hp50.1 rfl) (lv_sub hl [0] rfl)
                          have j446_51 : ∀ (g51 : mSt) (H51 : Heap) (k51 : List Loc) (ls : Array Slot), mFr [] g34 g51 → mL G h0 ad H0 nn X g51 H51 k51 → mJ nn [] g51 → lv_has ls 11 [(0, .ref h0), (1, .int p1), (3, .int v10), (4, .int v11), (5, .int v13), (6, .int b64_0_16)] → W p l e rm_unit s m args below meth c H51 k51 0 0 Q (F0 m 446 ls []) := by
                            intro  g51 H51 k51 ls hF51 L51 hJ51  hl
                            refine lv_iload hx hb dX12_unit_446 (lv_at hl 4 rfl) ?_
                            refine lv_iconst (v := 2) hx hb dX12_unit_448 (by decide) ?_
                            refine lv_icmp_ne (tgt := 544) hx hb dX12_unit_449 (by decide) (fun c449_52 => ?_) (fun c449_52 => ?_)
                            · skip
                              have ic449_52 : v13.toInt ≠ (2 : Int32).toInt := fun z => c449_52 (Int32.toInt_inj.mp z)
                              have y53 : (2 : Int32).toInt = 2 := by decide
                              exact j544_43  g51 _ _ ls (mFr.tr mFr.rf hF51 rfl) L51 hJ51 (lv_sub hl [0] rfl)
                            · skip
                              have ic449_52 := congrArg Int32.toInt c449_52
                              have y54 : (2 : Int32).toInt = 2 := by decide
                              have q55 : rg (2) (2) v13 := (rg_eq c449_52 rv13 kc_2).1
                              have uq55 : (2 : Int) ≤ v13.toInt ∧ v13.toInt ≤ 2 := q55
                              refine lv_aload_n hx hb dX12_unit_452 rfl (lv_at hl 0 rfl) ?_
                              refine lv_iload_n hx hb dX12_unit_453 rfl (lv_at hl 1 rfl) ?_
                              refine lv_iload hx hb dX12_unit_454 (lv_at hl 5 rfl) ?_
                              refine lv_iload hx hb dX12_unit_456 (lv_at hl 3 rfl) ?_
                              refine lv_iload_n hx hb dX12_unit_458 rfl (lv_at hl 2 rfl) ?_
                              refine lv_iconst (v := 5) hx hb dX12_unit_459 (by decide) ?_
                              have j470_57 : ∀ (b470_4_56 : Int32) (g57 : mSt) (H57 : Heap) (k57 : List Loc) (ls : Array Slot), mFr [] g51 g57 → mL G h0 ad H0 nn X g57 H57 k57 → mJ nn [] g57 → rg (6) (15) b470_4_56 → lv_has ls 11 [(0, .ref h0)] → W p l e rm_unit s m args below meth c H57 k57 0 0 Q (F0 m 470 ls [.int b470_4_56, .int v11, .int b64_0_16, .int p1, .ref h0]) := by
                                intro b470_4_56 g57 H57 k57 ls hF57 L57 hJ57 rb470_4_56 hl
                                have ub470_4_56 : (6 : Int) ≤ b470_4_56.toInt ∧ b470_4_56.toInt ≤ 15 := rb470_4_56
                                refine m_cv (As := [.int p1, .int b64_0_16, .int v11, .int b470_4_56]) (rest := []) x hml L57 (c_resetCame l nn X g57 p1 b64_0_16 v11 b470_4_56 hnn hX (rg_w rp1 rfl) np1) (wm_V uc_resetCame ul_422 ui_resetCame us_resetCame u_init) rfl ⟨rfl, rfl⟩ hd_resetCame ⟨Nat.le_of_ble_eq_true rfl, Nat.le_of_ble_eq_true rfl⟩ rfl hl.1 rfl (lv_room (Nat.le_of_ble_eq_true rfl)) dX12_unit_470 (fun  g58 H58 k58 hp58 L58 => ?_)
                                refine lv_goto (tgt := 544) hx hb dX12_unit_473 (by decide) ?_
                                exact j544_43  g58 _ _ ls (mFr.tr (mFr.tr (mFr.tr mFr.rf hF51 rfl) hF57 rfl) hp58.1 rfl) L58 (mJ_fr hJ57 hp58.1 rfl) (lv_sub hl [0] rfl)
                              refine lv_icmp_ne (tgt := 468) hx hb dX12_unit_460 (by decide) (fun c460_59 => ?_) (fun c460_59 => ?_)
                              · skip
                                have ic460_59 : v10.toInt ≠ (5 : Int32).toInt := fun z => c460_59 (Int32.toInt_inj.mp z)
                                have y60 : (5 : Int32).toInt = 5 := by decide
                                refine lv_bipush (v := 15) hx hb dX12_unit_468 (by decide) ?_
                                have y61 : (15 : Int32).toInt = 15 := by decide
                                exact j470_57 (15 : Int32) g51 _ _ ls mFr.rf L51 hJ51 (rg_w kc_15 rfl) (lv_sub hl [0] rfl)
                              · skip
                                have ic460_59 := congrArg Int32.toInt c460_59
                                have y62 : (5 : Int32).toInt = 5 := by decide
                                have q63 : rg (5) (5) v10 := (rg_eq c460_59 rv10 kc_5).1
                                have uq63 : (5 : Int) ≤ v10.toInt ∧ v10.toInt ≤ 5 := q63
                                refine lv_bipush (v := 6) hx hb dX12_unit_463 (by decide) ?_
                                refine lv_goto (tgt := 470) hx hb dX12_unit_465 (by decide) ?_
                                have y64 : (6 : Int32).toInt = 6 := by decide
                                exact j470_57 (6 : Int32) g51 _ _ ls mFr.rf L51 hJ51 (rg_w kc_6 rfl) (lv_sub hl [0] rfl)
                          have j476_65 : ∀ (g65 : mSt) (H65 : Heap) (k65 : List Loc) (ls : Array Slot), mFr [] g34 g65 → mL G h0 ad H0 nn X g65 H65 k65 → mJ nn [] g65 → lv_has ls 11 [(0, .ref h0), (1, .int p1), (3, .int v10), (5, .int v13), (6, .int b64_0_16)] → W p l e rm_unit s m args below meth c H65 k65 0 0 Q (F0 m 476 ls []) := by
                            intro  g65 H65 k65 ls hF65 L65 hJ65  hl
                            refine lv_iload hx hb dX12_unit_476 (lv_at hl 3 rfl) ?_
                            refine lv_iconst (v := 2) hx hb dX12_unit_478 (by decide) ?_
                            refine lv_icmp_ne (tgt := 544) hx hb dX12_unit_479 (by decide) (fun c479_66 => ?_) (fun c479_66 => ?_)
                            · skip
                              have ic479_66 : v13.toInt ≠ (2 : Int32).toInt := fun z => c479_66 (Int32.toInt_inj.mp z)
                              have y67 : (2 : Int32).toInt = 2 := by decide
                              exact j544_43  g65 _ _ ls (mFr.tr mFr.rf hF65 rfl) L65 hJ65 (lv_sub hl [0] rfl)
                            · skip
                              have ic479_66 := congrArg Int32.toInt c479_66
                              have y68 : (2 : Int32).toInt = 2 := by decide
                              have q69 : rg (2) (2) v13 := (rg_eq c479_66 rv13 kc_2).1
                              have uq69 : (2 : Int) ≤ v13.toInt ∧ v13.toInt ≤ 2 := q69
                              refine lv_aload_n hx hb dX12_unit_482 rfl (lv_at hl 0 rfl) ?_
                              refine m_geta x L65 40 rfl rfl (wm_in uf_107) dX12_unit_483 ?_
                              refine lv_iload_n hx hb dX12_unit_486 rfl (lv_at hl 1 rfl) ?_
                              refine m_ld x L65 40 rfl rp1 rfl dX12_unit_487 (fun v70 ev70 wv70 => ?_)
                              have rv70 : rg (-2147483648) (2147483647) v70 := lj_40 wv70
                              have uv70 : (-2147483648 : Int) ≤ v70.toInt ∧ v70.toInt ≤ 2147483647 := rv70
                              refine lv_iconst (v := 3) hx hb dX12_unit_488 (by decide) ?_
                              refine lv_icmp_ne (tgt := 544) hx hb dX12_unit_489 (by decide) (fun c489_71 => ?_) (fun c489_71 => ?_)
                              · skip
                                have ic489_71 : v70.toInt ≠ (3 : Int32).toInt := fun z => c489_71 (Int32.toInt_inj.mp z)
                                have y72 : (3 : Int32).toInt = 3 := by decide
                                exact j544_43  g65 _ _ ls (mFr.tr mFr.rf hF65 rfl) L65 hJ65 (lv_sub hl [0] rfl)
                              · skip
                                have ic489_71 := congrArg Int32.toInt c489_71
                                have y73 : (3 : Int32).toInt = 3 := by decide
                                have q74 : rg (3) (3) v70 := (rg_eq c489_71 rv70 kc_3).1
                                have uq74 : (3 : Int) ≤ v70.toInt ∧ v70.toInt ≤ 3 := q74
                                refine lv_aload_n hx hb dX12_unit_492 rfl (lv_at hl 0 rfl) ?_
                                refine m_geta x L65 54 rfl rfl (wm_in uf_149) dX12_unit_493 ?_
                                refine lv_iload_n hx hb dX12_unit_496 rfl (lv_at hl 1 rfl) ?_
                                refine m_ldz x L65 54 rfl rp1 rfl dX12_unit_497 (fun v75 ev75 wv75 => ?_)
                                have rv75 : rg (0) (1) v75 := lj_54 wv75
                                have uv75 : (0 : Int) ≤ v75.toInt ∧ v75.toInt ≤ 1 := rv75
                                refine lv_iload_n hx hb dX12_unit_498 rfl (lv_at hl 2 rfl) ?_
                                refine lv_bipush (v := 15) hx hb dX12_unit_499 (by decide) ?_
                                have j509_77 : ∀ (b509_1_76 : Int32) (g77 : mSt) (H77 : Heap) (k77 : List Loc) (ls : Array Slot), mFr [] g65 g77 → mL G h0 ad H0 nn X g77 H77 k77 → mJ nn [] g77 → rg (0) (1) b509_1_76 → lv_has ls 11 [(0, .ref h0), (1, .int p1), (6, .int b64_0_16)] → W p l e rm_unit s m args below meth c H77 k77 0 0 Q (F0 m 509 ls [.int b509_1_76, .int v75]) := by
                                  intro b509_1_76 g77 H77 k77 ls hF77 L77 hJ77 rb509_1_76 hl
                                  have ub509_1_76 : (0 : Int) ≤ b509_1_76.toInt ∧ b509_1_76.toInt ≤ 1 := rb509_1_76
                                  refine lv_icmp_ne (tgt := 544) hx hb dX12_unit_509 (by decide) (fun c509_78 => ?_) (fun c509_78 => ?_)
                                  · skip
                                    have ic509_78 : v75.toInt ≠ b509_1_76.toInt := fun z => c509_78 (Int32.toInt_inj.mp z)
                                    exact j544_43  g77 _ _ ls (mFr.tr (mFr.tr mFr.rf hF65 rfl) hF77 rfl) L77 hJ77 (lv_sub hl [0] rfl)
                                  · skip
                                    have ic509_78 := congrArg Int32.toInt c509_78
                                    refine lv_aload_n hx hb dX12_unit_512 rfl (lv_at hl 0 rfl) ?_
                                    refine lv_iload_n hx hb dX12_unit_513 rfl (lv_at hl 1 rfl) ?_
                                    refine lv_iload hx hb dX12_unit_514 (lv_at hl 2 rfl) ?_
                                    refine m_cv (As := [.int p1, .int b64_0_16]) (rest := []) x hml L77 (c_ready l nn X g77 p1 b64_0_16 hnn hX (rg_w rp1 rfl)) (wm_V uc_ready ul_416 ui_ready us_ready u_init) rfl ⟨rfl, rfl⟩ hd_ready ⟨Nat.le_of_ble_eq_true rfl, Nat.le_of_ble_eq_true rfl⟩ rfl hl.1 rfl (lv_room (Nat.le_of_ble_eq_true rfl)) dX12_unit_516 (fun  g79 H79 k79 hp79 L79 => ?_)
                                    refine lv_goto (tgt := 544) hx hb dX12_unit_519 (by decide) ?_
                                    exact j544_43  g79 _ _ ls (mFr.tr (mFr.tr (mFr.tr mFr.rf hF65 rfl) hF77 rfl) hp79.1 rfl) L79 (mJ_fr hJ77 hp79.1 rfl) (lv_sub hl [0] rfl)
                                refine lv_icmp_ne (tgt := 508) hx hb dX12_unit_501 (by decide) (fun c501_80 => ?_) (fun c501_80 => ?_)
                                · skip
                                  have ic501_80 : v10.toInt ≠ (15 : Int32).toInt := fun z => c501_80 (Int32.toInt_inj.mp z)
                                  have y81 : (15 : Int32).toInt = 15 := by decide
                                  refine lv_iconst (v := 0) hx hb dX12_unit_508 (by decide) ?_
                                  have y82 : (0 : Int32).toInt = 0 := by decide
                                  exact j509_77 (0 : Int32) g65 _ _ ls mFr.rf L65 hJ65 (rg_w kc_0 rfl) (lv_sub hl [0, 1, 4] rfl)
                                · skip
                                  have ic501_80 := congrArg Int32.toInt c501_80
                                  have y83 : (15 : Int32).toInt = 15 := by decide
                                  have q84 : rg (15) (15) v10 := (rg_eq c501_80 rv10 kc_15).1
                                  have uq84 : (15 : Int) ≤ v10.toInt ∧ v10.toInt ≤ 15 := q84
                                  refine lv_iconst (v := 1) hx hb dX12_unit_504 (by decide) ?_
                                  refine lv_goto (tgt := 509) hx hb dX12_unit_505 (by decide) ?_
                                  have y85 : (1 : Int32).toInt = 1 := by decide
                                  exact j509_77 (1 : Int32) g65 _ _ ls mFr.rf L65 hJ65 (rg_w kc_1 rfl) (lv_sub hl [0, 1, 4] rfl)
                          rcases (show v10.toInt < 1 ∨ 15 < v10.toInt ∨ v10.toInt = 1 ∨ v10.toInt = 2 ∨ v10.toInt = 3 ∨ v10.toInt = 4 ∨ v10.toInt = 5 ∨ v10.toInt = 6 ∨ v10.toInt = 7 ∨ v10.toInt = 8 ∨ v10.toInt = 9 ∨ v10.toInt = 10 ∨ v10.toInt = 11 ∨ v10.toInt = 12 ∨ v10.toInt = 13 ∨ v10.toInt = 14 ∨ v10.toInt = 15 by omega) with c265_86 | c265_86 | c265_86 | c265_86 | c265_86 | c265_86 | c265_86 | c265_86 | c265_86 | c265_86 | c265_86 | c265_86 | c265_86 | c265_86 | c265_86 | c265_86 | c265_86
                          · skip
                            refine lv_tableOut (tgt := 522) hx hb dX12_unit_265 (Or.inl c265_86) (by decide) ?_
                            exact j522_44  g34 _ _ ls mFr.rf L34 hJ34 (lv_sub hl [0, 1, 2, 3, 4, 5] rfl)
                          · skip
                            refine lv_tableOut (tgt := 522) hx hb dX12_unit_265 (Or.inr c265_86) (by decide) ?_
                            exact j522_44  g34 _ _ ls mFr.rf L34 hJ34 (lv_sub hl [0, 1, 2, 3, 4, 5] rfl)
                          · skip
                            have q87 : rg (1) (1) v10 := ⟨by omega, by omega⟩
                            refine lv_tableIn (off := 75) (tgt := 340) hx hb dX12_unit_265 (by omega) (by omega) (by rw [c265_86]; rfl) (by decide) ?_
                            refine lv_iload hx hb dX12_unit_340 (lv_at hl 4 rfl) ?_
                            refine lv_iconst (v := 2) hx hb dX12_unit_342 (by decide) ?_
                            refine lv_icmp_ne (tgt := 544) hx hb dX12_unit_343 (by decide) (fun c343_88 => ?_) (fun c343_88 => ?_)
                            · skip
                              have ic343_88 : v13.toInt ≠ (2 : Int32).toInt := fun z => c343_88 (Int32.toInt_inj.mp z)
                              have y89 : (2 : Int32).toInt = 2 := by decide
                              exact j544_43  g34 _ _ ls mFr.rf L34 hJ34 (lv_sub hl [0] rfl)
                            · skip
                              have ic343_88 := congrArg Int32.toInt c343_88
                              have y90 : (2 : Int32).toInt = 2 := by decide
                              have q91 : rg (2) (2) v13 := (rg_eq c343_88 rv13 kc_2).1
                              have uq91 : (2 : Int) ≤ v13.toInt ∧ v13.toInt ≤ 2 := q91
                              refine lv_aload_n hx hb dX12_unit_346 rfl (lv_at hl 0 rfl) ?_
                              refine lv_iload_n hx hb dX12_unit_347 rfl (lv_at hl 1 rfl) ?_
                              refine lv_iload hx hb dX12_unit_348 (lv_at hl 5 rfl) ?_
                              refine lv_iload hx hb dX12_unit_350 (lv_at hl 3 rfl) ?_
                              refine m_cv (As := [.int p1, .int b64_0_16, .int v11]) (rest := []) x hml L34 (c_begin l nn X g34 p1 b64_0_16 v11 hnn hX hJ34 (rg_w rp1 rfl) np1) (wm_V uc_begin ul_413 ui_begin us_begin u_init) rfl ⟨rfl, rfl⟩ hd_begin ⟨Nat.le_of_ble_eq_true rfl, Nat.le_of_ble_eq_true rfl⟩ rfl hl.1 rfl (lv_room (Nat.le_of_ble_eq_true rfl)) dX12_unit_352 (fun  g92 H92 k92 hp92 L92 => ?_)
                              refine lv_goto (tgt := 544) hx hb dX12_unit_355 (by decide) ?_
                              exact j544_43  g92 _ _ ls (mFr.tr mFr.rf hp92.1 rfl) L92 hp92.2.1 (lv_sub hl [0] rfl)
                          · skip
                            have q93 : rg (2) (2) v10 := ⟨by omega, by omega⟩
                            refine lv_tableIn (off := 93) (tgt := 358) hx hb dX12_unit_265 (by omega) (by omega) (by rw [c265_86]; rfl) (by decide) ?_
                            refine lv_iload hx hb dX12_unit_358 (lv_at hl 4 rfl) ?_
                            refine lv_iconst (v := 2) hx hb dX12_unit_360 (by decide) ?_
                            refine lv_icmp_ne (tgt := 544) hx hb dX12_unit_361 (by decide) (fun c361_94 => ?_) (fun c361_94 => ?_)
                            · skip
                              have ic361_94 : v13.toInt ≠ (2 : Int32).toInt := fun z => c361_94 (Int32.toInt_inj.mp z)
                              have y95 : (2 : Int32).toInt = 2 := by decide
                              exact j544_43  g34 _ _ ls mFr.rf L34 hJ34 (lv_sub hl [0] rfl)
                            · skip
                              have ic361_94 := congrArg Int32.toInt c361_94
                              have y96 : (2 : Int32).toInt = 2 := by decide
                              have q97 : rg (2) (2) v13 := (rg_eq c361_94 rv13 kc_2).1
                              have uq97 : (2 : Int) ≤ v13.toInt ∧ v13.toInt ≤ 2 := q97
                              refine lv_aload_n hx hb dX12_unit_364 rfl (lv_at hl 0 rfl) ?_
                              refine m_geta x L34 40 rfl rfl (wm_in uf_107) dX12_unit_365 ?_
                              refine lv_iload_n hx hb dX12_unit_368 rfl (lv_at hl 1 rfl) ?_
                              refine m_ld x L34 40 rfl rp1 rfl dX12_unit_369 (fun v98 ev98 wv98 => ?_)
                              have rv98 : rg (-2147483648) (2147483647) v98 := lj_40 wv98
                              have uv98 : (-2147483648 : Int) ≤ v98.toInt ∧ v98.toInt ≤ 2147483647 := rv98
                              refine lv_iconst (v := 1) hx hb dX12_unit_370 (by decide) ?_
                              refine lv_icmp_ne (tgt := 544) hx hb dX12_unit_371 (by decide) (fun c371_99 => ?_) (fun c371_99 => ?_)
                              · skip
                                have ic371_99 : v98.toInt ≠ (1 : Int32).toInt := fun z => c371_99 (Int32.toInt_inj.mp z)
                                have y100 : (1 : Int32).toInt = 1 := by decide
                                exact j544_43  g34 _ _ ls mFr.rf L34 hJ34 (lv_sub hl [0] rfl)
                              · skip
                                have ic371_99 := congrArg Int32.toInt c371_99
                                have y101 : (1 : Int32).toInt = 1 := by decide
                                have q102 : rg (1) (1) v98 := (rg_eq c371_99 rv98 kc_1).1
                                have uq102 : (1 : Int) ≤ v98.toInt ∧ v98.toInt ≤ 1 := q102
                                refine lv_aload_n hx hb dX12_unit_374 rfl (lv_at hl 0 rfl) ?_
                                refine lv_iload_n hx hb dX12_unit_375 rfl (lv_at hl 1 rfl) ?_
                                refine lv_iload hx hb dX12_unit_376 (lv_at hl 5 rfl) ?_
                                refine m_cv (As := [.int p1, .int b64_0_16]) (rest := []) x hml L34 (c_ready l nn X g34 p1 b64_0_16 hnn hX (rg_w rp1 rfl)) (wm_V uc_ready ul_416 ui_ready us_ready u_init) rfl ⟨rfl, rfl⟩ hd_ready ⟨Nat.le_of_ble_eq_true rfl, Nat.le_of_ble_eq_true rfl⟩ rfl hl.1 rfl (lv_room (Nat.le_of_ble_eq_true rfl)) dX12_unit_378 (fun  g103 H103 k103 hp103 L103 => ?_)
                                refine lv_goto (tgt := 544) hx hb dX12_unit_381 (by decide) ?_
                                exact j544_43  g103 _ _ ls (mFr.tr mFr.rf hp103.1 rfl) L103 (mJ_fr hJ34 hp103.1 rfl) (lv_sub hl [0] rfl)
                          · skip
                            have q104 : rg (3) (3) v10 := ⟨by omega, by omega⟩
                            refine lv_tableIn (off := 119) (tgt := 384) hx hb dX12_unit_265 (by omega) (by omega) (by rw [c265_86]; rfl) (by decide) ?_
                            refine lv_iload hx hb dX12_unit_384 (lv_at hl 4 rfl) ?_
                            refine lv_iconst (v := 1) hx hb dX12_unit_386 (by decide) ?_
                            refine lv_icmp_ne (tgt := 544) hx hb dX12_unit_387 (by decide) (fun c387_105 => ?_) (fun c387_105 => ?_)
                            · skip
                              have ic387_105 : v13.toInt ≠ (1 : Int32).toInt := fun z => c387_105 (Int32.toInt_inj.mp z)
                              have y106 : (1 : Int32).toInt = 1 := by decide
                              have q107 : rg (2) (50) v13 := rg_neL c387_105 rv13 kc_1
                              have uq107 : (2 : Int) ≤ v13.toInt ∧ v13.toInt ≤ 50 := q107
                              exact j544_43  g34 _ _ ls mFr.rf L34 hJ34 (lv_sub hl [0] rfl)
                            · skip
                              have ic387_105 := congrArg Int32.toInt c387_105
                              have y108 : (1 : Int32).toInt = 1 := by decide
                              have q109 : rg (1) (1) v13 := (rg_eq c387_105 rv13 kc_1).1
                              have uq109 : (1 : Int) ≤ v13.toInt ∧ v13.toInt ≤ 1 := q109
                              refine lv_aload_n hx hb dX12_unit_390 rfl (lv_at hl 0 rfl) ?_
                              refine m_geta x L34 40 rfl rfl (wm_in uf_107) dX12_unit_391 ?_
                              refine lv_iload_n hx hb dX12_unit_394 rfl (lv_at hl 1 rfl) ?_
                              refine m_ld x L34 40 rfl rp1 rfl dX12_unit_395 (fun v110 ev110 wv110 => ?_)
                              have rv110 : rg (-2147483648) (2147483647) v110 := lj_40 wv110
                              have uv110 : (-2147483648 : Int) ≤ v110.toInt ∧ v110.toInt ≤ 2147483647 := rv110
                              have j404_111 : ∀ (g111 : mSt) (H111 : Heap) (k111 : List Loc) (ls : Array Slot), mFr [40, 41, 42, 43, 44, 45, 46, 47, 48, 57, 58, 59, 60, 64, 67, 68, 74, 75, 76, 77, 86, 87, 89, 90, 91] g34 g111 → mL G h0 ad H0 nn X g111 H111 k111 → mJ nn [] g111 → lv_has ls 11 [(0, .ref h0), (1, .int p1)] → W p l e rm_unit s m args below meth c H111 k111 0 0 Q (F0 m 404 ls []) := by
                                intro  g111 H111 k111 ls hF111 L111 hJ111  hl
                                refine lv_aload_n hx hb dX12_unit_404 rfl (lv_at hl 0 rfl) ?_
                                refine lv_iload_n hx hb dX12_unit_405 rfl (lv_at hl 1 rfl) ?_
                                refine lv_iconst (v := 4) hx hb dX12_unit_406 (by decide) ?_
                                refine lv_iconst (v := 0) hx hb dX12_unit_407 (by decide) ?_
                                refine m_cv (As := [.int p1, .int (4 : Int32), .int (0 : Int32)]) (rest := []) x hml L111 (c_small l nn X g111 p1 (4 : Int32) (0 : Int32) hnn hX (rg_w rp1 rfl) np1) (wm_V uc_small ul_400 ui_small us_small u_init) rfl ⟨rfl, rfl⟩ hd_small ⟨Nat.le_of_ble_eq_true rfl, Nat.le_of_ble_eq_true rfl⟩ rfl hl.1 rfl (lv_room (Nat.le_of_ble_eq_true rfl)) dX12_unit_408 (fun  g112 H112 k112 hp112 L112 => ?_)
                                refine lv_goto (tgt := 544) hx hb dX12_unit_411 (by decide) ?_
                                exact j544_43  g112 _ _ ls (mFr.tr (mFr.tr mFr.rf hF111 rfl) hp112.1 rfl) L112 (mJ_fr hJ111 hp112.1 rfl) (lv_sub hl [0] rfl)
                              refine lv_if_eq (tgt := 404) hx hb dX12_unit_396 (by decide) (fun c396_113 => ?_) (fun c396_113 => ?_)
                              · skip
                                have ic396_113 := congrArg Int32.toInt c396_113
                                have y114 : (0 : Int32).toInt = 0 := by decide
                                have q115 : rg (0) (0) v110 := (rg_eq c396_113 rv110 kc_0).1
                                have uq115 : (0 : Int) ≤ v110.toInt ∧ v110.toInt ≤ 0 := q115
                                exact j404_111  g34 _ _ ls mFr.rf L34 hJ34 (lv_sub hl [0, 1] rfl)
                              · skip
                                have ic396_113 : v110.toInt ≠ (0 : Int32).toInt := fun z => c396_113 (Int32.toInt_inj.mp z)
                                have y116 : (0 : Int32).toInt = 0 := by decide
                                refine lv_aload_n hx hb dX12_unit_399 rfl (lv_at hl 0 rfl) ?_
                                refine lv_iload_n hx hb dX12_unit_400 rfl (lv_at hl 1 rfl) ?_
                                refine m_cv (As := [.int p1]) (rest := []) x hml L34 (c_cut l nn X g34 p1 hnn hX hJ34 (rg_w rp1 rfl)) (wm_V uc_cut ul_419 ui_cut us_cut u_init) rfl ⟨rfl, rfl⟩ hd_cut ⟨Nat.le_of_ble_eq_true rfl, Nat.le_of_ble_eq_true rfl⟩ rfl hl.1 rfl (lv_room (Nat.le_of_ble_eq_true rfl)) dX12_unit_401 (fun  g117 H117 k117 hp117 L117 => ?_)
                                exact j404_111  g117 _ _ ls (mFr.tr mFr.rf hp117.1 rfl) L117 hp117.2.1 (lv_sub hl [0, 1] rfl)
                          · skip
                            have q118 : rg (4) (4) v10 := ⟨by omega, by omega⟩
                            refine lv_tableIn (off := 149) (tgt := 414) hx hb dX12_unit_265 (by omega) (by omega) (by rw [c265_86]; rfl) (by decide) ?_
                            refine lv_iload hx hb dX12_unit_414 (lv_at hl 4 rfl) ?_
                            refine lv_iconst (v := 1) hx hb dX12_unit_416 (by decide) ?_
                            refine lv_icmp_ne (tgt := 544) hx hb dX12_unit_417 (by decide) (fun c417_119 => ?_) (fun c417_119 => ?_)
                            · skip
                              have ic417_119 : v13.toInt ≠ (1 : Int32).toInt := fun z => c417_119 (Int32.toInt_inj.mp z)
                              have y120 : (1 : Int32).toInt = 1 := by decide
                              have q121 : rg (2) (50) v13 := rg_neL c417_119 rv13 kc_1
                              have uq121 : (2 : Int) ≤ v13.toInt ∧ v13.toInt ≤ 50 := q121
                              exact j544_43  g34 _ _ ls mFr.rf L34 hJ34 (lv_sub hl [0] rfl)
                            · skip
                              have ic417_119 := congrArg Int32.toInt c417_119
                              have y122 : (1 : Int32).toInt = 1 := by decide
                              have q123 : rg (1) (1) v13 := (rg_eq c417_119 rv13 kc_1).1
                              have uq123 : (1 : Int) ≤ v13.toInt ∧ v13.toInt ≤ 1 := q123
                              refine lv_aload_n hx hb dX12_unit_420 rfl (lv_at hl 0 rfl) ?_
                              refine m_geta x L34 40 rfl rfl (wm_in uf_107) dX12_unit_421 ?_
                              refine lv_iload_n hx hb dX12_unit_424 rfl (lv_at hl 1 rfl) ?_
                              refine m_ld x L34 40 rfl rp1 rfl dX12_unit_425 (fun v124 ev124 wv124 => ?_)
                              have rv124 : rg (-2147483648) (2147483647) v124 := lj_40 wv124
                              have uv124 : (-2147483648 : Int) ≤ v124.toInt ∧ v124.toInt ≤ 2147483647 := rv124
                              refine lv_iconst (v := 4) hx hb dX12_unit_426 (by decide) ?_
                              refine lv_icmp_ne (tgt := 544) hx hb dX12_unit_427 (by decide) (fun c427_125 => ?_) (fun c427_125 => ?_)
                              · skip
                                have ic427_125 : v124.toInt ≠ (4 : Int32).toInt := fun z => c427_125 (Int32.toInt_inj.mp z)
                                have y126 : (4 : Int32).toInt = 4 := by decide
                                exact j544_43  g34 _ _ ls mFr.rf L34 hJ34 (lv_sub hl [0] rfl)
                              · skip
                                have ic427_125 := congrArg Int32.toInt c427_125
                                have y127 : (4 : Int32).toInt = 4 := by decide
                                have q128 : rg (4) (4) v124 := (rg_eq c427_125 rv124 kc_4).1
                                have uq128 : (4 : Int) ≤ v124.toInt ∧ v124.toInt ≤ 4 := q128
                                refine lv_aload_n hx hb dX12_unit_430 rfl (lv_at hl 0 rfl) ?_
                                refine m_geta x L34 40 rfl rfl (wm_in uf_107) dX12_unit_431 ?_
                                refine lv_iload_n hx hb dX12_unit_434 rfl (lv_at hl 1 rfl) ?_
                                refine lv_iconst (v := 0) hx hb dX12_unit_435 (by decide) ?_
                                refine m_st x L34 40 rfl rp1 rfl (rj_40 (rg_any (0 : Int32))) dX12_unit_436 (fun g129 H129 k129 eg129 L129 => ?_)
                                refine lv_aload_n hx hb dX12_unit_437 rfl (lv_at hl 0 rfl) ?_
                                refine lv_iload_n hx hb dX12_unit_438 rfl (lv_at hl 1 rfl) ?_
                                refine lv_iconst (v := 0) hx hb dX12_unit_439 (by decide) ?_
                                refine m_cv (As := [.int p1, .int (0 : Int32)]) (rest := []) x hml L129 (c_anew l nn X g129 p1 (0 : Int32) hnn hX (rg_w rp1 rfl)) (wm_V uc_anew ul_388 ui_anew us_anew u_init) rfl ⟨rfl, rfl⟩ hd_anew ⟨Nat.le_of_ble_eq_true rfl, Nat.le_of_ble_eq_true rfl⟩ rfl hl.1 rfl (lv_room (Nat.le_of_ble_eq_true rfl)) dX12_unit_440 (fun  g130 H130 k130 hp130 L130 => ?_)
                                refine lv_goto (tgt := 544) hx hb dX12_unit_443 (by decide) ?_
                                exact j544_43  g130 _ _ ls (mFr.tr (mFr.upE mFr.rf eg129 rfl) hp130.1 rfl) L130 (mJ_fr (mJ_up hJ34 eg129 rfl) hp130.1 rfl) (lv_sub hl [0] rfl)
                          · skip
                            have q131 : rg (5) (5) v10 := ⟨by omega, by omega⟩
                            refine lv_tableIn (off := 181) (tgt := 446) hx hb dX12_unit_265 (by omega) (by omega) (by rw [c265_86]; rfl) (by decide) ?_
                            exact j446_51  g34 _ _ ls mFr.rf L34 hJ34 (lv_sub hl [0, 1, 2, 3, 4, 5] rfl)
                          · skip
                            have q132 : rg (6) (6) v10 := ⟨by omega, by omega⟩
                            refine lv_tableIn (off := 211) (tgt := 476) hx hb dX12_unit_265 (by omega) (by omega) (by rw [c265_86]; rfl) (by decide) ?_
                            exact j476_65  g34 _ _ ls mFr.rf L34 hJ34 (lv_sub hl [0, 1, 2, 4, 5] rfl)
                          · skip
                            have q133 : rg (7) (7) v10 := ⟨by omega, by omega⟩
                            refine lv_tableIn (off := 257) (tgt := 522) hx hb dX12_unit_265 (by omega) (by omega) (by rw [c265_86]; rfl) (by decide) ?_
                            exact j522_44  g34 _ _ ls mFr.rf L34 hJ34 (lv_sub hl [0, 1, 2, 3, 4, 5] rfl)
                          · skip
                            have q134 : rg (8) (8) v10 := ⟨by omega, by omega⟩
                            refine lv_tableIn (off := 257) (tgt := 522) hx hb dX12_unit_265 (by omega) (by omega) (by rw [c265_86]; rfl) (by decide) ?_
                            exact j522_44  g34 _ _ ls mFr.rf L34 hJ34 (lv_sub hl [0, 1, 2, 3, 4, 5] rfl)
                          · skip
                            have q135 : rg (9) (9) v10 := ⟨by omega, by omega⟩
                            refine lv_tableIn (off := 181) (tgt := 446) hx hb dX12_unit_265 (by omega) (by omega) (by rw [c265_86]; rfl) (by decide) ?_
                            exact j446_51  g34 _ _ ls mFr.rf L34 hJ34 (lv_sub hl [0, 1, 2, 3, 4, 5] rfl)
                          · skip
                            have q136 : rg (10) (10) v10 := ⟨by omega, by omega⟩
                            refine lv_tableIn (off := 257) (tgt := 522) hx hb dX12_unit_265 (by omega) (by omega) (by rw [c265_86]; rfl) (by decide) ?_
                            exact j522_44  g34 _ _ ls mFr.rf L34 hJ34 (lv_sub hl [0, 1, 2, 3, 4, 5] rfl)
                          · skip
                            have q137 : rg (11) (11) v10 := ⟨by omega, by omega⟩
                            refine lv_tableIn (off := 257) (tgt := 522) hx hb dX12_unit_265 (by omega) (by omega) (by rw [c265_86]; rfl) (by decide) ?_
                            exact j522_44  g34 _ _ ls mFr.rf L34 hJ34 (lv_sub hl [0, 1, 2, 3, 4, 5] rfl)
                          · skip
                            have q138 : rg (12) (12) v10 := ⟨by omega, by omega⟩
                            refine lv_tableIn (off := 257) (tgt := 522) hx hb dX12_unit_265 (by omega) (by omega) (by rw [c265_86]; rfl) (by decide) ?_
                            exact j522_44  g34 _ _ ls mFr.rf L34 hJ34 (lv_sub hl [0, 1, 2, 3, 4, 5] rfl)
                          · skip
                            have q139 : rg (13) (13) v10 := ⟨by omega, by omega⟩
                            refine lv_tableIn (off := 257) (tgt := 522) hx hb dX12_unit_265 (by omega) (by omega) (by rw [c265_86]; rfl) (by decide) ?_
                            exact j522_44  g34 _ _ ls mFr.rf L34 hJ34 (lv_sub hl [0, 1, 2, 3, 4, 5] rfl)
                          · skip
                            have q140 : rg (14) (14) v10 := ⟨by omega, by omega⟩
                            refine lv_tableIn (off := 257) (tgt := 522) hx hb dX12_unit_265 (by omega) (by omega) (by rw [c265_86]; rfl) (by decide) ?_
                            exact j522_44  g34 _ _ ls mFr.rf L34 hJ34 (lv_sub hl [0, 1, 2, 3, 4, 5] rfl)
                          · skip
                            have q141 : rg (15) (15) v10 := ⟨by omega, by omega⟩
                            refine lv_tableIn (off := 211) (tgt := 476) hx hb dX12_unit_265 (by omega) (by omega) (by rw [c265_86]; rfl) (by decide) ?_
                            exact j476_65  g34 _ _ ls mFr.rf L34 hJ34 (lv_sub hl [0, 1, 2, 4, 5] rfl)
                        · skip
                          have ic260_40 : v38.toInt ≠ (0 : Int32).toInt := fun z => c260_40 (Int32.toInt_inj.mp z)
                          have y142 : (0 : Int32).toInt = 0 := by decide
                          have q143 : rg (1) (3) v38 := rg_neL c260_40 rv38 kc_0
                          have uq143 : (1 : Int) ≤ v38.toInt ∧ v38.toInt ≤ 3 := q143
                          exact hQ _ _ _ _ _ dX12_unit_263 L34 ⟨(mFr.tr (mFr.tr (mFr.tr (mFr.tr (mFr.tr (mFr.tr (mFr.tr (mFr.tr (mFr.tr mFr.rf hp7.1 rfl) hF17 rfl) hF19 rfl) hF21 rfl) hF23 rfl) hF25 rfl) hF32 rfl) hF33 rfl) hF34 rfl), hJ34, trivial⟩
                      · skip
                        have ic216_35 := congrArg Int32.toInt c216_35
                        have y144 : (8 : Int32).toInt = 8 := by decide
                        have q145 : rg (8) (8) v10 := (rg_eq c216_35 rv10 kc_8).1
                        have uq145 : (8 : Int) ≤ v10.toInt ∧ v10.toInt ≤ 8 := q145
                        refine lv_aload_n hx hb dX12_unit_219 rfl (lv_at hl 0 rfl) ?_
                        refine m_geti x L34 34 rfl rfl (wm_in uf_357) dX12_unit_220 (fun v146 ev146 wv146 => ?_)
                        refine m_top (((mm_fr (mm_fr (mm_fr (mm_fr (mm_fr (mm_fr (mm_fr (mm_fr (mm_fr ev1 hp7.1 rfl) hF17 rfl) hF19 rfl) hF21 rfl) hF23 rfl) hF25 rfl) hF32 rfl) hF33 rfl) hF34 rfl)).trans ev146.symm) ?_
                        refine lv_bipush (v := 64) hx hb dX12_unit_223 (by decide) ?_
                        have j253_147 : ∀ (g147 : mSt) (H147 : Heap) (k147 : List Loc) (ls : Array Slot), mFr [4, 5, 7, 8, 9, 10, 11, 33, 46, 47, 58, 59, 60, 65, 66, 67, 68, 69, 70, 71, 72, 73, 74, 75, 76, 77, 78, 79, 80, 81, 86, 87, 89, 90, 91] g34 g147 → mL G h0 ad H0 nn X g147 H147 k147 → mJ nn [] g147 → lv_has ls 11 [(0, .ref h0)] → W p l e rm_unit s m args below meth c H147 k147 0 0 Q (F0 m 253 ls []) := by
                          intro  g147 H147 k147 ls hF147 L147 hJ147  hl
                          exact hQ _ _ _ _ _ dX12_unit_253 L147 ⟨(mFr.tr (mFr.tr (mFr.tr (mFr.tr (mFr.tr (mFr.tr (mFr.tr (mFr.tr (mFr.tr (mFr.tr mFr.rf hp7.1 rfl) hF17 rfl) hF19 rfl) hF21 rfl) hF23 rfl) hF25 rfl) hF32 rfl) hF33 rfl) hF34 rfl) hF147 rfl), hJ147, trivial⟩
                        refine lv_icmp_gt (tgt := 253) hx hb dX12_unit_225 (by decide) (fun c225_148 => ?_) (fun c225_148 => ?_)
                        · skip
                          have ic225_148 := Int32.lt_iff_toInt_lt.mp c225_148
                          have q149 : rg (65) (200) v1 := (rg_lt c225_148 kc_64 q3).2
                          have uq149 : (65 : Int) ≤ v1.toInt ∧ v1.toInt ≤ 200 := q149
                          exact j253_147  g34 _ _ ls mFr.rf L34 hJ34 (lv_sub hl [0] rfl)
                        · skip
                          have ic225_148 := Int32.le_iff_toInt_le.mp (rg_nlt c225_148)
                          have q150 : rg (4) (64) v1 := (rg_le (rg_nlt c225_148) q3 kc_64).1
                          have uq150 : (4 : Int) ≤ v1.toInt ∧ v1.toInt ≤ 64 := q150
                          refine lv_aload_n hx hb dX12_unit_228 rfl (lv_at hl 0 rfl) ?_
                          refine m_geti x L34 34 rfl rfl (wm_in uf_357) dX12_unit_229 (fun v151 ev151 wv151 => ?_)
                          refine m_top (((mm_fr (mm_fr (mm_fr (mm_fr (mm_fr (mm_fr (mm_fr (mm_fr (mm_fr ev1 hp7.1 rfl) hF17 rfl) hF19 rfl) hF21 rfl) hF23 rfl) hF25 rfl) hF32 rfl) hF33 rfl) hF34 rfl)).trans ev151.symm) ?_
                          refine lv_iconst (v := 4) hx hb dX12_unit_232 (by decide) ?_
                          refine lv_icmp_le (tgt := 253) hx hb dX12_unit_233 (by decide) (fun c233_152 => ?_) (fun c233_152 => ?_)
                          · skip
                            have ic233_152 := Int32.le_iff_toInt_le.mp c233_152
                            have q153 : rg (4) (4) v1 := (rg_le c233_152 q150 kc_4).1
                            have uq153 : (4 : Int) ≤ v1.toInt ∧ v1.toInt ≤ 4 := q153
                            exact j253_147  g34 _ _ ls mFr.rf L34 hJ34 (lv_sub hl [0] rfl)
                          · skip
                            have ic233_152 := Int32.lt_iff_toInt_lt.mp (rg_nle c233_152)
                            have q154 : rg (5) (64) v1 := (rg_lt (rg_nle c233_152) kc_4 q150).2
                            have uq154 : (5 : Int) ≤ v1.toInt ∧ v1.toInt ≤ 64 := q154
                            refine lv_aload_n hx hb dX12_unit_236 rfl (lv_at hl 0 rfl) ?_
                            refine m_geta x L34 40 rfl rfl (wm_in uf_107) dX12_unit_237 ?_
                            refine lv_iload_n hx hb dX12_unit_240 rfl (lv_at hl 1 rfl) ?_
                            refine m_ld x L34 40 rfl rp1 rfl dX12_unit_241 (fun v155 ev155 wv155 => ?_)
                            have rv155 : rg (-2147483648) (2147483647) v155 := lj_40 wv155
                            have uv155 : (-2147483648 : Int) ≤ v155.toInt ∧ v155.toInt ≤ 2147483647 := rv155
                            refine lv_iconst (v := 2) hx hb dX12_unit_242 (by decide) ?_
                            refine lv_icmp_ne (tgt := 253) hx hb dX12_unit_243 (by decide) (fun c243_156 => ?_) (fun c243_156 => ?_)
                            · skip
                              have ic243_156 : v155.toInt ≠ (2 : Int32).toInt := fun z => c243_156 (Int32.toInt_inj.mp z)
                              have y157 : (2 : Int32).toInt = 2 := by decide
                              exact j253_147  g34 _ _ ls mFr.rf L34 hJ34 (lv_sub hl [0] rfl)
                            · skip
                              have ic243_156 := congrArg Int32.toInt c243_156
                              have y158 : (2 : Int32).toInt = 2 := by decide
                              have q159 : rg (2) (2) v155 := (rg_eq c243_156 rv155 kc_2).1
                              have uq159 : (2 : Int) ≤ v155.toInt ∧ v155.toInt ≤ 2 := q159
                              refine lv_aload_n hx hb dX12_unit_246 rfl (lv_at hl 0 rfl) ?_
                              refine lv_iload_n hx hb dX12_unit_247 rfl (lv_at hl 1 rfl) ?_
                              refine lv_iload hx hb dX12_unit_248 (lv_at hl 3 rfl) ?_
                              refine m_cv (As := [.int p1, .int v11]) (rest := []) x hml L34 (c_data l nn X g34 p1 v11 hnn hX hJ34 (rg_w rp1 rfl) np1 (rg_w rv11 rfl) (rg_eqv (mm_fr (mm_fr (mm_fr (mm_fr (mm_fr (mm_fr (mm_fr (mm_fr (mm_fr ev1 hp7.1 rfl) hF17 rfl) hF19 rfl) hF21 rfl) hF23 rfl) hF25 rfl) hF32 rfl) hF33 rfl) hF34 rfl) (rg_w q154 rfl))) (wm_V uc_data ul_410 ui_data us_data u_init) rfl ⟨rfl, rfl⟩ hd_data ⟨Nat.le_of_ble_eq_true rfl, Nat.le_of_ble_eq_true rfl⟩ rfl hl.1 rfl (lv_room (Nat.le_of_ble_eq_true rfl)) dX12_unit_250 (fun  g160 H160 k160 hp160 L160 => ?_)
                              exact j253_147  g160 _ _ ls (mFr.tr mFr.rf hp160.1 rfl) L160 hp160.2.1 (lv_sub hl [0] rfl)
                    refine lv_if_eq (tgt := 213) hx hb dX12_unit_199 (by decide) (fun c199_161 => ?_) (fun c199_161 => ?_)
                    · skip
                      have ic199_161 := congrArg Int32.toInt c199_161
                      have y162 : (0 : Int32).toInt = 0 := by decide
                      have q163 : rg (0) (0) b130_0_22 := (rg_eq c199_161 rb130_0_22 kc_0).1
                      have uq163 : (0 : Int) ≤ b130_0_22.toInt ∧ b130_0_22.toInt ≤ 0 := q163
                      exact j213_34  g33 _ _ ls mFr.rf L33 hJ33 (lv_sub hl [0, 1, 2, 3, 4, 5] rfl)
                    · skip
                      have ic199_161 : b130_0_22.toInt ≠ (0 : Int32).toInt := fun z => c199_161 (Int32.toInt_inj.mp z)
                      have y164 : (0 : Int32).toInt = 0 := by decide
                      have q165 : rg (1) (1) b130_0_22 := rg_neL c199_161 rb130_0_22 kc_0
                      have uq165 : (1 : Int) ≤ b130_0_22.toInt ∧ b130_0_22.toInt ≤ 1 := q165
                      refine lv_iload hx hb dX12_unit_202 (lv_at hl 5 rfl) ?_
                      refine lv_iload hx hb dX12_unit_204 (lv_at hl 3 rfl) ?_
                      refine lv_bipush (v := 8) hx hb dX12_unit_206 (by decide) ?_
                      refine lv_iadd hx hb dX12_unit_208 ?_
                      refine lv_topi (fun v166 ev166 => ?_)
                      have rv166 : rg (8) (16777223) v166 := (rg_add ev166 rv11 kc_8 rfl).1
                      have tv166 := (rg_add ev166 rv11 kc_8 rfl).2
                      have y167 : (8 : Int32).toInt = 8 := by decide
                      have uv166 : (8 : Int) ≤ v166.toInt ∧ v166.toInt ≤ 16777223 := rv166
                      refine lv_icmp_eq (tgt := 213) hx hb dX12_unit_209 (by decide) (fun c209_168 => ?_) (fun c209_168 => ?_)
                      · skip
                        have ic209_168 := congrArg Int32.toInt c209_168
                        have q169 : rg (8) (16777223) b64_0_16 := (rg_eq c209_168 rb64_0_16 rv166).1
                        have uq169 : (8 : Int) ≤ b64_0_16.toInt ∧ b64_0_16.toInt ≤ 16777223 := q169
                        exact j213_34  g33 _ _ ls mFr.rf L33 hJ33 (lv_sub hl [0, 1, 2, 3, 4, 5] rfl)
                      · skip
                        have ic209_168 : b64_0_16.toInt ≠ v166.toInt := fun z => c209_168 (Int32.toInt_inj.mp z)
                        exact j212_26  g33 _ _ ls (mFr.tr (mFr.tr mFr.rf hF32 rfl) hF33 rfl) L33 hJ33 (lv_sub hl [0] rfl)
                  have j190_170 : ∀ (g170 : mSt) (H170 : Heap) (k170 : List Loc) (ls : Array Slot), mFr [] g32 g170 → mL G h0 ad H0 nn X g170 H170 k170 → mJ nn [] g170 → lv_has ls 11 [(0, .ref h0), (1, .int p1), (3, .int v10), (4, .int v11), (5, .int v13), (6, .int b64_0_16), (9, .int b130_0_22)] → W p l e rm_unit s m args below meth c H170 k170 0 0 Q (F0 m 190 ls []) := by
                    intro  g170 H170 k170 ls hF170 L170 hJ170  hl
                    refine lv_iload hx hb dX12_unit_190 (lv_at hl 5 rfl) ?_
                    refine lv_bipush (v := 8) hx hb dX12_unit_192 (by decide) ?_
                    refine lv_icmp_ne (tgt := 212) hx hb dX12_unit_194 (by decide) (fun c194_171 => ?_) (fun c194_171 => ?_)
                    · skip
                      have ic194_171 : b64_0_16.toInt ≠ (8 : Int32).toInt := fun z => c194_171 (Int32.toInt_inj.mp z)
                      have y172 : (8 : Int32).toInt = 8 := by decide
                      exact j212_26  g170 _ _ ls (mFr.tr (mFr.tr mFr.rf hF32 rfl) hF170 rfl) L170 hJ170 (lv_sub hl [0] rfl)
                    · skip
                      have ic194_171 := congrArg Int32.toInt c194_171
                      have y173 : (8 : Int32).toInt = 8 := by decide
                      have q174 : rg (8) (8) b64_0_16 := (rg_eq c194_171 rb64_0_16 kc_8).1
                      have uq174 : (8 : Int) ≤ b64_0_16.toInt ∧ b64_0_16.toInt ≤ 8 := q174
                      exact j197_33  g170 _ _ ls (mFr.tr mFr.rf hF170 rfl) L170 hJ170 (lv_sub hl [0, 1, 2, 3, 4, 5, 6] rfl)
                  refine lv_if_ne (tgt := 190) hx hb dX12_unit_182 (by decide) (fun c182_175 => ?_) (fun c182_175 => ?_)
                  · skip
                    have ic182_175 : b87_0_18.toInt ≠ (0 : Int32).toInt := fun z => c182_175 (Int32.toInt_inj.mp z)
                    have y176 : (0 : Int32).toInt = 0 := by decide
                    have q177 : rg (1) (1) b87_0_18 := rg_neL c182_175 rb87_0_18 kc_0
                    have uq177 : (1 : Int) ≤ b87_0_18.toInt ∧ b87_0_18.toInt ≤ 1 := q177
                    exact j190_170  g32 _ _ ls mFr.rf L32 hJ32 (lv_sub hl [0, 1, 2, 3, 4, 5, 8] rfl)
                  · skip
                    have ic182_175 := congrArg Int32.toInt c182_175
                    have y178 : (0 : Int32).toInt = 0 := by decide
                    have q179 : rg (0) (0) b87_0_18 := (rg_eq c182_175 rb87_0_18 kc_0).1
                    have uq179 : (0 : Int) ≤ b87_0_18.toInt ∧ b87_0_18.toInt ≤ 0 := q179
                    refine lv_iload hx hb dX12_unit_185 (lv_at hl 7 rfl) ?_
                    refine lv_if_eq (tgt := 197) hx hb dX12_unit_187 (by decide) (fun c187_180 => ?_) (fun c187_180 => ?_)
                    · skip
                      have ic187_180 := congrArg Int32.toInt c187_180
                      have y181 : (0 : Int32).toInt = 0 := by decide
                      have q182 : rg (0) (0) b111_0_20 := (rg_eq c187_180 rb111_0_20 kc_0).1
                      have uq182 : (0 : Int) ≤ b111_0_20.toInt ∧ b111_0_20.toInt ≤ 0 := q182
                      exact j197_33  g32 _ _ ls mFr.rf L32 hJ32 (lv_sub hl [0, 1, 2, 3, 4, 5, 8] rfl)
                    · skip
                      have ic187_180 : b111_0_20.toInt ≠ (0 : Int32).toInt := fun z => c187_180 (Int32.toInt_inj.mp z)
                      have y183 : (0 : Int32).toInt = 0 := by decide
                      have q184 : rg (1) (1) b111_0_20 := rg_neL c187_180 rb111_0_20 kc_0
                      have uq184 : (1 : Int) ≤ b111_0_20.toInt ∧ b111_0_20.toInt ≤ 1 := q184
                      exact j190_170  g32 _ _ ls mFr.rf L32 hJ32 (lv_sub hl [0, 1, 2, 3, 4, 5, 8] rfl)
                refine lv_if_eq (tgt := 180) hx hb dX12_unit_172 (by decide) (fun c172_185 => ?_) (fun c172_185 => ?_)
                · skip
                  have ic172_185 := congrArg Int32.toInt c172_185
                  have y186 : (0 : Int32).toInt = 0 := by decide
                  have q187 : rg (0) (0) b87_0_18 := (rg_eq c172_185 rb87_0_18 kc_0).1
                  have uq187 : (0 : Int) ≤ b87_0_18.toInt ∧ b87_0_18.toInt ≤ 0 := q187
                  exact j180_32  g25 _ _ ls mFr.rf L25 hJ25 (lv_sub hl [1, 2, 3, 4, 5, 6, 7, 8, 9] rfl)
                · skip
                  have ic172_185 : b87_0_18.toInt ≠ (0 : Int32).toInt := fun z => c172_185 (Int32.toInt_inj.mp z)
                  have y188 : (0 : Int32).toInt = 0 := by decide
                  have q189 : rg (1) (1) b87_0_18 := rg_neL c172_185 rb87_0_18 kc_0
                  have uq189 : (1 : Int) ≤ b87_0_18.toInt ∧ b87_0_18.toInt ≤ 1 := q189
                  refine lv_iload hx hb dX12_unit_175 (lv_at hl 4 rfl) ?_
                  refine lv_if_eq (tgt := 212) hx hb dX12_unit_177 (by decide) (fun c177_190 => ?_) (fun c177_190 => ?_)
                  · skip
                    have ic177_190 := congrArg Int32.toInt c177_190
                    have y191 : (0 : Int32).toInt = 0 := by decide
                    have q192 : rg (0) (0) v11 := (rg_eq c177_190 rv11 kc_0).1
                    have uq192 : (0 : Int) ≤ v11.toInt ∧ v11.toInt ≤ 0 := q192
                    exact j212_26  g25 _ _ ls mFr.rf L25 hJ25 (lv_sub hl [1] rfl)
                  · skip
                    have ic177_190 : v11.toInt ≠ (0 : Int32).toInt := fun z => c177_190 (Int32.toInt_inj.mp z)
                    have y193 : (0 : Int32).toInt = 0 := by decide
                    have q194 : rg (1) (16777215) v11 := rg_neL c177_190 rv11 kc_0
                    have uq194 : (1 : Int) ≤ v11.toInt ∧ v11.toInt ≤ 16777215 := q194
                    exact j180_32  g25 _ _ ls mFr.rf L25 hJ25 (lv_sub hl [1, 2, 3, 4, 5, 6, 7, 8, 9] rfl)
            have j158_195 : ∀ (g195 : mSt) (H195 : Heap) (k195 : List Loc) (ls : Array Slot), mFr [] g23 g195 → mL G h0 ad H0 nn X g195 H195 k195 → mJ nn [] g195 → lv_has ls 11 [(0, .ref h0), (1, .int p1), (3, .int v10), (4, .int v11), (5, .int v13), (6, .int b64_0_16), (7, .int b87_0_18), (8, .int b111_0_20), (9, .int b130_0_22)] → W p l e rm_unit s m args below meth c H195 k195 0 0 Q (F0 m 158 ls []) := by
              intro  g195 H195 k195 ls hF195 L195 hJ195  hl
              refine lv_iconst (v := 1) hx hb dX12_unit_158 (by decide) ?_
              refine lv_goto (tgt := 163) hx hb dX12_unit_159 (by decide) ?_
              have y196 : (1 : Int32).toInt = 1 := by decide
              exact j163_25 (1 : Int32) g195 _ _ ls (mFr.tr mFr.rf hF195 rfl) L195 hJ195 (rg_w kc_1 rfl) (lv_sub hl [0, 1, 2, 3, 4, 5, 6, 7, 8] rfl)
            have j147_197 : ∀ (g197 : mSt) (H197 : Heap) (k197 : List Loc) (ls : Array Slot), mFr [] g23 g197 → mL G h0 ad H0 nn X g197 H197 k197 → mJ nn [] g197 → lv_has ls 11 [(0, .ref h0), (1, .int p1), (3, .int v10), (4, .int v11), (5, .int v13), (6, .int b64_0_16), (7, .int b87_0_18), (8, .int b111_0_20), (9, .int b130_0_22)] → W p l e rm_unit s m args below meth c H197 k197 0 0 Q (F0 m 147 ls []) := by
              intro  g197 H197 k197 ls hF197 L197 hJ197  hl
              refine lv_iload_n hx hb dX12_unit_147 rfl (lv_at hl 2 rfl) ?_
              refine lv_iconst (v := 3) hx hb dX12_unit_148 (by decide) ?_
              have j162_198 : ∀ (g198 : mSt) (H198 : Heap) (k198 : List Loc) (ls : Array Slot), mFr [] g197 g198 → mL G h0 ad H0 nn X g198 H198 k198 → mJ nn [] g198 → lv_has ls 11 [(0, .ref h0), (1, .int p1), (3, .int v10), (4, .int v11), (5, .int v13), (6, .int b64_0_16), (7, .int b87_0_18), (8, .int b111_0_20), (9, .int b130_0_22)] → W p l e rm_unit s m args below meth c H198 k198 0 0 Q (F0 m 162 ls []) := by
                intro  g198 H198 k198 ls hF198 L198 hJ198  hl
                refine lv_iconst (v := 0) hx hb dX12_unit_162 (by decide) ?_
                have y199 : (0 : Int32).toInt = 0 := by decide
                exact j163_25 (0 : Int32) g198 _ _ ls (mFr.tr (mFr.tr mFr.rf hF197 rfl) hF198 rfl) L198 hJ198 (rg_w kc_0 rfl) (lv_sub hl [0, 1, 2, 3, 4, 5, 6, 7, 8] rfl)
              refine lv_icmp_ne (tgt := 162) hx hb dX12_unit_149 (by decide) (fun c149_200 => ?_) (fun c149_200 => ?_)
              · skip
                have ic149_200 : v10.toInt ≠ (3 : Int32).toInt := fun z => c149_200 (Int32.toInt_inj.mp z)
                have y201 : (3 : Int32).toInt = 3 := by decide
                exact j162_198  g197 _ _ ls mFr.rf L197 hJ197 (lv_sub hl [0, 1, 2, 3, 4, 5, 6, 7, 8] rfl)
              · skip
                have ic149_200 := congrArg Int32.toInt c149_200
                have y202 : (3 : Int32).toInt = 3 := by decide
                have q203 : rg (3) (3) v10 := (rg_eq c149_200 rv10 kc_3).1
                have uq203 : (3 : Int) ≤ v10.toInt ∧ v10.toInt ≤ 3 := q203
                refine lv_iload hx hb dX12_unit_152 (lv_at hl 3 rfl) ?_
                refine lv_iconst (v := 1) hx hb dX12_unit_154 (by decide) ?_
                refine lv_icmp_le (tgt := 162) hx hb dX12_unit_155 (by decide) (fun c155_204 => ?_) (fun c155_204 => ?_)
                · skip
                  have ic155_204 := Int32.le_iff_toInt_le.mp c155_204
                  have q205 : rg (0) (1) v11 := (rg_le c155_204 rv11 kc_1).1
                  have uq205 : (0 : Int) ≤ v11.toInt ∧ v11.toInt ≤ 1 := q205
                  exact j162_198  g197 _ _ ls mFr.rf L197 hJ197 (lv_sub hl [0, 1, 2, 3, 4, 5, 6, 7, 8] rfl)
                · skip
                  have ic155_204 := Int32.lt_iff_toInt_lt.mp (rg_nle c155_204)
                  have q206 : rg (2) (16777215) v11 := (rg_lt (rg_nle c155_204) kc_1 rv11).2
                  have uq206 : (2 : Int) ≤ v11.toInt ∧ v11.toInt ≤ 16777215 := q206
                  exact j158_195  g197 _ _ ls (mFr.tr mFr.rf hF197 rfl) L197 hJ197 (lv_sub hl [0, 1, 2, 3, 4, 5, 6, 7, 8] rfl)
            have j142_207 : ∀ (g207 : mSt) (H207 : Heap) (k207 : List Loc) (ls : Array Slot), mFr [] g23 g207 → mL G h0 ad H0 nn X g207 H207 k207 → mJ nn [] g207 → lv_has ls 11 [(0, .ref h0), (1, .int p1), (3, .int v10), (4, .int v11), (5, .int v13), (6, .int b64_0_16), (7, .int b87_0_18), (8, .int b111_0_20), (9, .int b130_0_22)] → W p l e rm_unit s m args below meth c H207 k207 0 0 Q (F0 m 142 ls []) := by
              intro  g207 H207 k207 ls hF207 L207 hJ207  hl
              refine lv_iload hx hb dX12_unit_142 (lv_at hl 3 rfl) ?_
              refine lv_if_ne (tgt := 158) hx hb dX12_unit_144 (by decide) (fun c144_208 => ?_) (fun c144_208 => ?_)
              · skip
                have ic144_208 : v11.toInt ≠ (0 : Int32).toInt := fun z => c144_208 (Int32.toInt_inj.mp z)
                have y209 : (0 : Int32).toInt = 0 := by decide
                have q210 : rg (1) (16777215) v11 := rg_neL c144_208 rv11 kc_0
                have uq210 : (1 : Int) ≤ v11.toInt ∧ v11.toInt ≤ 16777215 := q210
                exact j158_195  g207 _ _ ls (mFr.tr mFr.rf hF207 rfl) L207 hJ207 (lv_sub hl [0, 1, 2, 3, 4, 5, 6, 7, 8] rfl)
              · skip
                have ic144_208 := congrArg Int32.toInt c144_208
                have y211 : (0 : Int32).toInt = 0 := by decide
                have q212 : rg (0) (0) v11 := (rg_eq c144_208 rv11 kc_0).1
                have uq212 : (0 : Int) ≤ v11.toInt ∧ v11.toInt ≤ 0 := q212
                exact j147_197  g207 _ _ ls (mFr.tr mFr.rf hF207 rfl) L207 hJ207 (lv_sub hl [0, 1, 2, 3, 4, 5, 6, 7, 8] rfl)
            refine lv_if_ne (tgt := 142) hx hb dX12_unit_134 (by decide) (fun c134_213 => ?_) (fun c134_213 => ?_)
            · skip
              have ic134_213 : b111_0_20.toInt ≠ (0 : Int32).toInt := fun z => c134_213 (Int32.toInt_inj.mp z)
              have y214 : (0 : Int32).toInt = 0 := by decide
              have q215 : rg (1) (1) b111_0_20 := rg_neL c134_213 rb111_0_20 kc_0
              have uq215 : (1 : Int) ≤ b111_0_20.toInt ∧ b111_0_20.toInt ≤ 1 := q215
              exact j142_207  g23 _ _ ls mFr.rf L23 hJ23 (lv_sub hl [1, 2, 3, 4, 5, 6, 7, 8, 0] rfl)
            · skip
              have ic134_213 := congrArg Int32.toInt c134_213
              have y216 : (0 : Int32).toInt = 0 := by decide
              have q217 : rg (0) (0) b111_0_20 := (rg_eq c134_213 rb111_0_20 kc_0).1
              have uq217 : (0 : Int) ≤ b111_0_20.toInt ∧ b111_0_20.toInt ≤ 0 := q217
              refine lv_iload_n hx hb dX12_unit_137 rfl (lv_at hl 3 rfl) ?_
              refine lv_iconst (v := 4) hx hb dX12_unit_138 (by decide) ?_
              refine lv_icmp_ne (tgt := 147) hx hb dX12_unit_139 (by decide) (fun c139_218 => ?_) (fun c139_218 => ?_)
              · skip
                have ic139_218 : v10.toInt ≠ (4 : Int32).toInt := fun z => c139_218 (Int32.toInt_inj.mp z)
                have y219 : (4 : Int32).toInt = 4 := by decide
                exact j147_197  g23 _ _ ls mFr.rf L23 hJ23 (lv_sub hl [1, 2, 3, 4, 5, 6, 7, 8, 0] rfl)
              · skip
                have ic139_218 := congrArg Int32.toInt c139_218
                have y220 : (4 : Int32).toInt = 4 := by decide
                have q221 : rg (4) (4) v10 := (rg_eq c139_218 rv10 kc_4).1
                have uq221 : (4 : Int) ≤ v10.toInt ∧ v10.toInt ≤ 4 := q221
                exact j142_207  g23 _ _ ls mFr.rf L23 hJ23 (lv_sub hl [1, 2, 3, 4, 5, 6, 7, 8, 0] rfl)
          have j125_222 : ∀ (g222 : mSt) (H222 : Heap) (k222 : List Loc) (ls : Array Slot), mFr [] g21 g222 → mL G h0 ad H0 nn X g222 H222 k222 → mJ nn [] g222 → lv_has ls 11 [(0, .ref h0), (1, .int p1), (3, .int v10), (4, .int v11), (5, .int v13), (6, .int b64_0_16), (7, .int b87_0_18), (8, .int b111_0_20)] → W p l e rm_unit s m args below meth c H222 k222 0 0 Q (F0 m 125 ls []) := by
            intro  g222 H222 k222 ls hF222 L222 hJ222  hl
            refine lv_iconst (v := 1) hx hb dX12_unit_125 (by decide) ?_
            refine lv_goto (tgt := 130) hx hb dX12_unit_126 (by decide) ?_
            have y223 : (1 : Int32).toInt = 1 := by decide
            exact j130_23 (1 : Int32) g222 _ _ ls (mFr.tr mFr.rf hF222 rfl) L222 hJ222 (rg_w kc_1 rfl) (lv_sub hl [0, 1, 2, 3, 4, 5, 6, 7] rfl)
          refine lv_icmp_eq (tgt := 125) hx hb dX12_unit_116 (by decide) (fun c116_224 => ?_) (fun c116_224 => ?_)
          · skip
            have ic116_224 := congrArg Int32.toInt c116_224
            have y225 : (11 : Int32).toInt = 11 := by decide
            have q226 : rg (11) (11) v10 := (rg_eq c116_224 rv10 kc_11).1
            have uq226 : (11 : Int) ≤ v10.toInt ∧ v10.toInt ≤ 11 := q226
            exact j125_222  g21 _ _ ls mFr.rf L21 hJ21 (lv_sub hl [1, 2, 3, 4, 5, 6, 7, 0] rfl)
          · skip
            have ic116_224 : v10.toInt ≠ (11 : Int32).toInt := fun z => c116_224 (Int32.toInt_inj.mp z)
            have y227 : (11 : Int32).toInt = 11 := by decide
            refine lv_iload_n hx hb dX12_unit_119 rfl (lv_at hl 3 rfl) ?_
            refine lv_bipush (v := 12) hx hb dX12_unit_120 (by decide) ?_
            refine lv_icmp_ne (tgt := 129) hx hb dX12_unit_122 (by decide) (fun c122_228 => ?_) (fun c122_228 => ?_)
            · skip
              have ic122_228 : v10.toInt ≠ (12 : Int32).toInt := fun z => c122_228 (Int32.toInt_inj.mp z)
              have y229 : (12 : Int32).toInt = 12 := by decide
              refine lv_iconst (v := 0) hx hb dX12_unit_129 (by decide) ?_
              have y230 : (0 : Int32).toInt = 0 := by decide
              exact j130_23 (0 : Int32) g21 _ _ ls mFr.rf L21 hJ21 (rg_w kc_0 rfl) (lv_sub hl [1, 2, 3, 4, 5, 6, 7, 0] rfl)
            · skip
              have ic122_228 := congrArg Int32.toInt c122_228
              have y231 : (12 : Int32).toInt = 12 := by decide
              have q232 : rg (12) (12) v10 := (rg_eq c122_228 rv10 kc_12).1
              have uq232 : (12 : Int) ≤ v10.toInt ∧ v10.toInt ≤ 12 := q232
              exact j125_222  g21 _ _ ls mFr.rf L21 hJ21 (lv_sub hl [1, 2, 3, 4, 5, 6, 7, 0] rfl)
        have j106_233 : ∀ (g233 : mSt) (H233 : Heap) (k233 : List Loc) (ls : Array Slot), mFr [] g19 g233 → mL G h0 ad H0 nn X g233 H233 k233 → mJ nn [] g233 → lv_has ls 11 [(0, .ref h0), (1, .int p1), (3, .int v10), (4, .int v11), (5, .int v13), (6, .int b64_0_16), (7, .int b87_0_18)] → W p l e rm_unit s m args below meth c H233 k233 0 0 Q (F0 m 106 ls []) := by
          intro  g233 H233 k233 ls hF233 L233 hJ233  hl
          refine lv_iconst (v := 1) hx hb dX12_unit_106 (by decide) ?_
          refine lv_goto (tgt := 111) hx hb dX12_unit_107 (by decide) ?_
          have y234 : (1 : Int32).toInt = 1 := by decide
          exact j111_21 (1 : Int32) g233 _ _ ls (mFr.tr mFr.rf hF233 rfl) L233 hJ233 (rg_w kc_1 rfl) (lv_sub hl [0, 1, 2, 3, 4, 5, 6] rfl)
        refine lv_icmp_eq (tgt := 106) hx hb dX12_unit_91 (by decide) (fun c91_235 => ?_) (fun c91_235 => ?_)
        · skip
          have ic91_235 := congrArg Int32.toInt c91_235
          have y236 : (2 : Int32).toInt = 2 := by decide
          have q237 : rg (2) (2) v10 := (rg_eq c91_235 rv10 kc_2).1
          have uq237 : (2 : Int) ≤ v10.toInt ∧ v10.toInt ≤ 2 := q237
          exact j106_233  g19 _ _ ls mFr.rf L19 hJ19 (lv_sub hl [1, 2, 3, 4, 5, 6, 0] rfl)
        · skip
          have ic91_235 : v10.toInt ≠ (2 : Int32).toInt := fun z => c91_235 (Int32.toInt_inj.mp z)
          have y238 : (2 : Int32).toInt = 2 := by decide
          refine lv_iload_n hx hb dX12_unit_94 rfl (lv_at hl 3 rfl) ?_
          refine lv_bipush (v := 6) hx hb dX12_unit_95 (by decide) ?_
          refine lv_icmp_eq (tgt := 106) hx hb dX12_unit_97 (by decide) (fun c97_239 => ?_) (fun c97_239 => ?_)
          · skip
            have ic97_239 := congrArg Int32.toInt c97_239
            have y240 : (6 : Int32).toInt = 6 := by decide
            have q241 : rg (6) (6) v10 := (rg_eq c97_239 rv10 kc_6).1
            have uq241 : (6 : Int) ≤ v10.toInt ∧ v10.toInt ≤ 6 := q241
            exact j106_233  g19 _ _ ls mFr.rf L19 hJ19 (lv_sub hl [1, 2, 3, 4, 5, 6, 0] rfl)
          · skip
            have ic97_239 : v10.toInt ≠ (6 : Int32).toInt := fun z => c97_239 (Int32.toInt_inj.mp z)
            have y242 : (6 : Int32).toInt = 6 := by decide
            refine lv_iload_n hx hb dX12_unit_100 rfl (lv_at hl 3 rfl) ?_
            refine lv_bipush (v := 15) hx hb dX12_unit_101 (by decide) ?_
            refine lv_icmp_ne (tgt := 110) hx hb dX12_unit_103 (by decide) (fun c103_243 => ?_) (fun c103_243 => ?_)
            · skip
              have ic103_243 : v10.toInt ≠ (15 : Int32).toInt := fun z => c103_243 (Int32.toInt_inj.mp z)
              have y244 : (15 : Int32).toInt = 15 := by decide
              refine lv_iconst (v := 0) hx hb dX12_unit_110 (by decide) ?_
              have y245 : (0 : Int32).toInt = 0 := by decide
              exact j111_21 (0 : Int32) g19 _ _ ls mFr.rf L19 hJ19 (rg_w kc_0 rfl) (lv_sub hl [1, 2, 3, 4, 5, 6, 0] rfl)
            · skip
              have ic103_243 := congrArg Int32.toInt c103_243
              have y246 : (15 : Int32).toInt = 15 := by decide
              have q247 : rg (15) (15) v10 := (rg_eq c103_243 rv10 kc_15).1
              have uq247 : (15 : Int) ≤ v10.toInt ∧ v10.toInt ≤ 15 := q247
              exact j106_233  g19 _ _ ls mFr.rf L19 hJ19 (lv_sub hl [1, 2, 3, 4, 5, 6, 0] rfl)
      have j82_248 : ∀ (g248 : mSt) (H248 : Heap) (k248 : List Loc) (ls : Array Slot), mFr [] g17 g248 → mL G h0 ad H0 nn X g248 H248 k248 → mJ nn [] g248 → lv_has ls 11 [(0, .ref h0), (1, .int p1), (3, .int v10), (4, .int v11), (5, .int v13), (6, .int b64_0_16)] → W p l e rm_unit s m args below meth c H248 k248 0 0 Q (F0 m 82 ls []) := by
        intro  g248 H248 k248 ls hF248 L248 hJ248  hl
        refine lv_iconst (v := 1) hx hb dX12_unit_82 (by decide) ?_
        refine lv_goto (tgt := 87) hx hb dX12_unit_83 (by decide) ?_
        have y249 : (1 : Int32).toInt = 1 := by decide
        exact j87_19 (1 : Int32) g248 _ _ ls (mFr.tr mFr.rf hF248 rfl) L248 hJ248 (rg_w kc_1 rfl) (lv_sub hl [0, 1, 2, 3, 4, 5] rfl)
      refine lv_icmp_eq (tgt := 82) hx hb dX12_unit_68 (by decide) (fun c68_250 => ?_) (fun c68_250 => ?_)
      · skip
        have ic68_250 := congrArg Int32.toInt c68_250
        have y251 : (1 : Int32).toInt = 1 := by decide
        have q252 : rg (1) (1) v10 := (rg_eq c68_250 rv10 kc_1).1
        have uq252 : (1 : Int) ≤ v10.toInt ∧ v10.toInt ≤ 1 := q252
        exact j82_248  g17 _ _ ls mFr.rf L17 hJ17 (lv_sub hl [1, 2, 3, 4, 5, 0] rfl)
      · skip
        have ic68_250 : v10.toInt ≠ (1 : Int32).toInt := fun z => c68_250 (Int32.toInt_inj.mp z)
        have y253 : (1 : Int32).toInt = 1 := by decide
        refine lv_iload_n hx hb dX12_unit_71 rfl (lv_at hl 3 rfl) ?_
        refine lv_iconst (v := 5) hx hb dX12_unit_72 (by decide) ?_
        refine lv_icmp_eq (tgt := 82) hx hb dX12_unit_73 (by decide) (fun c73_254 => ?_) (fun c73_254 => ?_)
        · skip
          have ic73_254 := congrArg Int32.toInt c73_254
          have y255 : (5 : Int32).toInt = 5 := by decide
          have q256 : rg (5) (5) v10 := (rg_eq c73_254 rv10 kc_5).1
          have uq256 : (5 : Int) ≤ v10.toInt ∧ v10.toInt ≤ 5 := q256
          exact j82_248  g17 _ _ ls mFr.rf L17 hJ17 (lv_sub hl [1, 2, 3, 4, 5, 0] rfl)
        · skip
          have ic73_254 : v10.toInt ≠ (5 : Int32).toInt := fun z => c73_254 (Int32.toInt_inj.mp z)
          have y257 : (5 : Int32).toInt = 5 := by decide
          refine lv_iload_n hx hb dX12_unit_76 rfl (lv_at hl 3 rfl) ?_
          refine lv_bipush (v := 9) hx hb dX12_unit_77 (by decide) ?_
          refine lv_icmp_ne (tgt := 86) hx hb dX12_unit_79 (by decide) (fun c79_258 => ?_) (fun c79_258 => ?_)
          · skip
            have ic79_258 : v10.toInt ≠ (9 : Int32).toInt := fun z => c79_258 (Int32.toInt_inj.mp z)
            have y259 : (9 : Int32).toInt = 9 := by decide
            refine lv_iconst (v := 0) hx hb dX12_unit_86 (by decide) ?_
            have y260 : (0 : Int32).toInt = 0 := by decide
            exact j87_19 (0 : Int32) g17 _ _ ls mFr.rf L17 hJ17 (rg_w kc_0 rfl) (lv_sub hl [1, 2, 3, 4, 5, 0] rfl)
          · skip
            have ic79_258 := congrArg Int32.toInt c79_258
            have y261 : (9 : Int32).toInt = 9 := by decide
            have q262 : rg (9) (9) v10 := (rg_eq c79_258 rv10 kc_9).1
            have uq262 : (9 : Int) ≤ v10.toInt ∧ v10.toInt ≤ 9 := q262
            exact j82_248  g17 _ _ ls mFr.rf L17 hJ17 (lv_sub hl [1, 2, 3, 4, 5, 0] rfl)
    refine lv_icmp_lt (tgt := 63) hx hb dX12_unit_46 (by decide) (fun c46_263 => ?_) (fun c46_263 => ?_)
    · skip
      have ic46_263 := Int32.lt_iff_toInt_lt.mp c46_263
      have q264 : rg (4) (7) v1 := (rg_lt c46_263 q3 kc_8).1
      have uq264 : (4 : Int) ≤ v1.toInt ∧ v1.toInt ≤ 7 := q264
      refine lv_iconst (v := 0) hx hb dX12_unit_63 (by decide) ?_
      have y265 : (0 : Int32).toInt = 0 := by decide
      exact j64_17 (0 : Int32) g7 _ _ ls mFr.rf L7 (mJ_fr hJ hp7.1 rfl) (rg_w kc_0 rfl) (lv_sub hl [4, 5, 2, 1, 0] rfl)
    · skip
      have ic46_263 := Int32.le_iff_toInt_le.mp (rg_nlt c46_263)
      have q266 : rg (8) (200) v1 := (rg_le (rg_nlt c46_263) kc_8 q3).2
      have uq266 : (8 : Int) ≤ v1.toInt ∧ v1.toInt ≤ 200 := q266
      refine lv_aload_n hx hb dX12_unit_49 rfl (lv_at hl 4 rfl) ?_
      refine lv_aload_n hx hb dX12_unit_50 rfl (lv_at hl 4 rfl) ?_
      refine m_geti x L7 34 rfl rfl (wm_in uf_357) dX12_unit_51 (fun v267 ev267 wv267 => ?_)
      refine m_top (((mm_fr ev1 hp7.1 rfl)).trans ev267.symm) ?_
      refine lv_bipush (v := 8) hx hb dX12_unit_54 (by decide) ?_
      refine lv_isub hx hb dX12_unit_56 ?_
      refine lv_topi (fun v268 ev268 => ?_)
      have rv268 : rg (0) (192) v268 := (rg_sub ev268 q266 kc_8 rfl).1
      have tv268 := (rg_sub ev268 q266 kc_8 rfl).2
      have y269 : (8 : Int32).toInt = 8 := by decide
      have uv268 : (0 : Int) ≤ v268.toInt ∧ v268.toInt ≤ 192 := rv268
      refine m_ci (As := [.int v268]) (rest := []) x hml L7 (c_byteOfWord l nn X g7 v268 hnn hX (rg_w rv268 rfl)) (wm_V uc_byteOfWord ul_406 ui_byteOfWord us_byteOfWord u_init) rfl ⟨rfl, rfl⟩ hd_byteOfWord ⟨Nat.le_of_ble_eq_true rfl, Nat.le_of_ble_eq_true rfl⟩ rfl hl.1 rfl (lv_room (Nat.le_of_ble_eq_true rfl)) dX12_unit_57 (fun v271 g270 H270 k270 hp270 L270 => ?_)
      have rv271 : rg (-2147483648) (2147483647) v271 := hp270.2.1
      have uv271 : (-2147483648 : Int) ≤ v271.toInt ∧ v271.toInt ≤ 2147483647 := rv271
      have hw272 := hp270.2.2
      refine lv_goto (tgt := 64) hx hb dX12_unit_60 (by decide) ?_
      exact j64_17 v271 g270 _ _ ls (mFr.tr mFr.rf hp270.1 rfl) L270 (mJ_fr (mJ_fr hJ hp7.1 rfl) hp270.1 rfl) (rg_w rv271 rfl) (lv_sub hl [4, 5, 2, 1, 0] rfl)
  · skip
    have ic5_2 := Int32.lt_iff_toInt_lt.mp (rg_nle c5_2)
    have q273 : rg (0) (3) v1 := (rg_lt (rg_nle c5_2) rv1 kc_4).1
    have uq273 : (0 : Int) ≤ v1.toInt ∧ v1.toInt ≤ 3 := q273
    exact hQ _ _ _ _ _ dX12_unit_8 L ⟨mFr.rf, hJ, trivial⟩
theorem c_unit (l : Launch) {G : mG} {h0 : Nat} {ad : Nat → Nat} (nn X : Int) (g : mSt) (p1 : Int32) (hnn : 2 ≤ nn ∧ nn ≤ 4) (hX : 0 ≤ X ∧ X ≤ 2000000000) (hJ : mJ nn [] g) (rp1 : rg (0) (7) p1) (np1 : p1.toInt < 2 * nn) : Met l yX12_unit (wm (Cond.code yX12_unit cX12_unit 11 none)) rm_unit (va_Pc [.ref h0, .int p1] (mPre G h0 ad nn X g)) (mQv G h0 ad nn X (fun g1 => mFr [4, 5, 7, 8, 9, 10, 11, 33, 40, 41, 42, 43, 44, 45, 46, 47, 48, 49, 50, 51, 52, 53, 54, 55, 56, 57, 58, 59, 60, 64, 65, 66, 67, 68, 69, 70, 71, 72, 73, 74, 75, 76, 77, 78, 79, 80, 81, 86, 87, 89, 90, 91] g g1 ∧ mJ nn [] g1 ∧ True)) 0 0 (mA h0 ad) := by
  refine Met.ofW (cc := cX12_unit) (maxL := 11) (ret := none) (by decide) rfl ?_
  intro p e s m args below meth c s₁ B hml hv
  obtain ⟨rfl, hv⟩ := hv
  have hr := B.returns
  have hlocks := B.notSynchronized
  obtain ⟨x, L⟩ := m_start B rfl wm_X hv
  have hl := lv_entry ([.ref h0, .int p1]) (n := 11) (Nat.le_of_ble_eq_true rfl)
  rw [lg_entry_eq]
  generalize (lg_sl ([.ref h0, .int p1]) ++ List.replicate (11 - (lg_sl ([.ref h0, .int p1])).length) Slot.unset).toArray = ls at hl ⊢
  exact w_unit x hml L hnn hX p1 hJ rp1 np1 hl (fun pc' ls' g1 H1 locs1 hdg L hp => m_vret x L hr hlocks (Int.le_refl _) hp hdg)
