def rm_freeChannel : Room := { frames := 1, cells := 0, slots := 0, locals := 23 }
theorem hd_freeChannel : yX12_freeChannel.cls = RX12 ∧ yX12_freeChannel.cls ≠ "java/lang/invoke/MethodHandle" ∧ yX12_freeChannel.cls ≠ "java/lang/invoke/VarHandle" ∧ (parseMethodDescriptor yX12_freeChannel.desc).map (fun d => d.parameters.length) = some 1 := by decide +kernel
set_option maxHeartbeats 4000000 in
set_option maxRecDepth 100000 in
theorem w_freeChannel {p : Program} {l : Launch} {e : Env} {s : State} {m : MethodId} {args : Array Value} {below : List Frame} {meth : Method} {c : Code} {H : Heap} {locs : List Loc} {Q : State → Prop} {ls : Array Slot} {G : mG} {h0 : Nat} {ad : Nat → Nat} {g : mSt} {H0 : Heap} {nn X : Int} (x : mX p c cX12_freeChannel s args (wm (Cond.code yX12_freeChannel cX12_freeChannel 3 (some .int))) m G h0 ad) (hml : c.maxLocals = 3) (L : mL G h0 ad H0 nn X g H locs) (hnn : 2 ≤ nn ∧ nn ≤ 4) (hX : 0 ≤ X ∧ X ≤ 2000000000) (p1 : Int32) (rp1 : rg (0) (7) p1) (hl : lv_has ls 3 [(0, .ref h0), (1, .int p1)]) (hQ : ∀ (pc' : Nat) (ls' : Array Slot) (r : Int32) (g1 : mSt) (H1 : Heap) (locs1 : List Loc), decode cX12_freeChannel pc' = .ok (.ireturn, 1) → mL G h0 ad H0 nn X g1 H1 locs1 → (mFr [] g g1 ∧ rg (32) (72) r ∧ True) → W p l e rm_freeChannel s m args below meth c H1 locs1 0 0 Q (F0 m pc' ls' [.int r])) : W p l e rm_freeChannel s m args below meth c H locs 0 0 Q (F0 m 0 ls []) := by
  have hx := x.1
  have hb := x.2.1
  have up1 : (0 : Int) ≤ p1.toInt ∧ p1.toInt ≤ 7 := rp1
  refine lv_bipush (v := 32) hx hb dX12_freeChannel_0 (by decide) ?_
  refine lv_istore_n (lv' := [(2, .int (32 : Int32)), (0, .ref h0), (1, .int p1)]) hx hb dX12_freeChannel_2 rfl hl (by decide) rfl (fun ls hl => ?_)
  have j3_2 : ∀ (n : Nat) (a3_2_1 : Int32) (g2 : mSt) (H2 : Heap) (k2 : List Loc) (ls : Array Slot), mFr [] g g2 → mL G h0 ad H0 nn X g2 H2 k2 → rg (32) (72) a3_2_1 → a3_2_1.toInt + (cGe g (40 * p1.toInt) a3_2_1.toInt : Int) ≤ 72 → lv_has ls 3 [(0, .ref h0), (1, .int p1), (2, .int a3_2_1)] → cGe g (40 * p1.toInt) a3_2_1.toInt = n → W p l e rm_freeChannel s m args below meth c H2 k2 0 0 Q (F0 m 3 ls []) := by
    intro n
    induction n using Nat.strongRecOn with
    | _ n ih2 =>
      intro a3_2_1 g2 H2 k2 ls hF2 L2 ra3_2_1 hv2_0 hl hn2
      subst hn2
      have ua3_2_1 : (32 : Int) ≤ a3_2_1.toInt ∧ a3_2_1.toInt ≤ 72 := ra3_2_1
      refine lv_aload_n hx hb dX12_freeChannel_3 rfl (lv_at hl 0 rfl) ?_
      refine lv_iload_n hx hb dX12_freeChannel_4 rfl (lv_at hl 1 rfl) ?_
      refine lv_iload_n hx hb dX12_freeChannel_5 rfl (lv_at hl 2 rfl) ?_
      refine m_ci (As := [.int p1, .int a3_2_1]) (rest := []) x hml L2 (c_channelAt l nn X g2 p1 a3_2_1 hnn hX (rg_w rp1 rfl)) (wm_V uc_channelAt ul_366 ui_channelAt us_channelAt u_init) rfl ⟨rfl, rfl⟩ hd_channelAt ⟨Nat.le_of_ble_eq_true rfl, Nat.le_of_ble_eq_true rfl⟩ rfl hl.1 rfl (lv_room (Nat.le_of_ble_eq_true rfl)) dX12_freeChannel_6 (fun v4 g3 H3 k3 hp3 L3 => ?_)
      have rv4 : rg (-2) (319) v4 := hp3.2.1
      have uv4 : (-2 : Int) ≤ v4.toInt ∧ v4.toInt ≤ 319 := rv4
      have hw5 := hp3.2.2
      rw [(show mFr [] g g2 from (mFr.tr mFr.rf hF2 rfl)).at 71 rfl] at hw5
      refine lv_if_lt (tgt := 18) hx hb dX12_freeChannel_9 (by decide) (fun c9_6 => ?_) (fun c9_6 => ?_)
      · skip
        have ic9_6 := Int32.lt_iff_toInt_lt.mp c9_6
        have q7 : rg (-2) (-1) v4 := (rg_lt c9_6 rv4 kc_0).1
        have uq7 : (-2 : Int) ≤ v4.toInt ∧ v4.toInt ≤ -1 := q7
        refine lv_iload_n hx hb dX12_freeChannel_18 rfl (lv_at hl 2 rfl) ?_
        exact hQ _ _ a3_2_1 _ _ _ dX12_freeChannel_19 L3 ⟨(mFr.tr (mFr.tr mFr.rf hF2 rfl) hp3.1 rfl), rg_w ra3_2_1 rfl, trivial⟩
      · skip
        have ic9_6 := Int32.le_iff_toInt_le.mp (rg_nlt c9_6)
        have q8 : rg (0) (319) v4 := (rg_le (rg_nlt c9_6) kc_0 rv4).2
        have uq8 : (0 : Int) ≤ v4.toInt ∧ v4.toInt ≤ 319 := q8
        have hq1 : cGe g (40 * p1.toInt) (a3_2_1.toInt + 1) < cGe g (40 * p1.toInt) a3_2_1.toInt := by have hz := hw5 (by omega); exact cGe_lt (by omega) hz.2.1 hz.2.2 hz.1 rfl
        have q9 : rg (32) (71) a3_2_1 := ⟨by omega, by omega⟩
        obtain ⟨v10, ev10, fv10⟩ := inc_ex a3_2_1 (1) (1 : Int32) (by decide)
        have rv10 : rg (33) (72) v10 := (rg_add ev10 q9 kc_1 rfl).1
        have tv10 := (rg_add ev10 q9 kc_1 rfl).2
        have yv10 : (1 : Int32).toInt = 1 := by decide
        refine lv_iinc (v := v10) (lv' := [(2, .int v10), (0, .ref h0), (1, .int p1)]) hx hb dX12_freeChannel_12 hl (k := 2) rfl fv10 (by decide) rfl (fun ls hl => ?_)
        refine lv_goto (tgt := 3) hx hb dX12_freeChannel_15 (by decide) ?_
        have hdv10 : cGe g (40 * p1.toInt) v10.toInt < cGe g (40 * p1.toInt) a3_2_1.toInt := by have hz := hw5 (by omega); exact cGe_lt (by omega) hz.2.1 hz.2.2 hz.1 (by omega)
        exact ih2 _ (by omega) v10 g3 _ _ ls (mFr.tr hF2 hp3.1 rfl) L3 (rg_w rv10 rfl) (by omega) (lv_sub hl [1, 2, 0] rfl) rfl
  have y11 : (32 : Int32).toInt = 32 := by decide
  have hc0 := cGe_le g (40 * p1.toInt) (32 : Int32).toInt
  exact j3_2 _ (32 : Int32) g _ _ ls mFr.rf L (rg_w kc_32 rfl) (by omega) (lv_sub hl [1, 2, 0] rfl) rfl
theorem c_freeChannel (l : Launch) {G : mG} {h0 : Nat} {ad : Nat → Nat} (nn X : Int) (g : mSt) (p1 : Int32) (hnn : 2 ≤ nn ∧ nn ≤ 4) (hX : 0 ≤ X ∧ X ≤ 2000000000) (rp1 : rg (0) (7) p1) : Met l yX12_freeChannel (wm (Cond.code yX12_freeChannel cX12_freeChannel 3 (some .int))) rm_freeChannel (va_Pc [.ref h0, .int p1] (mPre G h0 ad nn X g)) (mQi G h0 ad nn X (fun r g1 => mFr [] g g1 ∧ rg (32) (72) r ∧ True)) 0 0 (mA h0 ad) := by
  refine Met.ofW (cc := cX12_freeChannel) (maxL := 3) (ret := (some .int)) (by decide) rfl ?_
  intro p e s m args below meth c s₁ B hml hv
  obtain ⟨rfl, hv⟩ := hv
  have hr := B.returns
  have hlocks := B.notSynchronized
  obtain ⟨x, L⟩ := m_start B rfl wm_X hv
  have hl := lv_entry ([.ref h0, .int p1]) (n := 3) (Nat.le_of_ble_eq_true rfl)
  rw [lg_entry_eq]
  generalize (lg_sl ([.ref h0, .int p1]) ++ List.replicate (3 - (lg_sl ([.ref h0, .int p1])).length) Slot.unset).toArray = ls at hl ⊢
  exact w_freeChannel x hml L hnn hX p1 rp1 hl (fun pc' ls' r g1 H1 locs1 hdg L hp => m_iret x L hr hlocks (Int.le_refl _) hp hdg)

def rm_found : Room := { frames := 0, cells := 0, slots := 0, locals := 0 }
theorem hd_found : yX12_found.cls = RX12 ∧ yX12_found.cls ≠ "java/lang/invoke/MethodHandle" ∧ yX12_found.cls ≠ "java/lang/invoke/VarHandle" ∧ (parseMethodDescriptor yX12_found.desc).map (fun d => d.parameters.length) = some 2 := by decide +kernel
set_option maxHeartbeats 4000000 in
set_option maxRecDepth 100000 in
theorem w_found {p : Program} {l : Launch} {e : Env} {s : State} {m : MethodId} {args : Array Value} {below : List Frame} {meth : Method} {c : Code} {H : Heap} {locs : List Loc} {Q : State → Prop} {ls : Array Slot} {G : mG} {h0 : Nat} {ad : Nat → Nat} {g : mSt} {H0 : Heap} {nn X : Int} (x : mX p c cX12_found s args (wm (Cond.code yX12_found cX12_found 5 (some .int))) m G h0 ad) (hml : c.maxLocals = 5) (L : mL G h0 ad H0 nn X g H locs) (hnn : 2 ≤ nn ∧ nn ≤ 4) (hX : 0 ≤ X ∧ X ≤ 2000000000) (p1 : Int32) (p2 : Int32) (rp2 : rg (1) (60) p2) (hch : ∃ n, ch g p2.toInt n 9) (hl : lv_has ls 5 [(0, .ref h0), (1, .int p1), (2, .int p2)]) (hQ : ∀ (pc' : Nat) (ls' : Array Slot) (r : Int32) (g1 : mSt) (H1 : Heap) (locs1 : List Loc), decode cX12_found pc' = .ok (.ireturn, 1) → mL G h0 ad H0 nn X g1 H1 locs1 → (mFr [] g g1 ∧ rg (-2147483648) (2147483647) r ∧ True) → W p l e rm_found s m args below meth c H1 locs1 0 0 Q (F0 m pc' ls' [.int r])) : W p l e rm_found s m args below meth c H locs 0 0 Q (F0 m 0 ls []) := by
  have hx := x.1
  have hb := x.2.1
  have up1 : (-2147483648 : Int) ≤ p1.toInt ∧ p1.toInt ≤ 2147483647 := (rg_any p1)
  have up2 : (1 : Int) ≤ p2.toInt ∧ p2.toInt ≤ 60 := rp2
  refine lv_bipush (v := 9) hx hb dX12_found_0 (by decide) ?_
  refine lv_istore_n (lv' := [(3, .int (9 : Int32)), (0, .ref h0), (1, .int p1), (2, .int p2)]) hx hb dX12_found_2 rfl hl (by decide) rfl (fun ls hl => ?_)
  have j3_2 : ∀ (n : Nat) (a3_3_1 : Int32) (g2 : mSt) (H2 : Heap) (k2 : List Loc) (ls : Array Slot), mFr [] g g2 → mL G h0 ad H0 nn X g2 H2 k2 → rg (9) (63) a3_3_1 → (∃ n, ch g p2.toInt n a3_3_1.toInt) → lv_has ls 5 [(0, .ref h0), (1, .int p1), (2, .int p2), (3, .int a3_3_1)] → (100 - a3_3_1.toInt).toNat = n → W p l e rm_found s m args below meth c H2 k2 0 0 Q (F0 m 3 ls []) := by
    intro n
    induction n using Nat.strongRecOn with
    | _ n ih2 =>
      intro a3_3_1 g2 H2 k2 ls hF2 L2 ra3_3_1 hv2_0 hl hn2
      subst hn2
      have ua3_3_1 : (9 : Int) ≤ a3_3_1.toInt ∧ a3_3_1.toInt ≤ 63 := ra3_3_1
      refine lv_iload_n hx hb dX12_found_3 rfl (lv_at hl 3 rfl) ?_
      refine lv_iconst (v := 4) hx hb dX12_found_4 (by decide) ?_
      refine lv_iadd hx hb dX12_found_5 ?_
      refine lv_topi (fun v3 ev3 => ?_)
      have rv3 : rg (13) (67) v3 := (rg_add ev3 ra3_3_1 kc_4 rfl).1
      have dv3 := (rg_add ev3 ra3_3_1 kc_4 rfl).2
      have tv3 := (rg_add ev3 ra3_3_1 kc_4 rfl).2
      have y4 : (4 : Int32).toInt = 4 := by decide
      have uv3 : (13 : Int) ≤ v3.toInt ∧ v3.toInt ≤ 67 := rv3
      refine lv_iload_n hx hb dX12_found_6 rfl (lv_at hl 2 rfl) ?_
      refine lv_icmp_gt (tgt := 100) hx hb dX12_found_7 (by decide) (fun c7_5 => ?_) (fun c7_5 => ?_)
      · skip
        have ic7_5 := Int32.lt_iff_toInt_lt.mp c7_5
        refine lv_bipush (v := (-2)) hx hb dX12_found_100 (by decide) ?_
        exact hQ _ _ (-2 : Int32) _ _ _ dX12_found_102 L2 ⟨(mFr.tr mFr.rf hF2 rfl), rg_w kc_m2 rfl, trivial⟩
      · skip
        have ic7_5 := Int32.le_iff_toInt_le.mp (rg_nlt c7_5)
        have q6 : rg (13) (60) v3 := (rg_le (rg_nlt c7_5) rv3 rp2).1
        have uq6 : (13 : Int) ≤ v3.toInt ∧ v3.toInt ≤ 60 := q6
        have q7 : rg (9) (56) a3_3_1 := rg_back dv3 kc_4 q6
        have q8 : rg (13) (60) p2 := (rg_le (rg_nlt c7_5) rv3 rp2).2
        have uq8 : (13 : Int) ≤ p2.toInt ∧ p2.toInt ≤ 60 := q8
        refine lv_aload_n hx hb dX12_found_10 rfl (lv_at hl 0 rfl) ?_
        refine m_geta x L2 33 rfl rfl (wm_in uf_89) dX12_found_11 ?_
        refine lv_iload_n hx hb dX12_found_14 rfl (lv_at hl 3 rfl) ?_
        refine lv_iconst (v := 2) hx hb dX12_found_15 (by decide) ?_
        refine lv_iadd hx hb dX12_found_16 ?_
        refine lv_topi (fun v9 ev9 => ?_)
        have rv9 : rg (11) (58) v9 := (rg_add ev9 q7 kc_2 rfl).1
        have dv9 := (rg_add ev9 q7 kc_2 rfl).2
        have tv9 := (rg_add ev9 q7 kc_2 rfl).2
        have y10 : (2 : Int32).toInt = 2 := by decide
        have uv9 : (11 : Int) ≤ v9.toInt ∧ v9.toInt ≤ 58 := rv9
        refine m_ld x L2 33 rfl rv9 rfl dX12_found_17 (fun v11 ev11 wv11 => ?_)
        have rv11 : rg (-2147483648) (2147483647) v11 := lj_33 wv11
        have uv11 : (-2147483648 : Int) ≤ v11.toInt ∧ v11.toInt ≤ 2147483647 := rv11
        have xv11 : wI g (a3_3_1.toInt + 2) = v11.toInt := wI_at (ev11.trans (congrFun ((show mFr [] g g2 from (mFr.tr mFr.rf hF2 rfl)).at 33 rfl) _)) (by have := dv9; have : (2 : Int32).toInt = 2 := (by decide); omega)
        have sv11 : v11.toInt = (g 33 v9.toNatClampNeg).toInt := congrArg Int32.toInt (ev11.trans (congrFun ((show mFr [] g g2 from (mFr.tr mFr.rf hF2 rfl)).at 33 rfl) _))
        refine lv_bipush (v := 8) hx hb dX12_found_18 (by decide) ?_
        refine lv_ishl hx hb dX12_found_20 ?_
        refine lv_topi (fun v12 ev12 => ?_)
        have rv12 : rg (-2147483648) (2147483647) v12 := rg_any v12
        have uv12 : (-2147483648 : Int) ≤ v12.toInt ∧ v12.toInt ≤ 2147483647 := rv12
        refine lv_aload_n hx hb dX12_found_21 rfl (lv_at hl 0 rfl) ?_
        refine m_geta x L2 33 rfl rfl (wm_in uf_89) dX12_found_22 ?_
        refine lv_iload_n hx hb dX12_found_25 rfl (lv_at hl 3 rfl) ?_
        refine lv_iconst (v := 3) hx hb dX12_found_26 (by decide) ?_
        refine lv_iadd hx hb dX12_found_27 ?_
        refine lv_topi (fun v13 ev13 => ?_)
        have rv13 : rg (12) (59) v13 := (rg_add ev13 q7 kc_3 rfl).1
        have dv13 := (rg_add ev13 q7 kc_3 rfl).2
        have tv13 := (rg_add ev13 q7 kc_3 rfl).2
        have y14 : (3 : Int32).toInt = 3 := by decide
        have uv13 : (12 : Int) ≤ v13.toInt ∧ v13.toInt ≤ 59 := rv13
        refine m_ld x L2 33 rfl rv13 rfl dX12_found_28 (fun v15 ev15 wv15 => ?_)
        have rv15 : rg (-2147483648) (2147483647) v15 := lj_33 wv15
        have uv15 : (-2147483648 : Int) ≤ v15.toInt ∧ v15.toInt ≤ 2147483647 := rv15
        have xv15 : wI g (a3_3_1.toInt + 3) = v15.toInt := wI_at (ev15.trans (congrFun ((show mFr [] g g2 from (mFr.tr mFr.rf hF2 rfl)).at 33 rfl) _)) (by have := dv13; have : (3 : Int32).toInt = 3 := (by decide); omega)
        have sv15 : v15.toInt = (g 33 v13.toNatClampNeg).toInt := congrArg Int32.toInt (ev15.trans (congrFun ((show mFr [] g g2 from (mFr.tr mFr.rf hF2 rfl)).at 33 rfl) _))
        refine lv_ior hx hb dX12_found_29 ?_
        refine lv_topi (fun v16 ev16 => ?_)
        have rv16 : rg (-2147483648) (2147483647) v16 := rg_any v16
        have hlv16 := ch_len (g := g) (z := p2.toInt) (a := a3_3_1.toInt) hv2_0 (by omega) xv11 xv15 ev12 ev16
        have q17 : rg (1) (2) v16 := hlv16.1
        have uv16 : (1 : Int) ≤ v16.toInt ∧ v16.toInt ≤ 2 := q17
        refine lv_istore (lv' := [(4, .int v16), (0, .ref h0), (1, .int p1), (2, .int p2), (3, .int a3_3_1)]) hx hb dX12_found_30 hl (by decide) rfl (fun ls hl => ?_)
        refine lv_aload_n hx hb dX12_found_32 rfl (lv_at hl 1 rfl) ?_
        refine m_geta x L2 33 rfl rfl (wm_in uf_89) dX12_found_33 ?_
        refine lv_iload_n hx hb dX12_found_36 rfl (lv_at hl 4 rfl) ?_
        refine m_ld x L2 33 rfl q7 rfl dX12_found_37 (fun v18 ev18 wv18 => ?_)
        have rv18 : rg (-2147483648) (2147483647) v18 := lj_33 wv18
        have uv18 : (-2147483648 : Int) ≤ v18.toInt ∧ v18.toInt ≤ 2147483647 := rv18
        have xv18 : wI g (a3_3_1.toInt) = v18.toInt := wI_at (ev18.trans (congrFun ((show mFr [] g g2 from (mFr.tr mFr.rf hF2 rfl)).at 33 rfl) _)) rfl
        have sv18 : v18.toInt = (g 33 a3_3_1.toNatClampNeg).toInt := congrArg Int32.toInt (ev18.trans (congrFun ((show mFr [] g g2 from (mFr.tr mFr.rf hF2 rfl)).at 33 rfl) _))
        refine lv_iload_n hx hb dX12_found_38 rfl (lv_at hl 2 rfl) ?_
        have j90_19 : ∀ (g19 : mSt) (H19 : Heap) (k19 : List Loc) (ls : Array Slot), mFr [] g2 g19 → mL G h0 ad H0 nn X g19 H19 k19 → lv_has ls 5 [(0, .ref h0), (1, .int p1), (2, .int p2), (3, .int a3_3_1), (4, .int v16)] → W p l e rm_found s m args below meth c H19 k19 0 0 Q (F0 m 90 ls []) := by
          intro  g19 H19 k19 ls hF19 L19  hl
          refine lv_iload_n hx hb dX12_found_90 rfl (lv_at hl 3 rfl) ?_
          refine lv_iconst (v := 4) hx hb dX12_found_91 (by decide) ?_
          refine lv_iload hx hb dX12_found_92 (lv_at hl 4 rfl) ?_
          refine lv_iadd hx hb dX12_found_94 ?_
          refine lv_topi (fun v20 ev20 => ?_)
          have rv20 : rg (5) (6) v20 := (rg_add ev20 kc_4 q17 rfl).1
          have tv20 := (rg_add ev20 kc_4 q17 rfl).2
          have y21 : (4 : Int32).toInt = 4 := by decide
          have uv20 : (5 : Int) ≤ v20.toInt ∧ v20.toInt ≤ 6 := rv20
          refine lv_iadd hx hb dX12_found_95 ?_
          refine lv_topi (fun v22 ev22 => ?_)
          have rv22 : rg (14) (62) v22 := (rg_add ev22 q7 rv20 rfl).1
          have tv22 := (rg_add ev22 q7 rv20 rfl).2
          have uv22 : (14 : Int) ≤ v22.toInt ∧ v22.toInt ≤ 62 := rv22
          refine lv_istore_n (lv' := [(3, .int v22), (0, .ref h0), (1, .int p1), (2, .int p2), (4, .int v16)]) hx hb dX12_found_96 rfl hl (by decide) rfl (fun ls hl => ?_)
          refine lv_goto (tgt := 3) hx hb dX12_found_97 (by decide) ?_
          exact ih2 _ (by omega) v22 g19 _ _ ls (mFr.tr hF2 hF19 rfl) L19 (rg_w rv22 rfl) (by rw [show v22.toInt = a3_3_1.toInt + 4 + v16.toInt from by omega]; exact hlv16.2) (lv_sub hl [1, 2, 3, 0] rfl) rfl
        refine lv_icmp_ne (tgt := 90) hx hb dX12_found_39 (by decide) (fun c39_23 => ?_) (fun c39_23 => ?_)
        · skip
          exact j90_19  g2 _ _ ls mFr.rf L2  (lv_sub hl [1, 2, 3, 4, 0] rfl)
        · skip
          have ic39_23 := congrArg Int32.toInt c39_23
          refine lv_iload_n hx hb dX12_found_42 rfl (lv_at hl 4 rfl) ?_
          refine lv_iconst (v := 4) hx hb dX12_found_43 (by decide) ?_
          refine lv_iadd hx hb dX12_found_44 ?_
          refine m_top ev3 ?_
          refine lv_iload hx hb dX12_found_45 (lv_at hl 0 rfl) ?_
          refine lv_iadd hx hb dX12_found_47 ?_
          refine lv_topi (fun v24 ev24 => ?_)
          have rv24 : rg (14) (62) v24 := (rg_add ev24 q6 q17 rfl).1
          have tv24 := (rg_add ev24 q6 q17 rfl).2
          have uv24 : (14 : Int) ≤ v24.toInt ∧ v24.toInt ≤ 62 := rv24
          refine lv_iload_n hx hb dX12_found_48 rfl (lv_at hl 3 rfl) ?_
          refine lv_icmp_gt (tgt := 90) hx hb dX12_found_49 (by decide) (fun c49_25 => ?_) (fun c49_25 => ?_)
          · skip
            have ic49_25 := Int32.lt_iff_toInt_lt.mp c49_25
            exact j90_19  g2 _ _ ls mFr.rf L2  (lv_sub hl [1, 2, 3, 4, 0] rfl)
          · skip
            have ic49_25 := Int32.le_iff_toInt_le.mp (rg_nlt c49_25)
            have q26 : rg (14) (60) v24 := (rg_le (rg_nlt c49_25) rv24 q8).1
            have uq26 : (14 : Int) ≤ v24.toInt ∧ v24.toInt ≤ 60 := q26
            have q27 : rg (14) (60) p2 := (rg_le (rg_nlt c49_25) rv24 q8).2
            have uq27 : (14 : Int) ≤ p2.toInt ∧ p2.toInt ≤ 60 := q27
            refine lv_iload hx hb dX12_found_52 (lv_at hl 0 rfl) ?_
            refine lv_iconst (v := 2) hx hb dX12_found_54 (by decide) ?_
            refine lv_icmp_ne (tgt := 81) hx hb dX12_found_55 (by decide) (fun c55_28 => ?_) (fun c55_28 => ?_)
            · skip
              have q29 : rg (1) (1) v16 := rg_neH c55_28 q17 kc_2
              have uq29 : (1 : Int) ≤ v16.toInt ∧ v16.toInt ≤ 1 := q29
              refine lv_aload_n hx hb dX12_found_81 rfl (lv_at hl 1 rfl) ?_
              refine m_geta x L2 33 rfl rfl (wm_in uf_89) dX12_found_82 ?_
              refine lv_iload_n hx hb dX12_found_85 rfl (lv_at hl 4 rfl) ?_
              refine lv_iconst (v := 4) hx hb dX12_found_86 (by decide) ?_
              refine lv_iadd hx hb dX12_found_87 ?_
              refine m_top ev3 ?_
              refine m_ld x L2 33 rfl q6 rfl dX12_found_88 (fun v30 ev30 wv30 => ?_)
              have rv30 : rg (-2147483648) (2147483647) v30 := lj_33 wv30
              have uv30 : (-2147483648 : Int) ≤ v30.toInt ∧ v30.toInt ≤ 2147483647 := rv30
              have xv30 : wI g (a3_3_1.toInt + 4) = v30.toInt := wI_at (ev30.trans (congrFun ((show mFr [] g g2 from (mFr.tr mFr.rf hF2 rfl)).at 33 rfl) _)) (by have := dv3; have : (4 : Int32).toInt = 4 := (by decide); omega)
              have sv30 : v30.toInt = (g 33 v3.toNatClampNeg).toInt := congrArg Int32.toInt (ev30.trans (congrFun ((show mFr [] g g2 from (mFr.tr mFr.rf hF2 rfl)).at 33 rfl) _))
              exact hQ _ _ v30 _ _ _ dX12_found_89 L2 ⟨(mFr.tr mFr.rf hF2 rfl), rg_w rv30 rfl, trivial⟩
            · skip
              have ic55_28 := congrArg Int32.toInt c55_28
              have y31 : (2 : Int32).toInt = 2 := by decide
              have q32 : rg (2) (2) v16 := (rg_eq c55_28 q17 kc_2).1
              have uq32 : (2 : Int) ≤ v16.toInt ∧ v16.toInt ≤ 2 := q32
              refine lv_aload_n hx hb dX12_found_58 rfl (lv_at hl 1 rfl) ?_
              refine m_geta x L2 33 rfl rfl (wm_in uf_89) dX12_found_59 ?_
              refine lv_iload_n hx hb dX12_found_62 rfl (lv_at hl 4 rfl) ?_
              refine lv_iconst (v := 4) hx hb dX12_found_63 (by decide) ?_
              refine lv_iadd hx hb dX12_found_64 ?_
              refine m_top ev3 ?_
              refine m_ld x L2 33 rfl q6 rfl dX12_found_65 (fun v33 ev33 wv33 => ?_)
              have rv33 : rg (-2147483648) (2147483647) v33 := lj_33 wv33
              have uv33 : (-2147483648 : Int) ≤ v33.toInt ∧ v33.toInt ≤ 2147483647 := rv33
              have xv33 : wI g (a3_3_1.toInt + 4) = v33.toInt := wI_at (ev33.trans (congrFun ((show mFr [] g g2 from (mFr.tr mFr.rf hF2 rfl)).at 33 rfl) _)) (by have := dv3; have : (4 : Int32).toInt = 4 := (by decide); omega)
              have sv33 : v33.toInt = (g 33 v3.toNatClampNeg).toInt := congrArg Int32.toInt (ev33.trans (congrFun ((show mFr [] g g2 from (mFr.tr mFr.rf hF2 rfl)).at 33 rfl) _))
              refine lv_bipush (v := 8) hx hb dX12_found_66 (by decide) ?_
              refine lv_ishl hx hb dX12_found_68 ?_
              refine lv_topi (fun v34 ev34 => ?_)
              have rv34 : rg (-2147483648) (2147483647) v34 := rg_any v34
              have uv34 : (-2147483648 : Int) ≤ v34.toInt ∧ v34.toInt ≤ 2147483647 := rv34
              refine lv_aload_n hx hb dX12_found_69 rfl (lv_at hl 1 rfl) ?_
              refine m_geta x L2 33 rfl rfl (wm_in uf_89) dX12_found_70 ?_
              refine lv_iload_n hx hb dX12_found_73 rfl (lv_at hl 4 rfl) ?_
              refine lv_iconst (v := 5) hx hb dX12_found_74 (by decide) ?_
              refine lv_iadd hx hb dX12_found_75 ?_
              refine lv_topi (fun v35 ev35 => ?_)
              have rv35 : rg (14) (61) v35 := (rg_add ev35 q7 kc_5 rfl).1
              have dv35 := (rg_add ev35 q7 kc_5 rfl).2
              have tv35 := (rg_add ev35 q7 kc_5 rfl).2
              have y36 : (5 : Int32).toInt = 5 := by decide
              have uv35 : (14 : Int) ≤ v35.toInt ∧ v35.toInt ≤ 61 := rv35
              refine m_ld x L2 33 rfl rv35 rfl dX12_found_76 (fun v37 ev37 wv37 => ?_)
              have rv37 : rg (-2147483648) (2147483647) v37 := lj_33 wv37
              have uv37 : (-2147483648 : Int) ≤ v37.toInt ∧ v37.toInt ≤ 2147483647 := rv37
              have xv37 : wI g (a3_3_1.toInt + 5) = v37.toInt := wI_at (ev37.trans (congrFun ((show mFr [] g g2 from (mFr.tr mFr.rf hF2 rfl)).at 33 rfl) _)) (by have := dv35; have : (5 : Int32).toInt = 5 := (by decide); omega)
              have sv37 : v37.toInt = (g 33 v35.toNatClampNeg).toInt := congrArg Int32.toInt (ev37.trans (congrFun ((show mFr [] g g2 from (mFr.tr mFr.rf hF2 rfl)).at 33 rfl) _))
              refine lv_ior hx hb dX12_found_77 ?_
              refine lv_topi (fun v38 ev38 => ?_)
              have rv38 : rg (-2147483648) (2147483647) v38 := rg_any v38
              have uv38 : (-2147483648 : Int) ≤ v38.toInt ∧ v38.toInt ≤ 2147483647 := rv38
              refine lv_goto (tgt := 89) hx hb dX12_found_78 (by decide) ?_
              exact hQ _ _ v38 _ _ _ dX12_found_89 L2 ⟨(mFr.tr mFr.rf hF2 rfl), rg_w rv38 rfl, trivial⟩
  have y39 : (9 : Int32).toInt = 9 := by decide
  exact j3_2 _ (9 : Int32) g _ _ ls mFr.rf L (rg_w kc_9 rfl) (by have : (9 : Int32).toInt = 9 := (by decide); rw [this]; exact hch) (lv_sub hl [1, 2, 3, 0] rfl) rfl
theorem c_found (l : Launch) {G : mG} {h0 : Nat} {ad : Nat → Nat} (nn X : Int) (g : mSt) (p1 : Int32) (p2 : Int32) (hnn : 2 ≤ nn ∧ nn ≤ 4) (hX : 0 ≤ X ∧ X ≤ 2000000000) (rp2 : rg (1) (60) p2) (hch : ∃ n, ch g p2.toInt n 9) : Met l yX12_found (wm (Cond.code yX12_found cX12_found 5 (some .int))) rm_found (va_Pc [.ref h0, .int p1, .int p2] (mPre G h0 ad nn X g)) (mQi G h0 ad nn X (fun r g1 => mFr [] g g1 ∧ rg (-2147483648) (2147483647) r ∧ True)) 0 0 (mA h0 ad) := by
  refine Met.ofW (cc := cX12_found) (maxL := 5) (ret := (some .int)) (by decide) rfl ?_
  intro p e s m args below meth c s₁ B hml hv
  obtain ⟨rfl, hv⟩ := hv
  have hr := B.returns
  have hlocks := B.notSynchronized
  obtain ⟨x, L⟩ := m_start B rfl wm_X hv
  have hl := lv_entry ([.ref h0, .int p1, .int p2]) (n := 5) (Nat.le_of_ble_eq_true rfl)
  rw [lg_entry_eq]
  generalize (lg_sl ([.ref h0, .int p1, .int p2]) ++ List.replicate (5 - (lg_sl ([.ref h0, .int p1, .int p2])).length) Slot.unset).toArray = ls at hl ⊢
  exact w_found x hml L hnn hX p1 p2 rp2 hch hl (fun pc' ls' r g1 H1 locs1 hdg L hp => m_iret x L hr hlocks (Int.le_refl _) hp hdg)

def rm_isFormed : Room := { frames := 1, cells := 0, slots := 0, locals := 25 }
theorem hd_isFormed : yX12_isFormed.cls = RX12 ∧ yX12_isFormed.cls ≠ "java/lang/invoke/MethodHandle" ∧ yX12_isFormed.cls ≠ "java/lang/invoke/VarHandle" ∧ (parseMethodDescriptor yX12_isFormed.desc).map (fun d => d.parameters.length) = some 2 := by decide +kernel
set_option maxHeartbeats 4000000 in
set_option maxRecDepth 100000 in
theorem w_isFormed {p : Program} {l : Launch} {e : Env} {s : State} {m : MethodId} {args : Array Value} {below : List Frame} {meth : Method} {c : Code} {H : Heap} {locs : List Loc} {Q : State → Prop} {ls : Array Slot} {G : mG} {h0 : Nat} {ad : Nat → Nat} {g : mSt} {H0 : Heap} {nn X : Int} (x : mX p c cX12_isFormed s args (wm (Cond.code yX12_isFormed cX12_isFormed 4 (some .boolean))) m G h0 ad) (hml : c.maxLocals = 4) (L : mL G h0 ad H0 nn X g H locs) (hnn : 2 ≤ nn ∧ nn ≤ 4) (hX : 0 ≤ X ∧ X ≤ 2000000000) (p1 : Int32) (p2 : Int32) (rp1 : rg (1) (60) p1) (rp2 : rg (0) (1) p2) (hl : lv_has ls 4 [(0, .ref h0), (1, .int p1), (2, .int p2)]) (hQ : ∀ (pc' : Nat) (ls' : Array Slot) (r : Int32) (g1 : mSt) (H1 : Heap) (locs1 : List Loc), decode cX12_isFormed pc' = .ok (.ireturn, 1) → mL G h0 ad H0 nn X g1 H1 locs1 → (mFr [] g g1 ∧ rg (0) (1) r ∧ (1 ≤ r.toInt → ∃ n, ch g p1.toInt n 9)) → W p l e rm_isFormed s m args below meth c H1 locs1 0 0 Q (F0 m pc' ls' [.int r])) : W p l e rm_isFormed s m args below meth c H locs 0 0 Q (F0 m 0 ls []) := by
  have hx := x.1
  have hb := x.2.1
  have up1 : (1 : Int) ≤ p1.toInt ∧ p1.toInt ≤ 60 := rp1
  have up2 : (0 : Int) ≤ p2.toInt ∧ p2.toInt ≤ 1 := rp2
  refine lv_iload_n hx hb dX12_isFormed_0 rfl (lv_at hl 1 rfl) ?_
  refine lv_bipush (v := 9) hx hb dX12_isFormed_1 (by decide) ?_
  refine lv_icmp_lt (tgt := 65) hx hb dX12_isFormed_3 (by decide) (fun c3_1 => ?_) (fun c3_1 => ?_)
  · skip
    have ic3_1 := Int32.lt_iff_toInt_lt.mp c3_1
    have q2 : rg (1) (8) p1 := (rg_lt c3_1 rp1 kc_9).1
    have uq2 : (1 : Int) ≤ p1.toInt ∧ p1.toInt ≤ 8 := q2
    refine lv_iconst (v := 0) hx hb dX12_isFormed_65 (by decide) ?_
    exact hQ _ _ (0 : Int32) _ _ _ dX12_isFormed_66 L ⟨mFr.rf, rg_w kc_0 rfl, (by have : (0 : Int32).toInt = 0 := (by decide); omega)⟩
  · skip
    have ic3_1 := Int32.le_iff_toInt_le.mp (rg_nlt c3_1)
    have q3 : rg (9) (60) p1 := (rg_le (rg_nlt c3_1) kc_9 rp1).2
    have uq3 : (9 : Int) ≤ p1.toInt ∧ p1.toInt ≤ 60 := q3
    refine lv_aload_n hx hb dX12_isFormed_6 rfl (lv_at hl 0 rfl) ?_
    refine m_geta x L 33 rfl rfl (wm_in uf_89) dX12_isFormed_7 ?_
    refine lv_iconst (v := 0) hx hb dX12_isFormed_10 (by decide) ?_
    refine m_ld x L 33 rfl kc_0 rfl dX12_isFormed_11 (fun v4 ev4 wv4 => ?_)
    have rv4 : rg (-2147483648) (2147483647) v4 := lj_33 wv4
    have uv4 : (-2147483648 : Int) ≤ v4.toInt ∧ v4.toInt ≤ 2147483647 := rv4
    have sv4 : v4.toInt = (g 33 (0 : Int32).toNatClampNeg).toInt := congrArg Int32.toInt (ev4.trans (congrFun ((show mFr [] g g from mFr.rf).at 33 rfl) _))
    refine lv_bipush (v := 9) hx hb dX12_isFormed_12 (by decide) ?_
    refine lv_icmp_ne (tgt := 65) hx hb dX12_isFormed_14 (by decide) (fun c14_5 => ?_) (fun c14_5 => ?_)
    · skip
      refine lv_iconst (v := 0) hx hb dX12_isFormed_65 (by decide) ?_
      exact hQ _ _ (0 : Int32) _ _ _ dX12_isFormed_66 L ⟨mFr.rf, rg_w kc_0 rfl, (by have : (0 : Int32).toInt = 0 := (by decide); omega)⟩
    · skip
      have ic14_5 := congrArg Int32.toInt c14_5
      have y6 : (9 : Int32).toInt = 9 := by decide
      have q7 : rg (9) (9) v4 := (rg_eq c14_5 rv4 kc_9).1
      have uq7 : (9 : Int) ≤ v4.toInt ∧ v4.toInt ≤ 9 := q7
      refine lv_aload_n hx hb dX12_isFormed_17 rfl (lv_at hl 0 rfl) ?_
      refine m_geta x L 33 rfl rfl (wm_in uf_89) dX12_isFormed_18 ?_
      refine lv_iconst (v := 1) hx hb dX12_isFormed_21 (by decide) ?_
      refine m_ld x L 33 rfl kc_1 rfl dX12_isFormed_22 (fun v8 ev8 wv8 => ?_)
      have rv8 : rg (-2147483648) (2147483647) v8 := lj_33 wv8
      have uv8 : (-2147483648 : Int) ≤ v8.toInt ∧ v8.toInt ≤ 2147483647 := rv8
      have sv8 : v8.toInt = (g 33 (1 : Int32).toNatClampNeg).toInt := congrArg Int32.toInt (ev8.trans (congrFun ((show mFr [] g g from mFr.rf).at 33 rfl) _))
      refine lv_iconst (v := 3) hx hb dX12_isFormed_23 (by decide) ?_
      refine lv_icmp_ne (tgt := 65) hx hb dX12_isFormed_24 (by decide) (fun c24_9 => ?_) (fun c24_9 => ?_)
      · skip
        refine lv_iconst (v := 0) hx hb dX12_isFormed_65 (by decide) ?_
        exact hQ _ _ (0 : Int32) _ _ _ dX12_isFormed_66 L ⟨mFr.rf, rg_w kc_0 rfl, (by have : (0 : Int32).toInt = 0 := (by decide); omega)⟩
      · skip
        have ic24_9 := congrArg Int32.toInt c24_9
        have y10 : (3 : Int32).toInt = 3 := by decide
        have q11 : rg (3) (3) v8 := (rg_eq c24_9 rv8 kc_3).1
        have uq11 : (3 : Int) ≤ v8.toInt ∧ v8.toInt ≤ 3 := q11
        refine lv_aload_n hx hb dX12_isFormed_27 rfl (lv_at hl 0 rfl) ?_
        refine m_geta x L 33 rfl rfl (wm_in uf_89) dX12_isFormed_28 ?_
        refine lv_bipush (v := 6) hx hb dX12_isFormed_31 (by decide) ?_
        refine m_ld x L 33 rfl kc_6 rfl dX12_isFormed_33 (fun v12 ev12 wv12 => ?_)
        have rv12 : rg (-2147483648) (2147483647) v12 := lj_33 wv12
        have uv12 : (-2147483648 : Int) ≤ v12.toInt ∧ v12.toInt ≤ 2147483647 := rv12
        have sv12 : v12.toInt = (g 33 (6 : Int32).toNatClampNeg).toInt := congrArg Int32.toInt (ev12.trans (congrFun ((show mFr [] g g from mFr.rf).at 33 rfl) _))
        refine lv_sipush (v := 128) hx hb dX12_isFormed_34 (by decide) ?_
        refine lv_icmp_ne (tgt := 65) hx hb dX12_isFormed_37 (by decide) (fun c37_13 => ?_) (fun c37_13 => ?_)
        · skip
          refine lv_iconst (v := 0) hx hb dX12_isFormed_65 (by decide) ?_
          exact hQ _ _ (0 : Int32) _ _ _ dX12_isFormed_66 L ⟨mFr.rf, rg_w kc_0 rfl, (by have : (0 : Int32).toInt = 0 := (by decide); omega)⟩
        · skip
          have ic37_13 := congrArg Int32.toInt c37_13
          have y14 : (128 : Int32).toInt = 128 := by decide
          have q15 : rg (128) (128) v12 := (rg_eq c37_13 rv12 kc_128).1
          have uq15 : (128 : Int) ≤ v12.toInt ∧ v12.toInt ≤ 128 := q15
          refine lv_aload_n hx hb dX12_isFormed_40 rfl (lv_at hl 0 rfl) ?_
          refine m_geta x L 33 rfl rfl (wm_in uf_89) dX12_isFormed_41 ?_
          refine lv_bipush (v := 7) hx hb dX12_isFormed_44 (by decide) ?_
          refine m_ld x L 33 rfl kc_7 rfl dX12_isFormed_46 (fun v16 ev16 wv16 => ?_)
          have rv16 : rg (-2147483648) (2147483647) v16 := lj_33 wv16
          have uv16 : (-2147483648 : Int) ≤ v16.toInt ∧ v16.toInt ≤ 2147483647 := rv16
          have sv16 : v16.toInt = (g 33 (7 : Int32).toNatClampNeg).toInt := congrArg Int32.toInt (ev16.trans (congrFun ((show mFr [] g g from mFr.rf).at 33 rfl) _))
          refine lv_bipush (v := 8) hx hb dX12_isFormed_47 (by decide) ?_
          refine lv_ishl hx hb dX12_isFormed_49 ?_
          refine lv_topi (fun v17 ev17 => ?_)
          have rv17 : rg (-2147483648) (2147483647) v17 := rg_any v17
          have uv17 : (-2147483648 : Int) ≤ v17.toInt ∧ v17.toInt ≤ 2147483647 := rv17
          refine lv_aload_n hx hb dX12_isFormed_50 rfl (lv_at hl 0 rfl) ?_
          refine m_geta x L 33 rfl rfl (wm_in uf_89) dX12_isFormed_51 ?_
          refine lv_bipush (v := 8) hx hb dX12_isFormed_54 (by decide) ?_
          refine m_ld x L 33 rfl kc_8 rfl dX12_isFormed_56 (fun v18 ev18 wv18 => ?_)
          have rv18 : rg (-2147483648) (2147483647) v18 := lj_33 wv18
          have uv18 : (-2147483648 : Int) ≤ v18.toInt ∧ v18.toInt ≤ 2147483647 := rv18
          have sv18 : v18.toInt = (g 33 (8 : Int32).toNatClampNeg).toInt := congrArg Int32.toInt (ev18.trans (congrFun ((show mFr [] g g from mFr.rf).at 33 rfl) _))
          refine lv_ior hx hb dX12_isFormed_57 ?_
          refine lv_topi (fun v19 ev19 => ?_)
          have rv19 : rg (-2147483648) (2147483647) v19 := rg_any v19
          have uv19 : (-2147483648 : Int) ≤ v19.toInt ∧ v19.toInt ≤ 2147483647 := rv19
          refine lv_iload_n hx hb dX12_isFormed_58 rfl (lv_at hl 1 rfl) ?_
          refine lv_bipush (v := 9) hx hb dX12_isFormed_59 (by decide) ?_
          refine lv_isub hx hb dX12_isFormed_61 ?_
          refine lv_topi (fun v20 ev20 => ?_)
          have rv20 : rg (0) (51) v20 := (rg_sub ev20 q3 kc_9 rfl).1
          have tv20 := (rg_sub ev20 q3 kc_9 rfl).2
          have y21 : (9 : Int32).toInt = 9 := by decide
          have uv20 : (0 : Int) ≤ v20.toInt ∧ v20.toInt ≤ 51 := rv20
          refine lv_icmp_eq (tgt := 67) hx hb dX12_isFormed_62 (by decide) (fun c62_22 => ?_) (fun c62_22 => ?_)
          · skip
            have ic62_22 := congrArg Int32.toInt c62_22
            have q23 : rg (0) (51) v19 := (rg_eq c62_22 rv19 rv20).1
            have uq23 : (0 : Int) ≤ v19.toInt ∧ v19.toInt ≤ 51 := q23
            refine lv_bipush (v := 9) hx hb dX12_isFormed_67 (by decide) ?_
            refine lv_istore_n (lv' := [(3, .int (9 : Int32)), (0, .ref h0), (1, .int p1), (2, .int p2)]) hx hb dX12_isFormed_69 rfl hl (by decide) rfl (fun ls hl => ?_)
            refine lv_aload_n hx hb dX12_isFormed_70 rfl (lv_at hl 1 rfl) ?_
            refine m_geta x L 33 rfl rfl (wm_in uf_89) dX12_isFormed_71 ?_
            refine lv_iconst (v := 5) hx hb dX12_isFormed_74 (by decide) ?_
            refine m_ld x L 33 rfl kc_5 rfl dX12_isFormed_75 (fun v24 ev24 wv24 => ?_)
            have rv24 : rg (-2147483648) (2147483647) v24 := lj_33 wv24
            have uv24 : (-2147483648 : Int) ≤ v24.toInt ∧ v24.toInt ≤ 2147483647 := rv24
            have sv24 : v24.toInt = (g 33 (5 : Int32).toNatClampNeg).toInt := congrArg Int32.toInt (ev24.trans (congrFun ((show mFr [] g g from mFr.rf).at 33 rfl) _))
            by_cases c76_25_2 : v24.toInt = 2
            · skip
              refine lv_lookup (off := 119) (tgt := 195) hx hb dX12_isFormed_76 (by decide) (by rw [c76_25_2]; rfl) (by decide) ?_
              refine lv_iload_n hx hb dX12_isFormed_195 rfl (lv_at hl 3 rfl) ?_
              refine lv_if_eq (tgt := 211) hx hb dX12_isFormed_196 (by decide) (fun c196_26 => ?_) (fun c196_26 => ?_)
              · skip
                have ic196_26 := congrArg Int32.toInt c196_26
                have y27 : (0 : Int32).toInt = 0 := by decide
                have q28 : rg (0) (0) p2 := (rg_eq c196_26 rp2 kc_0).1
                have uq28 : (0 : Int) ≤ p2.toInt ∧ p2.toInt ≤ 0 := q28
                refine lv_iload_n hx hb dX12_isFormed_211 rfl (lv_at hl 0 rfl) ?_
                refine lv_istore_n (lv' := [(3, .int (9 : Int32)), (0, .ref h0), (1, .int p1), (2, .int p2)]) hx hb dX12_isFormed_212 rfl hl (by decide) rfl (fun ls hl => ?_)
                refine lv_goto (tgt := 234) hx hb dX12_isFormed_213 (by decide) ?_
                refine lv_iload_n hx hb dX12_isFormed_234 rfl (lv_at hl 0 rfl) ?_
                refine lv_iload_n hx hb dX12_isFormed_235 rfl (lv_at hl 2 rfl) ?_
                refine lv_icmp_ne (tgt := 243) hx hb dX12_isFormed_236 (by decide) (fun c236_29 => ?_) (fun c236_29 => ?_)
                · skip
                  refine lv_iconst (v := 0) hx hb dX12_isFormed_243 (by decide) ?_
                  exact hQ _ _ (0 : Int32) _ _ _ dX12_isFormed_244 L ⟨mFr.rf, rg_w kc_0 rfl, (by have : (0 : Int32).toInt = 0 := (by decide); omega)⟩
                · skip
                  have ic236_29 := congrArg Int32.toInt c236_29
                  have q30 : rg (9) (9) p1 := (rg_eq c236_29 kc_9 q3).2
                  have uq30 : (9 : Int) ≤ p1.toInt ∧ p1.toInt ≤ 9 := q30
                  refine lv_iconst (v := 1) hx hb dX12_isFormed_239 (by decide) ?_
                  refine lv_goto (tgt := 244) hx hb dX12_isFormed_240 (by decide) ?_
                  exact hQ _ _ (1 : Int32) _ _ _ dX12_isFormed_244 L ⟨mFr.rf, rg_w kc_1 rfl, (fun _ => by have k9 : (9 : Int32).toInt = 9 := (by decide); have hh : ∃ n, ch g p1.toInt n (9 : Int32).toInt := ch_end (by omega); rw [k9] at hh; exact hh)⟩
              · skip
                have q31 : rg (1) (1) p2 := rg_neL c196_26 rp2 kc_0
                have uq31 : (1 : Int) ≤ p2.toInt ∧ p2.toInt ≤ 1 := q31
                refine lv_aload_n hx hb dX12_isFormed_199 rfl (lv_at hl 1 rfl) ?_
                refine lv_iload_n hx hb dX12_isFormed_200 rfl (lv_at hl 0 rfl) ?_
                refine lv_iload_n hx hb dX12_isFormed_201 rfl (lv_at hl 2 rfl) ?_
                refine lv_bipush (v := 90) hx hb dX12_isFormed_202 (by decide) ?_
                refine lv_iconst (v := 2) hx hb dX12_isFormed_204 (by decide) ?_
                refine m_ci (As := [.int (9 : Int32), .int p1, .int (90 : Int32), .int (2 : Int32)]) (rest := []) x hml L (c_elementAt l nn X g (9 : Int32) p1 (90 : Int32) (2 : Int32) hnn hX (rg_w kc_9 rfl) (rg_w q3 rfl) (rg_w kc_2 rfl)) (wm_V uc_elementAt ul_519 ui_elementAt us_elementAt u_init) rfl ⟨rfl, rfl⟩ hd_elementAt ⟨Nat.le_of_ble_eq_true rfl, Nat.le_of_ble_eq_true rfl⟩ rfl hl.1 rfl (lv_room (Nat.le_of_ble_eq_true rfl)) dX12_isFormed_205 (fun v33 g32 H32 k32 hp32 L32 => ?_)
                have rv33 : rg (0) (60) v33 := hp32.2.1
                have uv33 : (0 : Int) ≤ v33.toInt ∧ v33.toInt ≤ 60 := rv33
                have hw34 := hp32.2.2
                refine lv_goto (tgt := 212) hx hb dX12_isFormed_208 (by decide) ?_
                refine lv_istore_n (lv' := [(3, .int v33), (0, .ref h0), (1, .int p1), (2, .int p2)]) hx hb dX12_isFormed_212 rfl hl (by decide) rfl (fun ls hl => ?_)
                refine lv_goto (tgt := 234) hx hb dX12_isFormed_213 (by decide) ?_
                refine lv_iload_n hx hb dX12_isFormed_234 rfl (lv_at hl 0 rfl) ?_
                refine lv_iload_n hx hb dX12_isFormed_235 rfl (lv_at hl 2 rfl) ?_
                refine lv_icmp_ne (tgt := 243) hx hb dX12_isFormed_236 (by decide) (fun c236_35 => ?_) (fun c236_35 => ?_)
                · skip
                  refine lv_iconst (v := 0) hx hb dX12_isFormed_243 (by decide) ?_
                  exact hQ _ _ (0 : Int32) _ _ _ dX12_isFormed_244 L32 ⟨(mFr.tr mFr.rf hp32.1 rfl), rg_w kc_0 rfl, (by have : (0 : Int32).toInt = 0 := (by decide); omega)⟩
                · skip
                  have ic236_35 := congrArg Int32.toInt c236_35
                  have q36 : rg (9) (60) v33 := (rg_eq c236_35 rv33 q3).1
                  have uq36 : (9 : Int) ≤ v33.toInt ∧ v33.toInt ≤ 60 := q36
                  refine lv_iconst (v := 1) hx hb dX12_isFormed_239 (by decide) ?_
                  refine lv_goto (tgt := 244) hx hb dX12_isFormed_240 (by decide) ?_
                  exact hQ _ _ (1 : Int32) _ _ _ dX12_isFormed_244 L32 ⟨(mFr.tr mFr.rf hp32.1 rfl), rg_w kc_1 rfl, (fun _ => by have k9 : (9 : Int32).toInt = 9 := (by decide); have hh : ∃ n, ch g p1.toInt n v33.toInt := ch_end (by omega); have y0_ : (2 : Int32).toInt = 2 := (by decide); have z0_ := hw34 (by omega); have hh : ∃ n, ch g p1.toInt n (9 : Int32).toInt := ch_2 (a := (9 : Int32).toInt) (b := v33.toInt) hh z0_.2.2.2.1 (by omega) (by omega); rw [k9] at hh; exact hh)⟩
            by_cases c76_25_5 : v24.toInt = 5
            · skip
              refine lv_lookup (off := 60) (tgt := 136) hx hb dX12_isFormed_76 (by decide) (by rw [c76_25_5]; rfl) (by decide) ?_
              refine lv_aload_n hx hb dX12_isFormed_136 rfl (lv_at hl 1 rfl) ?_
              refine lv_iload_n hx hb dX12_isFormed_137 rfl (lv_at hl 0 rfl) ?_
              refine lv_iload_n hx hb dX12_isFormed_138 rfl (lv_at hl 2 rfl) ?_
              refine lv_bipush (v := 112) hx hb dX12_isFormed_139 (by decide) ?_
              refine lv_iconst (v := 1) hx hb dX12_isFormed_141 (by decide) ?_
              refine m_ci (As := [.int (9 : Int32), .int p1, .int (112 : Int32), .int (1 : Int32)]) (rest := []) x hml L (c_elementAt l nn X g (9 : Int32) p1 (112 : Int32) (1 : Int32) hnn hX (rg_w kc_9 rfl) (rg_w q3 rfl) (rg_w kc_1 rfl)) (wm_V uc_elementAt ul_519 ui_elementAt us_elementAt u_init) rfl ⟨rfl, rfl⟩ hd_elementAt ⟨Nat.le_of_ble_eq_true rfl, Nat.le_of_ble_eq_true rfl⟩ rfl hl.1 rfl (lv_room (Nat.le_of_ble_eq_true rfl)) dX12_isFormed_142 (fun v38 g37 H37 k37 hp37 L37 => ?_)
              have rv38 : rg (0) (60) v38 := hp37.2.1
              have uv38 : (0 : Int) ≤ v38.toInt ∧ v38.toInt ≤ 60 := rv38
              have hw39 := hp37.2.2
              refine lv_istore_n (lv' := [(3, .int v38), (0, .ref h0), (1, .int p1), (2, .int p2)]) hx hb dX12_isFormed_145 rfl hl (by decide) rfl (fun ls hl => ?_)
              refine lv_aload_n hx hb dX12_isFormed_146 rfl (lv_at hl 1 rfl) ?_
              refine lv_iload_n hx hb dX12_isFormed_147 rfl (lv_at hl 0 rfl) ?_
              refine lv_iload_n hx hb dX12_isFormed_148 rfl (lv_at hl 2 rfl) ?_
              refine lv_bipush (v := 89) hx hb dX12_isFormed_149 (by decide) ?_
              refine lv_iconst (v := 1) hx hb dX12_isFormed_151 (by decide) ?_
              refine m_ci (As := [.int v38, .int p1, .int (89 : Int32), .int (1 : Int32)]) (rest := []) x hml L37 (c_elementAt l nn X g37 v38 p1 (89 : Int32) (1 : Int32) hnn hX (rg_w rv38 rfl) (rg_w q3 rfl) (rg_w kc_1 rfl)) (wm_V uc_elementAt ul_519 ui_elementAt us_elementAt u_init) rfl ⟨rfl, rfl⟩ hd_elementAt ⟨Nat.le_of_ble_eq_true rfl, Nat.le_of_ble_eq_true rfl⟩ rfl hl.1 rfl (lv_room (Nat.le_of_ble_eq_true rfl)) dX12_isFormed_152 (fun v41 g40 H40 k40 hp40 L40 => ?_)
              have rv41 : rg (0) (60) v41 := hp40.2.1
              have uv41 : (0 : Int) ≤ v41.toInt ∧ v41.toInt ≤ 60 := rv41
              have hw42 := hp40.2.2
              rw [wI_fr ((show mFr [] g g37 from (mFr.tr mFr.rf hp37.1 rfl)).at 33 rfl)] at hw42
              refine lv_istore_n (lv' := [(3, .int v41), (0, .ref h0), (1, .int p1), (2, .int p2)]) hx hb dX12_isFormed_155 rfl hl (by decide) rfl (fun ls hl => ?_)
              refine lv_iload_n hx hb dX12_isFormed_156 rfl (lv_at hl 3 rfl) ?_
              refine lv_if_eq (tgt := 172) hx hb dX12_isFormed_157 (by decide) (fun c157_43 => ?_) (fun c157_43 => ?_)
              · skip
                have ic157_43 := congrArg Int32.toInt c157_43
                have y44 : (0 : Int32).toInt = 0 := by decide
                have q45 : rg (0) (0) p2 := (rg_eq c157_43 rp2 kc_0).1
                have uq45 : (0 : Int) ≤ p2.toInt ∧ p2.toInt ≤ 0 := q45
                refine lv_iload_n hx hb dX12_isFormed_172 rfl (lv_at hl 0 rfl) ?_
                refine lv_istore_n (lv' := [(3, .int v41), (0, .ref h0), (1, .int p1), (2, .int p2)]) hx hb dX12_isFormed_173 rfl hl (by decide) rfl (fun ls hl => ?_)
                refine lv_iload_n hx hb dX12_isFormed_174 rfl (lv_at hl 3 rfl) ?_
                refine lv_if_eq (tgt := 190) hx hb dX12_isFormed_175 (by decide) (fun c175_46 => ?_) (fun c175_46 => ?_)
                · skip
                  have ic175_46 := congrArg Int32.toInt c175_46
                  have y47 : (0 : Int32).toInt = 0 := by decide
                  refine lv_iload_n hx hb dX12_isFormed_190 rfl (lv_at hl 0 rfl) ?_
                  refine lv_istore_n (lv' := [(3, .int v41), (0, .ref h0), (1, .int p1), (2, .int p2)]) hx hb dX12_isFormed_191 rfl hl (by decide) rfl (fun ls hl => ?_)
                  refine lv_goto (tgt := 234) hx hb dX12_isFormed_192 (by decide) ?_
                  refine lv_iload_n hx hb dX12_isFormed_234 rfl (lv_at hl 0 rfl) ?_
                  refine lv_iload_n hx hb dX12_isFormed_235 rfl (lv_at hl 2 rfl) ?_
                  refine lv_icmp_ne (tgt := 243) hx hb dX12_isFormed_236 (by decide) (fun c236_48 => ?_) (fun c236_48 => ?_)
                  · skip
                    refine lv_iconst (v := 0) hx hb dX12_isFormed_243 (by decide) ?_
                    exact hQ _ _ (0 : Int32) _ _ _ dX12_isFormed_244 L40 ⟨(mFr.tr (mFr.tr mFr.rf hp37.1 rfl) hp40.1 rfl), rg_w kc_0 rfl, (by have : (0 : Int32).toInt = 0 := (by decide); omega)⟩
                  · skip
                    have ic236_48 := congrArg Int32.toInt c236_48
                    have q49 : rg (9) (60) v41 := (rg_eq c236_48 rv41 q3).1
                    have uq49 : (9 : Int) ≤ v41.toInt ∧ v41.toInt ≤ 60 := q49
                    refine lv_iconst (v := 1) hx hb dX12_isFormed_239 (by decide) ?_
                    refine lv_goto (tgt := 244) hx hb dX12_isFormed_240 (by decide) ?_
                    exact hQ _ _ (1 : Int32) _ _ _ dX12_isFormed_244 L40 ⟨(mFr.tr (mFr.tr mFr.rf hp37.1 rfl) hp40.1 rfl), rg_w kc_1 rfl, (fun _ => by have k9 : (9 : Int32).toInt = 9 := (by decide); have hh : ∃ n, ch g p1.toInt n v41.toInt := ch_end (by omega); have y0_ : (1 : Int32).toInt = 1 := (by decide); have z0_ := hw42 (by omega); have hh : ∃ n, ch g p1.toInt n v38.toInt := ch_1 (a := v38.toInt) (b := v41.toInt) hh z0_.2.2.2.1 (by omega) (by omega); have y1_ : (1 : Int32).toInt = 1 := (by decide); have z1_ := hw39 (by omega); have hh : ∃ n, ch g p1.toInt n (9 : Int32).toInt := ch_1 (a := (9 : Int32).toInt) (b := v38.toInt) hh z1_.2.2.2.1 (by omega) (by omega); rw [k9] at hh; exact hh)⟩
                · skip
                  exact absurd (rg_neH c175_46 q45 kc_0 : rg (0) (-1) p2) (fun q => rg_dead q rfl)
              · skip
                have q50 : rg (1) (1) p2 := rg_neL c157_43 rp2 kc_0
                have uq50 : (1 : Int) ≤ p2.toInt ∧ p2.toInt ≤ 1 := q50
                refine lv_aload_n hx hb dX12_isFormed_160 rfl (lv_at hl 1 rfl) ?_
                refine lv_iload_n hx hb dX12_isFormed_161 rfl (lv_at hl 0 rfl) ?_
                refine lv_iload_n hx hb dX12_isFormed_162 rfl (lv_at hl 2 rfl) ?_
                refine lv_bipush (v := 108) hx hb dX12_isFormed_163 (by decide) ?_
                refine lv_iconst (v := 1) hx hb dX12_isFormed_165 (by decide) ?_
                refine m_ci (As := [.int v41, .int p1, .int (108 : Int32), .int (1 : Int32)]) (rest := []) x hml L40 (c_elementAt l nn X g40 v41 p1 (108 : Int32) (1 : Int32) hnn hX (rg_w rv41 rfl) (rg_w q3 rfl) (rg_w kc_1 rfl)) (wm_V uc_elementAt ul_519 ui_elementAt us_elementAt u_init) rfl ⟨rfl, rfl⟩ hd_elementAt ⟨Nat.le_of_ble_eq_true rfl, Nat.le_of_ble_eq_true rfl⟩ rfl hl.1 rfl (lv_room (Nat.le_of_ble_eq_true rfl)) dX12_isFormed_166 (fun v52 g51 H51 k51 hp51 L51 => ?_)
                have rv52 : rg (0) (60) v52 := hp51.2.1
                have uv52 : (0 : Int) ≤ v52.toInt ∧ v52.toInt ≤ 60 := rv52
                have hw53 := hp51.2.2
                rw [wI_fr ((show mFr [] g g40 from (mFr.tr (mFr.tr mFr.rf hp37.1 rfl) hp40.1 rfl)).at 33 rfl)] at hw53
                refine lv_goto (tgt := 173) hx hb dX12_isFormed_169 (by decide) ?_
                refine lv_istore_n (lv' := [(3, .int v52), (0, .ref h0), (1, .int p1), (2, .int p2)]) hx hb dX12_isFormed_173 rfl hl (by decide) rfl (fun ls hl => ?_)
                refine lv_iload_n hx hb dX12_isFormed_174 rfl (lv_at hl 3 rfl) ?_
                refine lv_if_eq (tgt := 190) hx hb dX12_isFormed_175 (by decide) (fun c175_54 => ?_) (fun c175_54 => ?_)
                · skip
                  have ic175_54 := congrArg Int32.toInt c175_54
                  have y55 : (0 : Int32).toInt = 0 := by decide
                  exact absurd ((rg_eq c175_54 q50 kc_0).1 : rg (1) (0) p2) (fun q => rg_dead q rfl)
                · skip
                  refine lv_aload_n hx hb dX12_isFormed_178 rfl (lv_at hl 1 rfl) ?_
                  refine lv_iload_n hx hb dX12_isFormed_179 rfl (lv_at hl 0 rfl) ?_
                  refine lv_iload_n hx hb dX12_isFormed_180 rfl (lv_at hl 2 rfl) ?_
                  refine lv_bipush (v := 90) hx hb dX12_isFormed_181 (by decide) ?_
                  refine lv_iconst (v := 2) hx hb dX12_isFormed_183 (by decide) ?_
                  refine m_ci (As := [.int v52, .int p1, .int (90 : Int32), .int (2 : Int32)]) (rest := []) x hml L51 (c_elementAt l nn X g51 v52 p1 (90 : Int32) (2 : Int32) hnn hX (rg_w rv52 rfl) (rg_w q3 rfl) (rg_w kc_2 rfl)) (wm_V uc_elementAt ul_519 ui_elementAt us_elementAt u_init) rfl ⟨rfl, rfl⟩ hd_elementAt ⟨Nat.le_of_ble_eq_true rfl, Nat.le_of_ble_eq_true rfl⟩ rfl hl.1 rfl (lv_room (Nat.le_of_ble_eq_true rfl)) dX12_isFormed_184 (fun v57 g56 H56 k56 hp56 L56 => ?_)
                  have rv57 : rg (0) (60) v57 := hp56.2.1
                  have uv57 : (0 : Int) ≤ v57.toInt ∧ v57.toInt ≤ 60 := rv57
                  have hw58 := hp56.2.2
                  rw [wI_fr ((show mFr [] g g51 from (mFr.tr (mFr.tr (mFr.tr mFr.rf hp37.1 rfl) hp40.1 rfl) hp51.1 rfl)).at 33 rfl)] at hw58
                  refine lv_goto (tgt := 191) hx hb dX12_isFormed_187 (by decide) ?_
                  refine lv_istore_n (lv' := [(3, .int v57), (0, .ref h0), (1, .int p1), (2, .int p2)]) hx hb dX12_isFormed_191 rfl hl (by decide) rfl (fun ls hl => ?_)
                  refine lv_goto (tgt := 234) hx hb dX12_isFormed_192 (by decide) ?_
                  refine lv_iload_n hx hb dX12_isFormed_234 rfl (lv_at hl 0 rfl) ?_
                  refine lv_iload_n hx hb dX12_isFormed_235 rfl (lv_at hl 2 rfl) ?_
                  refine lv_icmp_ne (tgt := 243) hx hb dX12_isFormed_236 (by decide) (fun c236_59 => ?_) (fun c236_59 => ?_)
                  · skip
                    refine lv_iconst (v := 0) hx hb dX12_isFormed_243 (by decide) ?_
                    exact hQ _ _ (0 : Int32) _ _ _ dX12_isFormed_244 L56 ⟨(mFr.tr (mFr.tr (mFr.tr (mFr.tr mFr.rf hp37.1 rfl) hp40.1 rfl) hp51.1 rfl) hp56.1 rfl), rg_w kc_0 rfl, (by have : (0 : Int32).toInt = 0 := (by decide); omega)⟩
                  · skip
                    have ic236_59 := congrArg Int32.toInt c236_59
                    have q60 : rg (9) (60) v57 := (rg_eq c236_59 rv57 q3).1
                    have uq60 : (9 : Int) ≤ v57.toInt ∧ v57.toInt ≤ 60 := q60
                    refine lv_iconst (v := 1) hx hb dX12_isFormed_239 (by decide) ?_
                    refine lv_goto (tgt := 244) hx hb dX12_isFormed_240 (by decide) ?_
                    exact hQ _ _ (1 : Int32) _ _ _ dX12_isFormed_244 L56 ⟨(mFr.tr (mFr.tr (mFr.tr (mFr.tr mFr.rf hp37.1 rfl) hp40.1 rfl) hp51.1 rfl) hp56.1 rfl), rg_w kc_1 rfl, (fun _ => by have k9 : (9 : Int32).toInt = 9 := (by decide); have hh : ∃ n, ch g p1.toInt n v57.toInt := ch_end (by omega); have y0_ : (2 : Int32).toInt = 2 := (by decide); have z0_ := hw58 (by omega); have hh : ∃ n, ch g p1.toInt n v52.toInt := ch_2 (a := v52.toInt) (b := v57.toInt) hh z0_.2.2.2.1 (by omega) (by omega); have y1_ : (1 : Int32).toInt = 1 := (by decide); have z1_ := hw53 (by omega); have hh : ∃ n, ch g p1.toInt n v41.toInt := ch_1 (a := v41.toInt) (b := v52.toInt) hh z1_.2.2.2.1 (by omega) (by omega); have y2_ : (1 : Int32).toInt = 1 := (by decide); have z2_ := hw42 (by omega); have hh : ∃ n, ch g p1.toInt n v38.toInt := ch_1 (a := v38.toInt) (b := v41.toInt) hh z2_.2.2.2.1 (by omega) (by omega); have y3_ : (1 : Int32).toInt = 1 := (by decide); have z3_ := hw39 (by omega); have hh : ∃ n, ch g p1.toInt n (9 : Int32).toInt := ch_1 (a := (9 : Int32).toInt) (b := v38.toInt) hh z3_.2.2.2.1 (by omega) (by omega); rw [k9] at hh; exact hh)⟩
            by_cases c76_25_7 : v24.toInt = 7
            · skip
              refine lv_lookup (off := 153) (tgt := 229) hx hb dX12_isFormed_76 (by decide) (by rw [c76_25_7]; rfl) (by decide) ?_
              refine lv_goto (tgt := 234) hx hb dX12_isFormed_229 (by decide) ?_
              refine lv_iload_n hx hb dX12_isFormed_234 rfl (lv_at hl 0 rfl) ?_
              refine lv_iload_n hx hb dX12_isFormed_235 rfl (lv_at hl 2 rfl) ?_
              refine lv_icmp_ne (tgt := 243) hx hb dX12_isFormed_236 (by decide) (fun c236_61 => ?_) (fun c236_61 => ?_)
              · skip
                refine lv_iconst (v := 0) hx hb dX12_isFormed_243 (by decide) ?_
                exact hQ _ _ (0 : Int32) _ _ _ dX12_isFormed_244 L ⟨mFr.rf, rg_w kc_0 rfl, (by have : (0 : Int32).toInt = 0 := (by decide); omega)⟩
              · skip
                have ic236_61 := congrArg Int32.toInt c236_61
                have q62 : rg (9) (9) p1 := (rg_eq c236_61 kc_9 q3).2
                have uq62 : (9 : Int) ≤ p1.toInt ∧ p1.toInt ≤ 9 := q62
                refine lv_iconst (v := 1) hx hb dX12_isFormed_239 (by decide) ?_
                refine lv_goto (tgt := 244) hx hb dX12_isFormed_240 (by decide) ?_
                exact hQ _ _ (1 : Int32) _ _ _ dX12_isFormed_244 L ⟨mFr.rf, rg_w kc_1 rfl, (fun _ => by have k9 : (9 : Int32).toInt = 9 := (by decide); have hh : ∃ n, ch g p1.toInt n (9 : Int32).toInt := ch_end (by omega); rw [k9] at hh; exact hh)⟩
            by_cases c76_25_15 : v24.toInt = 15
            · skip
              refine lv_lookup (off := 153) (tgt := 229) hx hb dX12_isFormed_76 (by decide) (by rw [c76_25_15]; rfl) (by decide) ?_
              refine lv_goto (tgt := 234) hx hb dX12_isFormed_229 (by decide) ?_
              refine lv_iload_n hx hb dX12_isFormed_234 rfl (lv_at hl 0 rfl) ?_
              refine lv_iload_n hx hb dX12_isFormed_235 rfl (lv_at hl 2 rfl) ?_
              refine lv_icmp_ne (tgt := 243) hx hb dX12_isFormed_236 (by decide) (fun c236_63 => ?_) (fun c236_63 => ?_)
              · skip
                refine lv_iconst (v := 0) hx hb dX12_isFormed_243 (by decide) ?_
                exact hQ _ _ (0 : Int32) _ _ _ dX12_isFormed_244 L ⟨mFr.rf, rg_w kc_0 rfl, (by have : (0 : Int32).toInt = 0 := (by decide); omega)⟩
              · skip
                have ic236_63 := congrArg Int32.toInt c236_63
                have q64 : rg (9) (9) p1 := (rg_eq c236_63 kc_9 q3).2
                have uq64 : (9 : Int) ≤ p1.toInt ∧ p1.toInt ≤ 9 := q64
                refine lv_iconst (v := 1) hx hb dX12_isFormed_239 (by decide) ?_
                refine lv_goto (tgt := 244) hx hb dX12_isFormed_240 (by decide) ?_
                exact hQ _ _ (1 : Int32) _ _ _ dX12_isFormed_244 L ⟨mFr.rf, rg_w kc_1 rfl, (fun _ => by have k9 : (9 : Int32).toInt = 9 := (by decide); have hh : ∃ n, ch g p1.toInt n (9 : Int32).toInt := ch_end (by omega); rw [k9] at hh; exact hh)⟩
            by_cases c76_25_77 : v24.toInt = 77
            · skip
              refine lv_lookup (off := 140) (tgt := 216) hx hb dX12_isFormed_76 (by decide) (by rw [c76_25_77]; rfl) (by decide) ?_
              refine lv_aload_n hx hb dX12_isFormed_216 rfl (lv_at hl 1 rfl) ?_
              refine lv_iload_n hx hb dX12_isFormed_217 rfl (lv_at hl 0 rfl) ?_
              refine lv_iload_n hx hb dX12_isFormed_218 rfl (lv_at hl 2 rfl) ?_
              refine lv_bipush (v := 8) hx hb dX12_isFormed_219 (by decide) ?_
              refine lv_iconst (v := 1) hx hb dX12_isFormed_221 (by decide) ?_
              refine m_ci (As := [.int (9 : Int32), .int p1, .int (8 : Int32), .int (1 : Int32)]) (rest := []) x hml L (c_elementAt l nn X g (9 : Int32) p1 (8 : Int32) (1 : Int32) hnn hX (rg_w kc_9 rfl) (rg_w q3 rfl) (rg_w kc_1 rfl)) (wm_V uc_elementAt ul_519 ui_elementAt us_elementAt u_init) rfl ⟨rfl, rfl⟩ hd_elementAt ⟨Nat.le_of_ble_eq_true rfl, Nat.le_of_ble_eq_true rfl⟩ rfl hl.1 rfl (lv_room (Nat.le_of_ble_eq_true rfl)) dX12_isFormed_222 (fun v66 g65 H65 k65 hp65 L65 => ?_)
              have rv66 : rg (0) (60) v66 := hp65.2.1
              have uv66 : (0 : Int) ≤ v66.toInt ∧ v66.toInt ≤ 60 := rv66
              have hw67 := hp65.2.2
              refine lv_istore_n (lv' := [(3, .int v66), (0, .ref h0), (1, .int p1), (2, .int p2)]) hx hb dX12_isFormed_225 rfl hl (by decide) rfl (fun ls hl => ?_)
              refine lv_goto (tgt := 234) hx hb dX12_isFormed_226 (by decide) ?_
              refine lv_iload_n hx hb dX12_isFormed_234 rfl (lv_at hl 0 rfl) ?_
              refine lv_iload_n hx hb dX12_isFormed_235 rfl (lv_at hl 2 rfl) ?_
              refine lv_icmp_ne (tgt := 243) hx hb dX12_isFormed_236 (by decide) (fun c236_68 => ?_) (fun c236_68 => ?_)
              · skip
                refine lv_iconst (v := 0) hx hb dX12_isFormed_243 (by decide) ?_
                exact hQ _ _ (0 : Int32) _ _ _ dX12_isFormed_244 L65 ⟨(mFr.tr mFr.rf hp65.1 rfl), rg_w kc_0 rfl, (by have : (0 : Int32).toInt = 0 := (by decide); omega)⟩
              · skip
                have ic236_68 := congrArg Int32.toInt c236_68
                have q69 : rg (9) (60) v66 := (rg_eq c236_68 rv66 q3).1
                have uq69 : (9 : Int) ≤ v66.toInt ∧ v66.toInt ≤ 60 := q69
                refine lv_iconst (v := 1) hx hb dX12_isFormed_239 (by decide) ?_
                refine lv_goto (tgt := 244) hx hb dX12_isFormed_240 (by decide) ?_
                exact hQ _ _ (1 : Int32) _ _ _ dX12_isFormed_244 L65 ⟨(mFr.tr mFr.rf hp65.1 rfl), rg_w kc_1 rfl, (fun _ => by have k9 : (9 : Int32).toInt = 9 := (by decide); have hh : ∃ n, ch g p1.toInt n v66.toInt := ch_end (by omega); have y0_ : (1 : Int32).toInt = 1 := (by decide); have z0_ := hw67 (by omega); have hh : ∃ n, ch g p1.toInt n (9 : Int32).toInt := ch_1 (a := (9 : Int32).toInt) (b := v66.toInt) hh z0_.2.2.2.1 (by omega) (by omega); rw [k9] at hh; exact hh)⟩
            by_cases c76_25_90 : v24.toInt = 90
            · skip
              refine lv_lookup (off := 140) (tgt := 216) hx hb dX12_isFormed_76 (by decide) (by rw [c76_25_90]; rfl) (by decide) ?_
              refine lv_aload_n hx hb dX12_isFormed_216 rfl (lv_at hl 1 rfl) ?_
              refine lv_iload_n hx hb dX12_isFormed_217 rfl (lv_at hl 0 rfl) ?_
              refine lv_iload_n hx hb dX12_isFormed_218 rfl (lv_at hl 2 rfl) ?_
              refine lv_bipush (v := 8) hx hb dX12_isFormed_219 (by decide) ?_
              refine lv_iconst (v := 1) hx hb dX12_isFormed_221 (by decide) ?_
              refine m_ci (As := [.int (9 : Int32), .int p1, .int (8 : Int32), .int (1 : Int32)]) (rest := []) x hml L (c_elementAt l nn X g (9 : Int32) p1 (8 : Int32) (1 : Int32) hnn hX (rg_w kc_9 rfl) (rg_w q3 rfl) (rg_w kc_1 rfl)) (wm_V uc_elementAt ul_519 ui_elementAt us_elementAt u_init) rfl ⟨rfl, rfl⟩ hd_elementAt ⟨Nat.le_of_ble_eq_true rfl, Nat.le_of_ble_eq_true rfl⟩ rfl hl.1 rfl (lv_room (Nat.le_of_ble_eq_true rfl)) dX12_isFormed_222 (fun v71 g70 H70 k70 hp70 L70 => ?_)
              have rv71 : rg (0) (60) v71 := hp70.2.1
              have uv71 : (0 : Int) ≤ v71.toInt ∧ v71.toInt ≤ 60 := rv71
              have hw72 := hp70.2.2
              refine lv_istore_n (lv' := [(3, .int v71), (0, .ref h0), (1, .int p1), (2, .int p2)]) hx hb dX12_isFormed_225 rfl hl (by decide) rfl (fun ls hl => ?_)
              refine lv_goto (tgt := 234) hx hb dX12_isFormed_226 (by decide) ?_
              refine lv_iload_n hx hb dX12_isFormed_234 rfl (lv_at hl 0 rfl) ?_
              refine lv_iload_n hx hb dX12_isFormed_235 rfl (lv_at hl 2 rfl) ?_
              refine lv_icmp_ne (tgt := 243) hx hb dX12_isFormed_236 (by decide) (fun c236_73 => ?_) (fun c236_73 => ?_)
              · skip
                refine lv_iconst (v := 0) hx hb dX12_isFormed_243 (by decide) ?_
                exact hQ _ _ (0 : Int32) _ _ _ dX12_isFormed_244 L70 ⟨(mFr.tr mFr.rf hp70.1 rfl), rg_w kc_0 rfl, (by have : (0 : Int32).toInt = 0 := (by decide); omega)⟩
              · skip
                have ic236_73 := congrArg Int32.toInt c236_73
                have q74 : rg (9) (60) v71 := (rg_eq c236_73 rv71 q3).1
                have uq74 : (9 : Int) ≤ v71.toInt ∧ v71.toInt ≤ 60 := q74
                refine lv_iconst (v := 1) hx hb dX12_isFormed_239 (by decide) ?_
                refine lv_goto (tgt := 244) hx hb dX12_isFormed_240 (by decide) ?_
                exact hQ _ _ (1 : Int32) _ _ _ dX12_isFormed_244 L70 ⟨(mFr.tr mFr.rf hp70.1 rfl), rg_w kc_1 rfl, (fun _ => by have k9 : (9 : Int32).toInt = 9 := (by decide); have hh : ∃ n, ch g p1.toInt n v71.toInt := ch_end (by omega); have y0_ : (1 : Int32).toInt = 1 := (by decide); have z0_ := hw72 (by omega); have hh : ∃ n, ch g p1.toInt n (9 : Int32).toInt := ch_1 (a := (9 : Int32).toInt) (b := v71.toInt) hh z0_.2.2.2.1 (by omega) (by omega); rw [k9] at hh; exact hh)⟩
            refine lv_lookup (off := 156) (tgt := 232) hx hb dX12_isFormed_76 (by decide) (lk_def (by simp only [List.all_cons, List.all_nil, Bool.and_true, Bool.and_eq_true, decide_eq_true_eq, ne_eq]; omega)) (by decide) ?_
            refine lv_iconst (v := 0) hx hb dX12_isFormed_232 (by decide) ?_
            refine lv_istore_n (lv' := [(3, .int (0 : Int32)), (0, .ref h0), (1, .int p1), (2, .int p2)]) hx hb dX12_isFormed_233 rfl hl (by decide) rfl (fun ls hl => ?_)
            refine lv_iload_n hx hb dX12_isFormed_234 rfl (lv_at hl 0 rfl) ?_
            refine lv_iload_n hx hb dX12_isFormed_235 rfl (lv_at hl 2 rfl) ?_
            refine lv_icmp_ne (tgt := 243) hx hb dX12_isFormed_236 (by decide) (fun c236_75 => ?_) (fun c236_75 => ?_)
            · skip
              refine lv_iconst (v := 0) hx hb dX12_isFormed_243 (by decide) ?_
              exact hQ _ _ (0 : Int32) _ _ _ dX12_isFormed_244 L ⟨mFr.rf, rg_w kc_0 rfl, (by have : (0 : Int32).toInt = 0 := (by decide); omega)⟩
            · skip
              have ic236_75 := congrArg Int32.toInt c236_75
              exact absurd ((rg_eq c236_75 kc_0 q3).1 : rg (9) (0) (0 : Int32)) (fun q => rg_dead q rfl)
          · skip
            refine lv_iconst (v := 0) hx hb dX12_isFormed_65 (by decide) ?_
            exact hQ _ _ (0 : Int32) _ _ _ dX12_isFormed_66 L ⟨mFr.rf, rg_w kc_0 rfl, (by have : (0 : Int32).toInt = 0 := (by decide); omega)⟩
theorem c_isFormed (l : Launch) {G : mG} {h0 : Nat} {ad : Nat → Nat} (nn X : Int) (g : mSt) (p1 : Int32) (p2 : Int32) (hnn : 2 ≤ nn ∧ nn ≤ 4) (hX : 0 ≤ X ∧ X ≤ 2000000000) (rp1 : rg (1) (60) p1) (rp2 : rg (0) (1) p2) : Met l yX12_isFormed (wm (Cond.code yX12_isFormed cX12_isFormed 4 (some .boolean))) rm_isFormed (va_Pc [.ref h0, .int p1, .int p2] (mPre G h0 ad nn X g)) (mQi G h0 ad nn X (fun r g1 => mFr [] g g1 ∧ rg (0) (1) r ∧ (1 ≤ r.toInt → ∃ n, ch g p1.toInt n 9))) 0 0 (mA h0 ad) := by
  refine Met.ofW (cc := cX12_isFormed) (maxL := 4) (ret := (some .boolean)) (by decide) rfl ?_
  intro p e s m args below meth c s₁ B hml hv
  obtain ⟨rfl, hv⟩ := hv
  have hr := B.returns
  have hlocks := B.notSynchronized
  obtain ⟨x, L⟩ := m_start B rfl wm_X hv
  have hl := lv_entry ([.ref h0, .int p1, .int p2]) (n := 4) (Nat.le_of_ble_eq_true rfl)
  rw [lg_entry_eq]
  generalize (lg_sl ([.ref h0, .int p1, .int p2]) ++ List.replicate (4 - (lg_sl ([.ref h0, .int p1, .int p2])).length) Slot.unset).toArray = ls at hl ⊢
  exact w_isFormed x hml L hnn hX p1 p2 rp1 rp2 hl (fun pc' ls' r g1 H1 locs1 hdg L hp => m_zret x L hr hlocks (nar01 (rg_w hp.2.1 rfl)) (Int.le_refl _) hp hdg)

def rm_status : Room := { frames := 8, cells := 0, slots := 0, locals := 185 }
theorem hd_status : yX12_status.cls = RX12 ∧ yX12_status.cls ≠ "java/lang/invoke/MethodHandle" ∧ yX12_status.cls ≠ "java/lang/invoke/VarHandle" ∧ (parseMethodDescriptor yX12_status.desc).map (fun d => d.parameters.length) = some 4 := by decide +kernel
set_option maxHeartbeats 4000000 in
set_option maxRecDepth 100000 in
theorem w_status {p : Program} {l : Launch} {e : Env} {s : State} {m : MethodId} {args : Array Value} {below : List Frame} {meth : Method} {c : Code} {H : Heap} {locs : List Loc} {Q : State → Prop} {ls : Array Slot} {G : mG} {h0 : Nat} {ad : Nat → Nat} {g : mSt} {H0 : Heap} {nn X : Int} (x : mX p c cX12_status s args (wm (Cond.code yX12_status cX12_status 13 none)) m G h0 ad) (hml : c.maxLocals = 13) (L : mL G h0 ad H0 nn X g H locs) (hnn : 2 ≤ nn ∧ nn ≤ 4) (hX : 0 ≤ X ∧ X ≤ 2000000000) (p1 : Int32) (p2 : Int32) (p3 : Int32) (p4 : Int32) (rp1 : rg (0) (7) p1) (np1 : p1.toInt < 2 * nn) (rp2 : rg (0) (16777215) p2) (rp3 : rg (3) (15) p3) (hl : lv_has ls 13 [(0, .ref h0), (1, .int p1), (2, .int p2), (3, .int p3), (4, .int p4)]) (hQ : ∀ (pc' : Nat) (ls' : Array Slot) (g1 : mSt) (H1 : Heap) (locs1 : List Loc), decode cX12_status pc' = .ok (.return_, 1) → mL G h0 ad H0 nn X g1 H1 locs1 → (mFr [4, 5, 7, 8, 9, 10, 11, 40, 42, 43, 45, 49, 52, 53, 54, 55, 64] g g1 ∧ True) → W p l e rm_status s m args below meth c H1 locs1 0 0 Q (F0 m pc' ls' [])) : W p l e rm_status s m args below meth c H locs 0 0 Q (F0 m 0 ls []) := by
  have hx := x.1
  have hb := x.2.1
  have up1 : (0 : Int) ≤ p1.toInt ∧ p1.toInt ≤ 7 := rp1
  have up2 : (0 : Int) ≤ p2.toInt ∧ p2.toInt ≤ 16777215 := rp2
  have up3 : (3 : Int) ≤ p3.toInt ∧ p3.toInt ≤ 15 := rp3
  have up4 : (-2147483648 : Int) ≤ p4.toInt ∧ p4.toInt ≤ 2147483647 := (rg_any p4)
  refine lv_iload_n hx hb dX12_status_0 rfl (lv_at hl 3 rfl) ?_
  refine lv_iconst (v := 3) hx hb dX12_status_1 (by decide) ?_
  refine lv_isub hx hb dX12_status_2 ?_
  refine lv_topi (fun v1 ev1 => ?_)
  have rv1 : rg (0) (12) v1 := (rg_sub ev1 rp3 kc_3 rfl).1
  have tv1 := (rg_sub ev1 rp3 kc_3 rfl).2
  have y2 : (3 : Int32).toInt = 3 := by decide
  have uv1 : (0 : Int) ≤ v1.toInt ∧ v1.toInt ≤ 12 := rv1
  refine lv_istore (lv' := [(5, .int v1), (0, .ref h0), (1, .int p1), (2, .int p2), (3, .int p3), (4, .int p4)]) hx hb dX12_status_3 hl (by decide) rfl (fun ls hl => ?_)
  refine lv_aload_n hx hb dX12_status_5 rfl (lv_at hl 1 rfl) ?_
  refine lv_iconst (v := 4) hx hb dX12_status_6 (by decide) ?_
  refine lv_iload hx hb dX12_status_7 (lv_at hl 0 rfl) ?_
  refine lv_imul hx hb dX12_status_9 ?_
  refine lv_topi (fun v3 ev3 => ?_)
  have rv3 : rg (0) (48) v3 := (rg_mulL ev3 kc_4 rv1 rfl).1
  have tv3 := (rg_mulL ev3 kc_4 rv1 rfl).2
  have y4 : (4 : Int32).toInt = 4 := by decide
  have uv3 : (0 : Int) ≤ v3.toInt ∧ v3.toInt ≤ 48 := rv3
  refine m_ci (As := [.int v3]) (rest := []) x hml L (c_byteOfWord l nn X g v3 hnn hX (rg_w rv3 rfl)) (wm_V uc_byteOfWord ul_406 ui_byteOfWord us_byteOfWord u_init) rfl ⟨rfl, rfl⟩ hd_byteOfWord ⟨Nat.le_of_ble_eq_true rfl, Nat.le_of_ble_eq_true rfl⟩ rfl hl.1 rfl (lv_room (Nat.le_of_ble_eq_true rfl)) dX12_status_10 (fun v6 g5 H5 k5 hp5 L5 => ?_)
  have rv6 : rg (-2147483648) (2147483647) v6 := hp5.2.1
  have uv6 : (-2147483648 : Int) ≤ v6.toInt ∧ v6.toInt ≤ 2147483647 := rv6
  have hw7 := hp5.2.2
  refine lv_istore (lv' := [(6, .int v6), (5, .int v1), (0, .ref h0), (1, .int p1), (2, .int p2), (3, .int p3), (4, .int p4)]) hx hb dX12_status_13 hl (by decide) rfl (fun ls hl => ?_)
  refine lv_iload_n hx hb dX12_status_15 rfl (lv_at hl 4 rfl) ?_
  refine lv_aload_n hx hb dX12_status_16 rfl (lv_at hl 2 rfl) ?_
  refine m_geta x L5 42 rfl rfl (wm_in uf_113) dX12_status_17 ?_
  refine lv_iload_n hx hb dX12_status_20 rfl (lv_at hl 3 rfl) ?_
  refine m_ld x L5 42 rfl rp1 rfl dX12_status_21 (fun v8 ev8 wv8 => ?_)
  have rv8 : rg (0) (2147483647) v8 := lj_42 wv8
  have uv8 : (0 : Int) ≤ v8.toInt ∧ v8.toInt ≤ 2147483647 := rv8
  have j62_10 : ∀ (b62_0_9 : Int32) (g10 : mSt) (H10 : Heap) (k10 : List Loc) (ls : Array Slot), mFr [] g5 g10 → mL G h0 ad H0 nn X g10 H10 k10 → rg (0) (1) b62_0_9 → lv_has ls 13 [(0, .ref h0), (1, .int p1), (2, .int p2), (4, .int p4), (5, .int v1), (6, .int v6)] → W p l e rm_status s m args below meth c H10 k10 0 0 Q (F0 m 62 ls [.int b62_0_9]) := by
    intro b62_0_9 g10 H10 k10 ls hF10 L10 rb62_0_9 hl
    have ub62_0_9 : (0 : Int) ≤ b62_0_9.toInt ∧ b62_0_9.toInt ≤ 1 := rb62_0_9
    refine lv_istore (lv' := [(7, .int b62_0_9), (0, .ref h0), (1, .int p1), (2, .int p2), (4, .int p4), (5, .int v1), (6, .int v6)]) hx hb dX12_status_62 hl (by decide) rfl (fun ls hl => ?_)
    refine lv_iload_n hx hb dX12_status_64 rfl (lv_at hl 3 rfl) ?_
    refine lv_iconst (v := 1) hx hb dX12_status_65 (by decide) ?_
    refine lv_isub hx hb dX12_status_66 ?_
    refine lv_topi (fun v11 ev11 => ?_)
    have rv11 : rg (-1) (16777214) v11 := (rg_sub ev11 rp2 kc_1 rfl).1
    have tv11 := (rg_sub ev11 rp2 kc_1 rfl).2
    have y12 : (1 : Int32).toInt = 1 := by decide
    have uv11 : (-1 : Int) ≤ v11.toInt ∧ v11.toInt ≤ 16777214 := rv11
    refine lv_istore (lv' := [(8, .int v11), (7, .int b62_0_9), (0, .ref h0), (1, .int p1), (2, .int p2), (4, .int p4), (5, .int v1), (6, .int v6)]) hx hb dX12_status_67 hl (by decide) rfl (fun ls hl => ?_)
    refine lv_iconst (v := 0) hx hb dX12_status_69 (by decide) ?_
    refine lv_istore (lv' := [(9, .int (0 : Int32)), (8, .int v11), (7, .int b62_0_9), (0, .ref h0), (1, .int p1), (2, .int p2), (4, .int p4), (5, .int v1), (6, .int v6)]) hx hb dX12_status_70 hl (by decide) rfl (fun ls hl => ?_)
    have j72_16 : ∀ (n : Nat) (a72_7_13 a72_8_14 a72_9_15 : Int32) (g16 : mSt) (H16 : Heap) (k16 : List Loc) (ls : Array Slot), mFr [] g10 g16 → mL G h0 ad H0 nn X g16 H16 k16 → rg (0) (1) a72_7_13 → rg (-2147483648) (2147483647) a72_8_14 → rg (0) (12) a72_9_15 → (a72_7_13.toInt = 1 → p2.toInt ≤ a72_8_14.toInt + 1 ∧ ∀ i : Nat, (i : Int) < a72_9_15.toInt → 0 ≤ (bW g (4 * (i : Int))).toInt) → lv_has ls 13 [(0, .ref h0), (1, .int p1), (2, .int p2), (4, .int p4), (5, .int v1), (6, .int v6), (7, .int a72_7_13), (8, .int a72_8_14), (9, .int a72_9_15)] → ((12 : Int) - a72_9_15.toInt).toNat = n → W p l e rm_status s m args below meth c H16 k16 0 0 Q (F0 m 72 ls []) := by
      intro n
      induction n using Nat.strongRecOn with
      | _ n ih16 =>
        intro a72_7_13 a72_8_14 a72_9_15 g16 H16 k16 ls hF16 L16 ra72_7_13 ra72_8_14 ra72_9_15 hv16_0 hl hn16
        subst hn16
        have ua72_7_13 : (0 : Int) ≤ a72_7_13.toInt ∧ a72_7_13.toInt ≤ 1 := ra72_7_13
        have ua72_8_14 : (-2147483648 : Int) ≤ a72_8_14.toInt ∧ a72_8_14.toInt ≤ 2147483647 := ra72_8_14
        have ua72_9_15 : (0 : Int) ≤ a72_9_15.toInt ∧ a72_9_15.toInt ≤ 12 := ra72_9_15
        refine lv_iload hx hb dX12_status_72 (lv_at hl 8 rfl) ?_
        refine lv_iload hx hb dX12_status_74 (lv_at hl 4 rfl) ?_
        refine lv_icmp_ge (tgt := 129) hx hb dX12_status_76 (by decide) (fun c76_17 => ?_) (fun c76_17 => ?_)
        · skip
          have ic76_17 := Int32.le_iff_toInt_le.mp c76_17
          refine lv_iload hx hb dX12_status_129 (lv_at hl 6 rfl) ?_
          refine lv_if_ne (tgt := 141) hx hb dX12_status_131 (by decide) (fun c131_18 => ?_) (fun c131_18 => ?_)
          · skip
            have q19 : rg (1) (1) a72_7_13 := rg_neL c131_18 ra72_7_13 kc_0
            have uq19 : (1 : Int) ≤ a72_7_13.toInt ∧ a72_7_13.toInt ≤ 1 := q19
            refine lv_aload_n hx hb dX12_status_141 rfl (lv_at hl 0 rfl) ?_
            refine lv_iload_n hx hb dX12_status_142 rfl (lv_at hl 1 rfl) ?_
            refine lv_iload_n hx hb dX12_status_143 rfl (lv_at hl 2 rfl) ?_
            refine m_cv (As := [.int p1, .int p2]) (rest := []) x hml L16 (c_acknowledge l nn X g16 p1 p2 hnn hX (rg_w rp1 rfl) (rg_w rp2 rfl)) (wm_V uc_acknowledge ul_448 ui_acknowledge us_acknowledge u_init) rfl ⟨rfl, rfl⟩ hd_acknowledge ⟨Nat.le_of_ble_eq_true rfl, Nat.le_of_ble_eq_true rfl⟩ rfl hl.1 rfl (lv_room (Nat.le_of_ble_eq_true rfl)) dX12_status_144 (fun  g20 H20 k20 hp20 L20 => ?_)
            refine lv_aload_n hx hb dX12_status_147 rfl (lv_at hl 0 rfl) ?_
            refine m_geta x L20 45 rfl rfl (wm_in uf_122) dX12_status_148 ?_
            refine lv_iload_n hx hb dX12_status_151 rfl (lv_at hl 1 rfl) ?_
            refine lv_iload hx hb dX12_status_152 (lv_at hl 5 rfl) ?_
            refine m_st x L20 45 rfl rp1 rfl (rj_45 (rg_any v6)) dX12_status_154 (fun g21 H21 k21 eg21 L21 => ?_)
            refine lv_aload_n hx hb dX12_status_155 rfl (lv_at hl 0 rfl) ?_
            refine m_geta x L21 43 rfl rfl (wm_in uf_116) dX12_status_156 ?_
            refine lv_iload_n hx hb dX12_status_159 rfl (lv_at hl 1 rfl) ?_
            refine lv_iload hx hb dX12_status_160 (lv_at hl 3 rfl) ?_
            refine m_st x L21 43 rfl rp1 rfl (rj_43 (rg_any p4)) dX12_status_162 (fun g22 H22 k22 eg22 L22 => ?_)
            refine lv_aload_n hx hb dX12_status_163 rfl (lv_at hl 0 rfl) ?_
            refine m_geta x L22 55 rfl rfl (wm_in uf_153) dX12_status_164 ?_
            refine lv_iload_n hx hb dX12_status_167 rfl (lv_at hl 1 rfl) ?_
            refine lv_aload_n hx hb dX12_status_168 rfl (lv_at hl 0 rfl) ?_
            refine m_geti x L22 1 rfl rfl (wm_in uf_378) dX12_status_169 (fun v23 ev23 wv23 => ?_)
            have rv23 : rg (-2147483648) (2147483647) v23 := lj_1 wv23
            have uv23 : (-2147483648 : Int) ≤ v23.toInt ∧ v23.toInt ≤ 2147483647 := rv23
            have sv23 : v23.toInt = (g 1 0).toInt := congrArg Int32.toInt (ev23.trans (congrFun ((show mFr [4, 5, 7, 8, 9, 10, 11, 40, 42, 43, 45, 49, 52, 53, 54, 55, 64] g g22 from (mFr.upE (mFr.upE (mFr.tr (mFr.tr (mFr.tr (mFr.tr mFr.rf hp5.1 rfl) hF10 rfl) hF16 rfl) hp20.1 rfl) eg21 rfl) eg22 rfl)).at 1 rfl) _))
            refine m_st x L22 55 rfl rp1 rfl (rj_55 (rg_any v23)) dX12_status_172 (fun g24 H24 k24 eg24 L24 => ?_)
            refine lv_iconst (v := 0) hx hb dX12_status_173 (by decide) ?_
            refine lv_istore (lv' := [(9, .int (0 : Int32)), (0, .ref h0), (1, .int p1), (2, .int p2), (4, .int p4), (5, .int v1), (6, .int v6), (7, .int a72_7_13), (8, .int a72_8_14)]) hx hb dX12_status_174 hl (by decide) rfl (fun ls hl => ?_)
            have j176_26 : ∀ (n : Nat) (a176_9_25 : Int32) (g26 : mSt) (H26 : Heap) (k26 : List Loc) (ls : Array Slot), mFr [64] g24 g26 → mL G h0 ad H0 nn X g26 H26 k26 → rg (0) (12) a176_9_25 → lv_has ls 13 [(0, .ref h0), (1, .int p1), (5, .int v1), (6, .int v6), (9, .int a176_9_25)] → ((12 : Int) - a176_9_25.toInt).toNat = n → W p l e rm_status s m args below meth c H26 k26 0 0 Q (F0 m 176 ls []) := by
              intro n
              induction n using Nat.strongRecOn with
              | _ n ih26 =>
                intro a176_9_25 g26 H26 k26 ls hF26 L26 ra176_9_25 hl hn26
                subst hn26
                have ua176_9_25 : (0 : Int) ≤ a176_9_25.toInt ∧ a176_9_25.toInt ≤ 12 := ra176_9_25
                refine lv_iload hx hb dX12_status_176 (lv_at hl 4 rfl) ?_
                refine lv_iconst (v := 1) hx hb dX12_status_178 (by decide) ?_
                refine lv_iadd hx hb dX12_status_179 ?_
                refine lv_topi (fun v27 ev27 => ?_)
                have rv27 : rg (1) (13) v27 := (rg_add ev27 ra176_9_25 kc_1 rfl).1
                have dv27 := (rg_add ev27 ra176_9_25 kc_1 rfl).2
                have tv27 := (rg_add ev27 ra176_9_25 kc_1 rfl).2
                have y28 : (1 : Int32).toInt = 1 := by decide
                have uv27 : (1 : Int) ≤ v27.toInt ∧ v27.toInt ≤ 13 := rv27
                refine lv_iload hx hb dX12_status_180 (lv_at hl 2 rfl) ?_
                refine lv_icmp_ge (tgt := 272) hx hb dX12_status_182 (by decide) (fun c182_29 => ?_) (fun c182_29 => ?_)
                · skip
                  have ic182_29 := Int32.le_iff_toInt_le.mp c182_29
                  exact hQ _ _ _ _ _ dX12_status_272 L26 ⟨(mFr.tr (mFr.upE (mFr.upE (mFr.upE (mFr.tr (mFr.tr (mFr.tr (mFr.tr mFr.rf hp5.1 rfl) hF10 rfl) hF16 rfl) hp20.1 rfl) eg21 rfl) eg22 rfl) eg24 rfl) hF26 rfl), trivial⟩
                · skip
                  have ic182_29 := Int32.lt_iff_toInt_lt.mp (rg_nle c182_29)
                  have q30 : rg (1) (11) v27 := (rg_lt (rg_nle c182_29) rv27 rv1).1
                  have uq30 : (1 : Int) ≤ v27.toInt ∧ v27.toInt ≤ 11 := q30
                  have q31 : rg (0) (10) a176_9_25 := rg_back dv27 kc_1 q30
                  have q32 : rg (2) (12) v1 := (rg_lt (rg_nle c182_29) rv27 rv1).2
                  have uq32 : (2 : Int) ≤ v1.toInt ∧ v1.toInt ≤ 12 := q32
                  refine lv_aload_n hx hb dX12_status_185 rfl (lv_at hl 0 rfl) ?_
                  refine lv_iconst (v := 4) hx hb dX12_status_186 (by decide) ?_
                  refine lv_iload hx hb dX12_status_187 (lv_at hl 4 rfl) ?_
                  refine lv_imul hx hb dX12_status_189 ?_
                  refine lv_topi (fun v33 ev33 => ?_)
                  have rv33 : rg (0) (40) v33 := (rg_mulL ev33 kc_4 q31 rfl).1
                  have tv33 := (rg_mulL ev33 kc_4 q31 rfl).2
                  have y34 : (4 : Int32).toInt = 4 := by decide
                  have uv33 : (0 : Int) ≤ v33.toInt ∧ v33.toInt ≤ 40 := rv33
                  refine lv_iconst (v := 4) hx hb dX12_status_190 (by decide) ?_
                  refine lv_iadd hx hb dX12_status_191 ?_
                  refine lv_topi (fun v35 ev35 => ?_)
                  have rv35 : rg (4) (44) v35 := (rg_add ev35 rv33 kc_4 rfl).1
                  have dv35 := (rg_add ev35 rv33 kc_4 rfl).2
                  have tv35 := (rg_add ev35 rv33 kc_4 rfl).2
                  have y36 : (4 : Int32).toInt = 4 := by decide
                  have uv35 : (4 : Int) ≤ v35.toInt ∧ v35.toInt ≤ 44 := rv35
                  refine m_ci (As := [.int v35]) (rest := []) x hml L26 (c_byteOfWord l nn X g26 v35 hnn hX (rg_w rv35 rfl)) (wm_V uc_byteOfWord ul_406 ui_byteOfWord us_byteOfWord u_init) rfl ⟨rfl, rfl⟩ hd_byteOfWord ⟨Nat.le_of_ble_eq_true rfl, Nat.le_of_ble_eq_true rfl⟩ rfl hl.1 rfl (lv_room (Nat.le_of_ble_eq_true rfl)) dX12_status_192 (fun v38 g37 H37 k37 hp37 L37 => ?_)
                  have rv38 : rg (-2147483648) (2147483647) v38 := hp37.2.1
                  have uv38 : (-2147483648 : Int) ≤ v38.toInt ∧ v38.toInt ≤ 2147483647 := rv38
                  have hw39 := hp37.2.2
                  rw [bW_fr ((show mFr [4, 5, 7, 8, 9, 10, 11, 40, 42, 43, 45, 49, 52, 53, 54, 55, 64] g g26 from (mFr.tr (mFr.upE (mFr.upE (mFr.upE (mFr.tr (mFr.tr (mFr.tr (mFr.tr mFr.rf hp5.1 rfl) hF10 rfl) hF16 rfl) hp20.1 rfl) eg21 rfl) eg22 rfl) eg24 rfl) hF26 rfl)).at 33 rfl)] at hw39
                  refine lv_istore (lv' := [(10, .int v38), (0, .ref h0), (1, .int p1), (5, .int v1), (6, .int v6), (9, .int a176_9_25)]) hx hb dX12_status_195 hl (by decide) rfl (fun ls hl => ?_)
                  refine lv_aload_n hx hb dX12_status_197 rfl (lv_at hl 1 rfl) ?_
                  refine lv_iconst (v := 4) hx hb dX12_status_198 (by decide) ?_
                  refine lv_iload hx hb dX12_status_199 (lv_at hl 5 rfl) ?_
                  refine lv_imul hx hb dX12_status_201 ?_
                  refine m_top ev33 ?_
                  refine m_ci (As := [.int v33]) (rest := []) x hml L37 (c_byteOfWord l nn X g37 v33 hnn hX (rg_w rv33 rfl)) (wm_V uc_byteOfWord ul_406 ui_byteOfWord us_byteOfWord u_init) rfl ⟨rfl, rfl⟩ hd_byteOfWord ⟨Nat.le_of_ble_eq_true rfl, Nat.le_of_ble_eq_true rfl⟩ rfl hl.1 rfl (lv_room (Nat.le_of_ble_eq_true rfl)) dX12_status_202 (fun v41 g40 H40 k40 hp40 L40 => ?_)
                  have rv41 : rg (-2147483648) (2147483647) v41 := hp40.2.1
                  have uv41 : (-2147483648 : Int) ≤ v41.toInt ∧ v41.toInt ≤ 2147483647 := rv41
                  have hw42 := hp40.2.2
                  rw [bW_fr ((show mFr [4, 5, 7, 8, 9, 10, 11, 40, 42, 43, 45, 49, 52, 53, 54, 55, 64] g g37 from (mFr.tr (mFr.tr (mFr.upE (mFr.upE (mFr.upE (mFr.tr (mFr.tr (mFr.tr (mFr.tr mFr.rf hp5.1 rfl) hF10 rfl) hF16 rfl) hp20.1 rfl) eg21 rfl) eg22 rfl) eg24 rfl) hF26 rfl) hp37.1 rfl)).at 33 rfl)] at hw42
                  have q43 : rg (0) (2147483647) v41 := ⟨by have ho := (hv16_0 (by omega)).2 a176_9_25.toInt.toNat (by omega); rw [hw42, show v33.toInt = 4 * ((a176_9_25.toInt.toNat : Nat) : Int) from by omega]; exact ho, i32_le _⟩
                  refine lv_istore (lv' := [(11, .int v41), (10, .int v38), (0, .ref h0), (1, .int p1), (5, .int v1), (6, .int v6), (9, .int a176_9_25)]) hx hb dX12_status_205 hl (by decide) rfl (fun ls hl => ?_)
                  have j207_45 : ∀ (n : Nat) (a207_11_44 : Int32) (g45 : mSt) (H45 : Heap) (k45 : List Loc) (ls : Array Slot), mFr [64] g40 g45 → mL G h0 ad H0 nn X g45 H45 k45 → rg (0) (2147483647) a207_11_44 → lv_has ls 13 [(0, .ref h0), (1, .int p1), (5, .int v1), (6, .int v6), (9, .int a176_9_25), (10, .int v38), (11, .int a207_11_44)] → ((2147483647 : Int) - a207_11_44.toInt).toNat = n → W p l e rm_status s m args below meth c H45 k45 0 0 Q (F0 m 207 ls []) := by
                    intro n
                    induction n using Nat.strongRecOn with
                    | _ n ih45 =>
                      intro a207_11_44 g45 H45 k45 ls hF45 L45 ra207_11_44 hl hn45
                      subst hn45
                      have ua207_11_44 : (0 : Int) ≤ a207_11_44.toInt ∧ a207_11_44.toInt ≤ 2147483647 := ra207_11_44
                      refine lv_iload hx hb dX12_status_207 (lv_at hl 6 rfl) ?_
                      refine lv_iload hx hb dX12_status_209 (lv_at hl 5 rfl) ?_
                      refine lv_icmp_ge (tgt := 266) hx hb dX12_status_211 (by decide) (fun c211_46 => ?_) (fun c211_46 => ?_)
                      · skip
                        have ic211_46 := Int32.le_iff_toInt_le.mp c211_46
                        obtain ⟨v47, ev47, fv47⟩ := inc_ex a176_9_25 (2) (2 : Int32) (by decide)
                        have rv47 : rg (2) (12) v47 := (rg_add ev47 q31 kc_2 rfl).1
                        have tv47 := (rg_add ev47 q31 kc_2 rfl).2
                        have yv47 : (2 : Int32).toInt = 2 := by decide
                        refine lv_iinc (v := v47) (lv' := [(9, .int v47), (0, .ref h0), (1, .int p1), (5, .int v1), (6, .int v6), (10, .int v38), (11, .int a207_11_44)]) hx hb dX12_status_266 hl (k := 4) rfl fv47 (by decide) rfl (fun ls hl => ?_)
                        refine lv_goto (tgt := 176) hx hb dX12_status_269 (by decide) ?_
                        exact ih26 _ (ms_up tv47 kc_2 q31 rfl rfl) v47 g45 _ _ ls (mFr.tr (mFr.tr (mFr.tr hF26 hp37.1 rfl) hp40.1 rfl) hF45 rfl) L45 (rg_w rv47 rfl) (lv_sub hl [1, 2, 3, 4, 0] rfl) rfl
                      · skip
                        have ic211_46 := Int32.lt_iff_toInt_lt.mp (rg_nle c211_46)
                        have q48 : rg (0) (2147483646) a207_11_44 := (rg_lt (rg_nle c211_46) ra207_11_44 rv38).1
                        have uq48 : (0 : Int) ≤ a207_11_44.toInt ∧ a207_11_44.toInt ≤ 2147483646 := q48
                        have q49 : rg (1) (2147483647) v38 := (rg_lt (rg_nle c211_46) ra207_11_44 rv38).2
                        have uq49 : (1 : Int) ≤ v38.toInt ∧ v38.toInt ≤ 2147483647 := q49
                        refine lv_bipush (v := 8) hx hb dX12_status_214 (by decide) ?_
                        refine lv_iload_n hx hb dX12_status_216 rfl (lv_at hl 1 rfl) ?_
                        refine lv_imul hx hb dX12_status_217 ?_
                        refine lv_topi (fun v50 ev50 => ?_)
                        have rv50 : rg (0) (56) v50 := (rg_mulL ev50 kc_8 rp1 rfl).1
                        have tv50 := (rg_mulL ev50 kc_8 rp1 rfl).2
                        have y51 : (8 : Int32).toInt = 8 := by decide
                        have b16v50 : v50.toInt < 16 * nn := by have := np1; have : (8 : Int32).toInt = 8 := (by decide); omega
                        have uv50 : (0 : Int) ≤ v50.toInt ∧ v50.toInt ≤ 56 := rv50
                        refine lv_iload hx hb dX12_status_218 (lv_at hl 6 rfl) ?_
                        refine lv_bipush (v := 8) hx hb dX12_status_220 (by decide) ?_
                        refine lv_irem hx hb dX12_status_222 (by decide) ?_
                        refine lv_topi (fun v52 ev52 => ?_)
                        have rv52 : rg (0) (7) v52 := (rg_rem ev52 q48 kc_8 rfl).1
                        have tv52 := (rg_rem ev52 q48 kc_8 rfl).2
                        have y53 : (8 : Int32).toInt = 8 := by decide
                        have uv52 : (0 : Int) ≤ v52.toInt ∧ v52.toInt ≤ 7 := rv52
                        refine lv_iadd hx hb dX12_status_223 ?_
                        refine lv_topi (fun v54 ev54 => ?_)
                        have rv54 : rg (0) (63) v54 := (rg_add ev54 rv50 rv52 rfl).1
                        have tv54 := (rg_add ev54 rv50 rv52 rfl).2
                        have uv54 : (0 : Int) ≤ v54.toInt ∧ v54.toInt ≤ 63 := rv54
                        refine lv_istore (lv' := [(12, .int v54), (0, .ref h0), (1, .int p1), (5, .int v1), (6, .int v6), (9, .int a176_9_25), (10, .int v38), (11, .int a207_11_44)]) hx hb dX12_status_224 hl (by decide) rfl (fun ls hl => ?_)
                        refine lv_aload_n hx hb dX12_status_226 rfl (lv_at hl 1 rfl) ?_
                        refine m_geta x L45 64 rfl rfl (wm_in uf_180) dX12_status_227 ?_
                        refine lv_iload hx hb dX12_status_230 (lv_at hl 0 rfl) ?_
                        refine lv_aload_n hx hb dX12_status_232 rfl (lv_at hl 1 rfl) ?_
                        refine m_geta x L45 64 rfl rfl (wm_in uf_180) dX12_status_233 ?_
                        refine lv_iload hx hb dX12_status_236 (lv_at hl 0 rfl) ?_
                        refine m_ldz x L45 64 rfl rv54 rfl dX12_status_238 (fun v55 ev55 wv55 => ?_)
                        have rv55 : rg (0) (1) v55 := lj_64 wv55
                        have uv55 : (0 : Int) ≤ v55.toInt ∧ v55.toInt ≤ 1 := rv55
                        have j259_57 : ∀ (b259_2_56 : Int32) (g57 : mSt) (H57 : Heap) (k57 : List Loc) (ls : Array Slot), mFr [] g45 g57 → mL G h0 ad H0 nn X g57 H57 k57 → rg (0) (1) b259_2_56 → lv_has ls 13 [(0, .ref h0), (1, .int p1), (5, .int v1), (6, .int v6), (9, .int a176_9_25), (10, .int v38), (11, .int a207_11_44)] → W p l e rm_status s m args below meth c H57 k57 0 0 Q (F0 m 259 ls [.int b259_2_56, .int v54, .ref (ad 64)]) := by
                          intro b259_2_56 g57 H57 k57 ls hF57 L57 rb259_2_56 hl
                          have ub259_2_56 : (0 : Int) ≤ b259_2_56.toInt ∧ b259_2_56.toInt ≤ 1 := rb259_2_56
                          refine m_stz x L57 64 rfl rv54 rfl (rg_w rb259_2_56 rfl) (rj_64 (rg_w rb259_2_56 rfl)) dX12_status_259 (fun g58 H58 k58 eg58 L58 => ?_)
                          obtain ⟨v59, ev59, fv59⟩ := inc_ex a207_11_44 (1) (1 : Int32) (by decide)
                          have rv59 : rg (1) (2147483647) v59 := (rg_add ev59 q48 kc_1 rfl).1
                          have tv59 := (rg_add ev59 q48 kc_1 rfl).2
                          have yv59 : (1 : Int32).toInt = 1 := by decide
                          refine lv_iinc (v := v59) (lv' := [(11, .int v59), (0, .ref h0), (1, .int p1), (5, .int v1), (6, .int v6), (9, .int a176_9_25), (10, .int v38)]) hx hb dX12_status_260 hl (k := 6) rfl fv59 (by decide) rfl (fun ls hl => ?_)
                          refine lv_goto (tgt := 207) hx hb dX12_status_263 (by decide) ?_
                          exact ih45 _ (ms_up tv59 kc_1 q48 rfl rfl) v59 g58 _ _ ls (mFr.upE (mFr.tr hF45 hF57 rfl) eg58 rfl) L58 (rg_w rv59 rfl) (lv_sub hl [1, 2, 3, 4, 5, 6, 0] rfl) rfl
                        have j254_60 : ∀ (g60 : mSt) (H60 : Heap) (k60 : List Loc) (ls : Array Slot), mFr [] g45 g60 → mL G h0 ad H0 nn X g60 H60 k60 → lv_has ls 13 [(0, .ref h0), (1, .int p1), (5, .int v1), (6, .int v6), (9, .int a176_9_25), (10, .int v38), (11, .int a207_11_44)] → W p l e rm_status s m args below meth c H60 k60 0 0 Q (F0 m 254 ls [.int v54, .ref (ad 64)]) := by
                          intro  g60 H60 k60 ls hF60 L60  hl
                          refine lv_iconst (v := 1) hx hb dX12_status_254 (by decide) ?_
                          refine lv_goto (tgt := 259) hx hb dX12_status_255 (by decide) ?_
                          have y61 : (1 : Int32).toInt = 1 := by decide
                          exact j259_57 (1 : Int32) g60 _ _ ls (mFr.tr mFr.rf hF60 rfl) L60 (rg_w kc_1 rfl) (lv_sub hl [0, 1, 2, 3, 4, 5, 6] rfl)
                        refine lv_if_ne (tgt := 254) hx hb dX12_status_239 (by decide) (fun c239_62 => ?_) (fun c239_62 => ?_)
                        · skip
                          have q63 : rg (1) (1) v55 := rg_neL c239_62 rv55 kc_0
                          have uq63 : (1 : Int) ≤ v55.toInt ∧ v55.toInt ≤ 1 := q63
                          exact j254_60  g45 _ _ ls mFr.rf L45  (lv_sub hl [1, 2, 3, 4, 5, 6, 7] rfl)
                        · skip
                          have ic239_62 := congrArg Int32.toInt c239_62
                          have y64 : (0 : Int32).toInt = 0 := by decide
                          have q65 : rg (0) (0) v55 := (rg_eq c239_62 rv55 kc_0).1
                          have uq65 : (0 : Int) ≤ v55.toInt ∧ v55.toInt ≤ 0 := q65
                          refine lv_aload_n hx hb dX12_status_242 rfl (lv_at hl 1 rfl) ?_
                          refine m_geta x L45 63 rfl rfl (wm_in uf_177) dX12_status_243 ?_
                          refine lv_iload hx hb dX12_status_246 (lv_at hl 0 rfl) ?_
                          refine m_ld x L45 63 rfl rv54 rfl dX12_status_248 (fun v66 ev66 wv66 => ?_)
                          have rv66 : rg (-2147483648) (2147483647) v66 := lj_63 wv66
                          have uv66 : (-2147483648 : Int) ≤ v66.toInt ∧ v66.toInt ≤ 2147483647 := rv66
                          have sv66 : v66.toInt = (g 63 v54.toNatClampNeg).toInt := congrArg Int32.toInt (ev66.trans (congrFun ((show mFr [4, 5, 7, 8, 9, 10, 11, 40, 42, 43, 45, 49, 52, 53, 54, 55, 64] g g45 from (mFr.tr (mFr.tr (mFr.tr (mFr.tr (mFr.upE (mFr.upE (mFr.upE (mFr.tr (mFr.tr (mFr.tr (mFr.tr mFr.rf hp5.1 rfl) hF10 rfl) hF16 rfl) hp20.1 rfl) eg21 rfl) eg22 rfl) eg24 rfl) hF26 rfl) hp37.1 rfl) hp40.1 rfl) hF45 rfl)).at 63 rfl) _))
                          refine lv_iload hx hb dX12_status_249 (lv_at hl 4 rfl) ?_
                          refine lv_icmp_ge (tgt := 258) hx hb dX12_status_251 (by decide) (fun c251_67 => ?_) (fun c251_67 => ?_)
                          · skip
                            have ic251_67 := Int32.le_iff_toInt_le.mp c251_67
                            refine lv_iconst (v := 0) hx hb dX12_status_258 (by decide) ?_
                            have y68 : (0 : Int32).toInt = 0 := by decide
                            exact j259_57 (0 : Int32) g45 _ _ ls mFr.rf L45 (rg_w kc_0 rfl) (lv_sub hl [1, 2, 3, 4, 5, 6, 7] rfl)
                          · skip
                            have ic251_67 := Int32.lt_iff_toInt_lt.mp (rg_nle c251_67)
                            have q69 : rg (-2147483648) (2147483646) v66 := (rg_lt (rg_nle c251_67) rv66 rv6).1
                            have uq69 : (-2147483648 : Int) ≤ v66.toInt ∧ v66.toInt ≤ 2147483646 := q69
                            have q70 : rg (-2147483647) (2147483647) v6 := (rg_lt (rg_nle c251_67) rv66 rv6).2
                            have uq70 : (-2147483647 : Int) ≤ v6.toInt ∧ v6.toInt ≤ 2147483647 := q70
                            exact j254_60  g45 _ _ ls mFr.rf L45  (lv_sub hl [1, 2, 3, 4, 5, 6, 7] rfl)
                  exact j207_45 _ v41 g40 _ _ ls mFr.rf L40 (rg_w q43 rfl) (lv_sub hl [2, 3, 4, 5, 6, 1, 0] rfl) rfl
            have y71 : (0 : Int32).toInt = 0 := by decide
            exact j176_26 _ (0 : Int32) g24 _ _ ls mFr.rf L24 (rg_w kc_0 rfl) (lv_sub hl [1, 2, 5, 6, 0] rfl) rfl
          · skip
            have ic131_18 := congrArg Int32.toInt c131_18
            have y72 : (0 : Int32).toInt = 0 := by decide
            have q73 : rg (0) (0) a72_7_13 := (rg_eq c131_18 ra72_7_13 kc_0).1
            have uq73 : (0 : Int) ≤ a72_7_13.toInt ∧ a72_7_13.toInt ≤ 0 := q73
            refine lv_aload_n hx hb dX12_status_134 rfl (lv_at hl 0 rfl) ?_
            refine lv_iload_n hx hb dX12_status_135 rfl (lv_at hl 1 rfl) ?_
            refine lv_iconst (v := 1) hx hb dX12_status_136 (by decide) ?_
            refine m_cv (As := [.int p1, .int (1 : Int32)]) (rest := []) x hml L16 (c_askReset l nn X g16 p1 (1 : Int32) hnn hX (rg_w rp1 rfl) np1 (rg_w kc_1 rfl)) (wm_V uc_askReset ul_444 ui_askReset us_askReset u_init) rfl ⟨rfl, rfl⟩ hd_askReset ⟨Nat.le_of_ble_eq_true rfl, Nat.le_of_ble_eq_true rfl⟩ rfl hl.1 rfl (lv_room (Nat.le_of_ble_eq_true rfl)) dX12_status_137 (fun  g74 H74 k74 hp74 L74 => ?_)
            exact hQ _ _ _ _ _ dX12_status_140 L74 ⟨(mFr.tr (mFr.tr (mFr.tr (mFr.tr mFr.rf hp5.1 rfl) hF10 rfl) hF16 rfl) hp74.1 rfl), trivial⟩
        · skip
          have ic76_17 := Int32.lt_iff_toInt_lt.mp (rg_nle c76_17)
          have q75 : rg (0) (11) a72_9_15 := (rg_lt (rg_nle c76_17) ra72_9_15 rv1).1
          have uq75 : (0 : Int) ≤ a72_9_15.toInt ∧ a72_9_15.toInt ≤ 11 := q75
          have q76 : rg (1) (12) v1 := (rg_lt (rg_nle c76_17) ra72_9_15 rv1).2
          have uq76 : (1 : Int) ≤ v1.toInt ∧ v1.toInt ≤ 12 := q76
          refine lv_aload_n hx hb dX12_status_79 rfl (lv_at hl 0 rfl) ?_
          refine lv_iconst (v := 4) hx hb dX12_status_80 (by decide) ?_
          refine lv_iload hx hb dX12_status_81 (lv_at hl 8 rfl) ?_
          refine lv_imul hx hb dX12_status_83 ?_
          refine lv_topi (fun v77 ev77 => ?_)
          have rv77 : rg (0) (44) v77 := (rg_mulL ev77 kc_4 q75 rfl).1
          have tv77 := (rg_mulL ev77 kc_4 q75 rfl).2
          have y78 : (4 : Int32).toInt = 4 := by decide
          have uv77 : (0 : Int) ≤ v77.toInt ∧ v77.toInt ≤ 44 := rv77
          refine m_ci (As := [.int v77]) (rest := []) x hml L16 (c_byteOfWord l nn X g16 v77 hnn hX (rg_w rv77 rfl)) (wm_V uc_byteOfWord ul_406 ui_byteOfWord us_byteOfWord u_init) rfl ⟨rfl, rfl⟩ hd_byteOfWord ⟨Nat.le_of_ble_eq_true rfl, Nat.le_of_ble_eq_true rfl⟩ rfl hl.1 rfl (lv_room (Nat.le_of_ble_eq_true rfl)) dX12_status_84 (fun v80 g79 H79 k79 hp79 L79 => ?_)
          have rv80 : rg (-2147483648) (2147483647) v80 := hp79.2.1
          have uv80 : (-2147483648 : Int) ≤ v80.toInt ∧ v80.toInt ≤ 2147483647 := rv80
          have hw81 := hp79.2.2
          rw [bW_fr ((show mFr [4, 5, 7, 8, 9, 10, 11, 40, 42, 43, 45, 49, 52, 53, 54, 55, 64] g g16 from (mFr.tr (mFr.tr (mFr.tr mFr.rf hp5.1 rfl) hF10 rfl) hF16 rfl)).at 33 rfl)] at hw81
          refine lv_istore (lv' := [(10, .int v80), (0, .ref h0), (1, .int p1), (2, .int p2), (4, .int p4), (5, .int v1), (6, .int v6), (7, .int a72_7_13), (8, .int a72_8_14), (9, .int a72_9_15)]) hx hb dX12_status_87 hl (by decide) rfl (fun ls hl => ?_)
          refine lv_iload hx hb dX12_status_89 (lv_at hl 7 rfl) ?_
          refine lv_if_eq (tgt := 116) hx hb dX12_status_91 (by decide) (fun c91_82 => ?_) (fun c91_82 => ?_)
          · skip
            have ic91_82 := congrArg Int32.toInt c91_82
            have y83 : (0 : Int32).toInt = 0 := by decide
            have q84 : rg (0) (0) a72_7_13 := (rg_eq c91_82 ra72_7_13 kc_0).1
            have uq84 : (0 : Int) ≤ a72_7_13.toInt ∧ a72_7_13.toInt ≤ 0 := q84
            refine lv_iconst (v := 0) hx hb dX12_status_116 (by decide) ?_
            refine lv_istore (lv' := [(7, .int (0 : Int32)), (10, .int v80), (0, .ref h0), (1, .int p1), (2, .int p2), (4, .int p4), (5, .int v1), (6, .int v6), (8, .int a72_8_14), (9, .int a72_9_15)]) hx hb dX12_status_117 hl (by decide) rfl (fun ls hl => ?_)
            refine lv_iload hx hb dX12_status_119 (lv_at hl 1 rfl) ?_
            refine lv_istore (lv' := [(8, .int v80), (7, .int (0 : Int32)), (10, .int v80), (0, .ref h0), (1, .int p1), (2, .int p2), (4, .int p4), (5, .int v1), (6, .int v6), (9, .int a72_9_15)]) hx hb dX12_status_121 hl (by decide) rfl (fun ls hl => ?_)
            obtain ⟨v85, ev85, fv85⟩ := inc_ex a72_9_15 (1) (1 : Int32) (by decide)
            have rv85 : rg (1) (12) v85 := (rg_add ev85 q75 kc_1 rfl).1
            have tv85 := (rg_add ev85 q75 kc_1 rfl).2
            have yv85 : (1 : Int32).toInt = 1 := by decide
            refine lv_iinc (v := v85) (lv' := [(9, .int v85), (8, .int v80), (7, .int (0 : Int32)), (10, .int v80), (0, .ref h0), (1, .int p1), (2, .int p2), (4, .int p4), (5, .int v1), (6, .int v6)]) hx hb dX12_status_123 hl (k := 9) rfl fv85 (by decide) rfl (fun ls hl => ?_)
            refine lv_goto (tgt := 72) hx hb dX12_status_126 (by decide) ?_
            have y86 : (0 : Int32).toInt = 0 := by decide
            exact ih16 _ (ms_up tv85 kc_1 q75 rfl rfl) (0 : Int32) v80 v85 g79 _ _ ls (mFr.tr hF16 hp79.1 rfl) L79 (rg_w kc_0 rfl) (rg_w rv80 rfl) (rg_w rv85 rfl) (fun h => by have : (0 : Int32).toInt = 0 := (by decide); omega) (lv_sub hl [4, 5, 6, 7, 8, 9, 2, 1, 0] rfl) rfl
          · skip
            have q87 : rg (1) (1) a72_7_13 := rg_neL c91_82 ra72_7_13 kc_0
            have uq87 : (1 : Int) ≤ a72_7_13.toInt ∧ a72_7_13.toInt ≤ 1 := q87
            refine lv_iload hx hb dX12_status_94 (lv_at hl 0 rfl) ?_
            refine lv_iload hx hb dX12_status_96 (lv_at hl 8 rfl) ?_
            refine lv_icmp_le (tgt := 116) hx hb dX12_status_98 (by decide) (fun c98_88 => ?_) (fun c98_88 => ?_)
            · skip
              have ic98_88 := Int32.le_iff_toInt_le.mp c98_88
              refine lv_iconst (v := 0) hx hb dX12_status_116 (by decide) ?_
              refine lv_istore (lv' := [(7, .int (0 : Int32)), (10, .int v80), (0, .ref h0), (1, .int p1), (2, .int p2), (4, .int p4), (5, .int v1), (6, .int v6), (8, .int a72_8_14), (9, .int a72_9_15)]) hx hb dX12_status_117 hl (by decide) rfl (fun ls hl => ?_)
              refine lv_iload hx hb dX12_status_119 (lv_at hl 1 rfl) ?_
              refine lv_istore (lv' := [(8, .int v80), (7, .int (0 : Int32)), (10, .int v80), (0, .ref h0), (1, .int p1), (2, .int p2), (4, .int p4), (5, .int v1), (6, .int v6), (9, .int a72_9_15)]) hx hb dX12_status_121 hl (by decide) rfl (fun ls hl => ?_)
              obtain ⟨v89, ev89, fv89⟩ := inc_ex a72_9_15 (1) (1 : Int32) (by decide)
              have rv89 : rg (1) (12) v89 := (rg_add ev89 q75 kc_1 rfl).1
              have tv89 := (rg_add ev89 q75 kc_1 rfl).2
              have yv89 : (1 : Int32).toInt = 1 := by decide
              refine lv_iinc (v := v89) (lv' := [(9, .int v89), (8, .int v80), (7, .int (0 : Int32)), (10, .int v80), (0, .ref h0), (1, .int p1), (2, .int p2), (4, .int p4), (5, .int v1), (6, .int v6)]) hx hb dX12_status_123 hl (k := 9) rfl fv89 (by decide) rfl (fun ls hl => ?_)
              refine lv_goto (tgt := 72) hx hb dX12_status_126 (by decide) ?_
              have y90 : (0 : Int32).toInt = 0 := by decide
              exact ih16 _ (ms_up tv89 kc_1 q75 rfl rfl) (0 : Int32) v80 v89 g79 _ _ ls (mFr.tr hF16 hp79.1 rfl) L79 (rg_w kc_0 rfl) (rg_w rv80 rfl) (rg_w rv89 rfl) (fun h => by have : (0 : Int32).toInt = 0 := (by decide); omega) (lv_sub hl [4, 5, 6, 7, 8, 9, 2, 1, 0] rfl) rfl
            · skip
              have ic98_88 := Int32.lt_iff_toInt_lt.mp (rg_nle c98_88)
              have q91 : rg (-2147483648) (2147483646) a72_8_14 := (rg_lt (rg_nle c98_88) ra72_8_14 rv80).1
              have uq91 : (-2147483648 : Int) ≤ a72_8_14.toInt ∧ a72_8_14.toInt ≤ 2147483646 := q91
              have q92 : rg (-2147483647) (2147483647) v80 := (rg_lt (rg_nle c98_88) ra72_8_14 rv80).2
              have uq92 : (-2147483647 : Int) ≤ v80.toInt ∧ v80.toInt ≤ 2147483647 := q92
              refine lv_iload hx hb dX12_status_101 (lv_at hl 0 rfl) ?_
              refine lv_aload_n hx hb dX12_status_103 rfl (lv_at hl 1 rfl) ?_
              refine m_geta x L79 41 rfl rfl (wm_in uf_110) dX12_status_104 ?_
              refine lv_iload_n hx hb dX12_status_107 rfl (lv_at hl 2 rfl) ?_
              refine m_ld x L79 41 rfl rp1 rfl dX12_status_108 (fun v93 ev93 wv93 => ?_)
              have rv93 : rg (0) (2147483647) v93 := lj_41 wv93
              have uv93 : (0 : Int) ≤ v93.toInt ∧ v93.toInt ≤ 2147483647 := rv93
              have sv93 : v93.toInt = (g 41 p1.toNatClampNeg).toInt := congrArg Int32.toInt (ev93.trans (congrFun ((show mFr [4, 5, 7, 8, 9, 10, 11, 40, 42, 43, 45, 49, 52, 53, 54, 55, 64] g g79 from (mFr.tr (mFr.tr (mFr.tr (mFr.tr mFr.rf hp5.1 rfl) hF10 rfl) hF16 rfl) hp79.1 rfl)).at 41 rfl) _))
              refine lv_icmp_gt (tgt := 116) hx hb dX12_status_109 (by decide) (fun c109_94 => ?_) (fun c109_94 => ?_)
              · skip
                have ic109_94 := Int32.lt_iff_toInt_lt.mp c109_94
                have q95 : rg (0) (2147483646) v93 := (rg_lt c109_94 rv93 q92).1
                have uq95 : (0 : Int) ≤ v93.toInt ∧ v93.toInt ≤ 2147483646 := q95
                have q96 : rg (1) (2147483647) v80 := (rg_lt c109_94 rv93 q92).2
                have uq96 : (1 : Int) ≤ v80.toInt ∧ v80.toInt ≤ 2147483647 := q96
                refine lv_iconst (v := 0) hx hb dX12_status_116 (by decide) ?_
                refine lv_istore (lv' := [(7, .int (0 : Int32)), (10, .int v80), (0, .ref h0), (1, .int p1), (2, .int p2), (4, .int p4), (5, .int v1), (6, .int v6), (8, .int a72_8_14), (9, .int a72_9_15)]) hx hb dX12_status_117 hl (by decide) rfl (fun ls hl => ?_)
                refine lv_iload hx hb dX12_status_119 (lv_at hl 1 rfl) ?_
                refine lv_istore (lv' := [(8, .int v80), (7, .int (0 : Int32)), (10, .int v80), (0, .ref h0), (1, .int p1), (2, .int p2), (4, .int p4), (5, .int v1), (6, .int v6), (9, .int a72_9_15)]) hx hb dX12_status_121 hl (by decide) rfl (fun ls hl => ?_)
                obtain ⟨v97, ev97, fv97⟩ := inc_ex a72_9_15 (1) (1 : Int32) (by decide)
                have rv97 : rg (1) (12) v97 := (rg_add ev97 q75 kc_1 rfl).1
                have tv97 := (rg_add ev97 q75 kc_1 rfl).2
                have yv97 : (1 : Int32).toInt = 1 := by decide
                refine lv_iinc (v := v97) (lv' := [(9, .int v97), (8, .int v80), (7, .int (0 : Int32)), (10, .int v80), (0, .ref h0), (1, .int p1), (2, .int p2), (4, .int p4), (5, .int v1), (6, .int v6)]) hx hb dX12_status_123 hl (k := 9) rfl fv97 (by decide) rfl (fun ls hl => ?_)
                refine lv_goto (tgt := 72) hx hb dX12_status_126 (by decide) ?_
                have y98 : (0 : Int32).toInt = 0 := by decide
                exact ih16 _ (ms_up tv97 kc_1 q75 rfl rfl) (0 : Int32) v80 v97 g79 _ _ ls (mFr.tr hF16 hp79.1 rfl) L79 (rg_w kc_0 rfl) (rg_w q96 rfl) (rg_w rv97 rfl) (fun h => by have : (0 : Int32).toInt = 0 := (by decide); omega) (lv_sub hl [4, 5, 6, 7, 8, 9, 2, 1, 0] rfl) rfl
              · skip
                have ic109_94 := Int32.le_iff_toInt_le.mp (rg_nlt c109_94)
                refine lv_iconst (v := 1) hx hb dX12_status_112 (by decide) ?_
                refine lv_goto (tgt := 117) hx hb dX12_status_113 (by decide) ?_
                refine lv_istore (lv' := [(7, .int (1 : Int32)), (10, .int v80), (0, .ref h0), (1, .int p1), (2, .int p2), (4, .int p4), (5, .int v1), (6, .int v6), (8, .int a72_8_14), (9, .int a72_9_15)]) hx hb dX12_status_117 hl (by decide) rfl (fun ls hl => ?_)
                refine lv_iload hx hb dX12_status_119 (lv_at hl 1 rfl) ?_
                refine lv_istore (lv' := [(8, .int v80), (7, .int (1 : Int32)), (10, .int v80), (0, .ref h0), (1, .int p1), (2, .int p2), (4, .int p4), (5, .int v1), (6, .int v6), (9, .int a72_9_15)]) hx hb dX12_status_121 hl (by decide) rfl (fun ls hl => ?_)
                obtain ⟨v99, ev99, fv99⟩ := inc_ex a72_9_15 (1) (1 : Int32) (by decide)
                have rv99 : rg (1) (12) v99 := (rg_add ev99 q75 kc_1 rfl).1
                have tv99 := (rg_add ev99 q75 kc_1 rfl).2
                have yv99 : (1 : Int32).toInt = 1 := by decide
                refine lv_iinc (v := v99) (lv' := [(9, .int v99), (8, .int v80), (7, .int (1 : Int32)), (10, .int v80), (0, .ref h0), (1, .int p1), (2, .int p2), (4, .int p4), (5, .int v1), (6, .int v6)]) hx hb dX12_status_123 hl (k := 9) rfl fv99 (by decide) rfl (fun ls hl => ?_)
                refine lv_goto (tgt := 72) hx hb dX12_status_126 (by decide) ?_
                have y100 : (1 : Int32).toInt = 1 := by decide
                exact ih16 _ (ms_up tv99 kc_1 q75 rfl rfl) (1 : Int32) v80 v99 g79 _ _ ls (mFr.tr hF16 hp79.1 rfl) L79 (rg_w kc_1 rfl) (rg_w q92 rfl) (rg_w rv99 rfl) (fun _ => ⟨by have := hv16_0 (by omega); omega, fun i hi => by have ho := hv16_0 (by omega); by_cases q : (i : Int) < a72_9_15.toInt; exact ho.2 i q; rw [show 4 * (i : Int) = v77.toInt from by omega, ← hw81]; omega⟩) (lv_sub hl [4, 5, 6, 7, 8, 9, 2, 1, 0] rfl) rfl
    have y101 : (0 : Int32).toInt = 0 := by decide
    exact j72_16 _ b62_0_9 v11 (0 : Int32) g10 _ _ ls mFr.rf L10 (rg_w rb62_0_9 rfl) (rg_w rv11 rfl) (rg_w kc_0 rfl) (fun _ => ⟨by omega, fun i hi => by omega⟩) (lv_sub hl [3, 4, 5, 6, 7, 8, 2, 1, 0] rfl) rfl
  have j61_102 : ∀ (g102 : mSt) (H102 : Heap) (k102 : List Loc) (ls : Array Slot), mFr [] g5 g102 → mL G h0 ad H0 nn X g102 H102 k102 → lv_has ls 13 [(0, .ref h0), (1, .int p1), (2, .int p2), (4, .int p4), (5, .int v1), (6, .int v6)] → W p l e rm_status s m args below meth c H102 k102 0 0 Q (F0 m 61 ls []) := by
    intro  g102 H102 k102 ls hF102 L102  hl
    refine lv_iconst (v := 0) hx hb dX12_status_61 (by decide) ?_
    have y103 : (0 : Int32).toInt = 0 := by decide
    exact j62_10 (0 : Int32) g102 _ _ ls (mFr.tr mFr.rf hF102 rfl) L102 (rg_w kc_0 rfl) (lv_sub hl [0, 1, 2, 3, 4, 5] rfl)
  refine lv_icmp_lt (tgt := 61) hx hb dX12_status_22 (by decide) (fun c22_104 => ?_) (fun c22_104 => ?_)
  · skip
    have ic22_104 := Int32.lt_iff_toInt_lt.mp c22_104
    have q105 : rg (1) (2147483647) v8 := (rg_lt c22_104 rp2 rv8).2
    have uq105 : (1 : Int) ≤ v8.toInt ∧ v8.toInt ≤ 2147483647 := q105
    exact j61_102  g5 _ _ ls mFr.rf L5  (lv_sub hl [2, 3, 4, 6, 1, 0] rfl)
  · skip
    have ic22_104 := Int32.le_iff_toInt_le.mp (rg_nlt c22_104)
    have q106 : rg (0) (16777215) v8 := (rg_le (rg_nlt c22_104) rv8 rp2).1
    have uq106 : (0 : Int) ≤ v8.toInt ∧ v8.toInt ≤ 16777215 := q106
    refine lv_iload_n hx hb dX12_status_25 rfl (lv_at hl 4 rfl) ?_
    refine lv_aload_n hx hb dX12_status_26 rfl (lv_at hl 2 rfl) ?_
    refine m_geta x L5 41 rfl rfl (wm_in uf_110) dX12_status_27 ?_
    refine lv_iload_n hx hb dX12_status_30 rfl (lv_at hl 3 rfl) ?_
    refine m_ld x L5 41 rfl rp1 rfl dX12_status_31 (fun v107 ev107 wv107 => ?_)
    have rv107 : rg (0) (2147483647) v107 := lj_41 wv107
    have uv107 : (0 : Int) ≤ v107.toInt ∧ v107.toInt ≤ 2147483647 := rv107
    have sv107 : v107.toInt = (g 41 p1.toNatClampNeg).toInt := congrArg Int32.toInt (ev107.trans (congrFun ((show mFr [4, 5, 7, 8, 9, 10, 11, 40, 42, 43, 45, 49, 52, 53, 54, 55, 64] g g5 from (mFr.tr mFr.rf hp5.1 rfl)).at 41 rfl) _))
    refine lv_icmp_gt (tgt := 61) hx hb dX12_status_32 (by decide) (fun c32_108 => ?_) (fun c32_108 => ?_)
    · skip
      have ic32_108 := Int32.lt_iff_toInt_lt.mp c32_108
      have q109 : rg (0) (16777214) v107 := (rg_lt c32_108 rv107 rp2).1
      have uq109 : (0 : Int) ≤ v107.toInt ∧ v107.toInt ≤ 16777214 := q109
      have q110 : rg (1) (16777215) p2 := (rg_lt c32_108 rv107 rp2).2
      have uq110 : (1 : Int) ≤ p2.toInt ∧ p2.toInt ≤ 16777215 := q110
      exact j61_102  g5 _ _ ls mFr.rf L5  (lv_sub hl [2, 3, 4, 6, 1, 0] rfl)
    · skip
      have ic32_108 := Int32.le_iff_toInt_le.mp (rg_nlt c32_108)
      refine lv_iload hx hb dX12_status_35 (lv_at hl 0 rfl) ?_
      refine lv_aload_n hx hb dX12_status_37 rfl (lv_at hl 2 rfl) ?_
      refine m_geta x L5 45 rfl rfl (wm_in uf_122) dX12_status_38 ?_
      refine lv_iload_n hx hb dX12_status_41 rfl (lv_at hl 3 rfl) ?_
      refine m_ld x L5 45 rfl rp1 rfl dX12_status_42 (fun v111 ev111 wv111 => ?_)
      have rv111 : rg (-2147483648) (2147483647) v111 := lj_45 wv111
      have uv111 : (-2147483648 : Int) ≤ v111.toInt ∧ v111.toInt ≤ 2147483647 := rv111
      refine lv_icmp_lt (tgt := 61) hx hb dX12_status_43 (by decide) (fun c43_112 => ?_) (fun c43_112 => ?_)
      · skip
        have ic43_112 := Int32.lt_iff_toInt_lt.mp c43_112
        have q113 : rg (-2147483648) (2147483646) v6 := (rg_lt c43_112 rv6 rv111).1
        have uq113 : (-2147483648 : Int) ≤ v6.toInt ∧ v6.toInt ≤ 2147483646 := q113
        have q114 : rg (-2147483647) (2147483647) v111 := (rg_lt c43_112 rv6 rv111).2
        have uq114 : (-2147483647 : Int) ≤ v111.toInt ∧ v111.toInt ≤ 2147483647 := q114
        exact j61_102  g5 _ _ ls mFr.rf L5  (lv_sub hl [2, 3, 4, 6, 1, 0] rfl)
      · skip
        have ic43_112 := Int32.le_iff_toInt_le.mp (rg_nlt c43_112)
        refine lv_iload hx hb dX12_status_46 (lv_at hl 0 rfl) ?_
        refine lv_aload_n hx hb dX12_status_48 rfl (lv_at hl 2 rfl) ?_
        refine m_geta x L5 44 rfl rfl (wm_in uf_119) dX12_status_49 ?_
        refine lv_iload_n hx hb dX12_status_52 rfl (lv_at hl 3 rfl) ?_
        refine m_ld x L5 44 rfl rp1 rfl dX12_status_53 (fun v115 ev115 wv115 => ?_)
        have rv115 : rg (-2147483648) (2147483647) v115 := lj_44 wv115
        have uv115 : (-2147483648 : Int) ≤ v115.toInt ∧ v115.toInt ≤ 2147483647 := rv115
        have sv115 : v115.toInt = (g 44 p1.toNatClampNeg).toInt := congrArg Int32.toInt (ev115.trans (congrFun ((show mFr [4, 5, 7, 8, 9, 10, 11, 40, 42, 43, 45, 49, 52, 53, 54, 55, 64] g g5 from (mFr.tr mFr.rf hp5.1 rfl)).at 44 rfl) _))
        refine lv_icmp_gt (tgt := 61) hx hb dX12_status_54 (by decide) (fun c54_116 => ?_) (fun c54_116 => ?_)
        · skip
          have ic54_116 := Int32.lt_iff_toInt_lt.mp c54_116
          have q117 : rg (-2147483648) (2147483646) v115 := (rg_lt c54_116 rv115 rv6).1
          have uq117 : (-2147483648 : Int) ≤ v115.toInt ∧ v115.toInt ≤ 2147483646 := q117
          have q118 : rg (-2147483647) (2147483647) v6 := (rg_lt c54_116 rv115 rv6).2
          have uq118 : (-2147483647 : Int) ≤ v6.toInt ∧ v6.toInt ≤ 2147483647 := q118
          exact j61_102  g5 _ _ ls mFr.rf L5  (lv_sub hl [2, 3, 4, 6, 1, 0] rfl)
        · skip
          have ic54_116 := Int32.le_iff_toInt_le.mp (rg_nlt c54_116)
          refine lv_iconst (v := 1) hx hb dX12_status_57 (by decide) ?_
          refine lv_goto (tgt := 62) hx hb dX12_status_58 (by decide) ?_
          have y119 : (1 : Int32).toInt = 1 := by decide
          exact j62_10 (1 : Int32) g5 _ _ ls mFr.rf L5 (rg_w kc_1 rfl) (lv_sub hl [2, 3, 4, 6, 1, 0] rfl)
theorem c_status (l : Launch) {G : mG} {h0 : Nat} {ad : Nat → Nat} (nn X : Int) (g : mSt) (p1 : Int32) (p2 : Int32) (p3 : Int32) (p4 : Int32) (hnn : 2 ≤ nn ∧ nn ≤ 4) (hX : 0 ≤ X ∧ X ≤ 2000000000) (rp1 : rg (0) (7) p1) (np1 : p1.toInt < 2 * nn) (rp2 : rg (0) (16777215) p2) (rp3 : rg (3) (15) p3) : Met l yX12_status (wm (Cond.code yX12_status cX12_status 13 none)) rm_status (va_Pc [.ref h0, .int p1, .int p2, .int p3, .int p4] (mPre G h0 ad nn X g)) (mQv G h0 ad nn X (fun g1 => mFr [4, 5, 7, 8, 9, 10, 11, 40, 42, 43, 45, 49, 52, 53, 54, 55, 64] g g1 ∧ True)) 0 0 (mA h0 ad) := by
  refine Met.ofW (cc := cX12_status) (maxL := 13) (ret := none) (by decide) rfl ?_
  intro p e s m args below meth c s₁ B hml hv
  obtain ⟨rfl, hv⟩ := hv
  have hr := B.returns
  have hlocks := B.notSynchronized
  obtain ⟨x, L⟩ := m_start B rfl wm_X hv
  have hl := lv_entry ([.ref h0, .int p1, .int p2, .int p3, .int p4]) (n := 13) (Nat.le_of_ble_eq_true rfl)
  rw [lg_entry_eq]
  generalize (lg_sl ([.ref h0, .int p1, .int p2, .int p3, .int p4]) ++ List.replicate (13 - (lg_sl ([.ref h0, .int p1, .int p2, .int p3, .int p4])).length) Slot.unset).toArray = ls at hl ⊢
  exact w_status x hml L hnn hX p1 p2 p3 p4 rp1 np1 rp2 rp3 hl (fun pc' ls' g1 H1 locs1 hdg L hp => m_vret x L hr hlocks (Int.le_refl _) hp hdg)
