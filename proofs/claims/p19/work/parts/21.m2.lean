def rm_freeChannel : Room := { frames := 1, cells := 0, slots := 0, locals := 23 }
theorem hd_freeChannel : yX12_freeChannel.cls = RX12 ∧ yX12_freeChannel.cls ≠ "java/lang/invoke/MethodHandle" ∧ yX12_freeChannel.cls ≠ "java/lang/invoke/VarHandle" ∧ (parseMethodDescriptor yX12_freeChannel.desc).map (fun d => d.parameters.length) = some 1 := by decide +kernel
set_option maxHeartbeats 4000000 in
set_option maxRecDepth 100000 in
theorem w_freeChannel {p : Program} {l : Launch} {e : Env} {s : State} {m : MethodId} {args : Array Value} {below : List Frame} {meth : Method} {c : Code} {H : Heap} {locs : List Loc} {Q : State → Prop} {ls : Array Slot} {G : mG} {h0 : Nat} {ad : Nat → Nat} {g : mSt} {H0 : Heap} {nn X : Int} (x : mX p c cX12_freeChannel s args (wm (Cond.code yX12_freeChannel cX12_freeChannel 3 (some .int))) m G h0 ad) (hml : c.maxLocals = 3) (L : mL G h0 ad H0 nn X g H locs) (hnn : 2 ≤ nn ∧ nn ≤ 4) (hX : 0 ≤ X ∧ X ≤ 2000000000) (p1 : Int32) (rp1 : rg (0) (7) p1) (hl : lv_has ls 3 [(0, .ref h0), (1, .int p1)]) (hQ : ∀ (pc' : Nat) (ls' : Array Slot) (r : Int32) (g1 : mSt) (H1 : Heap) (locs1 : List Loc), decode cX12_freeChannel pc' = .ok (.ireturn, 1) → mL G h0 ad H0 nn X g1 H1 locs1 → (mFr [] g g1 ∧ rg (32) (72) r ∧ True) → W p l e rm_freeChannel s m args below meth c H1 locs1 0 0 Q (F0 m pc' ls' [.int r])) : W p l e rm_freeChannel s m args below meth c H locs 0 0 Q (F0 m 0 ls []) := by
  have hx := x.1
  have hb := x.2.1
  have up1 : (0 : Int) ≤ p1.toInt ∧ p1.toInt ≤ 7 := rp1
  refine lv_bipush (v := 32) hx hb dX12_freeChannel_0 (by decide) ?_
  refine lv_istore_n (lv' := [(2, .int (32 : Int32)), (0, .ref h0), (1, .int p1)]) hx hb dX12_freeChannel_2 rfl hl (by decide) rfl (fun ls hl => ?_)
  have j3_2 : ∀ (n : Nat) (a3_2_1 : Int32) (g2 : mSt) (H2 : Heap) (k2 : List Loc) (ls : Array Slot), mFr [] g g2 → mL G h0 ad H0 nn X g2 H2 k2 → rg (32) (72) a3_2_1 → a3_2_1.toInt + (cGe g (40 * p1.toInt) a3_2_1.toInt : Int) ≤ 72 → lv_has ls 3 [(0, .ref h0), (1, .int p1), (2, .int a3_2_1)] → cGe g (40 * p1.toInt) a3_2_1.toInt = n → W p l e rm_freeChannel s m args below meth c H2 k2 0 0 Q (F0 m 3 ls []) := by
    intro n
    induction n using Nat.strongRecOn with
    | _ n ih2 =>
      intro a3_2_1 g2 H2 k2 ls hF2 L2 ra3_2_1 hv2_0 hl hn2
      subst hn2
      have ua3_2_1 : (32 : Int) ≤ a3_2_1.toInt ∧ a3_2_1.toInt ≤ 72 := ra3_2_1
      refine lv_aload_n hx hb dX12_freeChannel_3 rfl (lv_at hl 0 rfl) ?_
      refine lv_iload_n hx hb dX12_freeChannel_4 rfl (lv_at hl 1 rfl) ?_
      refine lv_iload_n hx hb dX12_freeChannel_5 rfl (lv_at hl 2 rfl) ?_
      refine m_ci (As := [.int p1, .int a3_2_1]) (rest := []) x hml L2 (c_channelAt l nn X g2 p1 a3_2_1 hnn hX (rg_w rp1 rfl)) (wm_V uc_channelAt ul_366 ui_channelAt us_channelAt u_init) rfl ⟨rfl, rfl⟩ hd_channelAt ⟨Nat.le_of_ble_eq_true rfl, Nat.le_of_ble_eq_true rfl⟩ rfl hl.1 rfl (lv_room (Nat.le_of_ble_eq_true rfl)) dX12_freeChannel_6 (fun v4 g3 H3 k3 hp3 L3 => ?_)
      have rv4 : rg (-2) (319) v4 := hp3.2.1
      have uv4 : (-2 : Int) ≤ v4.toInt ∧ v4.toInt ≤ 319 := rv4
      have hw5 := hp3.2.2
      rw [(show mFr [] g g2 from (mFr.tr mFr.rf hF2 rfl)).at 71 rfl] at hw5
      refine lv_if_lt (tgt := 18) hx hb dX12_freeChannel_9 (by decide) (fun c9_6 => ?_) (fun c9_6 => ?_)
      · skip
        have ic9_6 := Int32.lt_iff_toInt_lt.mp c9_6
        have q7 : rg (-2) (-1) v4 := (rg_lt c9_6 rv4 kc_0).1
        have uq7 : (-2 : Int) ≤ v4.toInt ∧ v4.toInt ≤ -1 := q7
        refine lv_iload_n hx hb dX12_freeChannel_18 rfl (lv_at hl 2 rfl) ?_
        exact hQ _ _ a3_2_1 _ _ _ dX12_freeChannel_19 L3 ⟨(mFr.tr (mFr.tr mFr.rf hF2 rfl) hp3.1 rfl), rg_w ra3_2_1 rfl, trivial⟩
      · skip
        have ic9_6 := Int32.le_iff_toInt_le.mp (rg_nlt c9_6)
        have q8 : rg (0) (319) v4 := (rg_le (rg_nlt c9_6) kc_0 rv4).2
        have uq8 : (0 : Int) ≤ v4.toInt ∧ v4.toInt ≤ 319 := q8
        have hq1 : cGe g (40 * p1.toInt) (a3_2_1.toInt + 1) < cGe g (40 * p1.toInt) a3_2_1.toInt := by have hz := hw5 (by omega); exact cGe_lt (by omega) hz.2.1 hz.2.2 hz.1 rfl
        have q9 : rg (32) (71) a3_2_1 := ⟨by omega, by omega⟩
        obtain ⟨v10, ev10, fv10⟩ := inc_ex a3_2_1 (1) (1 : Int32) (by decide)
        have rv10 : rg (33) (72) v10 := (rg_add ev10 q9 kc_1 rfl).1
        have tv10 := (rg_add ev10 q9 kc_1 rfl).2
        have yv10 : (1 : Int32).toInt = 1 := by decide
        refine lv_iinc (v := v10) (lv' := [(2, .int v10), (0, .ref h0), (1, .int p1)]) hx hb dX12_freeChannel_12 hl (k := 2) rfl fv10 (by decide) rfl (fun ls hl => ?_)
        refine lv_goto (tgt := 3) hx hb dX12_freeChannel_15 (by decide) ?_
        have hdv10 : cGe g (40 * p1.toInt) v10.toInt < cGe g (40 * p1.toInt) a3_2_1.toInt := by have hz := hw5 (by omega); exact cGe_lt (by omega) hz.2.1 hz.2.2 hz.1 (by omega)
        exact ih2 _ (by omega) v10 g3 _ _ ls (mFr.tr hF2 hp3.1 rfl) L3 (rg_w rv10 rfl) (by omega) (lv_sub hl [1, 2, 0] rfl) rfl
  have y11 : (32 : Int32).toInt = 32 := by decide
  have hc0 := cGe_le g (40 * p1.toInt) (32 : Int32).toInt
  exact j3_2 _ (32 : Int32) g _ _ ls mFr.rf L (rg_w kc_32 rfl) (by omega) (lv_sub hl [1, 2, 0] rfl) rfl
theorem c_freeChannel (l : Launch) {G : mG} {h0 : Nat} {ad : Nat → Nat} (nn X : Int) (g : mSt) (p1 : Int32) (hnn : 2 ≤ nn ∧ nn ≤ 4) (hX : 0 ≤ X ∧ X ≤ 2000000000) (rp1 : rg (0) (7) p1) : Met l yX12_freeChannel (wm (Cond.code yX12_freeChannel cX12_freeChannel 3 (some .int))) rm_freeChannel (va_Pc [.ref h0, .int p1] (mPre G h0 ad nn X g)) (mQi G h0 ad nn X (fun r g1 => mFr [] g g1 ∧ rg (32) (72) r ∧ True)) 0 0 (mA h0 ad) := by
  refine Met.ofW (cc := cX12_freeChannel) (maxL := 3) (ret := (some .int)) (by decide) rfl ?_
  intro p e s m args below meth c s₁ B hml hv
  obtain ⟨rfl, hv⟩ := hv
  have hr := B.returns
  have hlocks := B.notSynchronized
  obtain ⟨x, L⟩ := m_start B rfl wm_X hv
  have hl := lv_entry ([.ref h0, .int p1]) (n := 3) (Nat.le_of_ble_eq_true rfl)
  rw [lg_entry_eq]
  generalize (lg_sl ([.ref h0, .int p1]) ++ List.replicate (3 - (lg_sl ([.ref h0, .int p1])).length) Slot.unset).toArray = ls at hl ⊢
  exact w_freeChannel x hml L hnn hX p1 rp1 hl (fun pc' ls' r g1 H1 locs1 hdg L hp => m_iret x L hr hlocks (Int.le_refl _) hp hdg)
