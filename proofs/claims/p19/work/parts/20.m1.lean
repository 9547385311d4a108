def rm_isEnd : Room := { frames := 0, cells := 0, slots := 0, locals := 0 }
theorem hd_isEnd : yX12_isEnd.cls = RX12 ∧ yX12_isEnd.cls ≠ "java/lang/invoke/MethodHandle" ∧ yX12_isEnd.cls ≠ "java/lang/invoke/VarHandle" ∧ (parseMethodDescriptor yX12_isEnd.desc).map (fun d => d.parameters.length) = some 1 := by decide +kernel
set_option maxHeartbeats 4000000 in
set_option maxRecDepth 100000 in
theorem w_isEnd {p : Program} {l : Launch} {e : Env} {s : State} {m : MethodId} {args : Array Value} {below : List Frame} {meth : Method} {c : Code} {H : Heap} {locs : List Loc} {Q : State → Prop} {ls : Array Slot} {G : mG} {h0 : Nat} {ad : Nat → Nat} {g : mSt} {H0 : Heap} {nn X : Int} (x : mX p c cX12_isEnd s args (wm (Cond.code yX12_isEnd cX12_isEnd 2 (some .boolean))) m G h0 ad) (hml : c.maxLocals = 2) (L : mL G h0 ad H0 nn X g H locs) (hnn : 2 ≤ nn ∧ nn ≤ 4) (hX : 0 ≤ X ∧ X ≤ 2000000000) (p1 : Int32) (hl : lv_has ls 2 [(0, .ref h0), (1, .int p1)]) (hQ : ∀ (pc' : Nat) (ls' : Array Slot) (r : Int32) (g1 : mSt) (H1 : Heap) (locs1 : List Loc), decode cX12_isEnd pc' = .ok (.ireturn, 1) → mL G h0 ad H0 nn X g1 H1 locs1 → (mFr [] g g1 ∧ rg (0) (1) r ∧ (¬ r = 0 → rg (0) (3) p1 ∧ p1.toInt < 1 * nn) ∧ (r.toInt = 0 → ¬ (0 ≤ p1.toInt ∧ p1.toInt < nn))) → W p l e rm_isEnd s m args below meth c H1 locs1 0 0 Q (F0 m pc' ls' [.int r])) : W p l e rm_isEnd s m args below meth c H locs 0 0 Q (F0 m 0 ls []) := by
  have hx := x.1
  have hb := x.2.1
  have up1 : (-2147483648 : Int) ≤ p1.toInt ∧ p1.toInt ≤ 2147483647 := (rg_any p1)
  refine lv_iload_n hx hb dX12_isEnd_0 rfl (lv_at hl 1 rfl) ?_
  refine lv_if_lt (tgt := 16) hx hb dX12_isEnd_1 (by decide) (fun c1_1 => ?_) (fun c1_1 => ?_)
  · skip
    have ic1_1 := Int32.lt_iff_toInt_lt.mp c1_1
    have q2 : rg (-2147483648) (-1) p1 := (rg_lt c1_1 (rg_any p1) kc_0).1
    have uq2 : (-2147483648 : Int) ≤ p1.toInt ∧ p1.toInt ≤ -1 := q2
    refine lv_iconst (v := 0) hx hb dX12_isEnd_16 (by decide) ?_
    exact hQ _ _ (0 : Int32) _ _ _ dX12_isEnd_17 L ⟨mFr.rf, rg_w kc_0 rfl, (fun h => absurd rfl h), (by have : (0 : Int32).toInt = 0 := (by decide); omega)⟩
  · skip
    have ic1_1 := Int32.le_iff_toInt_le.mp (rg_nlt c1_1)
    have q3 : rg (0) (2147483647) p1 := (rg_le (rg_nlt c1_1) kc_0 (rg_any p1)).2
    have uq3 : (0 : Int) ≤ p1.toInt ∧ p1.toInt ≤ 2147483647 := q3
    refine lv_iload_n hx hb dX12_isEnd_4 rfl (lv_at hl 1 rfl) ?_
    refine lv_aload_n hx hb dX12_isEnd_5 rfl (lv_at hl 0 rfl) ?_
    refine m_geti x L 0 rfl rfl (wm_in uf_260) dX12_isEnd_6 (fun v4 ev4 wv4 => ?_)
    have rv4 : rg 2 4 v4 := rg_nn hnn wv4
    have tv4 : v4.toInt = nn := rg_n0 wv4
    have lv4 : v4.toInt = 1 * nn + 0 := by omega
    have uv4 : (2 : Int) ≤ v4.toInt ∧ v4.toInt ≤ 4 := rv4
    have sv4 : v4.toInt = (g 0 0).toInt := congrArg Int32.toInt (ev4.trans (congrFun ((show mFr [] g g from mFr.rf).at 0 rfl) _))
    refine lv_icmp_ge (tgt := 16) hx hb dX12_isEnd_9 (by decide) (fun c9_5 => ?_) (fun c9_5 => ?_)
    · skip
      have ic9_5 := Int32.le_iff_toInt_le.mp c9_5
      have q6 : rg (2) (2147483647) p1 := (rg_le c9_5 rv4 q3).2
      have uq6 : (2 : Int) ≤ p1.toInt ∧ p1.toInt ≤ 2147483647 := q6
      refine lv_iconst (v := 0) hx hb dX12_isEnd_16 (by decide) ?_
      exact hQ _ _ (0 : Int32) _ _ _ dX12_isEnd_17 L ⟨mFr.rf, rg_w kc_0 rfl, (fun h => absurd rfl h), (by have : (0 : Int32).toInt = 0 := (by decide); omega)⟩
    · skip
      have b1p1_7 : p1.toInt < 1 * nn := by have := Int32.lt_iff_toInt_lt.mp (rg_nle c9_5); have := lv4; omega
      have ic9_5 := Int32.lt_iff_toInt_lt.mp (rg_nle c9_5)
      have q8 : rg (0) (3) p1 := (rg_lt (rg_nle c9_5) q3 rv4).1
      have uq8 : (0 : Int) ≤ p1.toInt ∧ p1.toInt ≤ 3 := q8
      refine lv_iconst (v := 1) hx hb dX12_isEnd_12 (by decide) ?_
      refine lv_goto (tgt := 17) hx hb dX12_isEnd_13 (by decide) ?_
      exact hQ _ _ (1 : Int32) _ _ _ dX12_isEnd_17 L ⟨mFr.rf, rg_w kc_1 rfl, (fun _ => ⟨rg_w q8 rfl, b1p1_7⟩), (by have : (1 : Int32).toInt = 1 := (by decide); omega)⟩
theorem c_isEnd (l : Launch) {G : mG} {h0 : Nat} {ad : Nat → Nat} (nn X : Int) (g : mSt) (p1 : Int32) (hnn : 2 ≤ nn ∧ nn ≤ 4) (hX : 0 ≤ X ∧ X ≤ 2000000000) : Met l yX12_isEnd (wm (Cond.code yX12_isEnd cX12_isEnd 2 (some .boolean))) rm_isEnd (va_Pc [.ref h0, .int p1] (mPre G h0 ad nn X g)) (mQi G h0 ad nn X (fun r g1 => mFr [] g g1 ∧ rg (0) (1) r ∧ (¬ r = 0 → rg (0) (3) p1 ∧ p1.toInt < 1 * nn) ∧ (r.toInt = 0 → ¬ (0 ≤ p1.toInt ∧ p1.toInt < nn)))) 0 0 (mA h0 ad) := by
  refine Met.ofW (cc := cX12_isEnd) (maxL := 2) (ret := (some .boolean)) (by decide) rfl ?_
  intro p e s m args below meth c s₁ B hml hv
  obtain ⟨rfl, hv⟩ := hv
  have hr := B.returns
  have hlocks := B.notSynchronized
  obtain ⟨x, L⟩ := m_start B rfl wm_X hv
  have hl := lv_entry ([.ref h0, .int p1]) (n := 2) (Nat.le_of_ble_eq_true rfl)
  rw [lg_entry_eq]
  generalize (lg_sl ([.ref h0, .int p1]) ++ List.replicate (2 - (lg_sl ([.ref h0, .int p1])).length) Slot.unset).toArray = ls at hl ⊢
  exact w_isEnd x hml L hnn hX p1 hl (fun pc' ls' r g1 H1 locs1 hdg L hp => m_zret x L hr hlocks (nar01 (rg_w hp.2.1 rfl)) (Int.le_refl _) hp hdg)

def rm_isSide : Room := { frames := 0, cells := 0, slots := 0, locals := 0 }
theorem hd_isSide : yX12_isSide.cls = RX12 ∧ yX12_isSide.cls ≠ "java/lang/invoke/MethodHandle" ∧ yX12_isSide.cls ≠ "java/lang/invoke/VarHandle" ∧ (parseMethodDescriptor yX12_isSide.desc).map (fun d => d.parameters.length) = some 1 := by decide +kernel
set_option maxHeartbeats 4000000 in
set_option maxRecDepth 100000 in
theorem w_isSide {p : Program} {l : Launch} {e : Env} {s : State} {m : MethodId} {args : Array Value} {below : List Frame} {meth : Method} {c : Code} {H : Heap} {locs : List Loc} {Q : State → Prop} {ls : Array Slot} {G : mG} {h0 : Nat} {ad : Nat → Nat} {g : mSt} {H0 : Heap} {nn X : Int} (x : mX p c cX12_isSide s args (wm (Cond.code yX12_isSide cX12_isSide 2 (some .boolean))) m G h0 ad) (hml : c.maxLocals = 2) (L : mL G h0 ad H0 nn X g H locs) (hnn : 2 ≤ nn ∧ nn ≤ 4) (hX : 0 ≤ X ∧ X ≤ 2000000000) (p1 : Int32) (hl : lv_has ls 2 [(0, .ref h0), (1, .int p1)]) (hQ : ∀ (pc' : Nat) (ls' : Array Slot) (r : Int32) (g1 : mSt) (H1 : Heap) (locs1 : List Loc), decode cX12_isSide pc' = .ok (.ireturn, 1) → mL G h0 ad H0 nn X g1 H1 locs1 → (mFr [] g g1 ∧ rg (0) (1) r ∧ (¬ r = 0 → rg (0) (7) p1 ∧ p1.toInt < 2 * nn)) → W p l e rm_isSide s m args below meth c H1 locs1 0 0 Q (F0 m pc' ls' [.int r])) : W p l e rm_isSide s m args below meth c H locs 0 0 Q (F0 m 0 ls []) := by
  have hx := x.1
  have hb := x.2.1
  refine lv_iload_n hx hb dX12_isSide_0 rfl (lv_at hl 1 rfl) ?_
  refine lv_if_lt (tgt := 18) hx hb dX12_isSide_1 (by decide) (fun c1_1 => ?_) (fun c1_1 => ?_)
  · skip
    have q2 : rg (-2147483648) (-1) p1 := (rg_lt c1_1 (rg_any p1) kc_0).1
    refine lv_iconst (v := 0) hx hb dX12_isSide_18 (by decide) ?_
    exact hQ _ _ (0 : Int32) _ _ _ dX12_isSide_19 L ⟨mFr.rf, rg_w kc_0 rfl, (fun h => absurd rfl h)⟩
  · skip
    have q3 : rg (0) (2147483647) p1 := (rg_le (rg_nlt c1_1) kc_0 (rg_any p1)).2
    refine lv_iload_n hx hb dX12_isSide_4 rfl (lv_at hl 1 rfl) ?_
    refine lv_iconst (v := 2) hx hb dX12_isSide_5 (by decide) ?_
    refine lv_aload_n hx hb dX12_isSide_6 rfl (lv_at hl 0 rfl) ?_
    refine m_geti x L 0 rfl rfl (wm_in uf_260) dX12_isSide_7 (fun v4 ev4 wv4 => ?_)
    have rv4 : rg 2 4 v4 := rg_nn hnn wv4
    have tv4 : v4.toInt = nn := rg_n0 wv4
    have lv4 : v4.toInt = 1 * nn + 0 := by omega
    refine lv_imul hx hb dX12_isSide_10 ?_
    refine lv_topi (fun v5 ev5 => ?_)
    have rv5 : rg (4) (8) v5 := (rg_mulL ev5 kc_2 rv4 rfl).1
    have tv5 := (rg_mulL ev5 kc_2 rv4 rfl).2
    have lv5 : v5.toInt = 2 * nn + 0 := by have := lv4; have : (2 : Int32).toInt = 2 := (by decide); omega
    refine lv_icmp_ge (tgt := 18) hx hb dX12_isSide_11 (by decide) (fun c11_6 => ?_) (fun c11_6 => ?_)
    · skip
      have q7 : rg (4) (2147483647) p1 := (rg_le c11_6 rv5 q3).2
      refine lv_iconst (v := 0) hx hb dX12_isSide_18 (by decide) ?_
      exact hQ _ _ (0 : Int32) _ _ _ dX12_isSide_19 L ⟨mFr.rf, rg_w kc_0 rfl, (fun h => absurd rfl h)⟩
    · skip
      have b2p1_8 : p1.toInt < 2 * nn := by have := Int32.lt_iff_toInt_lt.mp (rg_nle c11_6); have := lv5; omega
      have q9 : rg (0) (7) p1 := (rg_lt (rg_nle c11_6) q3 rv5).1
      refine lv_iconst (v := 1) hx hb dX12_isSide_14 (by decide) ?_
      refine lv_goto (tgt := 19) hx hb dX12_isSide_15 (by decide) ?_
      exact hQ _ _ (1 : Int32) _ _ _ dX12_isSide_19 L ⟨mFr.rf, rg_w kc_1 rfl, (fun _ => ⟨rg_w q9 rfl, b2p1_8⟩)⟩
theorem c_isSide (l : Launch) {G : mG} {h0 : Nat} {ad : Nat → Nat} (nn X : Int) (g : mSt) (p1 : Int32) (hnn : 2 ≤ nn ∧ nn ≤ 4) (hX : 0 ≤ X ∧ X ≤ 2000000000) : Met l yX12_isSide (wm (Cond.code yX12_isSide cX12_isSide 2 (some .boolean))) rm_isSide (va_Pc [.ref h0, .int p1] (mPre G h0 ad nn X g)) (mQi G h0 ad nn X (fun r g1 => mFr [] g g1 ∧ rg (0) (1) r ∧ (¬ r = 0 → rg (0) (7) p1 ∧ p1.toInt < 2 * nn))) 0 0 (mA h0 ad) := by
  refine Met.ofW (cc := cX12_isSide) (maxL := 2) (ret := (some .boolean)) (by decide) rfl ?_
  intro p e s m args below meth c s₁ B hml hv
  obtain ⟨rfl, hv⟩ := hv
  have hr := B.returns
  have hlocks := B.notSynchronized
  obtain ⟨x, L⟩ := m_start B rfl wm_X hv
  have hl := lv_entry ([.ref h0, .int p1]) (n := 2) (Nat.le_of_ble_eq_true rfl)
  rw [lg_entry_eq]
  generalize (lg_sl ([.ref h0, .int p1]) ++ List.replicate (2 - (lg_sl ([.ref h0, .int p1])).length) Slot.unset).toArray = ls at hl ⊢
  exact w_isSide x hml L hnn hX p1 hl (fun pc' ls' r g1 H1 locs1 hdg L hp => m_zret x L hr hlocks (nar01 (rg_w hp.2.1 rfl)) (Int.le_refl _) hp hdg)

def rm_isDirection : Room := { frames := 0, cells := 0, slots := 0, locals := 0 }
theorem hd_isDirection : yX12_isDirection.cls = RX12 ∧ yX12_isDirection.cls ≠ "java/lang/invoke/MethodHandle" ∧ yX12_isDirection.cls ≠ "java/lang/invoke/VarHandle" ∧ (parseMethodDescriptor yX12_isDirection.desc).map (fun d => d.parameters.length) = some 1 := by decide +kernel
set_option maxHeartbeats 4000000 in
set_option maxRecDepth 100000 in
theorem w_isDirection {p : Program} {l : Launch} {e : Env} {s : State} {m : MethodId} {args : Array Value} {below : List Frame} {meth : Method} {c : Code} {H : Heap} {locs : List Loc} {Q : State → Prop} {ls : Array Slot} {G : mG} {h0 : Nat} {ad : Nat → Nat} {g : mSt} {H0 : Heap} {nn X : Int} (x : mX p c cX12_isDirection s args (wm (Cond.code yX12_isDirection cX12_isDirection 2 (some .boolean))) m G h0 ad) (hml : c.maxLocals = 2) (L : mL G h0 ad H0 nn X g H locs) (hnn : 2 ≤ nn ∧ nn ≤ 4) (hX : 0 ≤ X ∧ X ≤ 2000000000) (p1 : Int32) (hl : lv_has ls 2 [(0, .ref h0), (1, .int p1)]) (hQ : ∀ (pc' : Nat) (ls' : Array Slot) (r : Int32) (g1 : mSt) (H1 : Heap) (locs1 : List Loc), decode cX12_isDirection pc' = .ok (.ireturn, 1) → mL G h0 ad H0 nn X g1 H1 locs1 → (mFr [] g g1 ∧ rg (0) (1) r ∧ (¬ r = 0 → rg (0) (7) p1 ∧ p1.toInt < 2 * nn)) → W p l e rm_isDirection s m args below meth c H1 locs1 0 0 Q (F0 m pc' ls' [.int r])) : W p l e rm_isDirection s m args below meth c H locs 0 0 Q (F0 m 0 ls []) := by
  have hx := x.1
  have hb := x.2.1
  refine lv_iload_n hx hb dX12_isDirection_0 rfl (lv_at hl 1 rfl) ?_
  refine lv_if_lt (tgt := 18) hx hb dX12_isDirection_1 (by decide) (fun c1_1 => ?_) (fun c1_1 => ?_)
  · skip
    have q2 : rg (-2147483648) (-1) p1 := (rg_lt c1_1 (rg_any p1) kc_0).1
    refine lv_iconst (v := 0) hx hb dX12_isDirection_18 (by decide) ?_
    exact hQ _ _ (0 : Int32) _ _ _ dX12_isDirection_19 L ⟨mFr.rf, rg_w kc_0 rfl, (fun h => absurd rfl h)⟩
  · skip
    have q3 : rg (0) (2147483647) p1 := (rg_le (rg_nlt c1_1) kc_0 (rg_any p1)).2
    refine lv_iload_n hx hb dX12_isDirection_4 rfl (lv_at hl 1 rfl) ?_
    refine lv_iconst (v := 2) hx hb dX12_isDirection_5 (by decide) ?_
    refine lv_aload_n hx hb dX12_isDirection_6 rfl (lv_at hl 0 rfl) ?_
    refine m_geti x L 0 rfl rfl (wm_in uf_260) dX12_isDirection_7 (fun v4 ev4 wv4 => ?_)
    have rv4 : rg 2 4 v4 := rg_nn hnn wv4
    have tv4 : v4.toInt = nn := rg_n0 wv4
    have lv4 : v4.toInt = 1 * nn + 0 := by omega
    refine lv_imul hx hb dX12_isDirection_10 ?_
    refine lv_topi (fun v5 ev5 => ?_)
    have rv5 : rg (4) (8) v5 := (rg_mulL ev5 kc_2 rv4 rfl).1
    have tv5 := (rg_mulL ev5 kc_2 rv4 rfl).2
    have lv5 : v5.toInt = 2 * nn + 0 := by have := lv4; have : (2 : Int32).toInt = 2 := (by decide); omega
    refine lv_icmp_ge (tgt := 18) hx hb dX12_isDirection_11 (by decide) (fun c11_6 => ?_) (fun c11_6 => ?_)
    · skip
      have q7 : rg (4) (2147483647) p1 := (rg_le c11_6 rv5 q3).2
      refine lv_iconst (v := 0) hx hb dX12_isDirection_18 (by decide) ?_
      exact hQ _ _ (0 : Int32) _ _ _ dX12_isDirection_19 L ⟨mFr.rf, rg_w kc_0 rfl, (fun h => absurd rfl h)⟩
    · skip
      have b2p1_8 : p1.toInt < 2 * nn := by have := Int32.lt_iff_toInt_lt.mp (rg_nle c11_6); have := lv5; omega
      have q9 : rg (0) (7) p1 := (rg_lt (rg_nle c11_6) q3 rv5).1
      refine lv_iconst (v := 1) hx hb dX12_isDirection_14 (by decide) ?_
      refine lv_goto (tgt := 19) hx hb dX12_isDirection_15 (by decide) ?_
      exact hQ _ _ (1 : Int32) _ _ _ dX12_isDirection_19 L ⟨mFr.rf, rg_w kc_1 rfl, (fun _ => ⟨rg_w q9 rfl, b2p1_8⟩)⟩
theorem c_isDirection (l : Launch) {G : mG} {h0 : Nat} {ad : Nat → Nat} (nn X : Int) (g : mSt) (p1 : Int32) (hnn : 2 ≤ nn ∧ nn ≤ 4) (hX : 0 ≤ X ∧ X ≤ 2000000000) : Met l yX12_isDirection (wm (Cond.code yX12_isDirection cX12_isDirection 2 (some .boolean))) rm_isDirection (va_Pc [.ref h0, .int p1] (mPre G h0 ad nn X g)) (mQi G h0 ad nn X (fun r g1 => mFr [] g g1 ∧ rg (0) (1) r ∧ (¬ r = 0 → rg (0) (7) p1 ∧ p1.toInt < 2 * nn))) 0 0 (mA h0 ad) := by
  refine Met.ofW (cc := cX12_isDirection) (maxL := 2) (ret := (some .boolean)) (by decide) rfl ?_
  intro p e s m args below meth c s₁ B hml hv
  obtain ⟨rfl, hv⟩ := hv
  have hr := B.returns
  have hlocks := B.notSynchronized
  obtain ⟨x, L⟩ := m_start B rfl wm_X hv
  have hl := lv_entry ([.ref h0, .int p1]) (n := 2) (Nat.le_of_ble_eq_true rfl)
  rw [lg_entry_eq]
  generalize (lg_sl ([.ref h0, .int p1]) ++ List.replicate (2 - (lg_sl ([.ref h0, .int p1])).length) Slot.unset).toArray = ls at hl ⊢
  exact w_isDirection x hml L hnn hX p1 hl (fun pc' ls' r g1 H1 locs1 hdg L hp => m_zret x L hr hlocks (nar01 (rg_w hp.2.1 rfl)) (Int.le_refl _) hp hdg)

def rm_crcBegin : Room := { frames := 0, cells := 0, slots := 0, locals := 0 }
theorem hd_crcBegin : yX12_crcBegin.cls = RX12 ∧ yX12_crcBegin.cls ≠ "java/lang/invoke/MethodHandle" ∧ yX12_crcBegin.cls ≠ "java/lang/invoke/VarHandle" ∧ (parseMethodDescriptor yX12_crcBegin.desc).map (fun d => d.parameters.length) = some 0 := by decide +kernel
set_option maxHeartbeats 4000000 in
set_option maxRecDepth 100000 in
theorem w_crcBegin {p : Program} {l : Launch} {e : Env} {s : State} {m : MethodId} {args : Array Value} {below : List Frame} {meth : Method} {c : Code} {H : Heap} {locs : List Loc} {Q : State → Prop} {ls : Array Slot} {G : mG} {h0 : Nat} {ad : Nat → Nat} {g : mSt} {H0 : Heap} {nn X : Int} (x : mX p c cX12_crcBegin s args (wm (Cond.code yX12_crcBegin cX12_crcBegin 1 none)) m G h0 ad) (hml : c.maxLocals = 1) (L : mL G h0 ad H0 nn X g H locs) (hnn : 2 ≤ nn ∧ nn ≤ 4) (hX : 0 ≤ X ∧ X ≤ 2000000000) (hl : lv_has ls 1 [(0, .ref h0)]) (hQ : ∀ (pc' : Nat) (ls' : Array Slot) (g1 : mSt) (H1 : Heap) (locs1 : List Loc), decode cX12_crcBegin pc' = .ok (.return_, 1) → mL G h0 ad H0 nn X g1 H1 locs1 → (mFr [4] g g1 ∧ True) → W p l e rm_crcBegin s m args below meth c H1 locs1 0 0 Q (F0 m pc' ls' [])) : W p l e rm_crcBegin s m args below meth c H locs 0 0 Q (F0 m 0 ls []) := by
  have hx := x.1
  have hb := x.2.1
  refine lv_aload_n hx hb dX12_crcBegin_0 rfl (lv_at hl 0 rfl) ?_
  refine lv_iconst (v := (-1)) hx hb dX12_crcBegin_1 (by decide) ?_
  refine m_puti x L 4 rfl fi_4 (wm_in uf_271) dX12_crcBegin_2 (rj_4 (rg_any (-1 : Int32))) (fun g1 H1 k1 eg1 L1 => ?_)
  exact hQ _ _ _ _ _ dX12_crcBegin_5 L1 ⟨(mFr.upE mFr.rf eg1 rfl), trivial⟩
theorem c_crcBegin (l : Launch) {G : mG} {h0 : Nat} {ad : Nat → Nat} (nn X : Int) (g : mSt) (hnn : 2 ≤ nn ∧ nn ≤ 4) (hX : 0 ≤ X ∧ X ≤ 2000000000) : Met l yX12_crcBegin (wm (Cond.code yX12_crcBegin cX12_crcBegin 1 none)) rm_crcBegin (va_Pc [.ref h0] (mPre G h0 ad nn X g)) (mQv G h0 ad nn X (fun g1 => mFr [4] g g1 ∧ True)) 0 0 (mA h0 ad) := by
  refine Met.ofW (cc := cX12_crcBegin) (maxL := 1) (ret := none) (by decide) rfl ?_
  intro p e s m args below meth c s₁ B hml hv
  obtain ⟨rfl, hv⟩ := hv
  have hr := B.returns
  have hlocks := B.notSynchronized
  obtain ⟨x, L⟩ := m_start B rfl wm_X hv
  have hl := lv_entry ([.ref h0]) (n := 1) (Nat.le_of_ble_eq_true rfl)
  rw [lg_entry_eq]
  generalize (lg_sl ([.ref h0]) ++ List.replicate (1 - (lg_sl ([.ref h0])).length) Slot.unset).toArray = ls at hl ⊢
  exact w_crcBegin x hml L hnn hX hl (fun pc' ls' g1 H1 locs1 hdg L hp => m_vret x L hr hlocks (Int.le_refl _) hp hdg)

def rm_crcByte : Room := { frames := 0, cells := 0, slots := 0, locals := 0 }
theorem hd_crcByte : yX12_crcByte.cls = RX12 ∧ yX12_crcByte.cls ≠ "java/lang/invoke/MethodHandle" ∧ yX12_crcByte.cls ≠ "java/lang/invoke/VarHandle" ∧ (parseMethodDescriptor yX12_crcByte.desc).map (fun d => d.parameters.length) = some 1 := by decide +kernel
set_option maxHeartbeats 4000000 in
set_option maxRecDepth 100000 in
theorem w_crcByte {p : Program} {l : Launch} {e : Env} {s : State} {m : MethodId} {args : Array Value} {below : List Frame} {meth : Method} {c : Code} {H : Heap} {locs : List Loc} {Q : State → Prop} {ls : Array Slot} {G : mG} {h0 : Nat} {ad : Nat → Nat} {g : mSt} {H0 : Heap} {nn X : Int} (x : mX p c cX12_crcByte s args (wm (Cond.code yX12_crcByte cX12_crcByte 4 none)) m G h0 ad) (hml : c.maxLocals = 4) (L : mL G h0 ad H0 nn X g H locs) (hnn : 2 ≤ nn ∧ nn ≤ 4) (hX : 0 ≤ X ∧ X ≤ 2000000000) (p1 : Int32) (hl : lv_has ls 4 [(0, .ref h0), (1, .int p1)]) (hQ : ∀ (pc' : Nat) (ls' : Array Slot) (g1 : mSt) (H1 : Heap) (locs1 : List Loc), decode cX12_crcByte pc' = .ok (.return_, 1) → mL G h0 ad H0 nn X g1 H1 locs1 → (mFr [4] g g1 ∧ True) → W p l e rm_crcByte s m args below meth c H1 locs1 0 0 Q (F0 m pc' ls' [])) : W p l e rm_crcByte s m args below meth c H locs 0 0 Q (F0 m 0 ls []) := by
  have hx := x.1
  have hb := x.2.1
  refine lv_bipush (v := 7) hx hb dX12_crcByte_0 (by decide) ?_
  refine lv_istore_n (lv' := [(2, .int (7 : Int32)), (0, .ref h0), (1, .int p1)]) hx hb dX12_crcByte_2 rfl hl (by decide) rfl (fun ls hl => ?_)
  have j3_2 : ∀ (n : Nat) (a3_2_1 : Int32) (g2 : mSt) (H2 : Heap) (k2 : List Loc) (ls : Array Slot), mFr [4] g g2 → mL G h0 ad H0 nn X g2 H2 k2 → rg (-1) (7) a3_2_1 → lv_has ls 4 [(0, .ref h0), (1, .int p1), (2, .int a3_2_1)] → (a3_2_1.toInt - (-1 : Int)).toNat = n → W p l e rm_crcByte s m args below meth c H2 k2 0 0 Q (F0 m 3 ls []) := by
    intro n
    induction n using Nat.strongRecOn with
    | _ n ih2 =>
      intro a3_2_1 g2 H2 k2 ls hF2 L2 ra3_2_1 hl hn2
      subst hn2
      refine lv_iload_n hx hb dX12_crcByte_3 rfl (lv_at hl 2 rfl) ?_
      refine lv_if_lt (tgt := 61) hx hb dX12_crcByte_4 (by decide) (fun c4_3 => ?_) (fun c4_3 => ?_)
      · skip
        have q4 : rg (-1) (-1) a3_2_1 := (rg_lt c4_3 ra3_2_1 kc_0).1
        exact hQ _ _ _ _ _ dX12_crcByte_61 L2 ⟨(mFr.tr mFr.rf hF2 rfl), trivial⟩
      · skip
        have q5 : rg (0) (7) a3_2_1 := (rg_le (rg_nlt c4_3) kc_0 ra3_2_1).2
        refine lv_iload_n hx hb dX12_crcByte_7 rfl (lv_at hl 1 rfl) ?_
        refine lv_iload_n hx hb dX12_crcByte_8 rfl (lv_at hl 2 rfl) ?_
        refine lv_ishr hx hb dX12_crcByte_9 ?_
        refine lv_topi (fun v6 ev6 => ?_)
        have rv6 : rg (-2147483648) (2147483647) v6 := rg_any v6
        refine lv_iconst (v := 1) hx hb dX12_crcByte_10 (by decide) ?_
        refine lv_iand hx hb dX12_crcByte_11 ?_
        refine lv_topi (fun v7 ev7 => ?_)
        have rv7 : rg (0) (1) v7 := rg_and ev7 1 1 (by decide) rfl
        refine lv_aload_n hx hb dX12_crcByte_12 rfl (lv_at hl 0 rfl) ?_
        refine m_geti x L2 4 rfl rfl (wm_in uf_271) dX12_crcByte_13 (fun v8 ev8 wv8 => ?_)
        have rv8 : rg (-2147483648) (2147483647) v8 := lj_4 wv8
        refine lv_bipush (v := 31) hx hb dX12_crcByte_16 (by decide) ?_
        refine lv_iushr hx hb dX12_crcByte_18 rfl ?_
        refine lv_topi (fun v9 ev9 => ?_)
        have rv9 : rg (0) (1) v9 := rg_ush ev9 31 rfl
        refine lv_ixor hx hb dX12_crcByte_19 ?_
        refine lv_topi (fun v10 ev10 => ?_)
        have rv10 : rg (-2147483648) (2147483647) v10 := rg_any v10
        refine lv_istore_n (lv' := [(3, .int v10), (0, .ref h0), (1, .int p1), (2, .int a3_2_1)]) hx hb dX12_crcByte_20 rfl hl (by decide) rfl (fun ls hl => ?_)
        refine lv_aload_n hx hb dX12_crcByte_21 rfl (lv_at hl 1 rfl) ?_
        refine lv_aload_n hx hb dX12_crcByte_22 rfl (lv_at hl 1 rfl) ?_
        refine m_geti x L2 4 rfl rfl (wm_in uf_271) dX12_crcByte_23 (fun v11 ev11 wv11 => ?_)
        refine m_top ((ev8).trans ev11.symm) ?_
        refine lv_iconst (v := 1) hx hb dX12_crcByte_26 (by decide) ?_
        refine lv_ishl hx hb dX12_crcByte_27 ?_
        refine lv_topi (fun v12 ev12 => ?_)
        have rv12 : rg (-2147483648) (2147483647) v12 := rg_any v12
        refine m_puti x L2 4 rfl fi_4 (wm_in uf_271) dX12_crcByte_28 (rj_4 (rg_any v12)) (fun g13 H13 k13 eg13 L13 => ?_)
        refine lv_aload_n hx hb dX12_crcByte_31 rfl (lv_at hl 1 rfl) ?_
        refine lv_iload_n hx hb dX12_crcByte_32 rfl (lv_at hl 0 rfl) ?_
        refine lv_iconst (v := 1) hx hb dX12_crcByte_33 (by decide) ?_
        have j52_15 : ∀ (b52_1_14 : Int32) (g15 : mSt) (H15 : Heap) (k15 : List Loc) (ls : Array Slot), mFr [] g13 g15 → mL G h0 ad H0 nn X g15 H15 k15 → rg (-2147483648) (2147483647) b52_1_14 → lv_has ls 4 [(0, .ref h0), (1, .int p1), (2, .int a3_2_1)] → W p l e rm_crcByte s m args below meth c H15 k15 0 0 Q (F0 m 52 ls [.int b52_1_14, .ref h0]) := by
          intro b52_1_14 g15 H15 k15 ls hF15 L15 rb52_1_14 hl
          refine m_puti x L15 4 rfl fi_4 (wm_in uf_271) dX12_crcByte_52 (rj_4 (rg_any b52_1_14)) (fun g16 H16 k16 eg16 L16 => ?_)
          obtain ⟨v17, ev17, fv17⟩ := inc_ex a3_2_1 (-1) (-1 : Int32) (by decide)
          have rv17 : rg (-1) (6) v17 := (rg_add ev17 q5 kc_m1 rfl).1
          have tv17 := (rg_add ev17 q5 kc_m1 rfl).2
          refine lv_iinc (v := v17) (lv' := [(2, .int v17), (0, .ref h0), (1, .int p1)]) hx hb dX12_crcByte_55 hl (k := 2) rfl fv17 (by decide) rfl (fun ls hl => ?_)
          refine lv_goto (tgt := 3) hx hb dX12_crcByte_58 (by decide) ?_
          exact ih2 _ (ms_dn tv17 kc_m1 q5 rfl rfl) v17 g16 _ _ ls (mFr.upE (mFr.tr (mFr.upE hF2 eg13 rfl) hF15 rfl) eg16 rfl) L16 (rg_w rv17 rfl) (lv_sub hl [1, 2, 0] rfl) rfl
        refine lv_icmp_ne (tgt := 48) hx hb dX12_crcByte_34 (by decide) (fun c34_18 => ?_) (fun c34_18 => ?_)
        · skip
          refine lv_aload_n hx hb dX12_crcByte_48 rfl (lv_at hl 1 rfl) ?_
          refine m_geti x L13 4 rfl rfl (wm_in uf_271) dX12_crcByte_49 (fun v19 ev19 wv19 => ?_)
          refine m_top (((mm_st eg13)).trans ev19.symm) ?_
          exact j52_15 v12 g13 _ _ ls mFr.rf L13 (rg_w rv12 rfl) (lv_sub hl [1, 2, 3] rfl)
        · skip
          have q20 : rg (1) (1) v10 := (rg_eq c34_18 rv10 kc_1).1
          refine lv_aload_n hx hb dX12_crcByte_37 rfl (lv_at hl 1 rfl) ?_
          refine m_geti x L13 4 rfl rfl (wm_in uf_271) dX12_crcByte_38 (fun v21 ev21 wv21 => ?_)
          refine m_top (((mm_st eg13)).trans ev21.symm) ?_
          refine lv_ldcw (own := RX12) (v := 79764919) hx hb x.2.2.2.2.1 (x.2.2.1 _ (wm_in uk_274)) dX12_crcByte_41 ?_
          refine lv_ixor hx hb dX12_crcByte_44 ?_
          refine lv_topi (fun v22 ev22 => ?_)
          have rv22 : rg (-2147483648) (2147483647) v22 := rg_any v22
          refine lv_goto (tgt := 52) hx hb dX12_crcByte_45 (by decide) ?_
          exact j52_15 v22 g13 _ _ ls mFr.rf L13 (rg_w rv22 rfl) (lv_sub hl [1, 2, 3] rfl)
  exact j3_2 _ (7 : Int32) g _ _ ls mFr.rf L (rg_w kc_7 rfl) (lv_sub hl [1, 2, 0] rfl) rfl
theorem c_crcByte (l : Launch) {G : mG} {h0 : Nat} {ad : Nat → Nat} (nn X : Int) (g : mSt) (p1 : Int32) (hnn : 2 ≤ nn ∧ nn ≤ 4) (hX : 0 ≤ X ∧ X ≤ 2000000000) : Met l yX12_crcByte (wm (Cond.code yX12_crcByte cX12_crcByte 4 none)) rm_crcByte (va_Pc [.ref h0, .int p1] (mPre G h0 ad nn X g)) (mQv G h0 ad nn X (fun g1 => mFr [4] g g1 ∧ True)) 0 0 (mA h0 ad) := by
  refine Met.ofW (cc := cX12_crcByte) (maxL := 4) (ret := none) (by decide) rfl ?_
  intro p e s m args below meth c s₁ B hml hv
  obtain ⟨rfl, hv⟩ := hv
  have hr := B.returns
  have hlocks := B.notSynchronized
  obtain ⟨x, L⟩ := m_start B rfl wm_X hv
  have hl := lv_entry ([.ref h0, .int p1]) (n := 4) (Nat.le_of_ble_eq_true rfl)
  rw [lg_entry_eq]
  generalize (lg_sl ([.ref h0, .int p1]) ++ List.replicate (4 - (lg_sl ([.ref h0, .int p1])).length) Slot.unset).toArray = ls at hl ⊢
  exact w_crcByte x hml L hnn hX p1 hl (fun pc' ls' g1 H1 locs1 hdg L hp => m_vret x L hr hlocks (Int.le_refl _) hp hdg)

def rm_unitBegin : Room := { frames := 0, cells := 0, slots := 0, locals := 0 }
theorem hd_unitBegin : yX12_unitBegin.cls = RX12 ∧ yX12_unitBegin.cls ≠ "java/lang/invoke/MethodHandle" ∧ yX12_unitBegin.cls ≠ "java/lang/invoke/VarHandle" ∧ (parseMethodDescriptor yX12_unitBegin.desc).map (fun d => d.parameters.length) = some 0 := by decide +kernel
set_option maxHeartbeats 4000000 in
set_option maxRecDepth 100000 in
theorem w_unitBegin {p : Program} {l : Launch} {e : Env} {s : State} {m : MethodId} {args : Array Value} {below : List Frame} {meth : Method} {c : Code} {H : Heap} {locs : List Loc} {Q : State → Prop} {ls : Array Slot} {G : mG} {h0 : Nat} {ad : Nat → Nat} {g : mSt} {H0 : Heap} {nn X : Int} (x : mX p c cX12_unitBegin s args (wm (Cond.code yX12_unitBegin cX12_unitBegin 1 none)) m G h0 ad) (hml : c.maxLocals = 1) (L : mL G h0 ad H0 nn X g H locs) (hnn : 2 ≤ nn ∧ nn ≤ 4) (hX : 0 ≤ X ∧ X ≤ 2000000000) (hl : lv_has ls 1 [(0, .ref h0)]) (hQ : ∀ (pc' : Nat) (ls' : Array Slot) (g1 : mSt) (H1 : Heap) (locs1 : List Loc), decode cX12_unitBegin pc' = .ok (.return_, 1) → mL G h0 ad H0 nn X g1 H1 locs1 → (mFr [11] g g1 ∧ rg (0) (0) (g1 11 0)) → W p l e rm_unitBegin s m args below meth c H1 locs1 0 0 Q (F0 m pc' ls' [])) : W p l e rm_unitBegin s m args below meth c H locs 0 0 Q (F0 m 0 ls []) := by
  have hx := x.1
  have hb := x.2.1
  refine lv_aload_n hx hb dX12_unitBegin_0 rfl (lv_at hl 0 rfl) ?_
  refine lv_iconst (v := 0) hx hb dX12_unitBegin_1 (by decide) ?_
  refine m_puti x L 11 rfl fi_11 (wm_in uf_279) dX12_unitBegin_2 (rj_11 (rg_w kc_0 rfl)) (fun g1 H1 k1 eg1 L1 => ?_)
  exact hQ _ _ _ _ _ dX12_unitBegin_5 L1 ⟨(mFr.upE mFr.rf eg1 rfl), rg_eqv (mm_st eg1) (rg_w kc_0 rfl)⟩
theorem c_unitBegin (l : Launch) {G : mG} {h0 : Nat} {ad : Nat → Nat} (nn X : Int) (g : mSt) (hnn : 2 ≤ nn ∧ nn ≤ 4) (hX : 0 ≤ X ∧ X ≤ 2000000000) : Met l yX12_unitBegin (wm (Cond.code yX12_unitBegin cX12_unitBegin 1 none)) rm_unitBegin (va_Pc [.ref h0] (mPre G h0 ad nn X g)) (mQv G h0 ad nn X (fun g1 => mFr [11] g g1 ∧ rg (0) (0) (g1 11 0))) 0 0 (mA h0 ad) := by
  refine Met.ofW (cc := cX12_unitBegin) (maxL := 1) (ret := none) (by decide) rfl ?_
  intro p e s m args below meth c s₁ B hml hv
  obtain ⟨rfl, hv⟩ := hv
  have hr := B.returns
  have hlocks := B.notSynchronized
  obtain ⟨x, L⟩ := m_start B rfl wm_X hv
  have hl := lv_entry ([.ref h0]) (n := 1) (Nat.le_of_ble_eq_true rfl)
  rw [lg_entry_eq]
  generalize (lg_sl ([.ref h0]) ++ List.replicate (1 - (lg_sl ([.ref h0])).length) Slot.unset).toArray = ls at hl ⊢
  exact w_unitBegin x hml L hnn hX hl (fun pc' ls' g1 H1 locs1 hdg L hp => m_vret x L hr hlocks (Int.le_refl _) hp hdg)

def rm_huntAnew : Room := { frames := 0, cells := 0, slots := 0, locals := 0 }
theorem hd_huntAnew : yX12_huntAnew.cls = RX12 ∧ yX12_huntAnew.cls ≠ "java/lang/invoke/MethodHandle" ∧ yX12_huntAnew.cls ≠ "java/lang/invoke/VarHandle" ∧ (parseMethodDescriptor yX12_huntAnew.desc).map (fun d => d.parameters.length) = some 1 := by decide +kernel
set_option maxHeartbeats 4000000 in
set_option maxRecDepth 100000 in
theorem w_huntAnew {p : Program} {l : Launch} {e : Env} {s : State} {m : MethodId} {args : Array Value} {below : List Frame} {meth : Method} {c : Code} {H : Heap} {locs : List Loc} {Q : State → Prop} {ls : Array Slot} {G : mG} {h0 : Nat} {ad : Nat → Nat} {g : mSt} {H0 : Heap} {nn X : Int} (x : mX p c cX12_huntAnew s args (wm (Cond.code yX12_huntAnew cX12_huntAnew 2 none)) m G h0 ad) (hml : c.maxLocals = 2) (L : mL G h0 ad H0 nn X g H locs) (hnn : 2 ≤ nn ∧ nn ≤ 4) (hX : 0 ≤ X ∧ X ≤ 2000000000) (hJ : mJ nn [] g) (p1 : Int32) (rp1 : rg (0) (7) p1) (hl : lv_has ls 2 [(0, .ref h0), (1, .int p1)]) (hQ : ∀ (pc' : Nat) (ls' : Array Slot) (g1 : mSt) (H1 : Heap) (locs1 : List Loc), decode cX12_huntAnew pc' = .ok (.return_, 1) → mL G h0 ad H0 nn X g1 H1 locs1 → (mFr [21, 22, 23, 24] g g1 ∧ mJ nn [] g1 ∧ True) → W p l e rm_huntAnew s m args below meth c H1 locs1 0 0 Q (F0 m pc' ls' [])) : W p l e rm_huntAnew s m args below meth c H locs 0 0 Q (F0 m 0 ls []) := by
  have hx := x.1
  have hb := x.2.1
  refine lv_aload_n hx hb dX12_huntAnew_0 rfl (lv_at hl 0 rfl) ?_
  refine m_geta x L 21 rfl rfl (wm_in uf_53) dX12_huntAnew_1 ?_
  refine lv_iload_n hx hb dX12_huntAnew_4 rfl (lv_at hl 1 rfl) ?_
  refine lv_iconst (v := 0) hx hb dX12_huntAnew_5 (by decide) ?_
  refine m_st x L 21 rfl rp1 rfl (rj_21 (rg_w kc_0 rfl)) dX12_huntAnew_6 (fun g1 H1 k1 eg1 L1 => ?_)
  refine lv_aload_n hx hb dX12_huntAnew_7 rfl (lv_at hl 0 rfl) ?_
  refine m_geta x L1 22 rfl rfl (wm_in uf_56) dX12_huntAnew_8 ?_
  refine lv_iload_n hx hb dX12_huntAnew_11 rfl (lv_at hl 1 rfl) ?_
  refine lv_iconst (v := 0) hx hb dX12_huntAnew_12 (by decide) ?_
  refine m_st x L1 22 rfl rp1 rfl (rj_22 (rg_w kc_0 rfl)) dX12_huntAnew_13 (fun g2 H2 k2 eg2 L2 => ?_)
  have hJ3 := mJ_hunt hJ eg1 eg2
  refine lv_aload_n hx hb dX12_huntAnew_14 rfl (lv_at hl 0 rfl) ?_
  refine m_geta x L2 23 rfl rfl (wm_in uf_59) dX12_huntAnew_15 ?_
  refine lv_iload_n hx hb dX12_huntAnew_18 rfl (lv_at hl 1 rfl) ?_
  refine lv_iconst (v := 0) hx hb dX12_huntAnew_19 (by decide) ?_
  refine m_st x L2 23 rfl rp1 rfl (rj_23 (rg_any (0 : Int32))) dX12_huntAnew_20 (fun g4 H4 k4 eg4 L4 => ?_)
  refine lv_aload_n hx hb dX12_huntAnew_21 rfl (lv_at hl 0 rfl) ?_
  refine m_geta x L4 24 rfl rfl (wm_in uf_62) dX12_huntAnew_22 ?_
  refine lv_iload_n hx hb dX12_huntAnew_25 rfl (lv_at hl 1 rfl) ?_
  refine lv_iconst (v := 0) hx hb dX12_huntAnew_26 (by decide) ?_
  refine m_st x L4 24 rfl rp1 rfl (rj_24 (rg_any (0 : Int32))) dX12_huntAnew_27 (fun g5 H5 k5 eg5 L5 => ?_)
  exact hQ _ _ _ _ _ dX12_huntAnew_28 L5 ⟨(mFr.upE (mFr.upE (mFr.upE (mFr.upE mFr.rf eg1 rfl) eg2 rfl) eg4 rfl) eg5 rfl), (mJ_up (mJ_up hJ3 eg4 rfl) eg5 rfl), trivial⟩
theorem c_huntAnew (l : Launch) {G : mG} {h0 : Nat} {ad : Nat → Nat} (nn X : Int) (g : mSt) (p1 : Int32) (hnn : 2 ≤ nn ∧ nn ≤ 4) (hX : 0 ≤ X ∧ X ≤ 2000000000) (hJ : mJ nn [] g) (rp1 : rg (0) (7) p1) : Met l yX12_huntAnew (wm (Cond.code yX12_huntAnew cX12_huntAnew 2 none)) rm_huntAnew (va_Pc [.ref h0, .int p1] (mPre G h0 ad nn X g)) (mQv G h0 ad nn X (fun g1 => mFr [21, 22, 23, 24] g g1 ∧ mJ nn [] g1 ∧ True)) 0 0 (mA h0 ad) := by
  refine Met.ofW (cc := cX12_huntAnew) (maxL := 2) (ret := none) (by decide) rfl ?_
  intro p e s m args below meth c s₁ B hml hv
  obtain ⟨rfl, hv⟩ := hv
  have hr := B.returns
  have hlocks := B.notSynchronized
  obtain ⟨x, L⟩ := m_start B rfl wm_X hv
  have hl := lv_entry ([.ref h0, .int p1]) (n := 2) (Nat.le_of_ble_eq_true rfl)
  rw [lg_entry_eq]
  generalize (lg_sl ([.ref h0, .int p1]) ++ List.replicate (2 - (lg_sl ([.ref h0, .int p1])).length) Slot.unset).toArray = ls at hl ⊢
  exact w_huntAnew x hml L hnn hX hJ p1 rp1 hl (fun pc' ls' g1 H1 locs1 hdg L hp => m_vret x L hr hlocks (Int.le_refl _) hp hdg)

def rm_octetsOf : Room := { frames := 0, cells := 0, slots := 0, locals := 0 }
theorem hd_octetsOf : yX12_octetsOf.cls = RX12 ∧ yX12_octetsOf.cls ≠ "java/lang/invoke/MethodHandle" ∧ yX12_octetsOf.cls ≠ "java/lang/invoke/VarHandle" ∧ (parseMethodDescriptor yX12_octetsOf.desc).map (fun d => d.parameters.length) = some 1 := by decide +kernel
set_option maxHeartbeats 4000000 in
set_option maxRecDepth 100000 in
theorem w_octetsOf {p : Program} {l : Launch} {e : Env} {s : State} {m : MethodId} {args : Array Value} {below : List Frame} {meth : Method} {c : Code} {H : Heap} {locs : List Loc} {Q : State → Prop} {ls : Array Slot} {G : mG} {h0 : Nat} {ad : Nat → Nat} {g : mSt} {H0 : Heap} {nn X : Int} (x : mX p c cX12_octetsOf s args (wm (Cond.code yX12_octetsOf cX12_octetsOf 2 (some .int))) m G h0 ad) (hml : c.maxLocals = 2) (L : mL G h0 ad H0 nn X g H locs) (hnn : 2 ≤ nn ∧ nn ≤ 4) (hX : 0 ≤ X ∧ X ≤ 2000000000) (p1 : Int32) (rp1 : rg (0) (371) p1) (hl : lv_has ls 2 [(0, .ref h0), (1, .int p1)]) (hQ : ∀ (pc' : Nat) (ls' : Array Slot) (r : Int32) (g1 : mSt) (H1 : Heap) (locs1 : List Loc), decode cX12_octetsOf pc' = .ok (.ireturn, 1) → mL G h0 ad H0 nn X g1 H1 locs1 → (mFr [] g g1 ∧ rg (-2147483648) (2147483647) r ∧ True) → W p l e rm_octetsOf s m args below meth c H1 locs1 0 0 Q (F0 m pc' ls' [.int r])) : W p l e rm_octetsOf s m args below meth c H locs 0 0 Q (F0 m 0 ls []) := by
  have hx := x.1
  have hb := x.2.1
  refine lv_aload_n hx hb dX12_octetsOf_0 rfl (lv_at hl 0 rfl) ?_
  refine m_geta x L 26 rfl rfl (wm_in uf_68) dX12_octetsOf_1 ?_
  refine lv_iload_n hx hb dX12_octetsOf_4 rfl (lv_at hl 1 rfl) ?_
  refine m_ld x L 26 rfl rp1 rfl dX12_octetsOf_5 (fun v1 ev1 wv1 => ?_)
  have rv1 : rg (-2147483648) (2147483647) v1 := lj_26 wv1
  refine lv_bipush (v := 24) hx hb dX12_octetsOf_6 (by decide) ?_
  refine lv_ishl hx hb dX12_octetsOf_8 ?_
  refine lv_topi (fun v2 ev2 => ?_)
  have rv2 : rg (-2147483648) (2147483647) v2 := rg_any v2
  refine lv_aload_n hx hb dX12_octetsOf_9 rfl (lv_at hl 0 rfl) ?_
  refine m_geta x L 26 rfl rfl (wm_in uf_68) dX12_octetsOf_10 ?_
  refine lv_iload_n hx hb dX12_octetsOf_13 rfl (lv_at hl 1 rfl) ?_
  refine lv_iconst (v := 1) hx hb dX12_octetsOf_14 (by decide) ?_
  refine lv_iadd hx hb dX12_octetsOf_15 ?_
  refine lv_topi (fun v3 ev3 => ?_)
  have rv3 : rg (1) (372) v3 := (rg_add ev3 rp1 kc_1 rfl).1
  refine m_ld x L 26 rfl rv3 rfl dX12_octetsOf_16 (fun v4 ev4 wv4 => ?_)
  have rv4 : rg (-2147483648) (2147483647) v4 := lj_26 wv4
  refine lv_bipush (v := 16) hx hb dX12_octetsOf_17 (by decide) ?_
  refine lv_ishl hx hb dX12_octetsOf_19 ?_
  refine lv_topi (fun v5 ev5 => ?_)
  have rv5 : rg (-2147483648) (2147483647) v5 := rg_any v5
  refine lv_ior hx hb dX12_octetsOf_20 ?_
  refine lv_topi (fun v6 ev6 => ?_)
  have rv6 : rg (-2147483648) (2147483647) v6 := rg_any v6
  refine lv_aload_n hx hb dX12_octetsOf_21 rfl (lv_at hl 0 rfl) ?_
  refine m_geta x L 26 rfl rfl (wm_in uf_68) dX12_octetsOf_22 ?_
  refine lv_iload_n hx hb dX12_octetsOf_25 rfl (lv_at hl 1 rfl) ?_
  refine lv_iconst (v := 2) hx hb dX12_octetsOf_26 (by decide) ?_
  refine lv_iadd hx hb dX12_octetsOf_27 ?_
  refine lv_topi (fun v7 ev7 => ?_)
  have rv7 : rg (2) (373) v7 := (rg_add ev7 rp1 kc_2 rfl).1
  refine m_ld x L 26 rfl rv7 rfl dX12_octetsOf_28 (fun v8 ev8 wv8 => ?_)
  have rv8 : rg (-2147483648) (2147483647) v8 := lj_26 wv8
  refine lv_bipush (v := 8) hx hb dX12_octetsOf_29 (by decide) ?_
  refine lv_ishl hx hb dX12_octetsOf_31 ?_
  refine lv_topi (fun v9 ev9 => ?_)
  have rv9 : rg (-2147483648) (2147483647) v9 := rg_any v9
  refine lv_ior hx hb dX12_octetsOf_32 ?_
  refine lv_topi (fun v10 ev10 => ?_)
  have rv10 : rg (-2147483648) (2147483647) v10 := rg_any v10
  refine lv_aload_n hx hb dX12_octetsOf_33 rfl (lv_at hl 0 rfl) ?_
  refine m_geta x L 26 rfl rfl (wm_in uf_68) dX12_octetsOf_34 ?_
  refine lv_iload_n hx hb dX12_octetsOf_37 rfl (lv_at hl 1 rfl) ?_
  refine lv_iconst (v := 3) hx hb dX12_octetsOf_38 (by decide) ?_
  refine lv_iadd hx hb dX12_octetsOf_39 ?_
  refine lv_topi (fun v11 ev11 => ?_)
  have rv11 : rg (3) (374) v11 := (rg_add ev11 rp1 kc_3 rfl).1
  refine m_ld x L 26 rfl rv11 rfl dX12_octetsOf_40 (fun v12 ev12 wv12 => ?_)
  have rv12 : rg (-2147483648) (2147483647) v12 := lj_26 wv12
  refine lv_ior hx hb dX12_octetsOf_41 ?_
  refine lv_topi (fun v13 ev13 => ?_)
  have rv13 : rg (-2147483648) (2147483647) v13 := rg_any v13
  exact hQ _ _ v13 _ _ _ dX12_octetsOf_42 L ⟨mFr.rf, rg_w rv13 rfl, trivial⟩
theorem c_octetsOf (l : Launch) {G : mG} {h0 : Nat} {ad : Nat → Nat} (nn X : Int) (g : mSt) (p1 : Int32) (hnn : 2 ≤ nn ∧ nn ≤ 4) (hX : 0 ≤ X ∧ X ≤ 2000000000) (rp1 : rg (0) (371) p1) : Met l yX12_octetsOf (wm (Cond.code yX12_octetsOf cX12_octetsOf 2 (some .int))) rm_octetsOf (va_Pc [.ref h0, .int p1] (mPre G h0 ad nn X g)) (mQi G h0 ad nn X (fun r g1 => mFr [] g g1 ∧ rg (-2147483648) (2147483647) r ∧ True)) 0 0 (mA h0 ad) := by
  refine Met.ofW (cc := cX12_octetsOf) (maxL := 2) (ret := (some .int)) (by decide) rfl ?_
  intro p e s m args below meth c s₁ B hml hv
  obtain ⟨rfl, hv⟩ := hv
  have hr := B.returns
  have hlocks := B.notSynchronized
  obtain ⟨x, L⟩ := m_start B rfl wm_X hv
  have hl := lv_entry ([.ref h0, .int p1]) (n := 2) (Nat.le_of_ble_eq_true rfl)
  rw [lg_entry_eq]
  generalize (lg_sl ([.ref h0, .int p1]) ++ List.replicate (2 - (lg_sl ([.ref h0, .int p1])).length) Slot.unset).toArray = ls at hl ⊢
  exact w_octetsOf x hml L hnn hX p1 rp1 hl (fun pc' ls' r g1 H1 locs1 hdg L hp => m_iret x L hr hlocks (Int.le_refl _) hp hdg)

def rm_layHeader : Room := { frames := 1, cells := 0, slots := 0, locals := 23 }
theorem hd_layHeader : yX12_layHeader.cls = RX12 ∧ yX12_layHeader.cls ≠ "java/lang/invoke/MethodHandle" ∧ yX12_layHeader.cls ≠ "java/lang/invoke/VarHandle" ∧ (parseMethodDescriptor yX12_layHeader.desc).map (fun d => d.parameters.length) = some 3 := by decide +kernel
set_option maxHeartbeats 4000000 in
set_option maxRecDepth 100000 in
theorem w_layHeader {p : Program} {l : Launch} {e : Env} {s : State} {m : MethodId} {args : Array Value} {below : List Frame} {meth : Method} {c : Code} {H : Heap} {locs : List Loc} {Q : State → Prop} {ls : Array Slot} {G : mG} {h0 : Nat} {ad : Nat → Nat} {g : mSt} {H0 : Heap} {nn X : Int} (x : mX p c cX12_layHeader s args (wm (Cond.code yX12_layHeader cX12_layHeader 4 none)) m G h0 ad) (hml : c.maxLocals = 4) (L : mL G h0 ad H0 nn X g H locs) (hnn : 2 ≤ nn ∧ nn ≤ 4) (hX : 0 ≤ X ∧ X ≤ 2000000000) (p1 : Int32) (p2 : Int32) (p3 : Int32) (hl : lv_has ls 4 [(0, .ref h0), (1, .int p1), (2, .int p2), (3, .int p3)]) (hQ : ∀ (pc' : Nat) (ls' : Array Slot) (g1 : mSt) (H1 : Heap) (locs1 : List Loc), decode cX12_layHeader pc' = .ok (.return_, 1) → mL G h0 ad H0 nn X g1 H1 locs1 → (mFr [9] g g1 ∧ True) → W p l e rm_layHeader s m args below meth c H1 locs1 0 0 Q (F0 m pc' ls' [])) : W p l e rm_layHeader s m args below meth c H locs 0 0 Q (F0 m 0 ls []) := by
  have hx := x.1
  have hb := x.2.1
  refine lv_aload_n hx hb dX12_layHeader_0 rfl (lv_at hl 0 rfl) ?_
  refine m_geta x L 9 rfl rfl (wm_in uf_26) dX12_layHeader_1 ?_
  refine lv_iconst (v := 0) hx hb dX12_layHeader_4 (by decide) ?_
  refine lv_iconst (v := 0) hx hb dX12_layHeader_5 (by decide) ?_
  refine m_st x L 9 rfl kc_0 rfl (rj_9 (rg_any (0 : Int32))) dX12_layHeader_6 (fun g1 H1 k1 eg1 L1 => ?_)
  refine lv_aload_n hx hb dX12_layHeader_7 rfl (lv_at hl 0 rfl) ?_
  refine m_geta x L1 9 rfl rfl (wm_in uf_26) dX12_layHeader_8 ?_
  refine lv_iconst (v := 1) hx hb dX12_layHeader_11 (by decide) ?_
  refine lv_iload_n hx hb dX12_layHeader_12 rfl (lv_at hl 1 rfl) ?_
  refine lv_bipush (v := 12) hx hb dX12_layHeader_13 (by decide) ?_
  refine lv_ishr hx hb dX12_layHeader_15 ?_
  refine lv_topi (fun v2 ev2 => ?_)
  have rv2 : rg (-2147483648) (2147483647) v2 := rg_any v2
  refine lv_bipush (v := 15) hx hb dX12_layHeader_16 (by decide) ?_
  refine lv_iand hx hb dX12_layHeader_18 ?_
  refine lv_topi (fun v3 ev3 => ?_)
  have rv3 : rg (0) (15) v3 := rg_and ev3 4 15 (by decide) rfl
  refine m_st x L1 9 rfl kc_1 rfl (rj_9 (rg_any v3)) dX12_layHeader_19 (fun g4 H4 k4 eg4 L4 => ?_)
  refine lv_aload_n hx hb dX12_layHeader_20 rfl (lv_at hl 0 rfl) ?_
  refine m_geta x L4 9 rfl rfl (wm_in uf_26) dX12_layHeader_21 ?_
  refine lv_iconst (v := 2) hx hb dX12_layHeader_24 (by decide) ?_
  refine lv_iload_n hx hb dX12_layHeader_25 rfl (lv_at hl 1 rfl) ?_
  refine lv_iconst (v := 4) hx hb dX12_layHeader_26 (by decide) ?_
  refine lv_ishr hx hb dX12_layHeader_27 ?_
  refine lv_topi (fun v5 ev5 => ?_)
  have rv5 : rg (-2147483648) (2147483647) v5 := rg_any v5
  refine lv_sipush (v := 255) hx hb dX12_layHeader_28 (by decide) ?_
  refine lv_iand hx hb dX12_layHeader_31 ?_
  refine lv_topi (fun v6 ev6 => ?_)
  have rv6 : rg (0) (255) v6 := rg_and ev6 8 255 (by decide) rfl
  refine m_st x L4 9 rfl kc_2 rfl (rj_9 (rg_any v6)) dX12_layHeader_32 (fun g7 H7 k7 eg7 L7 => ?_)
  refine lv_aload_n hx hb dX12_layHeader_33 rfl (lv_at hl 0 rfl) ?_
  refine m_geta x L7 9 rfl rfl (wm_in uf_26) dX12_layHeader_34 ?_
  refine lv_iconst (v := 3) hx hb dX12_layHeader_37 (by decide) ?_
  refine lv_iload_n hx hb dX12_layHeader_38 rfl (lv_at hl 1 rfl) ?_
  refine lv_bipush (v := 15) hx hb dX12_layHeader_39 (by decide) ?_
  refine lv_iand hx hb dX12_layHeader_41 ?_
  refine lv_topi (fun v8 ev8 => ?_)
  have rv8 : rg (0) (15) v8 := rg_and ev8 4 15 (by decide) rfl
  refine lv_iconst (v := 4) hx hb dX12_layHeader_42 (by decide) ?_
  refine lv_ishl hx hb dX12_layHeader_43 ?_
  refine lv_topi (fun v9 ev9 => ?_)
  have rv9 : rg (-2147483648) (2147483647) v9 := rg_any v9
  refine lv_iload_n hx hb dX12_layHeader_44 rfl (lv_at hl 2 rfl) ?_
  refine lv_iconst (v := 1) hx hb dX12_layHeader_45 (by decide) ?_
  refine lv_ishl hx hb dX12_layHeader_46 ?_
  refine lv_topi (fun v10 ev10 => ?_)
  have rv10 : rg (-2147483648) (2147483647) v10 := rg_any v10
  refine lv_ior hx hb dX12_layHeader_47 ?_
  refine lv_topi (fun v11 ev11 => ?_)
  have rv11 : rg (-2147483648) (2147483647) v11 := rg_any v11
  refine lv_iload_n hx hb dX12_layHeader_48 rfl (lv_at hl 3 rfl) ?_
  refine lv_ior hx hb dX12_layHeader_49 ?_
  refine lv_topi (fun v12 ev12 => ?_)
  have rv12 : rg (-2147483648) (2147483647) v12 := rg_any v12
  refine m_st x L7 9 rfl kc_3 rfl (rj_9 (rg_any v12)) dX12_layHeader_50 (fun g13 H13 k13 eg13 L13 => ?_)
  refine lv_aload_n hx hb dX12_layHeader_51 rfl (lv_at hl 0 rfl) ?_
  refine m_geta x L13 9 rfl rfl (wm_in uf_26) dX12_layHeader_52 ?_
  refine lv_iconst (v := 4) hx hb dX12_layHeader_55 (by decide) ?_
  refine lv_aload_n hx hb dX12_layHeader_56 rfl (lv_at hl 0 rfl) ?_
  refine m_geta x L13 9 rfl rfl (wm_in uf_26) dX12_layHeader_57 ?_
  refine lv_iconst (v := 1) hx hb dX12_layHeader_60 (by decide) ?_
  refine m_ld x L13 9 rfl kc_1 rfl dX12_layHeader_61 (fun v14 ev14 wv14 => ?_)
  have rv14 : rg (-2147483648) (2147483647) v14 := lj_9 wv14
  refine lv_bipush (v := 16) hx hb dX12_layHeader_62 (by decide) ?_
  refine lv_ishl hx hb dX12_layHeader_64 ?_
  refine lv_topi (fun v15 ev15 => ?_)
  have rv15 : rg (-2147483648) (2147483647) v15 := rg_any v15
  refine lv_aload_n hx hb dX12_layHeader_65 rfl (lv_at hl 0 rfl) ?_
  refine m_geta x L13 9 rfl rfl (wm_in uf_26) dX12_layHeader_66 ?_
  refine lv_iconst (v := 2) hx hb dX12_layHeader_69 (by decide) ?_
  refine m_ld x L13 9 rfl kc_2 rfl dX12_layHeader_70 (fun v16 ev16 wv16 => ?_)
  have rv16 : rg (-2147483648) (2147483647) v16 := lj_9 wv16
  refine lv_bipush (v := 8) hx hb dX12_layHeader_71 (by decide) ?_
  refine lv_ishl hx hb dX12_layHeader_73 ?_
  refine lv_topi (fun v17 ev17 => ?_)
  have rv17 : rg (-2147483648) (2147483647) v17 := rg_any v17
  refine lv_ior hx hb dX12_layHeader_74 ?_
  refine lv_topi (fun v18 ev18 => ?_)
  have rv18 : rg (-2147483648) (2147483647) v18 := rg_any v18
  refine lv_aload_n hx hb dX12_layHeader_75 rfl (lv_at hl 0 rfl) ?_
  refine m_geta x L13 9 rfl rfl (wm_in uf_26) dX12_layHeader_76 ?_
  refine lv_iconst (v := 3) hx hb dX12_layHeader_79 (by decide) ?_
  refine m_ld x L13 9 rfl kc_3 rfl dX12_layHeader_80 (fun v19 ev19 wv19 => ?_)
  refine m_top (((mm_st eg13)).trans ev19.symm) ?_
  refine lv_ior hx hb dX12_layHeader_81 ?_
  refine lv_topi (fun v20 ev20 => ?_)
  have rv20 : rg (-2147483648) (2147483647) v20 := rg_any v20
  refine pf_call (va_runS (As := [.int v20]) (rest := [.int (4 : Int32), .ref (ad 9)]) ⟨hx, hb, hml, x.2.2.2.2.1, x.2.2.1⟩ (c_hm l v20) (va_cwS 1 x.2.2.1 (wm_T ut_hecOf ul_267 u_init us_hecOf') rfl rfl rfl (by decide +kernel) ⟨Nat.le_of_ble_eq_true rfl, Nat.le_of_ble_eq_true rfl⟩) ⟨fun _ _ _ _ q => q, fun _ _ _ => ⟨rfl, trivial⟩⟩ rfl rfl hl.1 rfl (lv_room (Nat.le_of_ble_eq_true rfl)) dX12_layHeader_82 ⟨Nat.le_of_ble_eq_true rfl, Nat.le_of_ble_eq_true rfl⟩) ?_
  refine lv_topi (fun v21 ev21 => ?_)
  have rv21 : rg (-2147483648) (2147483647) v21 := rg_any v21
  refine m_st x L13 9 rfl kc_4 rfl (rj_9 (rg_any v21)) dX12_layHeader_85 (fun g22 H22 k22 eg22 L22 => ?_)
  exact hQ _ _ _ _ _ dX12_layHeader_86 L22 ⟨(mFr.upE (mFr.upE (mFr.upE (mFr.upE (mFr.upE mFr.rf eg1 rfl) eg4 rfl) eg7 rfl) eg13 rfl) eg22 rfl), trivial⟩
theorem c_layHeader (l : Launch) {G : mG} {h0 : Nat} {ad : Nat → Nat} (nn X : Int) (g : mSt) (p1 : Int32) (p2 : Int32) (p3 : Int32) (hnn : 2 ≤ nn ∧ nn ≤ 4) (hX : 0 ≤ X ∧ X ≤ 2000000000) : Met l yX12_layHeader (wm (Cond.code yX12_layHeader cX12_layHeader 4 none)) rm_layHeader (va_Pc [.ref h0, .int p1, .int p2, .int p3] (mPre G h0 ad nn X g)) (mQv G h0 ad nn X (fun g1 => mFr [9] g g1 ∧ True)) 0 0 (mA h0 ad) := by
  refine Met.ofW (cc := cX12_layHeader) (maxL := 4) (ret := none) (by decide) rfl ?_
  intro p e s m args below meth c s₁ B hml hv
  obtain ⟨rfl, hv⟩ := hv
  have hr := B.returns
  have hlocks := B.notSynchronized
  obtain ⟨x, L⟩ := m_start B rfl wm_X hv
  have hl := lv_entry ([.ref h0, .int p1, .int p2, .int p3]) (n := 4) (Nat.le_of_ble_eq_true rfl)
  rw [lg_entry_eq]
  generalize (lg_sl ([.ref h0, .int p1, .int p2, .int p3]) ++ List.replicate (4 - (lg_sl ([.ref h0, .int p1, .int p2, .int p3])).length) Slot.unset).toArray = ls at hl ⊢
  exact w_layHeader x hml L hnn hX p1 p2 p3 hl (fun pc' ls' g1 H1 locs1 hdg L hp => m_vret x L hr hlocks (Int.le_refl _) hp hdg)

def rm_addCell : Room := { frames := 0, cells := 0, slots := 0, locals := 0 }
theorem hd_addCell : yX12_addCell.cls = RX12 ∧ yX12_addCell.cls ≠ "java/lang/invoke/MethodHandle" ∧ yX12_addCell.cls ≠ "java/lang/invoke/VarHandle" ∧ (parseMethodDescriptor yX12_addCell.desc).map (fun d => d.parameters.length) = some 2 := by decide +kernel
set_option maxHeartbeats 4000000 in
set_option maxRecDepth 100000 in
theorem w_addCell {p : Program} {l : Launch} {e : Env} {s : State} {m : MethodId} {args : Array Value} {below : List Frame} {meth : Method} {c : Code} {H : Heap} {locs : List Loc} {Q : State → Prop} {ls : Array Slot} {G : mG} {h0 : Nat} {ad : Nat → Nat} {g : mSt} {H0 : Heap} {nn X : Int} (x : mX p c cX12_addCell s args (wm (Cond.code yX12_addCell cX12_addCell 6 none)) m G h0 ad) (hml : c.maxLocals = 6) (L : mL G h0 ad H0 nn X g H locs) (hnn : 2 ≤ nn ∧ nn ≤ 4) (hX : 0 ≤ X ∧ X ≤ 2000000000) (p1 : Int32) (p2 : Int32) (rp1 : rg (0) (7) p1) (rp2 : rg (0) (1) p2) (hl : lv_has ls 6 [(0, .ref h0), (1, .int p1), (2, .int p2)]) (hQ : ∀ (pc' : Nat) (ls' : Array Slot) (g1 : mSt) (H1 : Heap) (locs1 : List Loc), decode cX12_addCell pc' = .ok (.return_, 1) → mL G h0 ad H0 nn X g1 H1 locs1 → (mFr [5, 7, 8] g g1 ∧ True) → W p l e rm_addCell s m args below meth c H1 locs1 0 0 Q (F0 m pc' ls' [])) : W p l e rm_addCell s m args below meth c H locs 0 0 Q (F0 m 0 ls []) := by
  have hx := x.1
  have hb := x.2.1
  refine lv_iconst (v := 2) hx hb dX12_addCell_0 (by decide) ?_
  refine lv_iload_n hx hb dX12_addCell_1 rfl (lv_at hl 1 rfl) ?_
  refine lv_imul hx hb dX12_addCell_2 ?_
  refine lv_topi (fun v1 ev1 => ?_)
  have rv1 : rg (0) (14) v1 := (rg_mulL ev1 kc_2 rp1 rfl).1
  refine lv_iload_n hx hb dX12_addCell_3 rfl (lv_at hl 2 rfl) ?_
  refine lv_iadd hx hb dX12_addCell_4 ?_
  refine lv_topi (fun v2 ev2 => ?_)
  have rv2 : rg (0) (15) v2 := (rg_add ev2 rv1 rp2 rfl).1
  refine lv_istore_n (lv' := [(3, .int v2), (0, .ref h0), (1, .int p1), (2, .int p2)]) hx hb dX12_addCell_5 rfl hl (by decide) rfl (fun ls hl => ?_)
  refine lv_aload_n hx hb dX12_addCell_6 rfl (lv_at hl 1 rfl) ?_
  refine m_geta x L 7 rfl rfl (wm_in uf_20) dX12_addCell_7 ?_
  refine lv_iload_n hx hb dX12_addCell_10 rfl (lv_at hl 0 rfl) ?_
  refine m_ld x L 7 rfl rv2 rfl dX12_addCell_11 (fun v3 ev3 wv3 => ?_)
  have rv3 : rg (0) (40) v3 := lj_7 wv3
  refine lv_bipush (v := 40) hx hb dX12_addCell_12 (by decide) ?_
  refine lv_icmp_ne (tgt := 28) hx hb dX12_addCell_14 (by decide) (fun c14_4 => ?_) (fun c14_4 => ?_)
  · skip
    have q5 : rg (0) (39) v3 := rg_neH c14_4 rv3 kc_40
    refine lv_bipush (v := 53) hx hb dX12_addCell_28 (by decide) ?_
    refine lv_bipush (v := 40) hx hb dX12_addCell_30 (by decide) ?_
    refine lv_iload_n hx hb dX12_addCell_32 rfl (lv_at hl 0 rfl) ?_
    refine lv_imul hx hb dX12_addCell_33 ?_
    refine lv_topi (fun v6 ev6 => ?_)
    have rv6 : rg (0) (600) v6 := (rg_mulL ev6 kc_40 rv2 rfl).1
    refine lv_aload_n hx hb dX12_addCell_34 rfl (lv_at hl 1 rfl) ?_
    refine m_geta x L 6 rfl rfl (wm_in uf_17) dX12_addCell_35 ?_
    refine lv_iload_n hx hb dX12_addCell_38 rfl (lv_at hl 0 rfl) ?_
    refine m_ld x L 6 rfl rv2 rfl dX12_addCell_39 (fun v7 ev7 wv7 => ?_)
    have rv7 : rg (0) (39) v7 := lj_6 wv7
    refine lv_aload_n hx hb dX12_addCell_40 rfl (lv_at hl 1 rfl) ?_
    refine m_geta x L 7 rfl rfl (wm_in uf_20) dX12_addCell_41 ?_
    refine lv_iload_n hx hb dX12_addCell_44 rfl (lv_at hl 0 rfl) ?_
    refine m_ld x L 7 rfl rv2 rfl dX12_addCell_45 (fun v8 ev8 wv8 => ?_)
    refine m_top ((ev3).trans ev8.symm) ?_
    refine lv_iadd hx hb dX12_addCell_46 ?_
    refine lv_topi (fun v9 ev9 => ?_)
    have rv9 : rg (0) (78) v9 := (rg_add ev9 rv7 q5 rfl).1
    refine lv_bipush (v := 40) hx hb dX12_addCell_47 (by decide) ?_
    refine lv_irem hx hb dX12_addCell_49 (by decide) ?_
    refine lv_topi (fun v10 ev10 => ?_)
    have rv10 : rg (0) (39) v10 := (rg_rem ev10 rv9 kc_40 rfl).1
    refine lv_iadd hx hb dX12_addCell_50 ?_
    refine lv_topi (fun v11 ev11 => ?_)
    have rv11 : rg (0) (639) v11 := (rg_add ev11 rv6 rv10 rfl).1
    refine lv_imul hx hb dX12_addCell_51 ?_
    refine lv_topi (fun v12 ev12 => ?_)
    have rv12 : rg (0) (33867) v12 := (rg_mulL ev12 kc_53 rv11 rfl).1
    refine lv_istore (lv' := [(4, .int v12), (3, .int v2), (0, .ref h0), (1, .int p1), (2, .int p2)]) hx hb dX12_addCell_52 hl (by decide) rfl (fun ls hl => ?_)
    refine lv_iconst (v := 0) hx hb dX12_addCell_54 (by decide) ?_
    refine lv_istore (lv' := [(5, .int (0 : Int32)), (4, .int v12), (3, .int v2), (0, .ref h0), (1, .int p1), (2, .int p2)]) hx hb dX12_addCell_55 hl (by decide) rfl (fun ls hl => ?_)
    have j57_14 : ∀ (n : Nat) (a57_5_13 : Int32) (g14 : mSt) (H14 : Heap) (k14 : List Loc) (ls : Array Slot), mFr [5] g g14 → mL G h0 ad H0 nn X g14 H14 k14 → rg (0) (53) a57_5_13 → lv_has ls 6 [(0, .ref h0), (3, .int v2), (4, .int v12), (5, .int a57_5_13)] → ((53 : Int) - a57_5_13.toInt).toNat = n → W p l e rm_addCell s m args below meth c H14 k14 0 0 Q (F0 m 57 ls []) := by
      intro n
      induction n using Nat.strongRecOn with
      | _ n ih14 =>
        intro a57_5_13 g14 H14 k14 ls hF14 L14 ra57_5_13 hl hn14
        subst hn14
        refine lv_iload hx hb dX12_addCell_57 (lv_at hl 3 rfl) ?_
        refine lv_bipush (v := 53) hx hb dX12_addCell_59 (by decide) ?_
        refine lv_icmp_ge (tgt := 87) hx hb dX12_addCell_61 (by decide) (fun c61_15 => ?_) (fun c61_15 => ?_)
        · skip
          have q16 : rg (53) (53) a57_5_13 := (rg_le c61_15 kc_53 ra57_5_13).2
          refine lv_aload_n hx hb dX12_addCell_87 rfl (lv_at hl 0 rfl) ?_
          refine m_geta x L14 7 rfl rfl (wm_in uf_20) dX12_addCell_88 ?_
          refine lv_iload_n hx hb dX12_addCell_91 rfl (lv_at hl 1 rfl) ?_
          refine lv_dup2_11 hx hb dX12_addCell_92 rfl rfl ?_
          refine m_ld x L14 7 rfl rv2 rfl dX12_addCell_93 (fun v17 ev17 wv17 => ?_)
          refine m_top (((mm_fr ev3 hF14 rfl)).trans ev17.symm) ?_
          refine lv_iconst (v := 1) hx hb dX12_addCell_94 (by decide) ?_
          refine lv_iadd hx hb dX12_addCell_95 ?_
          refine lv_topi (fun v18 ev18 => ?_)
          have rv18 : rg (1) (40) v18 := (rg_add ev18 q5 kc_1 rfl).1
          refine m_st x L14 7 rfl rv2 rfl (rj_7 (rg_w rv18 rfl)) dX12_addCell_96 (fun g19 H19 k19 eg19 L19 => ?_)
          exact hQ _ _ _ _ _ dX12_addCell_97 L19 ⟨(mFr.upE (mFr.tr mFr.rf hF14 rfl) eg19 rfl), trivial⟩
        · skip
          have q20 : rg (0) (52) a57_5_13 := (rg_lt (rg_nle c61_15) ra57_5_13 kc_53).1
          refine lv_aload_n hx hb dX12_addCell_64 rfl (lv_at hl 0 rfl) ?_
          refine m_geta x L14 5 rfl rfl (wm_in uf_14) dX12_addCell_65 ?_
          refine lv_iload hx hb dX12_addCell_68 (lv_at hl 2 rfl) ?_
          refine lv_iload hx hb dX12_addCell_70 (lv_at hl 3 rfl) ?_
          refine lv_iadd hx hb dX12_addCell_72 ?_
          refine lv_topi (fun v21 ev21 => ?_)
          have rv21 : rg (0) (33919) v21 := (rg_add ev21 rv12 q20 rfl).1
          refine lv_aload_n hx hb dX12_addCell_73 rfl (lv_at hl 0 rfl) ?_
          refine m_geta x L14 9 rfl rfl (wm_in uf_26) dX12_addCell_74 ?_
          refine lv_iload hx hb dX12_addCell_77 (lv_at hl 3 rfl) ?_
          refine m_ld x L14 9 rfl q20 rfl dX12_addCell_79 (fun v22 ev22 wv22 => ?_)
          have rv22 : rg (-2147483648) (2147483647) v22 := lj_9 wv22
          refine m_st x L14 5 rfl rv21 rfl (rj_5 (rg_any v22)) dX12_addCell_80 (fun g23 H23 k23 eg23 L23 => ?_)
          obtain ⟨v24, ev24, fv24⟩ := inc_ex a57_5_13 (1) (1 : Int32) (by decide)
          have rv24 : rg (1) (53) v24 := (rg_add ev24 q20 kc_1 rfl).1
          have tv24 := (rg_add ev24 q20 kc_1 rfl).2
          refine lv_iinc (v := v24) (lv' := [(5, .int v24), (0, .ref h0), (3, .int v2), (4, .int v12)]) hx hb dX12_addCell_81 hl (k := 3) rfl fv24 (by decide) rfl (fun ls hl => ?_)
          refine lv_goto (tgt := 57) hx hb dX12_addCell_84 (by decide) ?_
          exact ih14 _ (ms_up tv24 kc_1 q20 rfl rfl) v24 g23 _ _ ls (mFr.upE hF14 eg23 rfl) L23 (rg_w rv24 rfl) (lv_sub hl [1, 2, 3, 0] rfl) rfl
    exact j57_14 _ (0 : Int32) g _ _ ls mFr.rf L (rg_w kc_0 rfl) (lv_sub hl [3, 2, 1, 0] rfl) rfl
  · skip
    have q25 : rg (40) (40) v3 := (rg_eq c14_4 rv3 kc_40).1
    refine lv_aload_n hx hb dX12_addCell_17 rfl (lv_at hl 1 rfl) ?_
    refine m_geta x L 8 rfl rfl (wm_in uf_23) dX12_addCell_18 ?_
    refine lv_iload_n hx hb dX12_addCell_21 rfl (lv_at hl 2 rfl) ?_
    refine lv_dup2_11 hx hb dX12_addCell_22 rfl rfl ?_
    refine m_ld x L 8 rfl rp1 rfl dX12_addCell_23 (fun v26 ev26 wv26 => ?_)
    have rv26 : rg (-2147483648) (2147483647) v26 := lj_8 wv26
    refine lv_iconst (v := 1) hx hb dX12_addCell_24 (by decide) ?_
    refine lv_iadd hx hb dX12_addCell_25 ?_
    refine lv_topi (fun v27 ev27 => ?_)
    have rv27 : rg (-2147483648) (2147483647) v27 := rg_any v27
    refine m_st x L 8 rfl rp1 rfl (rj_8 (rg_any v27)) dX12_addCell_26 (fun g28 H28 k28 eg28 L28 => ?_)
    exact hQ _ _ _ _ _ dX12_addCell_27 L28 ⟨(mFr.upE mFr.rf eg28 rfl), trivial⟩
theorem c_addCell (l : Launch) {G : mG} {h0 : Nat} {ad : Nat → Nat} (nn X : Int) (g : mSt) (p1 : Int32) (p2 : Int32) (hnn : 2 ≤ nn ∧ nn ≤ 4) (hX : 0 ≤ X ∧ X ≤ 2000000000) (rp1 : rg (0) (7) p1) (rp2 : rg (0) (1) p2) : Met l yX12_addCell (wm (Cond.code yX12_addCell cX12_addCell 6 none)) rm_addCell (va_Pc [.ref h0, .int p1, .int p2] (mPre G h0 ad nn X g)) (mQv G h0 ad nn X (fun g1 => mFr [5, 7, 8] g g1 ∧ True)) 0 0 (mA h0 ad) := by
  refine Met.ofW (cc := cX12_addCell) (maxL := 6) (ret := none) (by decide) rfl ?_
  intro p e s m args below meth c s₁ B hml hv
  obtain ⟨rfl, hv⟩ := hv
  have hr := B.returns
  have hlocks := B.notSynchronized
  obtain ⟨x, L⟩ := m_start B rfl wm_X hv
  have hl := lv_entry ([.ref h0, .int p1, .int p2]) (n := 6) (Nat.le_of_ble_eq_true rfl)
  rw [lg_entry_eq]
  generalize (lg_sl ([.ref h0, .int p1, .int p2]) ++ List.replicate (6 - (lg_sl ([.ref h0, .int p1, .int p2])).length) Slot.unset).toArray = ls at hl ⊢
  exact w_addCell x hml L hnn hX p1 p2 rp1 rp2 hl (fun pc' ls' g1 H1 locs1 hdg L hp => m_vret x L hr hlocks (Int.le_refl _) hp hdg)

def rm_layCell : Room := { frames := 2, cells := 0, slots := 0, locals := 46 }
theorem hd_layCell : yX12_layCell.cls = RX12 ∧ yX12_layCell.cls ≠ "java/lang/invoke/MethodHandle" ∧ yX12_layCell.cls ≠ "java/lang/invoke/VarHandle" ∧ (parseMethodDescriptor yX12_layCell.desc).map (fun d => d.parameters.length) = some 3 := by decide +kernel
set_option maxHeartbeats 4000000 in
set_option maxRecDepth 100000 in
theorem w_layCell {p : Program} {l : Launch} {e : Env} {s : State} {m : MethodId} {args : Array Value} {below : List Frame} {meth : Method} {c : Code} {H : Heap} {locs : List Loc} {Q : State → Prop} {ls : Array Slot} {G : mG} {h0 : Nat} {ad : Nat → Nat} {g : mSt} {H0 : Heap} {nn X : Int} (x : mX p c cX12_layCell s args (wm (Cond.code yX12_layCell cX12_layCell 5 none)) m G h0 ad) (hml : c.maxLocals = 5) (L : mL G h0 ad H0 nn X g H locs) (hnn : 2 ≤ nn ∧ nn ≤ 4) (hX : 0 ≤ X ∧ X ≤ 2000000000) (p1 : Int32) (p2 : Int32) (p3 : Int32) (rp1 : rg (0) (4) p1) (rp3 : rg (0) (1) p3) (hl : lv_has ls 5 [(0, .ref h0), (1, .int p1), (2, .int p2), (3, .int p3)]) (hQ : ∀ (pc' : Nat) (ls' : Array Slot) (g1 : mSt) (H1 : Heap) (locs1 : List Loc), decode cX12_layCell pc' = .ok (.return_, 1) → mL G h0 ad H0 nn X g1 H1 locs1 → (mFr [9] g g1 ∧ True) → W p l e rm_layCell s m args below meth c H1 locs1 0 0 Q (F0 m pc' ls' [])) : W p l e rm_layCell s m args below meth c H locs 0 0 Q (F0 m 0 ls []) := by
  have hx := x.1
  have hb := x.2.1
  refine lv_aload_n hx hb dX12_layCell_0 rfl (lv_at hl 0 rfl) ?_
  refine lv_iload_n hx hb dX12_layCell_1 rfl (lv_at hl 2 rfl) ?_
  refine lv_iload_n hx hb dX12_layCell_2 rfl (lv_at hl 3 rfl) ?_
  have j11_2 : ∀ (b11_2_1 : Int32) (g2 : mSt) (H2 : Heap) (k2 : List Loc) (ls : Array Slot), mFr [] g g2 → mL G h0 ad H0 nn X g2 H2 k2 → rg (0) (1) b11_2_1 → lv_has ls 5 [(0, .ref h0), (1, .int p1)] → W p l e rm_layCell s m args below meth c H2 k2 0 0 Q (F0 m 11 ls [.int b11_2_1, .int p2, .ref h0]) := by
    intro b11_2_1 g2 H2 k2 ls hF2 L2 rb11_2_1 hl
    refine lv_iconst (v := 0) hx hb dX12_layCell_11 (by decide) ?_
    refine m_cv (As := [.int p2, .int b11_2_1, .int (0 : Int32)]) (rest := []) x hml L2 (c_layHeader l nn X g2 p2 b11_2_1 (0 : Int32) hnn hX) (wm_V uc_layHeader ul_295 ui_layHeader us_layHeader u_init) rfl ⟨rfl, rfl⟩ hd_layHeader ⟨Nat.le_of_ble_eq_true rfl, Nat.le_of_ble_eq_true rfl⟩ rfl hl.1 rfl (lv_room (Nat.le_of_ble_eq_true rfl)) dX12_layCell_12 (fun  g3 H3 k3 hp3 L3 => ?_)
    refine lv_iconst (v := 0) hx hb dX12_layCell_15 (by decide) ?_
    refine lv_istore (lv' := [(4, .int (0 : Int32)), (0, .ref h0), (1, .int p1)]) hx hb dX12_layCell_16 hl (by decide) rfl (fun ls hl => ?_)
    have j18_5 : ∀ (n : Nat) (a18_4_4 : Int32) (g5 : mSt) (H5 : Heap) (k5 : List Loc) (ls : Array Slot), mFr [9] g3 g5 → mL G h0 ad H0 nn X g5 H5 k5 → rg (0) (48) a18_4_4 → lv_has ls 5 [(0, .ref h0), (1, .int p1), (4, .int a18_4_4)] → ((48 : Int) - a18_4_4.toInt).toNat = n → W p l e rm_layCell s m args below meth c H5 k5 0 0 Q (F0 m 18 ls []) := by
      intro n
      induction n using Nat.strongRecOn with
      | _ n ih5 =>
        intro a18_4_4 g5 H5 k5 ls hF5 L5 ra18_4_4 hl hn5
        subst hn5
        refine lv_iload hx hb dX12_layCell_18 (lv_at hl 2 rfl) ?_
        refine lv_bipush (v := 48) hx hb dX12_layCell_20 (by decide) ?_
        refine lv_icmp_ge (tgt := 52) hx hb dX12_layCell_22 (by decide) (fun c22_6 => ?_) (fun c22_6 => ?_)
        · skip
          have q7 : rg (48) (48) a18_4_4 := (rg_le c22_6 kc_48 ra18_4_4).2
          exact hQ _ _ _ _ _ dX12_layCell_52 L5 ⟨(mFr.tr (mFr.tr (mFr.tr mFr.rf hF2 rfl) hp3.1 rfl) hF5 rfl), trivial⟩
        · skip
          have q8 : rg (0) (47) a18_4_4 := (rg_lt (rg_nle c22_6) ra18_4_4 kc_48).1
          refine lv_aload_n hx hb dX12_layCell_25 rfl (lv_at hl 0 rfl) ?_
          refine m_geta x L5 9 rfl rfl (wm_in uf_26) dX12_layCell_26 ?_
          refine lv_iconst (v := 5) hx hb dX12_layCell_29 (by decide) ?_
          refine lv_iload hx hb dX12_layCell_30 (lv_at hl 2 rfl) ?_
          refine lv_iadd hx hb dX12_layCell_32 ?_
          refine lv_topi (fun v9 ev9 => ?_)
          have rv9 : rg (5) (52) v9 := (rg_add ev9 kc_5 q8 rfl).1
          refine lv_aload_n hx hb dX12_layCell_33 rfl (lv_at hl 0 rfl) ?_
          refine m_geta x L5 10 rfl rfl (wm_in uf_29) dX12_layCell_34 ?_
          refine lv_bipush (v := 48) hx hb dX12_layCell_37 (by decide) ?_
          refine lv_iload_n hx hb dX12_layCell_39 rfl (lv_at hl 1 rfl) ?_
          refine lv_imul hx hb dX12_layCell_40 ?_
          refine lv_topi (fun v10 ev10 => ?_)
          have rv10 : rg (0) (192) v10 := (rg_mulL ev10 kc_48 rp1 rfl).1
          refine lv_iload hx hb dX12_layCell_41 (lv_at hl 2 rfl) ?_
          refine lv_iadd hx hb dX12_layCell_43 ?_
          refine lv_topi (fun v11 ev11 => ?_)
          have rv11 : rg (0) (239) v11 := (rg_add ev11 rv10 q8 rfl).1
          refine m_ld x L5 10 rfl rv11 rfl dX12_layCell_44 (fun v12 ev12 wv12 => ?_)
          have rv12 : rg (-2147483648) (2147483647) v12 := lj_10 wv12
          refine m_st x L5 9 rfl rv9 rfl (rj_9 (rg_any v12)) dX12_layCell_45 (fun g13 H13 k13 eg13 L13 => ?_)
          obtain ⟨v14, ev14, fv14⟩ := inc_ex a18_4_4 (1) (1 : Int32) (by decide)
          have rv14 : rg (1) (48) v14 := (rg_add ev14 q8 kc_1 rfl).1
          have tv14 := (rg_add ev14 q8 kc_1 rfl).2
          refine lv_iinc (v := v14) (lv' := [(4, .int v14), (0, .ref h0), (1, .int p1)]) hx hb dX12_layCell_46 hl (k := 2) rfl fv14 (by decide) rfl (fun ls hl => ?_)
          refine lv_goto (tgt := 18) hx hb dX12_layCell_49 (by decide) ?_
          exact ih5 _ (ms_up tv14 kc_1 q8 rfl rfl) v14 g13 _ _ ls (mFr.upE hF5 eg13 rfl) L13 (rg_w rv14 rfl) (lv_sub hl [1, 2, 0] rfl) rfl
    exact j18_5 _ (0 : Int32) g3 _ _ ls mFr.rf L3 (rg_w kc_0 rfl) (lv_sub hl [1, 2, 0] rfl) rfl
  refine lv_if_eq (tgt := 10) hx hb dX12_layCell_3 (by decide) (fun c3_15 => ?_) (fun c3_15 => ?_)
  · skip
    have q16 : rg (0) (0) p3 := (rg_eq c3_15 rp3 kc_0).1
    refine lv_iconst (v := 0) hx hb dX12_layCell_10 (by decide) ?_
    exact j11_2 (0 : Int32) g _ _ ls mFr.rf L (rg_w kc_0 rfl) (lv_sub hl [0, 1] rfl)
  · skip
    have q17 : rg (1) (1) p3 := rg_neL c3_15 rp3 kc_0
    refine lv_iconst (v := 1) hx hb dX12_layCell_6 (by decide) ?_
    refine lv_goto (tgt := 11) hx hb dX12_layCell_7 (by decide) ?_
    exact j11_2 (1 : Int32) g _ _ ls mFr.rf L (rg_w kc_1 rfl) (lv_sub hl [0, 1] rfl)
theorem c_layCell (l : Launch) {G : mG} {h0 : Nat} {ad : Nat → Nat} (nn X : Int) (g : mSt) (p1 : Int32) (p2 : Int32) (p3 : Int32) (hnn : 2 ≤ nn ∧ nn ≤ 4) (hX : 0 ≤ X ∧ X ≤ 2000000000) (rp1 : rg (0) (4) p1) (rp3 : rg (0) (1) p3) : Met l yX12_layCell (wm (Cond.code yX12_layCell cX12_layCell 5 none)) rm_layCell (va_Pc [.ref h0, .int p1, .int p2, .int p3] (mPre G h0 ad nn X g)) (mQv G h0 ad nn X (fun g1 => mFr [9] g g1 ∧ True)) 0 0 (mA h0 ad) := by
  refine Met.ofW (cc := cX12_layCell) (maxL := 5) (ret := none) (by decide) rfl ?_
  intro p e s m args below meth c s₁ B hml hv
  obtain ⟨rfl, hv⟩ := hv
  have hr := B.returns
  have hlocks := B.notSynchronized
  obtain ⟨x, L⟩ := m_start B rfl wm_X hv
  have hl := lv_entry ([.ref h0, .int p1, .int p2, .int p3]) (n := 5) (Nat.le_of_ble_eq_true rfl)
  rw [lg_entry_eq]
  generalize (lg_sl ([.ref h0, .int p1, .int p2, .int p3]) ++ List.replicate (5 - (lg_sl ([.ref h0, .int p1, .int p2, .int p3])).length) Slot.unset).toArray = ls at hl ⊢
  exact w_layCell x hml L hnn hX p1 p2 p3 rp1 rp3 hl (fun pc' ls' g1 H1 locs1 hdg L hp => m_vret x L hr hlocks (Int.le_refl _) hp hdg)

def rm_anew : Room := { frames := 0, cells := 0, slots := 0, locals := 0 }
theorem hd_anew : yX12_anew.cls = RX12 ∧ yX12_anew.cls ≠ "java/lang/invoke/MethodHandle" ∧ yX12_anew.cls ≠ "java/lang/invoke/VarHandle" ∧ (parseMethodDescriptor yX12_anew.desc).map (fun d => d.parameters.length) = some 2 := by decide +kernel
set_option maxHeartbeats 4000000 in
set_option maxRecDepth 100000 in
theorem w_anew {p : Program} {l : Launch} {e : Env} {s : State} {m : MethodId} {args : Array Value} {below : List Frame} {meth : Method} {c : Code} {H : Heap} {locs : List Loc} {Q : State → Prop} {ls : Array Slot} {G : mG} {h0 : Nat} {ad : Nat → Nat} {g : mSt} {H0 : Heap} {nn X : Int} (x : mX p c cX12_anew s args (wm (Cond.code yX12_anew cX12_anew 4 none)) m G h0 ad) (hml : c.maxLocals = 4) (L : mL G h0 ad H0 nn X g H locs) (hnn : 2 ≤ nn ∧ nn ≤ 4) (hX : 0 ≤ X ∧ X ≤ 2000000000) (p1 : Int32) (p2 : Int32) (rp1 : rg (0) (7) p1) (hl : lv_has ls 4 [(0, .ref h0), (1, .int p1), (2, .int p2)]) (hQ : ∀ (pc' : Nat) (ls' : Array Slot) (g1 : mSt) (H1 : Heap) (locs1 : List Loc), decode cX12_anew pc' = .ok (.return_, 1) → mL G h0 ad H0 nn X g1 H1 locs1 → (mFr [41, 42, 43, 44, 45, 46, 47, 57, 64, 67] g g1 ∧ True) → W p l e rm_anew s m args below meth c H1 locs1 0 0 Q (F0 m pc' ls' [])) : W p l e rm_anew s m args below meth c H locs 0 0 Q (F0 m 0 ls []) := by
  have hx := x.1
  have hb := x.2.1
  refine lv_aload_n hx hb dX12_anew_0 rfl (lv_at hl 0 rfl) ?_
  refine m_geta x L 41 rfl rfl (wm_in uf_110) dX12_anew_1 ?_
  refine lv_iload_n hx hb dX12_anew_4 rfl (lv_at hl 1 rfl) ?_
  refine lv_iconst (v := 0) hx hb dX12_anew_5 (by decide) ?_
  refine m_st x L 41 rfl rp1 rfl (rj_41 (rg_w kc_0 rfl)) dX12_anew_6 (fun g1 H1 k1 eg1 L1 => ?_)
  refine lv_aload_n hx hb dX12_anew_7 rfl (lv_at hl 0 rfl) ?_
  refine m_geta x L1 42 rfl rfl (wm_in uf_113) dX12_anew_8 ?_
  refine lv_iload_n hx hb dX12_anew_11 rfl (lv_at hl 1 rfl) ?_
  refine lv_iconst (v := 0) hx hb dX12_anew_12 (by decide) ?_
  refine m_st x L1 42 rfl rp1 rfl (rj_42 (rg_w kc_0 rfl)) dX12_anew_13 (fun g2 H2 k2 eg2 L2 => ?_)
  refine lv_aload_n hx hb dX12_anew_14 rfl (lv_at hl 0 rfl) ?_
  refine m_geta x L2 44 rfl rfl (wm_in uf_119) dX12_anew_15 ?_
  refine lv_iload_n hx hb dX12_anew_18 rfl (lv_at hl 1 rfl) ?_
  refine lv_iconst (v := 0) hx hb dX12_anew_19 (by decide) ?_
  refine m_st x L2 44 rfl rp1 rfl (rj_44 (rg_any (0 : Int32))) dX12_anew_20 (fun g3 H3 k3 eg3 L3 => ?_)
  refine lv_aload_n hx hb dX12_anew_21 rfl (lv_at hl 0 rfl) ?_
  refine m_geta x L3 45 rfl rfl (wm_in uf_122) dX12_anew_22 ?_
  refine lv_iload_n hx hb dX12_anew_25 rfl (lv_at hl 1 rfl) ?_
  refine lv_iconst (v := 0) hx hb dX12_anew_26 (by decide) ?_
  refine m_st x L3 45 rfl rp1 rfl (rj_45 (rg_any (0 : Int32))) dX12_anew_27 (fun g4 H4 k4 eg4 L4 => ?_)
  refine lv_aload_n hx hb dX12_anew_28 rfl (lv_at hl 0 rfl) ?_
  refine m_geta x L4 46 rfl rfl (wm_in uf_125) dX12_anew_29 ?_
  refine lv_iload_n hx hb dX12_anew_32 rfl (lv_at hl 1 rfl) ?_
  refine lv_iconst (v := 0) hx hb dX12_anew_33 (by decide) ?_
  refine m_st x L4 46 rfl rp1 rfl (rj_46 (rg_w kc_0 rfl)) dX12_anew_34 (fun g5 H5 k5 eg5 L5 => ?_)
  refine lv_aload_n hx hb dX12_anew_35 rfl (lv_at hl 0 rfl) ?_
  refine m_geta x L5 47 rfl rfl (wm_in uf_128) dX12_anew_36 ?_
  refine lv_iload_n hx hb dX12_anew_39 rfl (lv_at hl 1 rfl) ?_
  refine lv_iconst (v := 0) hx hb dX12_anew_40 (by decide) ?_
  refine m_st x L5 47 rfl rp1 rfl (rj_47 (rg_any (0 : Int32))) dX12_anew_41 (fun g6 H6 k6 eg6 L6 => ?_)
  refine lv_aload_n hx hb dX12_anew_42 rfl (lv_at hl 0 rfl) ?_
  refine m_geta x L6 43 rfl rfl (wm_in uf_116) dX12_anew_43 ?_
  refine lv_iload_n hx hb dX12_anew_46 rfl (lv_at hl 1 rfl) ?_
  refine lv_iload_n hx hb dX12_anew_47 rfl (lv_at hl 2 rfl) ?_
  refine m_st x L6 43 rfl rp1 rfl (rj_43 (rg_any p2)) dX12_anew_48 (fun g7 H7 k7 eg7 L7 => ?_)
  refine lv_aload_n hx hb dX12_anew_49 rfl (lv_at hl 0 rfl) ?_
  refine m_geta x L7 57 rfl rfl (wm_in uf_159) dX12_anew_50 ?_
  refine lv_iload_n hx hb dX12_anew_53 rfl (lv_at hl 1 rfl) ?_
  refine lv_iconst (v := 0) hx hb dX12_anew_54 (by decide) ?_
  refine m_st x L7 57 rfl rp1 rfl (rj_57 (rg_any (0 : Int32))) dX12_anew_55 (fun g8 H8 k8 eg8 L8 => ?_)
  refine lv_iconst (v := 0) hx hb dX12_anew_56 (by decide) ?_
  refine lv_istore_n (lv' := [(3, .int (0 : Int32)), (0, .ref h0), (1, .int p1), (2, .int p2)]) hx hb dX12_anew_57 rfl hl (by decide) rfl (fun ls hl => ?_)
  have j58_10 : ∀ (n : Nat) (a58_3_9 : Int32) (g10 : mSt) (H10 : Heap) (k10 : List Loc) (ls : Array Slot), mFr [64, 67] g8 g10 → mL G h0 ad H0 nn X g10 H10 k10 → rg (0) (8) a58_3_9 → lv_has ls 4 [(0, .ref h0), (1, .int p1), (3, .int a58_3_9)] → ((8 : Int) - a58_3_9.toInt).toNat = n → W p l e rm_anew s m args below meth c H10 k10 0 0 Q (F0 m 58 ls []) := by
    intro n
    induction n using Nat.strongRecOn with
    | _ n ih10 =>
      intro a58_3_9 g10 H10 k10 ls hF10 L10 ra58_3_9 hl hn10
      subst hn10
      refine lv_iload_n hx hb dX12_anew_58 rfl (lv_at hl 2 rfl) ?_
      refine lv_bipush (v := 8) hx hb dX12_anew_59 (by decide) ?_
      refine lv_icmp_ge (tgt := 94) hx hb dX12_anew_61 (by decide) (fun c61_11 => ?_) (fun c61_11 => ?_)
      · skip
        have q12 : rg (8) (8) a58_3_9 := (rg_le c61_11 kc_8 ra58_3_9).2
        exact hQ _ _ _ _ _ dX12_anew_94 L10 ⟨(mFr.tr (mFr.upE (mFr.upE (mFr.upE (mFr.upE (mFr.upE (mFr.upE (mFr.upE (mFr.upE mFr.rf eg1 rfl) eg2 rfl) eg3 rfl) eg4 rfl) eg5 rfl) eg6 rfl) eg7 rfl) eg8 rfl) hF10 rfl), trivial⟩
      · skip
        have q13 : rg (0) (7) a58_3_9 := (rg_lt (rg_nle c61_11) ra58_3_9 kc_8).1
        refine lv_aload_n hx hb dX12_anew_64 rfl (lv_at hl 0 rfl) ?_
        refine m_geta x L10 67 rfl rfl (wm_in uf_189) dX12_anew_65 ?_
        refine lv_bipush (v := 8) hx hb dX12_anew_68 (by decide) ?_
        refine lv_iload_n hx hb dX12_anew_70 rfl (lv_at hl 1 rfl) ?_
        refine lv_imul hx hb dX12_anew_71 ?_
        refine lv_topi (fun v14 ev14 => ?_)
        have rv14 : rg (0) (56) v14 := (rg_mulL ev14 kc_8 rp1 rfl).1
        refine lv_iload_n hx hb dX12_anew_72 rfl (lv_at hl 2 rfl) ?_
        refine lv_iadd hx hb dX12_anew_73 ?_
        refine lv_topi (fun v15 ev15 => ?_)
        have rv15 : rg (0) (63) v15 := (rg_add ev15 rv14 q13 rfl).1
        refine lv_iconst (v := 0) hx hb dX12_anew_74 (by decide) ?_
        refine m_stz x L10 67 rfl rv15 rfl (rg_w kc_0 rfl) (rj_67 (rg_w kc_0 rfl)) dX12_anew_75 (fun g16 H16 k16 eg16 L16 => ?_)
        refine lv_aload_n hx hb dX12_anew_76 rfl (lv_at hl 0 rfl) ?_
        refine m_geta x L16 64 rfl rfl (wm_in uf_180) dX12_anew_77 ?_
        refine lv_bipush (v := 8) hx hb dX12_anew_80 (by decide) ?_
        refine lv_iload_n hx hb dX12_anew_82 rfl (lv_at hl 1 rfl) ?_
        refine lv_imul hx hb dX12_anew_83 ?_
        refine m_top ev14 ?_
        refine lv_iload_n hx hb dX12_anew_84 rfl (lv_at hl 2 rfl) ?_
        refine lv_iadd hx hb dX12_anew_85 ?_
        refine m_top ev15 ?_
        refine lv_iconst (v := 0) hx hb dX12_anew_86 (by decide) ?_
        refine m_stz x L16 64 rfl rv15 rfl (rg_w kc_0 rfl) (rj_64 (rg_w kc_0 rfl)) dX12_anew_87 (fun g17 H17 k17 eg17 L17 => ?_)
        obtain ⟨v18, ev18, fv18⟩ := inc_ex a58_3_9 (1) (1 : Int32) (by decide)
        have rv18 : rg (1) (8) v18 := (rg_add ev18 q13 kc_1 rfl).1
        have tv18 := (rg_add ev18 q13 kc_1 rfl).2
        refine lv_iinc (v := v18) (lv' := [(3, .int v18), (0, .ref h0), (1, .int p1)]) hx hb dX12_anew_88 hl (k := 2) rfl fv18 (by decide) rfl (fun ls hl => ?_)
        refine lv_goto (tgt := 58) hx hb dX12_anew_91 (by decide) ?_
        exact ih10 _ (ms_up tv18 kc_1 q13 rfl rfl) v18 g17 _ _ ls (mFr.upE (mFr.upE hF10 eg16 rfl) eg17 rfl) L17 (rg_w rv18 rfl) (lv_sub hl [1, 2, 0] rfl) rfl
  exact j58_10 _ (0 : Int32) g8 _ _ ls mFr.rf L8 (rg_w kc_0 rfl) (lv_sub hl [1, 2, 0] rfl) rfl
theorem c_anew (l : Launch) {G : mG} {h0 : Nat} {ad : Nat → Nat} (nn X : Int) (g : mSt) (p1 : Int32) (p2 : Int32) (hnn : 2 ≤ nn ∧ nn ≤ 4) (hX : 0 ≤ X ∧ X ≤ 2000000000) (rp1 : rg (0) (7) p1) : Met l yX12_anew (wm (Cond.code yX12_anew cX12_anew 4 none)) rm_anew (va_Pc [.ref h0, .int p1, .int p2] (mPre G h0 ad nn X g)) (mQv G h0 ad nn X (fun g1 => mFr [41, 42, 43, 44, 45, 46, 47, 57, 64, 67] g g1 ∧ True)) 0 0 (mA h0 ad) := by
  refine Met.ofW (cc := cX12_anew) (maxL := 4) (ret := none) (by decide) rfl ?_
  intro p e s m args below meth c s₁ B hml hv
  obtain ⟨rfl, hv⟩ := hv
  have hr := B.returns
  have hlocks := B.notSynchronized
  obtain ⟨x, L⟩ := m_start B rfl wm_X hv
  have hl := lv_entry ([.ref h0, .int p1, .int p2]) (n := 4) (Nat.le_of_ble_eq_true rfl)
  rw [lg_entry_eq]
  generalize (lg_sl ([.ref h0, .int p1, .int p2]) ++ List.replicate (4 - (lg_sl ([.ref h0, .int p1, .int p2])).length) Slot.unset).toArray = ls at hl ⊢
  exact w_anew x hml L hnn hX p1 p2 rp1 hl (fun pc' ls' g1 H1 locs1 hdg L hp => m_vret x L hr hlocks (Int.le_refl _) hp hdg)

def rm_aheadOf : Room := { frames := 0, cells := 0, slots := 0, locals := 0 }
theorem hd_aheadOf : yX12_aheadOf.cls = RX12 ∧ yX12_aheadOf.cls ≠ "java/lang/invoke/MethodHandle" ∧ yX12_aheadOf.cls ≠ "java/lang/invoke/VarHandle" ∧ (parseMethodDescriptor yX12_aheadOf.desc).map (fun d => d.parameters.length) = some 1 := by decide +kernel
set_option maxHeartbeats 4000000 in
set_option maxRecDepth 100000 in
theorem w_aheadOf {p : Program} {l : Launch} {e : Env} {s : State} {m : MethodId} {args : Array Value} {below : List Frame} {meth : Method} {c : Code} {H : Heap} {locs : List Loc} {Q : State → Prop} {ls : Array Slot} {G : mG} {h0 : Nat} {ad : Nat → Nat} {g : mSt} {H0 : Heap} {nn X : Int} (x : mX p c cX12_aheadOf s args (wm (Cond.code yX12_aheadOf cX12_aheadOf 4 (some .int))) m G h0 ad) (hml : c.maxLocals = 4) (L : mL G h0 ad H0 nn X g H locs) (hnn : 2 ≤ nn ∧ nn ≤ 4) (hX : 0 ≤ X ∧ X ≤ 2000000000) (p1 : Int32) (rp1 : rg (0) (7) p1) (hl : lv_has ls 4 [(0, .ref h0), (1, .int p1)]) (hQ : ∀ (pc' : Nat) (ls' : Array Slot) (r : Int32) (g1 : mSt) (H1 : Heap) (locs1 : List Loc), decode cX12_aheadOf pc' = .ok (.ireturn, 1) → mL G h0 ad H0 nn X g1 H1 locs1 → (mFr [] g g1 ∧ rg (-2147483648) (2147483647) r ∧ True) → W p l e rm_aheadOf s m args below meth c H1 locs1 0 0 Q (F0 m pc' ls' [.int r])) : W p l e rm_aheadOf s m args below meth c H locs 0 0 Q (F0 m 0 ls []) := by
  have hx := x.1
  have hb := x.2.1
  refine lv_iconst (v := 0) hx hb dX12_aheadOf_0 (by decide) ?_
  refine lv_istore_n (lv' := [(2, .int (0 : Int32)), (0, .ref h0), (1, .int p1)]) hx hb dX12_aheadOf_1 rfl hl (by decide) rfl (fun ls hl => ?_)
  refine lv_iconst (v := 0) hx hb dX12_aheadOf_2 (by decide) ?_
  refine lv_istore_n (lv' := [(3, .int (0 : Int32)), (2, .int (0 : Int32)), (0, .ref h0), (1, .int p1)]) hx hb dX12_aheadOf_3 rfl hl (by decide) rfl (fun ls hl => ?_)
  have j4_3 : ∀ (n : Nat) (a4_2_1 a4_3_2 : Int32) (g3 : mSt) (H3 : Heap) (k3 : List Loc) (ls : Array Slot), mFr [] g g3 → mL G h0 ad H0 nn X g3 H3 k3 → rg (-2147483648) (2147483647) a4_2_1 → rg (0) (8) a4_3_2 → lv_has ls 4 [(0, .ref h0), (1, .int p1), (2, .int a4_2_1), (3, .int a4_3_2)] → ((8 : Int) - a4_3_2.toInt).toNat = n → W p l e rm_aheadOf s m args below meth c H3 k3 0 0 Q (F0 m 4 ls []) := by
    intro n
    induction n using Nat.strongRecOn with
    | _ n ih3 =>
      intro a4_2_1 a4_3_2 g3 H3 k3 ls hF3 L3 ra4_2_1 ra4_3_2 hl hn3
      subst hn3
      refine lv_iload_n hx hb dX12_aheadOf_4 rfl (lv_at hl 3 rfl) ?_
      refine lv_bipush (v := 8) hx hb dX12_aheadOf_5 (by decide) ?_
      refine lv_icmp_ge (tgt := 38) hx hb dX12_aheadOf_7 (by decide) (fun c7_4 => ?_) (fun c7_4 => ?_)
      · skip
        have q5 : rg (8) (8) a4_3_2 := (rg_le c7_4 kc_8 ra4_3_2).2
        refine lv_iload_n hx hb dX12_aheadOf_38 rfl (lv_at hl 2 rfl) ?_
        exact hQ _ _ a4_2_1 _ _ _ dX12_aheadOf_39 L3 ⟨(mFr.tr mFr.rf hF3 rfl), rg_w ra4_2_1 rfl, trivial⟩
      · skip
        have q6 : rg (0) (7) a4_3_2 := (rg_lt (rg_nle c7_4) ra4_3_2 kc_8).1
        refine lv_iload_n hx hb dX12_aheadOf_10 rfl (lv_at hl 2 rfl) ?_
        refine lv_aload_n hx hb dX12_aheadOf_11 rfl (lv_at hl 0 rfl) ?_
        refine m_geta x L3 67 rfl rfl (wm_in uf_189) dX12_aheadOf_12 ?_
        refine lv_bipush (v := 8) hx hb dX12_aheadOf_15 (by decide) ?_
        refine lv_iload_n hx hb dX12_aheadOf_17 rfl (lv_at hl 1 rfl) ?_
        refine lv_imul hx hb dX12_aheadOf_18 ?_
        refine lv_topi (fun v7 ev7 => ?_)
        have rv7 : rg (0) (56) v7 := (rg_mulL ev7 kc_8 rp1 rfl).1
        refine lv_iload_n hx hb dX12_aheadOf_19 rfl (lv_at hl 3 rfl) ?_
        refine lv_iadd hx hb dX12_aheadOf_20 ?_
        refine lv_topi (fun v8 ev8 => ?_)
        have rv8 : rg (0) (63) v8 := (rg_add ev8 rv7 q6 rfl).1
        refine m_ldz x L3 67 rfl rv8 rfl dX12_aheadOf_21 (fun v9 ev9 wv9 => ?_)
        have rv9 : rg (0) (1) v9 := lj_67 wv9
        have j30_11 : ∀ (b30_1_10 : Int32) (g11 : mSt) (H11 : Heap) (k11 : List Loc) (ls : Array Slot), mFr [] g3 g11 → mL G h0 ad H0 nn X g11 H11 k11 → rg (0) (1) b30_1_10 → lv_has ls 4 [(0, .ref h0), (1, .int p1), (3, .int a4_3_2)] → W p l e rm_aheadOf s m args below meth c H11 k11 0 0 Q (F0 m 30 ls [.int b30_1_10, .int a4_2_1]) := by
          intro b30_1_10 g11 H11 k11 ls hF11 L11 rb30_1_10 hl
          refine lv_iadd hx hb dX12_aheadOf_30 ?_
          refine lv_topi (fun v12 ev12 => ?_)
          have rv12 : rg (-2147483648) (2147483647) v12 := rg_any v12
          refine lv_istore_n (lv' := [(2, .int v12), (0, .ref h0), (1, .int p1), (3, .int a4_3_2)]) hx hb dX12_aheadOf_31 rfl hl (by decide) rfl (fun ls hl => ?_)
          obtain ⟨v13, ev13, fv13⟩ := inc_ex a4_3_2 (1) (1 : Int32) (by decide)
          have rv13 : rg (1) (8) v13 := (rg_add ev13 q6 kc_1 rfl).1
          have tv13 := (rg_add ev13 q6 kc_1 rfl).2
          refine lv_iinc (v := v13) (lv' := [(3, .int v13), (2, .int v12), (0, .ref h0), (1, .int p1)]) hx hb dX12_aheadOf_32 hl (k := 3) rfl fv13 (by decide) rfl (fun ls hl => ?_)
          refine lv_goto (tgt := 4) hx hb dX12_aheadOf_35 (by decide) ?_
          exact ih3 _ (ms_up tv13 kc_1 q6 rfl rfl) v12 v13 g11 _ _ ls (mFr.tr hF3 hF11 rfl) L11 (rg_w rv12 rfl) (rg_w rv13 rfl) (lv_sub hl [2, 3, 1, 0] rfl) rfl
        refine lv_if_eq (tgt := 29) hx hb dX12_aheadOf_22 (by decide) (fun c22_14 => ?_) (fun c22_14 => ?_)
        · skip
          have q15 : rg (0) (0) v9 := (rg_eq c22_14 rv9 kc_0).1
          refine lv_iconst (v := 0) hx hb dX12_aheadOf_29 (by decide) ?_
          exact j30_11 (0 : Int32) g3 _ _ ls mFr.rf L3 (rg_w kc_0 rfl) (lv_sub hl [0, 1, 3] rfl)
        · skip
          have q16 : rg (1) (1) v9 := rg_neL c22_14 rv9 kc_0
          refine lv_iconst (v := 1) hx hb dX12_aheadOf_25 (by decide) ?_
          refine lv_goto (tgt := 30) hx hb dX12_aheadOf_26 (by decide) ?_
          exact j30_11 (1 : Int32) g3 _ _ ls mFr.rf L3 (rg_w kc_1 rfl) (lv_sub hl [0, 1, 3] rfl)
  exact j4_3 _ (0 : Int32) (0 : Int32) g _ _ ls mFr.rf L (rg_w kc_0 rfl) (rg_w kc_0 rfl) (lv_sub hl [2, 3, 1, 0] rfl) rfl
theorem c_aheadOf (l : Launch) {G : mG} {h0 : Nat} {ad : Nat → Nat} (nn X : Int) (g : mSt) (p1 : Int32) (hnn : 2 ≤ nn ∧ nn ≤ 4) (hX : 0 ≤ X ∧ X ≤ 2000000000) (rp1 : rg (0) (7) p1) : Met l yX12_aheadOf (wm (Cond.code yX12_aheadOf cX12_aheadOf 4 (some .int))) rm_aheadOf (va_Pc [.ref h0, .int p1] (mPre G h0 ad nn X g)) (mQi G h0 ad nn X (fun r g1 => mFr [] g g1 ∧ rg (-2147483648) (2147483647) r ∧ True)) 0 0 (mA h0 ad) := by
  refine Met.ofW (cc := cX12_aheadOf) (maxL := 4) (ret := (some .int)) (by decide) rfl ?_
  intro p e s m args below meth c s₁ B hml hv
  obtain ⟨rfl, hv⟩ := hv
  have hr := B.returns
  have hlocks := B.notSynchronized
  obtain ⟨x, L⟩ := m_start B rfl wm_X hv
  have hl := lv_entry ([.ref h0, .int p1]) (n := 4) (Nat.le_of_ble_eq_true rfl)
  rw [lg_entry_eq]
  generalize (lg_sl ([.ref h0, .int p1]) ++ List.replicate (4 - (lg_sl ([.ref h0, .int p1])).length) Slot.unset).toArray = ls at hl ⊢
  exact w_aheadOf x hml L hnn hX p1 rp1 hl (fun pc' ls' r g1 H1 locs1 hdg L hp => m_iret x L hr hlocks (Int.le_refl _) hp hdg)

def rm_openCalls : Room := { frames := 0, cells := 0, slots := 0, locals := 0 }
theorem hd_openCalls : yX12_openCalls.cls = RX12 ∧ yX12_openCalls.cls ≠ "java/lang/invoke/MethodHandle" ∧ yX12_openCalls.cls ≠ "java/lang/invoke/VarHandle" ∧ (parseMethodDescriptor yX12_openCalls.desc).map (fun d => d.parameters.length) = some 1 := by decide +kernel
set_option maxHeartbeats 4000000 in
set_option maxRecDepth 100000 in
theorem w_openCalls {p : Program} {l : Launch} {e : Env} {s : State} {m : MethodId} {args : Array Value} {below : List Frame} {meth : Method} {c : Code} {H : Heap} {locs : List Loc} {Q : State → Prop} {ls : Array Slot} {G : mG} {h0 : Nat} {ad : Nat → Nat} {g : mSt} {H0 : Heap} {nn X : Int} (x : mX p c cX12_openCalls s args (wm (Cond.code yX12_openCalls cX12_openCalls 4 (some .int))) m G h0 ad) (hml : c.maxLocals = 4) (L : mL G h0 ad H0 nn X g H locs) (hnn : 2 ≤ nn ∧ nn ≤ 4) (hX : 0 ≤ X ∧ X ≤ 2000000000) (p1 : Int32) (rp1 : rg (0) (7) p1) (hl : lv_has ls 4 [(0, .ref h0), (1, .int p1)]) (hQ : ∀ (pc' : Nat) (ls' : Array Slot) (r : Int32) (g1 : mSt) (H1 : Heap) (locs1 : List Loc), decode cX12_openCalls pc' = .ok (.ireturn, 1) → mL G h0 ad H0 nn X g1 H1 locs1 → (mFr [] g g1 ∧ rg (-2147483648) (2147483647) r ∧ True) → W p l e rm_openCalls s m args below meth c H1 locs1 0 0 Q (F0 m pc' ls' [.int r])) : W p l e rm_openCalls s m args below meth c H locs 0 0 Q (F0 m 0 ls []) := by
  have hx := x.1
  have hb := x.2.1
  refine lv_iconst (v := 0) hx hb dX12_openCalls_0 (by decide) ?_
  refine lv_istore_n (lv' := [(2, .int (0 : Int32)), (0, .ref h0), (1, .int p1)]) hx hb dX12_openCalls_1 rfl hl (by decide) rfl (fun ls hl => ?_)
  refine lv_bipush (v := 40) hx hb dX12_openCalls_2 (by decide) ?_
  refine lv_iload_n hx hb dX12_openCalls_4 rfl (lv_at hl 2 rfl) ?_
  refine lv_imul hx hb dX12_openCalls_5 ?_
  refine lv_topi (fun v1 ev1 => ?_)
  have rv1 : rg (0) (280) v1 := (rg_mulL ev1 kc_40 rp1 rfl).1
  refine lv_istore_n (lv' := [(3, .int v1), (2, .int (0 : Int32)), (0, .ref h0), (1, .int p1)]) hx hb dX12_openCalls_6 rfl hl (by decide) rfl (fun ls hl => ?_)
  have j7_4 : ∀ (n : Nat) (a7_2_2 a7_3_3 : Int32) (g4 : mSt) (H4 : Heap) (k4 : List Loc) (ls : Array Slot), mFr [] g g4 → mL G h0 ad H0 nn X g4 H4 k4 → rg (-2147483648) (2147483647) a7_2_2 → rg (0) (320) a7_3_3 → lv_has ls 4 [(0, .ref h0), (1, .int p1), (2, .int a7_2_2), (3, .int a7_3_3)] → ((320 : Int) - a7_3_3.toInt).toNat = n → W p l e rm_openCalls s m args below meth c H4 k4 0 0 Q (F0 m 7 ls []) := by
    intro n
    induction n using Nat.strongRecOn with
    | _ n ih4 =>
      intro a7_2_2 a7_3_3 g4 H4 k4 ls hF4 L4 ra7_2_2 ra7_3_3 hl hn4
      subst hn4
      refine lv_iload_n hx hb dX12_openCalls_7 rfl (lv_at hl 3 rfl) ?_
      refine lv_bipush (v := 40) hx hb dX12_openCalls_8 (by decide) ?_
      refine lv_iload_n hx hb dX12_openCalls_10 rfl (lv_at hl 1 rfl) ?_
      refine lv_imul hx hb dX12_openCalls_11 ?_
      refine m_top ev1 ?_
      refine lv_bipush (v := 40) hx hb dX12_openCalls_12 (by decide) ?_
      refine lv_iadd hx hb dX12_openCalls_14 ?_
      refine lv_topi (fun v5 ev5 => ?_)
      have rv5 : rg (40) (320) v5 := (rg_add ev5 rv1 kc_40 rfl).1
      refine lv_icmp_ge (tgt := 41) hx hb dX12_openCalls_15 (by decide) (fun c15_6 => ?_) (fun c15_6 => ?_)
      · skip
        have q7 : rg (40) (320) a7_3_3 := (rg_le c15_6 rv5 ra7_3_3).2
        refine lv_iload_n hx hb dX12_openCalls_41 rfl (lv_at hl 2 rfl) ?_
        exact hQ _ _ a7_2_2 _ _ _ dX12_openCalls_42 L4 ⟨(mFr.tr mFr.rf hF4 rfl), rg_w ra7_2_2 rfl, trivial⟩
      · skip
        have q8 : rg (0) (319) a7_3_3 := (rg_lt (rg_nle c15_6) ra7_3_3 rv5).1
        refine lv_iload_n hx hb dX12_openCalls_18 rfl (lv_at hl 2 rfl) ?_
        refine lv_aload_n hx hb dX12_openCalls_19 rfl (lv_at hl 0 rfl) ?_
        refine m_geta x L4 68 rfl rfl (wm_in uf_192) dX12_openCalls_20 ?_
        refine lv_iload_n hx hb dX12_openCalls_23 rfl (lv_at hl 3 rfl) ?_
        refine m_ld x L4 68 rfl q8 rfl dX12_openCalls_24 (fun v9 ev9 wv9 => ?_)
        have rv9 : rg (0) (11) v9 := lj_68 wv9
        have j33_11 : ∀ (b33_1_10 : Int32) (g11 : mSt) (H11 : Heap) (k11 : List Loc) (ls : Array Slot), mFr [] g4 g11 → mL G h0 ad H0 nn X g11 H11 k11 → rg (0) (1) b33_1_10 → lv_has ls 4 [(0, .ref h0), (1, .int p1), (3, .int a7_3_3)] → W p l e rm_openCalls s m args below meth c H11 k11 0 0 Q (F0 m 33 ls [.int b33_1_10, .int a7_2_2]) := by
          intro b33_1_10 g11 H11 k11 ls hF11 L11 rb33_1_10 hl
          refine lv_iadd hx hb dX12_openCalls_33 ?_
          refine lv_topi (fun v12 ev12 => ?_)
          have rv12 : rg (-2147483648) (2147483647) v12 := rg_any v12
          refine lv_istore_n (lv' := [(2, .int v12), (0, .ref h0), (1, .int p1), (3, .int a7_3_3)]) hx hb dX12_openCalls_34 rfl hl (by decide) rfl (fun ls hl => ?_)
          obtain ⟨v13, ev13, fv13⟩ := inc_ex a7_3_3 (1) (1 : Int32) (by decide)
          have rv13 : rg (1) (320) v13 := (rg_add ev13 q8 kc_1 rfl).1
          have tv13 := (rg_add ev13 q8 kc_1 rfl).2
          refine lv_iinc (v := v13) (lv' := [(3, .int v13), (2, .int v12), (0, .ref h0), (1, .int p1)]) hx hb dX12_openCalls_35 hl (k := 3) rfl fv13 (by decide) rfl (fun ls hl => ?_)
          refine lv_goto (tgt := 7) hx hb dX12_openCalls_38 (by decide) ?_
          exact ih4 _ (ms_up tv13 kc_1 q8 rfl rfl) v12 v13 g11 _ _ ls (mFr.tr hF4 hF11 rfl) L11 (rg_w rv12 rfl) (rg_w rv13 rfl) (lv_sub hl [2, 3, 1, 0] rfl) rfl
        refine lv_if_eq (tgt := 32) hx hb dX12_openCalls_25 (by decide) (fun c25_14 => ?_) (fun c25_14 => ?_)
        · skip
          have q15 : rg (0) (0) v9 := (rg_eq c25_14 rv9 kc_0).1
          refine lv_iconst (v := 0) hx hb dX12_openCalls_32 (by decide) ?_
          exact j33_11 (0 : Int32) g4 _ _ ls mFr.rf L4 (rg_w kc_0 rfl) (lv_sub hl [0, 1, 3] rfl)
        · skip
          have q16 : rg (1) (11) v9 := rg_neL c25_14 rv9 kc_0
          refine lv_iconst (v := 1) hx hb dX12_openCalls_28 (by decide) ?_
          refine lv_goto (tgt := 33) hx hb dX12_openCalls_29 (by decide) ?_
          exact j33_11 (1 : Int32) g4 _ _ ls mFr.rf L4 (rg_w kc_1 rfl) (lv_sub hl [0, 1, 3] rfl)
  exact j7_4 _ (0 : Int32) v1 g _ _ ls mFr.rf L (rg_w kc_0 rfl) (rg_w rv1 rfl) (lv_sub hl [2, 3, 1, 0] rfl) rfl
theorem c_openCalls (l : Launch) {G : mG} {h0 : Nat} {ad : Nat → Nat} (nn X : Int) (g : mSt) (p1 : Int32) (hnn : 2 ≤ nn ∧ nn ≤ 4) (hX : 0 ≤ X ∧ X ≤ 2000000000) (rp1 : rg (0) (7) p1) : Met l yX12_openCalls (wm (Cond.code yX12_openCalls cX12_openCalls 4 (some .int))) rm_openCalls (va_Pc [.ref h0, .int p1] (mPre G h0 ad nn X g)) (mQi G h0 ad nn X (fun r g1 => mFr [] g g1 ∧ rg (-2147483648) (2147483647) r ∧ True)) 0 0 (mA h0 ad) := by
  refine Met.ofW (cc := cX12_openCalls) (maxL := 4) (ret := (some .int)) (by decide) rfl ?_
  intro p e s m args below meth c s₁ B hml hv
  obtain ⟨rfl, hv⟩ := hv
  have hr := B.returns
  have hlocks := B.notSynchronized
  obtain ⟨x, L⟩ := m_start B rfl wm_X hv
  have hl := lv_entry ([.ref h0, .int p1]) (n := 4) (Nat.le_of_ble_eq_true rfl)
  rw [lg_entry_eq]
  generalize (lg_sl ([.ref h0, .int p1]) ++ List.replicate (4 - (lg_sl ([.ref h0, .int p1])).length) Slot.unset).toArray = ls at hl ⊢
  exact w_openCalls x hml L hnn hX p1 rp1 hl (fun pc' ls' r g1 H1 locs1 hdg L hp => m_iret x L hr hlocks (Int.le_refl _) hp hdg)

def rm_ratesOf : Room := { frames := 0, cells := 0, slots := 0, locals := 0 }
theorem hd_ratesOf : yX12_ratesOf.cls = RX12 ∧ yX12_ratesOf.cls ≠ "java/lang/invoke/MethodHandle" ∧ yX12_ratesOf.cls ≠ "java/lang/invoke/VarHandle" ∧ (parseMethodDescriptor yX12_ratesOf.desc).map (fun d => d.parameters.length) = some 1 := by decide +kernel
set_option maxHeartbeats 4000000 in
set_option maxRecDepth 100000 in
theorem w_ratesOf {p : Program} {l : Launch} {e : Env} {s : State} {m : MethodId} {args : Array Value} {below : List Frame} {meth : Method} {c : Code} {H : Heap} {locs : List Loc} {Q : State → Prop} {ls : Array Slot} {G : mG} {h0 : Nat} {ad : Nat → Nat} {g : mSt} {H0 : Heap} {nn X : Int} (x : mX p c cX12_ratesOf s args (wm (Cond.code yX12_ratesOf cX12_ratesOf 4 (some .int))) m G h0 ad) (hml : c.maxLocals = 4) (L : mL G h0 ad H0 nn X g H locs) (hnn : 2 ≤ nn ∧ nn ≤ 4) (hX : 0 ≤ X ∧ X ≤ 2000000000) (p1 : Int32) (rp1 : rg (0) (7) p1) (hl : lv_has ls 4 [(0, .ref h0), (1, .int p1)]) (hQ : ∀ (pc' : Nat) (ls' : Array Slot) (r : Int32) (g1 : mSt) (H1 : Heap) (locs1 : List Loc), decode cX12_ratesOf pc' = .ok (.ireturn, 1) → mL G h0 ad H0 nn X g1 H1 locs1 → (mFr [] g g1 ∧ rg (-2147483648) (2147483647) r ∧ True) → W p l e rm_ratesOf s m args below meth c H1 locs1 0 0 Q (F0 m pc' ls' [.int r])) : W p l e rm_ratesOf s m args below meth c H locs 0 0 Q (F0 m 0 ls []) := by
  have hx := x.1
  have hb := x.2.1
  refine lv_iconst (v := 0) hx hb dX12_ratesOf_0 (by decide) ?_
  refine lv_istore_n (lv' := [(2, .int (0 : Int32)), (0, .ref h0), (1, .int p1)]) hx hb dX12_ratesOf_1 rfl hl (by decide) rfl (fun ls hl => ?_)
  refine lv_bipush (v := 40) hx hb dX12_ratesOf_2 (by decide) ?_
  refine lv_iload_n hx hb dX12_ratesOf_4 rfl (lv_at hl 2 rfl) ?_
  refine lv_imul hx hb dX12_ratesOf_5 ?_
  refine lv_topi (fun v1 ev1 => ?_)
  have rv1 : rg (0) (280) v1 := (rg_mulL ev1 kc_40 rp1 rfl).1
  refine lv_istore_n (lv' := [(3, .int v1), (2, .int (0 : Int32)), (0, .ref h0), (1, .int p1)]) hx hb dX12_ratesOf_6 rfl hl (by decide) rfl (fun ls hl => ?_)
  have j7_4 : ∀ (n : Nat) (a7_2_2 a7_3_3 : Int32) (g4 : mSt) (H4 : Heap) (k4 : List Loc) (ls : Array Slot), mFr [] g g4 → mL G h0 ad H0 nn X g4 H4 k4 → rg (-2147483648) (2147483647) a7_2_2 → rg (0) (320) a7_3_3 → lv_has ls 4 [(0, .ref h0), (1, .int p1), (2, .int a7_2_2), (3, .int a7_3_3)] → ((320 : Int) - a7_3_3.toInt).toNat = n → W p l e rm_ratesOf s m args below meth c H4 k4 0 0 Q (F0 m 7 ls []) := by
    intro n
    induction n using Nat.strongRecOn with
    | _ n ih4 =>
      intro a7_2_2 a7_3_3 g4 H4 k4 ls hF4 L4 ra7_2_2 ra7_3_3 hl hn4
      subst hn4
      refine lv_iload_n hx hb dX12_ratesOf_7 rfl (lv_at hl 3 rfl) ?_
      refine lv_bipush (v := 40) hx hb dX12_ratesOf_8 (by decide) ?_
      refine lv_iload_n hx hb dX12_ratesOf_10 rfl (lv_at hl 1 rfl) ?_
      refine lv_imul hx hb dX12_ratesOf_11 ?_
      refine m_top ev1 ?_
      refine lv_bipush (v := 40) hx hb dX12_ratesOf_12 (by decide) ?_
      refine lv_iadd hx hb dX12_ratesOf_14 ?_
      refine lv_topi (fun v5 ev5 => ?_)
      have rv5 : rg (40) (320) v5 := (rg_add ev5 rv1 kc_40 rfl).1
      refine lv_icmp_ge (tgt := 46) hx hb dX12_ratesOf_15 (by decide) (fun c15_6 => ?_) (fun c15_6 => ?_)
      · skip
        have q7 : rg (40) (320) a7_3_3 := (rg_le c15_6 rv5 ra7_3_3).2
        refine lv_iload_n hx hb dX12_ratesOf_46 rfl (lv_at hl 2 rfl) ?_
        exact hQ _ _ a7_2_2 _ _ _ dX12_ratesOf_47 L4 ⟨(mFr.tr mFr.rf hF4 rfl), rg_w ra7_2_2 rfl, trivial⟩
      · skip
        have q8 : rg (0) (319) a7_3_3 := (rg_lt (rg_nle c15_6) ra7_3_3 rv5).1
        refine lv_iload_n hx hb dX12_ratesOf_18 rfl (lv_at hl 2 rfl) ?_
        refine lv_aload_n hx hb dX12_ratesOf_19 rfl (lv_at hl 0 rfl) ?_
        refine m_geta x L4 68 rfl rfl (wm_in uf_192) dX12_ratesOf_20 ?_
        refine lv_iload_n hx hb dX12_ratesOf_23 rfl (lv_at hl 3 rfl) ?_
        refine m_ld x L4 68 rfl q8 rfl dX12_ratesOf_24 (fun v9 ev9 wv9 => ?_)
        have rv9 : rg (0) (11) v9 := lj_68 wv9
        have j38_11 : ∀ (b38_1_10 : Int32) (g11 : mSt) (H11 : Heap) (k11 : List Loc) (ls : Array Slot), mFr [] g4 g11 → mL G h0 ad H0 nn X g11 H11 k11 → rg (-2147483648) (2147483647) b38_1_10 → lv_has ls 4 [(0, .ref h0), (1, .int p1), (3, .int a7_3_3)] → W p l e rm_ratesOf s m args below meth c H11 k11 0 0 Q (F0 m 38 ls [.int b38_1_10, .int a7_2_2]) := by
          intro b38_1_10 g11 H11 k11 ls hF11 L11 rb38_1_10 hl
          refine lv_iadd hx hb dX12_ratesOf_38 ?_
          refine lv_topi (fun v12 ev12 => ?_)
          have rv12 : rg (-2147483648) (2147483647) v12 := rg_any v12
          refine lv_istore_n (lv' := [(2, .int v12), (0, .ref h0), (1, .int p1), (3, .int a7_3_3)]) hx hb dX12_ratesOf_39 rfl hl (by decide) rfl (fun ls hl => ?_)
          obtain ⟨v13, ev13, fv13⟩ := inc_ex a7_3_3 (1) (1 : Int32) (by decide)
          have rv13 : rg (1) (320) v13 := (rg_add ev13 q8 kc_1 rfl).1
          have tv13 := (rg_add ev13 q8 kc_1 rfl).2
          refine lv_iinc (v := v13) (lv' := [(3, .int v13), (2, .int v12), (0, .ref h0), (1, .int p1)]) hx hb dX12_ratesOf_40 hl (k := 3) rfl fv13 (by decide) rfl (fun ls hl => ?_)
          refine lv_goto (tgt := 7) hx hb dX12_ratesOf_43 (by decide) ?_
          exact ih4 _ (ms_up tv13 kc_1 q8 rfl rfl) v12 v13 g11 _ _ ls (mFr.tr hF4 hF11 rfl) L11 (rg_w rv12 rfl) (rg_w rv13 rfl) (lv_sub hl [2, 3, 1, 0] rfl) rfl
        refine lv_if_eq (tgt := 37) hx hb dX12_ratesOf_25 (by decide) (fun c25_14 => ?_) (fun c25_14 => ?_)
        · skip
          have q15 : rg (0) (0) v9 := (rg_eq c25_14 rv9 kc_0).1
          refine lv_iconst (v := 0) hx hb dX12_ratesOf_37 (by decide) ?_
          exact j38_11 (0 : Int32) g4 _ _ ls mFr.rf L4 (rg_w kc_0 rfl) (lv_sub hl [0, 1, 3] rfl)
        · skip
          have q16 : rg (1) (11) v9 := rg_neL c25_14 rv9 kc_0
          refine lv_aload_n hx hb dX12_ratesOf_28 rfl (lv_at hl 0 rfl) ?_
          refine m_geta x L4 72 rfl rfl (wm_in uf_204) dX12_ratesOf_29 ?_
          refine lv_iload_n hx hb dX12_ratesOf_32 rfl (lv_at hl 3 rfl) ?_
          refine m_ld x L4 72 rfl q8 rfl dX12_ratesOf_33 (fun v17 ev17 wv17 => ?_)
          have rv17 : rg (-2147483648) (2147483647) v17 := lj_72 wv17
          refine lv_goto (tgt := 38) hx hb dX12_ratesOf_34 (by decide) ?_
          exact j38_11 v17 g4 _ _ ls mFr.rf L4 (rg_w rv17 rfl) (lv_sub hl [0, 1, 3] rfl)
  exact j7_4 _ (0 : Int32) v1 g _ _ ls mFr.rf L (rg_w kc_0 rfl) (rg_w rv1 rfl) (lv_sub hl [2, 3, 1, 0] rfl) rfl
theorem c_ratesOf (l : Launch) {G : mG} {h0 : Nat} {ad : Nat → Nat} (nn X : Int) (g : mSt) (p1 : Int32) (hnn : 2 ≤ nn ∧ nn ≤ 4) (hX : 0 ≤ X ∧ X ≤ 2000000000) (rp1 : rg (0) (7) p1) : Met l yX12_ratesOf (wm (Cond.code yX12_ratesOf cX12_ratesOf 4 (some .int))) rm_ratesOf (va_Pc [.ref h0, .int p1] (mPre G h0 ad nn X g)) (mQi G h0 ad nn X (fun r g1 => mFr [] g g1 ∧ rg (-2147483648) (2147483647) r ∧ True)) 0 0 (mA h0 ad) := by
  refine Met.ofW (cc := cX12_ratesOf) (maxL := 4) (ret := (some .int)) (by decide) rfl ?_
  intro p e s m args below meth c s₁ B hml hv
  obtain ⟨rfl, hv⟩ := hv
  have hr := B.returns
  have hlocks := B.notSynchronized
  obtain ⟨x, L⟩ := m_start B rfl wm_X hv
  have hl := lv_entry ([.ref h0, .int p1]) (n := 4) (Nat.le_of_ble_eq_true rfl)
  rw [lg_entry_eq]
  generalize (lg_sl ([.ref h0, .int p1]) ++ List.replicate (4 - (lg_sl ([.ref h0, .int p1])).length) Slot.unset).toArray = ls at hl ⊢
  exact w_ratesOf x hml L hnn hX p1 rp1 hl (fun pc' ls' r g1 H1 locs1 hdg L hp => m_iret x L hr hlocks (Int.le_refl _) hp hdg)

def rm_callAt : Room := { frames := 0, cells := 0, slots := 0, locals := 0 }
theorem hd_callAt : yX12_callAt.cls = RX12 ∧ yX12_callAt.cls ≠ "java/lang/invoke/MethodHandle" ∧ yX12_callAt.cls ≠ "java/lang/invoke/VarHandle" ∧ (parseMethodDescriptor yX12_callAt.desc).map (fun d => d.parameters.length) = some 3 := by decide +kernel
set_option maxHeartbeats 4000000 in
set_option maxRecDepth 100000 in
theorem w_callAt {p : Program} {l : Launch} {e : Env} {s : State} {m : MethodId} {args : Array Value} {below : List Frame} {meth : Method} {c : Code} {H : Heap} {locs : List Loc} {Q : State → Prop} {ls : Array Slot} {G : mG} {h0 : Nat} {ad : Nat → Nat} {g : mSt} {H0 : Heap} {nn X : Int} (x : mX p c cX12_callAt s args (wm (Cond.code yX12_callAt cX12_callAt 5 (some .int))) m G h0 ad) (hml : c.maxLocals = 5) (L : mL G h0 ad H0 nn X g H locs) (hnn : 2 ≤ nn ∧ nn ≤ 4) (hX : 0 ≤ X ∧ X ≤ 2000000000) (p1 : Int32) (p2 : Int32) (p3 : Int32) (rp1 : rg (0) (7) p1) (rp2 : rg (0) (1) p2) (hl : lv_has ls 5 [(0, .ref h0), (1, .int p1), (2, .int p2), (3, .int p3)]) (hQ : ∀ (pc' : Nat) (ls' : Array Slot) (r : Int32) (g1 : mSt) (H1 : Heap) (locs1 : List Loc), decode cX12_callAt pc' = .ok (.ireturn, 1) → mL G h0 ad H0 nn X g1 H1 locs1 → (mFr [] g g1 ∧ rg (-2) (319) r ∧ True) → W p l e rm_callAt s m args below meth c H1 locs1 0 0 Q (F0 m pc' ls' [.int r])) : W p l e rm_callAt s m args below meth c H locs 0 0 Q (F0 m 0 ls []) := by
  have hx := x.1
  have hb := x.2.1
  refine lv_bipush (v := 40) hx hb dX12_callAt_0 (by decide) ?_
  refine lv_iload_n hx hb dX12_callAt_2 rfl (lv_at hl 1 rfl) ?_
  refine lv_imul hx hb dX12_callAt_3 ?_
  refine lv_topi (fun v1 ev1 => ?_)
  have rv1 : rg (0) (280) v1 := (rg_mulL ev1 kc_40 rp1 rfl).1
  refine lv_istore (lv' := [(4, .int v1), (0, .ref h0), (1, .int p1), (2, .int p2), (3, .int p3)]) hx hb dX12_callAt_4 hl (by decide) rfl (fun ls hl => ?_)
  have j6_3 : ∀ (n : Nat) (a6_4_2 : Int32) (g3 : mSt) (H3 : Heap) (k3 : List Loc) (ls : Array Slot), mFr [] g g3 → mL G h0 ad H0 nn X g3 H3 k3 → rg (0) (320) a6_4_2 → lv_has ls 5 [(0, .ref h0), (1, .int p1), (2, .int p2), (3, .int p3), (4, .int a6_4_2)] → ((320 : Int) - a6_4_2.toInt).toNat = n → W p l e rm_callAt s m args below meth c H3 k3 0 0 Q (F0 m 6 ls []) := by
    intro n
    induction n using Nat.strongRecOn with
    | _ n ih3 =>
      intro a6_4_2 g3 H3 k3 ls hF3 L3 ra6_4_2 hl hn3
      subst hn3
      refine lv_iload hx hb dX12_callAt_6 (lv_at hl 4 rfl) ?_
      refine lv_bipush (v := 40) hx hb dX12_callAt_8 (by decide) ?_
      refine lv_iload_n hx hb dX12_callAt_10 rfl (lv_at hl 1 rfl) ?_
      refine lv_imul hx hb dX12_callAt_11 ?_
      refine m_top ev1 ?_
      refine lv_bipush (v := 40) hx hb dX12_callAt_12 (by decide) ?_
      refine lv_iadd hx hb dX12_callAt_14 ?_
      refine lv_topi (fun v4 ev4 => ?_)
      have rv4 : rg (40) (320) v4 := (rg_add ev4 rv1 kc_40 rfl).1
      refine lv_icmp_ge (tgt := 59) hx hb dX12_callAt_15 (by decide) (fun c15_5 => ?_) (fun c15_5 => ?_)
      · skip
        have q6 : rg (40) (320) a6_4_2 := (rg_le c15_5 rv4 ra6_4_2).2
        refine lv_bipush (v := (-2)) hx hb dX12_callAt_59 (by decide) ?_
        exact hQ _ _ (-2 : Int32) _ _ _ dX12_callAt_61 L3 ⟨(mFr.tr mFr.rf hF3 rfl), rg_w kc_m2 rfl, trivial⟩
      · skip
        have q7 : rg (0) (319) a6_4_2 := (rg_lt (rg_nle c15_5) ra6_4_2 rv4).1
        refine lv_aload_n hx hb dX12_callAt_18 rfl (lv_at hl 0 rfl) ?_
        refine m_geta x L3 68 rfl rfl (wm_in uf_192) dX12_callAt_19 ?_
        refine lv_iload hx hb dX12_callAt_22 (lv_at hl 4 rfl) ?_
        refine m_ld x L3 68 rfl q7 rfl dX12_callAt_24 (fun v8 ev8 wv8 => ?_)
        have rv8 : rg (0) (11) v8 := lj_68 wv8
        have j53_9 : ∀ (g9 : mSt) (H9 : Heap) (k9 : List Loc) (ls : Array Slot), mFr [] g3 g9 → mL G h0 ad H0 nn X g9 H9 k9 → lv_has ls 5 [(0, .ref h0), (1, .int p1), (2, .int p2), (3, .int p3), (4, .int a6_4_2)] → W p l e rm_callAt s m args below meth c H9 k9 0 0 Q (F0 m 53 ls []) := by
          intro  g9 H9 k9 ls hF9 L9  hl
          obtain ⟨v10, ev10, fv10⟩ := inc_ex a6_4_2 (1) (1 : Int32) (by decide)
          have rv10 : rg (1) (320) v10 := (rg_add ev10 q7 kc_1 rfl).1
          have tv10 := (rg_add ev10 q7 kc_1 rfl).2
          refine lv_iinc (v := v10) (lv' := [(4, .int v10), (0, .ref h0), (1, .int p1), (2, .int p2), (3, .int p3)]) hx hb dX12_callAt_53 hl (k := 4) rfl fv10 (by decide) rfl (fun ls hl => ?_)
          refine lv_goto (tgt := 6) hx hb dX12_callAt_56 (by decide) ?_
          exact ih3 _ (ms_up tv10 kc_1 q7 rfl rfl) v10 g9 _ _ ls (mFr.tr hF3 hF9 rfl) L9 (rg_w rv10 rfl) (lv_sub hl [1, 2, 3, 4, 0] rfl) rfl
        refine lv_if_eq (tgt := 53) hx hb dX12_callAt_25 (by decide) (fun c25_11 => ?_) (fun c25_11 => ?_)
        · skip
          have q12 : rg (0) (0) v8 := (rg_eq c25_11 rv8 kc_0).1
          exact j53_9  g3 _ _ ls mFr.rf L3  (lv_sub hl [0, 1, 2, 3, 4] rfl)
        · skip
          have q13 : rg (1) (11) v8 := rg_neL c25_11 rv8 kc_0
          refine lv_aload_n hx hb dX12_callAt_28 rfl (lv_at hl 0 rfl) ?_
          refine m_geta x L3 70 rfl rfl (wm_in uf_198) dX12_callAt_29 ?_
          refine lv_iload hx hb dX12_callAt_32 (lv_at hl 4 rfl) ?_
          refine m_ldz x L3 70 rfl q7 rfl dX12_callAt_34 (fun v14 ev14 wv14 => ?_)
          have rv14 : rg (0) (1) v14 := lj_70 wv14
          refine lv_iload_n hx hb dX12_callAt_35 rfl (lv_at hl 2 rfl) ?_
          refine lv_icmp_ne (tgt := 53) hx hb dX12_callAt_36 (by decide) (fun c36_15 => ?_) (fun c36_15 => ?_)
          · skip
            exact j53_9  g3 _ _ ls mFr.rf L3  (lv_sub hl [0, 1, 2, 3, 4] rfl)
          · skip
            refine lv_aload_n hx hb dX12_callAt_39 rfl (lv_at hl 0 rfl) ?_
            refine m_geta x L3 69 rfl rfl (wm_in uf_195) dX12_callAt_40 ?_
            refine lv_iload hx hb dX12_callAt_43 (lv_at hl 4 rfl) ?_
            refine m_ld x L3 69 rfl q7 rfl dX12_callAt_45 (fun v16 ev16 wv16 => ?_)
            have rv16 : rg (-2147483648) (2147483647) v16 := lj_69 wv16
            refine lv_iload_n hx hb dX12_callAt_46 rfl (lv_at hl 3 rfl) ?_
            refine lv_icmp_ne (tgt := 53) hx hb dX12_callAt_47 (by decide) (fun c47_17 => ?_) (fun c47_17 => ?_)
            · skip
              exact j53_9  g3 _ _ ls mFr.rf L3  (lv_sub hl [0, 1, 2, 3, 4] rfl)
            · skip
              refine lv_iload hx hb dX12_callAt_50 (lv_at hl 4 rfl) ?_
              exact hQ _ _ a6_4_2 _ _ _ dX12_callAt_52 L3 ⟨(mFr.tr mFr.rf hF3 rfl), rg_w q7 rfl, trivial⟩
  exact j6_3 _ v1 g _ _ ls mFr.rf L (rg_w rv1 rfl) (lv_sub hl [1, 2, 3, 4, 0] rfl) rfl
theorem c_callAt (l : Launch) {G : mG} {h0 : Nat} {ad : Nat → Nat} (nn X : Int) (g : mSt) (p1 : Int32) (p2 : Int32) (p3 : Int32) (hnn : 2 ≤ nn ∧ nn ≤ 4) (hX : 0 ≤ X ∧ X ≤ 2000000000) (rp1 : rg (0) (7) p1) (rp2 : rg (0) (1) p2) : Met l yX12_callAt (wm (Cond.code yX12_callAt cX12_callAt 5 (some .int))) rm_callAt (va_Pc [.ref h0, .int p1, .int p2, .int p3] (mPre G h0 ad nn X g)) (mQi G h0 ad nn X (fun r g1 => mFr [] g g1 ∧ rg (-2) (319) r ∧ True)) 0 0 (mA h0 ad) := by
  refine Met.ofW (cc := cX12_callAt) (maxL := 5) (ret := (some .int)) (by decide) rfl ?_
  intro p e s m args below meth c s₁ B hml hv
  obtain ⟨rfl, hv⟩ := hv
  have hr := B.returns
  have hlocks := B.notSynchronized
  obtain ⟨x, L⟩ := m_start B rfl wm_X hv
  have hl := lv_entry ([.ref h0, .int p1, .int p2, .int p3]) (n := 5) (Nat.le_of_ble_eq_true rfl)
  rw [lg_entry_eq]
  generalize (lg_sl ([.ref h0, .int p1, .int p2, .int p3]) ++ List.replicate (5 - (lg_sl ([.ref h0, .int p1, .int p2, .int p3])).length) Slot.unset).toArray = ls at hl ⊢
  exact w_callAt x hml L hnn hX p1 p2 p3 rp1 rp2 hl (fun pc' ls' r g1 H1 locs1 hdg L hp => m_iret x L hr hlocks (Int.le_refl _) hp hdg)

def rm_channelAt : Room := { frames := 0, cells := 0, slots := 0, locals := 0 }
theorem hd_channelAt : yX12_channelAt.cls = RX12 ∧ yX12_channelAt.cls ≠ "java/lang/invoke/MethodHandle" ∧ yX12_channelAt.cls ≠ "java/lang/invoke/VarHandle" ∧ (parseMethodDescriptor yX12_channelAt.desc).map (fun d => d.parameters.length) = some 2 := by decide +kernel
set_option maxHeartbeats 4000000 in
set_option maxRecDepth 100000 in
theorem w_channelAt {p : Program} {l : Launch} {e : Env} {s : State} {m : MethodId} {args : Array Value} {below : List Frame} {meth : Method} {c : Code} {H : Heap} {locs : List Loc} {Q : State → Prop} {ls : Array Slot} {G : mG} {h0 : Nat} {ad : Nat → Nat} {g : mSt} {H0 : Heap} {nn X : Int} (x : mX p c cX12_channelAt s args (wm (Cond.code yX12_channelAt cX12_channelAt 4 (some .int))) m G h0 ad) (hml : c.maxLocals = 4) (L : mL G h0 ad H0 nn X g H locs) (hnn : 2 ≤ nn ∧ nn ≤ 4) (hX : 0 ≤ X ∧ X ≤ 2000000000) (p1 : Int32) (p2 : Int32) (rp1 : rg (0) (7) p1) (hl : lv_has ls 4 [(0, .ref h0), (1, .int p1), (2, .int p2)]) (hQ : ∀ (pc' : Nat) (ls' : Array Slot) (r : Int32) (g1 : mSt) (H1 : Heap) (locs1 : List Loc), decode cX12_channelAt pc' = .ok (.ireturn, 1) → mL G h0 ad H0 nn X g1 H1 locs1 → (mFr [] g g1 ∧ rg (-2) (319) r ∧ (0 ≤ r.toInt → (g 71 r.toNatClampNeg).toInt = p2.toInt ∧ 40 * p1.toInt ≤ r.toInt ∧ r.toInt < 40 * p1.toInt + 40)) → W p l e rm_channelAt s m args below meth c H1 locs1 0 0 Q (F0 m pc' ls' [.int r])) : W p l e rm_channelAt s m args below meth c H locs 0 0 Q (F0 m 0 ls []) := by
  have hx := x.1
  have hb := x.2.1
  have up1 : (0 : Int) ≤ p1.toInt ∧ p1.toInt ≤ 7 := rp1
  have up2 : (-2147483648 : Int) ≤ p2.toInt ∧ p2.toInt ≤ 2147483647 := (rg_any p2)
  refine lv_bipush (v := 40) hx hb dX12_channelAt_0 (by decide) ?_
  refine lv_iload_n hx hb dX12_channelAt_2 rfl (lv_at hl 1 rfl) ?_
  refine lv_imul hx hb dX12_channelAt_3 ?_
  refine lv_topi (fun v1 ev1 => ?_)
  have rv1 : rg (0) (280) v1 := (rg_mulL ev1 kc_40 rp1 rfl).1
  have tv1 := (rg_mulL ev1 kc_40 rp1 rfl).2
  have y2 : (40 : Int32).toInt = 40 := by decide
  have uv1 : (0 : Int) ≤ v1.toInt ∧ v1.toInt ≤ 280 := rv1
  refine lv_istore_n (lv' := [(3, .int v1), (0, .ref h0), (1, .int p1), (2, .int p2)]) hx hb dX12_channelAt_4 rfl hl (by decide) rfl (fun ls hl => ?_)
  have j5_4 : ∀ (n : Nat) (a5_3_3 : Int32) (g4 : mSt) (H4 : Heap) (k4 : List Loc) (ls : Array Slot), mFr [] g g4 → mL G h0 ad H0 nn X g4 H4 k4 → rg (0) (320) a5_3_3 → 40 * p1.toInt ≤ a5_3_3.toInt → lv_has ls 4 [(0, .ref h0), (1, .int p1), (2, .int p2), (3, .int a5_3_3)] → ((320 : Int) - a5_3_3.toInt).toNat = n → W p l e rm_channelAt s m args below meth c H4 k4 0 0 Q (F0 m 5 ls []) := by
    intro n
    induction n using Nat.strongRecOn with
    | _ n ih4 =>
      intro a5_3_3 g4 H4 k4 ls hF4 L4 ra5_3_3 hv4_0 hl hn4
      subst hn4
      have ua5_3_3 : (0 : Int) ≤ a5_3_3.toInt ∧ a5_3_3.toInt ≤ 320 := ra5_3_3
      refine lv_iload_n hx hb dX12_channelAt_5 rfl (lv_at hl 3 rfl) ?_
      refine lv_bipush (v := 40) hx hb dX12_channelAt_6 (by decide) ?_
      refine lv_iload_n hx hb dX12_channelAt_8 rfl (lv_at hl 1 rfl) ?_
      refine lv_imul hx hb dX12_channelAt_9 ?_
      refine m_top ev1 ?_
      refine lv_bipush (v := 40) hx hb dX12_channelAt_10 (by decide) ?_
      refine lv_iadd hx hb dX12_channelAt_12 ?_
      refine lv_topi (fun v5 ev5 => ?_)
      have rv5 : rg (40) (320) v5 := (rg_add ev5 rv1 kc_40 rfl).1
      have tv5 := (rg_add ev5 rv1 kc_40 rfl).2
      have y6 : (40 : Int32).toInt = 40 := by decide
      have uv5 : (40 : Int) ≤ v5.toInt ∧ v5.toInt ≤ 320 := rv5
      refine lv_icmp_ge (tgt := 43) hx hb dX12_channelAt_13 (by decide) (fun c13_7 => ?_) (fun c13_7 => ?_)
      · skip
        have ic13_7 := Int32.le_iff_toInt_le.mp c13_7
        have q8 : rg (40) (320) a5_3_3 := (rg_le c13_7 rv5 ra5_3_3).2
        have uq8 : (40 : Int) ≤ a5_3_3.toInt ∧ a5_3_3.toInt ≤ 320 := q8
        refine lv_bipush (v := (-2)) hx hb dX12_channelAt_43 (by decide) ?_
        exact hQ _ _ (-2 : Int32) _ _ _ dX12_channelAt_45 L4 ⟨(mFr.tr mFr.rf hF4 rfl), rg_w kc_m2 rfl, (by have : (-2 : Int32).toInt = -2 := (by decide); omega)⟩
      · skip
        have ic13_7 := Int32.lt_iff_toInt_lt.mp (rg_nle c13_7)
        have q9 : rg (0) (319) a5_3_3 := (rg_lt (rg_nle c13_7) ra5_3_3 rv5).1
        have uq9 : (0 : Int) ≤ a5_3_3.toInt ∧ a5_3_3.toInt ≤ 319 := q9
        refine lv_aload_n hx hb dX12_channelAt_16 rfl (lv_at hl 0 rfl) ?_
        refine m_geta x L4 68 rfl rfl (wm_in uf_192) dX12_channelAt_17 ?_
        refine lv_iload_n hx hb dX12_channelAt_20 rfl (lv_at hl 3 rfl) ?_
        refine m_ld x L4 68 rfl q9 rfl dX12_channelAt_21 (fun v10 ev10 wv10 => ?_)
        have rv10 : rg (0) (11) v10 := lj_68 wv10
        have uv10 : (0 : Int) ≤ v10.toInt ∧ v10.toInt ≤ 11 := rv10
        have sv10 : v10.toInt = (g 68 a5_3_3.toNatClampNeg).toInt := congrArg Int32.toInt (ev10.trans (congrFun ((show mFr [] g g4 from (mFr.tr mFr.rf hF4 rfl)).at 68 rfl) _))
        have j37_11 : ∀ (g11 : mSt) (H11 : Heap) (k11 : List Loc) (ls : Array Slot), mFr [] g4 g11 → mL G h0 ad H0 nn X g11 H11 k11 → lv_has ls 4 [(0, .ref h0), (1, .int p1), (2, .int p2), (3, .int a5_3_3)] → W p l e rm_channelAt s m args below meth c H11 k11 0 0 Q (F0 m 37 ls []) := by
          intro  g11 H11 k11 ls hF11 L11  hl
          obtain ⟨v12, ev12, fv12⟩ := inc_ex a5_3_3 (1) (1 : Int32) (by decide)
          have rv12 : rg (1) (320) v12 := (rg_add ev12 q9 kc_1 rfl).1
          have tv12 := (rg_add ev12 q9 kc_1 rfl).2
          have yv12 : (1 : Int32).toInt = 1 := by decide
          refine lv_iinc (v := v12) (lv' := [(3, .int v12), (0, .ref h0), (1, .int p1), (2, .int p2)]) hx hb dX12_channelAt_37 hl (k := 3) rfl fv12 (by decide) rfl (fun ls hl => ?_)
          refine lv_goto (tgt := 5) hx hb dX12_channelAt_40 (by decide) ?_
          exact ih4 _ (ms_up tv12 kc_1 q9 rfl rfl) v12 g11 _ _ ls (mFr.tr hF4 hF11 rfl) L11 (rg_w rv12 rfl) (by omega) (lv_sub hl [1, 2, 3, 0] rfl) rfl
        refine lv_if_eq (tgt := 37) hx hb dX12_channelAt_22 (by decide) (fun c22_13 => ?_) (fun c22_13 => ?_)
        · skip
          have ic22_13 := congrArg Int32.toInt c22_13
          have y14 : (0 : Int32).toInt = 0 := by decide
          have q15 : rg (0) (0) v10 := (rg_eq c22_13 rv10 kc_0).1
          have uq15 : (0 : Int) ≤ v10.toInt ∧ v10.toInt ≤ 0 := q15
          exact j37_11  g4 _ _ ls mFr.rf L4  (lv_sub hl [0, 1, 2, 3] rfl)
        · skip
          have ic22_13 : v10.toInt ≠ (0 : Int32).toInt := fun z => c22_13 (Int32.toInt_inj.mp z)
          have y16 : (0 : Int32).toInt = 0 := by decide
          have q17 : rg (1) (11) v10 := rg_neL c22_13 rv10 kc_0
          have uq17 : (1 : Int) ≤ v10.toInt ∧ v10.toInt ≤ 11 := q17
          refine lv_aload_n hx hb dX12_channelAt_25 rfl (lv_at hl 0 rfl) ?_
          refine m_geta x L4 71 rfl rfl (wm_in uf_201) dX12_channelAt_26 ?_
          refine lv_iload_n hx hb dX12_channelAt_29 rfl (lv_at hl 3 rfl) ?_
          refine m_ld x L4 71 rfl q9 rfl dX12_channelAt_30 (fun v18 ev18 wv18 => ?_)
          have rv18 : rg (-2147483648) (2147483647) v18 := lj_71 wv18
          have uv18 : (-2147483648 : Int) ≤ v18.toInt ∧ v18.toInt ≤ 2147483647 := rv18
          have sv18 : v18.toInt = (g 71 a5_3_3.toNatClampNeg).toInt := congrArg Int32.toInt (ev18.trans (congrFun ((show mFr [] g g4 from (mFr.tr mFr.rf hF4 rfl)).at 71 rfl) _))
          refine lv_iload_n hx hb dX12_channelAt_31 rfl (lv_at hl 2 rfl) ?_
          refine lv_icmp_ne (tgt := 37) hx hb dX12_channelAt_32 (by decide) (fun c32_19 => ?_) (fun c32_19 => ?_)
          · skip
            have ic32_19 : v18.toInt ≠ p2.toInt := fun z => c32_19 (Int32.toInt_inj.mp z)
            exact j37_11  g4 _ _ ls mFr.rf L4  (lv_sub hl [0, 1, 2, 3] rfl)
          · skip
            have ic32_19 := congrArg Int32.toInt c32_19
            refine lv_iload_n hx hb dX12_channelAt_35 rfl (lv_at hl 3 rfl) ?_
            exact hQ _ _ a5_3_3 _ _ _ dX12_channelAt_36 L4 ⟨(mFr.tr mFr.rf hF4 rfl), rg_w q9 rfl, (by omega)⟩
  exact j5_4 _ v1 g _ _ ls mFr.rf L (rg_w rv1 rfl) (by omega) (lv_sub hl [1, 2, 3, 0] rfl) rfl
theorem c_channelAt (l : Launch) {G : mG} {h0 : Nat} {ad : Nat → Nat} (nn X : Int) (g : mSt) (p1 : Int32) (p2 : Int32) (hnn : 2 ≤ nn ∧ nn ≤ 4) (hX : 0 ≤ X ∧ X ≤ 2000000000) (rp1 : rg (0) (7) p1) : Met l yX12_channelAt (wm (Cond.code yX12_channelAt cX12_channelAt 4 (some .int))) rm_channelAt (va_Pc [.ref h0, .int p1, .int p2] (mPre G h0 ad nn X g)) (mQi G h0 ad nn X (fun r g1 => mFr [] g g1 ∧ rg (-2) (319) r ∧ (0 ≤ r.toInt → (g 71 r.toNatClampNeg).toInt = p2.toInt ∧ 40 * p1.toInt ≤ r.toInt ∧ r.toInt < 40 * p1.toInt + 40))) 0 0 (mA h0 ad) := by
  refine Met.ofW (cc := cX12_channelAt) (maxL := 4) (ret := (some .int)) (by decide) rfl ?_
  intro p e s m args below meth c s₁ B hml hv
  obtain ⟨rfl, hv⟩ := hv
  have hr := B.returns
  have hlocks := B.notSynchronized
  obtain ⟨x, L⟩ := m_start B rfl wm_X hv
  have hl := lv_entry ([.ref h0, .int p1, .int p2]) (n := 4) (Nat.le_of_ble_eq_true rfl)
  rw [lg_entry_eq]
  generalize (lg_sl ([.ref h0, .int p1, .int p2]) ++ List.replicate (4 - (lg_sl ([.ref h0, .int p1, .int p2])).length) Slot.unset).toArray = ls at hl ⊢
  exact w_channelAt x hml L hnn hX p1 p2 rp1 hl (fun pc' ls' r g1 H1 locs1 hdg L hp => m_iret x L hr hlocks (Int.le_refl _) hp hdg)

def rm_activeAt : Room := { frames := 0, cells := 0, slots := 0, locals := 0 }
theorem hd_activeAt : yX12_activeAt.cls = RX12 ∧ yX12_activeAt.cls ≠ "java/lang/invoke/MethodHandle" ∧ yX12_activeAt.cls ≠ "java/lang/invoke/VarHandle" ∧ (parseMethodDescriptor yX12_activeAt.desc).map (fun d => d.parameters.length) = some 2 := by decide +kernel
set_option maxHeartbeats 4000000 in
set_option maxRecDepth 100000 in
theorem w_activeAt {p : Program} {l : Launch} {e : Env} {s : State} {m : MethodId} {args : Array Value} {below : List Frame} {meth : Method} {c : Code} {H : Heap} {locs : List Loc} {Q : State → Prop} {ls : Array Slot} {G : mG} {h0 : Nat} {ad : Nat → Nat} {g : mSt} {H0 : Heap} {nn X : Int} (x : mX p c cX12_activeAt s args (wm (Cond.code yX12_activeAt cX12_activeAt 4 (some .int))) m G h0 ad) (hml : c.maxLocals = 4) (L : mL G h0 ad H0 nn X g H locs) (hnn : 2 ≤ nn ∧ nn ≤ 4) (hX : 0 ≤ X ∧ X ≤ 2000000000) (p1 : Int32) (p2 : Int32) (rp1 : rg (0) (3) p1) (hl : lv_has ls 4 [(0, .ref h0), (1, .int p1), (2, .int p2)]) (hQ : ∀ (pc' : Nat) (ls' : Array Slot) (r : Int32) (g1 : mSt) (H1 : Heap) (locs1 : List Loc), decode cX12_activeAt pc' = .ok (.ireturn, 1) → mL G h0 ad H0 nn X g1 H1 locs1 → (mFr [] g g1 ∧ rg (-2) (159) r ∧ True) → W p l e rm_activeAt s m args below meth c H1 locs1 0 0 Q (F0 m pc' ls' [.int r])) : W p l e rm_activeAt s m args below meth c H locs 0 0 Q (F0 m 0 ls []) := by
  have hx := x.1
  have hb := x.2.1
  refine lv_bipush (v := 40) hx hb dX12_activeAt_0 (by decide) ?_
  refine lv_iload_n hx hb dX12_activeAt_2 rfl (lv_at hl 1 rfl) ?_
  refine lv_imul hx hb dX12_activeAt_3 ?_
  refine lv_topi (fun v1 ev1 => ?_)
  have rv1 : rg (0) (120) v1 := (rg_mulL ev1 kc_40 rp1 rfl).1
  refine lv_istore_n (lv' := [(3, .int v1), (0, .ref h0), (1, .int p1), (2, .int p2)]) hx hb dX12_activeAt_4 rfl hl (by decide) rfl (fun ls hl => ?_)
  have j5_3 : ∀ (n : Nat) (a5_3_2 : Int32) (g3 : mSt) (H3 : Heap) (k3 : List Loc) (ls : Array Slot), mFr [] g g3 → mL G h0 ad H0 nn X g3 H3 k3 → rg (0) (160) a5_3_2 → lv_has ls 4 [(0, .ref h0), (1, .int p1), (2, .int p2), (3, .int a5_3_2)] → ((160 : Int) - a5_3_2.toInt).toNat = n → W p l e rm_activeAt s m args below meth c H3 k3 0 0 Q (F0 m 5 ls []) := by
    intro n
    induction n using Nat.strongRecOn with
    | _ n ih3 =>
      intro a5_3_2 g3 H3 k3 ls hF3 L3 ra5_3_2 hl hn3
      subst hn3
      refine lv_iload_n hx hb dX12_activeAt_5 rfl (lv_at hl 3 rfl) ?_
      refine lv_bipush (v := 40) hx hb dX12_activeAt_6 (by decide) ?_
      refine lv_iload_n hx hb dX12_activeAt_8 rfl (lv_at hl 1 rfl) ?_
      refine lv_imul hx hb dX12_activeAt_9 ?_
      refine m_top ev1 ?_
      refine lv_bipush (v := 40) hx hb dX12_activeAt_10 (by decide) ?_
      refine lv_iadd hx hb dX12_activeAt_12 ?_
      refine lv_topi (fun v4 ev4 => ?_)
      have rv4 : rg (40) (160) v4 := (rg_add ev4 rv1 kc_40 rfl).1
      refine lv_icmp_ge (tgt := 45) hx hb dX12_activeAt_13 (by decide) (fun c13_5 => ?_) (fun c13_5 => ?_)
      · skip
        have q6 : rg (40) (160) a5_3_2 := (rg_le c13_5 rv4 ra5_3_2).2
        refine lv_bipush (v := (-2)) hx hb dX12_activeAt_45 (by decide) ?_
        exact hQ _ _ (-2 : Int32) _ _ _ dX12_activeAt_47 L3 ⟨(mFr.tr mFr.rf hF3 rfl), rg_w kc_m2 rfl, trivial⟩
      · skip
        have q7 : rg (0) (159) a5_3_2 := (rg_lt (rg_nle c13_5) ra5_3_2 rv4).1
        refine lv_aload_n hx hb dX12_activeAt_16 rfl (lv_at hl 0 rfl) ?_
        refine m_geta x L3 68 rfl rfl (wm_in uf_192) dX12_activeAt_17 ?_
        refine lv_iload_n hx hb dX12_activeAt_20 rfl (lv_at hl 3 rfl) ?_
        refine m_ld x L3 68 rfl q7 rfl dX12_activeAt_21 (fun v8 ev8 wv8 => ?_)
        have rv8 : rg (0) (11) v8 := lj_68 wv8
        refine lv_bipush (v := 10) hx hb dX12_activeAt_22 (by decide) ?_
        have j39_9 : ∀ (g9 : mSt) (H9 : Heap) (k9 : List Loc) (ls : Array Slot), mFr [] g3 g9 → mL G h0 ad H0 nn X g9 H9 k9 → lv_has ls 4 [(0, .ref h0), (1, .int p1), (2, .int p2), (3, .int a5_3_2)] → W p l e rm_activeAt s m args below meth c H9 k9 0 0 Q (F0 m 39 ls []) := by
          intro  g9 H9 k9 ls hF9 L9  hl
          obtain ⟨v10, ev10, fv10⟩ := inc_ex a5_3_2 (1) (1 : Int32) (by decide)
          have rv10 : rg (1) (160) v10 := (rg_add ev10 q7 kc_1 rfl).1
          have tv10 := (rg_add ev10 q7 kc_1 rfl).2
          refine lv_iinc (v := v10) (lv' := [(3, .int v10), (0, .ref h0), (1, .int p1), (2, .int p2)]) hx hb dX12_activeAt_39 hl (k := 3) rfl fv10 (by decide) rfl (fun ls hl => ?_)
          refine lv_goto (tgt := 5) hx hb dX12_activeAt_42 (by decide) ?_
          exact ih3 _ (ms_up tv10 kc_1 q7 rfl rfl) v10 g9 _ _ ls (mFr.tr hF3 hF9 rfl) L9 (rg_w rv10 rfl) (lv_sub hl [1, 2, 3, 0] rfl) rfl
        refine lv_icmp_ne (tgt := 39) hx hb dX12_activeAt_24 (by decide) (fun c24_11 => ?_) (fun c24_11 => ?_)
        · skip
          exact j39_9  g3 _ _ ls mFr.rf L3  (lv_sub hl [0, 1, 2, 3] rfl)
        · skip
          have q12 : rg (10) (10) v8 := (rg_eq c24_11 rv8 kc_10).1
          refine lv_aload_n hx hb dX12_activeAt_27 rfl (lv_at hl 0 rfl) ?_
          refine m_geta x L3 71 rfl rfl (wm_in uf_201) dX12_activeAt_28 ?_
          refine lv_iload_n hx hb dX12_activeAt_31 rfl (lv_at hl 3 rfl) ?_
          refine m_ld x L3 71 rfl q7 rfl dX12_activeAt_32 (fun v13 ev13 wv13 => ?_)
          have rv13 : rg (-2147483648) (2147483647) v13 := lj_71 wv13
          refine lv_iload_n hx hb dX12_activeAt_33 rfl (lv_at hl 2 rfl) ?_
          refine lv_icmp_ne (tgt := 39) hx hb dX12_activeAt_34 (by decide) (fun c34_14 => ?_) (fun c34_14 => ?_)
          · skip
            exact j39_9  g3 _ _ ls mFr.rf L3  (lv_sub hl [0, 1, 2, 3] rfl)
          · skip
            refine lv_iload_n hx hb dX12_activeAt_37 rfl (lv_at hl 3 rfl) ?_
            exact hQ _ _ a5_3_2 _ _ _ dX12_activeAt_38 L3 ⟨(mFr.tr mFr.rf hF3 rfl), rg_w q7 rfl, trivial⟩
  exact j5_3 _ v1 g _ _ ls mFr.rf L (rg_w rv1 rfl) (lv_sub hl [1, 2, 3, 0] rfl) rfl
theorem c_activeAt (l : Launch) {G : mG} {h0 : Nat} {ad : Nat → Nat} (nn X : Int) (g : mSt) (p1 : Int32) (p2 : Int32) (hnn : 2 ≤ nn ∧ nn ≤ 4) (hX : 0 ≤ X ∧ X ≤ 2000000000) (rp1 : rg (0) (3) p1) : Met l yX12_activeAt (wm (Cond.code yX12_activeAt cX12_activeAt 4 (some .int))) rm_activeAt (va_Pc [.ref h0, .int p1, .int p2] (mPre G h0 ad nn X g)) (mQi G h0 ad nn X (fun r g1 => mFr [] g g1 ∧ rg (-2) (159) r ∧ True)) 0 0 (mA h0 ad) := by
  refine Met.ofW (cc := cX12_activeAt) (maxL := 4) (ret := (some .int)) (by decide) rfl ?_
  intro p e s m args below meth c s₁ B hml hv
  obtain ⟨rfl, hv⟩ := hv
  have hr := B.returns
  have hlocks := B.notSynchronized
  obtain ⟨x, L⟩ := m_start B rfl wm_X hv
  have hl := lv_entry ([.ref h0, .int p1, .int p2]) (n := 4) (Nat.le_of_ble_eq_true rfl)
  rw [lg_entry_eq]
  generalize (lg_sl ([.ref h0, .int p1, .int p2]) ++ List.replicate (4 - (lg_sl ([.ref h0, .int p1, .int p2])).length) Slot.unset).toArray = ls at hl ⊢
  exact w_activeAt x hml L hnn hX p1 p2 rp1 hl (fun pc' ls' r g1 H1 locs1 hdg L hp => m_iret x L hr hlocks (Int.le_refl _) hp hdg)

def rm_word : Room := { frames := 0, cells := 0, slots := 0, locals := 0 }
theorem hd_word : yX12_word.cls = RX12 ∧ yX12_word.cls ≠ "java/lang/invoke/MethodHandle" ∧ yX12_word.cls ≠ "java/lang/invoke/VarHandle" ∧ (parseMethodDescriptor yX12_word.desc).map (fun d => d.parameters.length) = some 1 := by decide +kernel
set_option maxHeartbeats 4000000 in
set_option maxRecDepth 100000 in
theorem w_word {p : Program} {l : Launch} {e : Env} {s : State} {m : MethodId} {args : Array Value} {below : List Frame} {meth : Method} {c : Code} {H : Heap} {locs : List Loc} {Q : State → Prop} {ls : Array Slot} {G : mG} {h0 : Nat} {ad : Nat → Nat} {g : mSt} {H0 : Heap} {nn X : Int} (x : mX p c cX12_word s args (wm (Cond.code yX12_word cX12_word 3 none)) m G h0 ad) (hml : c.maxLocals = 3) (L : mL G h0 ad H0 nn X g H locs) (hnn : 2 ≤ nn ∧ nn ≤ 4) (hX : 0 ≤ X ∧ X ≤ 2000000000) (p1 : Int32) (hpre0 : rg (0) (252) (g 11 0)) (hl : lv_has ls 3 [(0, .ref h0), (1, .int p1)]) (hQ : ∀ (pc' : Nat) (ls' : Array Slot) (g1 : mSt) (H1 : Heap) (locs1 : List Loc), decode cX12_word pc' = .ok (.return_, 1) → mL G h0 ad H0 nn X g1 H1 locs1 → (mFr [10, 11] g g1 ∧ ((g 11 0).toInt + 4 ≤ (g1 11 0).toInt ∧ (g1 11 0).toInt ≤ (g 11 0).toInt + 4)) → W p l e rm_word s m args below meth c H1 locs1 0 0 Q (F0 m pc' ls' [])) : W p l e rm_word s m args below meth c H locs 0 0 Q (F0 m 0 ls []) := by
  have hx := x.1
  have hb := x.2.1
  obtain ⟨z0, ez0⟩ : ∃ y : Int32, y = g 11 0 := ⟨_, rfl⟩
  have rz0 : rg (0) (252) z0 := rg_eqv ez0.symm hpre0
  have sz0 := congrArg Int32.toInt ez0
  have up1 : (-2147483648 : Int) ≤ p1.toInt ∧ p1.toInt ≤ 2147483647 := (rg_any p1)
  refine lv_bipush (v := 24) hx hb dX12_word_0 (by decide) ?_
  refine lv_istore_n (lv' := [(2, .int (24 : Int32)), (0, .ref h0), (1, .int p1)]) hx hb dX12_word_2 rfl hl (by decide) rfl (fun ls hl => ?_)
  refine lv_iload_n hx hb dX12_word_3 rfl (lv_at hl 0 rfl) ?_
  refine lv_if_lt (tgt := 39) hx hb dX12_word_4 (by decide) (fun c4_1 => ?_) (fun c4_1 => ?_)
  · skip
    exact absurd c4_1 (by decide)
  · skip
    refine lv_aload_n hx hb dX12_word_7 rfl (lv_at hl 1 rfl) ?_
    refine m_geta x L 10 rfl rfl (wm_in uf_29) dX12_word_8 ?_
    refine lv_aload_n hx hb dX12_word_11 rfl (lv_at hl 1 rfl) ?_
    refine m_geti x L 11 rfl rfl (wm_in uf_279) dX12_word_12 (fun v2 ev2 wv2 => ?_)
    refine m_top ((ez0).trans ev2.symm) ?_
    refine lv_iload_n hx hb dX12_word_15 rfl (lv_at hl 2 rfl) ?_
    refine lv_iload_n hx hb dX12_word_16 rfl (lv_at hl 0 rfl) ?_
    refine lv_ishr hx hb dX12_word_17 ?_
    refine lv_topi (fun v3 ev3 => ?_)
    have rv3 : rg (-2147483648) (2147483647) v3 := rg_any v3
    have uv3 : (-2147483648 : Int) ≤ v3.toInt ∧ v3.toInt ≤ 2147483647 := rv3
    refine lv_sipush (v := 255) hx hb dX12_word_18 (by decide) ?_
    refine lv_iand hx hb dX12_word_21 ?_
    refine lv_topi (fun v4 ev4 => ?_)
    have rv4 : rg (0) (255) v4 := rg_and ev4 8 255 (by decide) rfl
    have uv4 : (0 : Int) ≤ v4.toInt ∧ v4.toInt ≤ 255 := rv4
    refine m_st x L 10 rfl rz0 rfl (rj_10 (rg_any v4)) dX12_word_22 (fun g5 H5 k5 eg5 L5 => ?_)
    refine lv_aload_n hx hb dX12_word_23 rfl (lv_at hl 1 rfl) ?_
    refine lv_dup hx hb dX12_word_24 rfl ?_
    refine m_geti x L5 11 rfl rfl (wm_in uf_279) dX12_word_25 (fun v6 ev6 wv6 => ?_)
    refine m_top (((mm_up ez0 eg5 rfl)).trans ev6.symm) ?_
    refine lv_iconst (v := 1) hx hb dX12_word_28 (by decide) ?_
    refine lv_iadd hx hb dX12_word_29 ?_
    refine lv_topi (fun v7 ev7 => ?_)
    have rv7 : rg (1) (253) v7 := (rg_add ev7 rz0 kc_1 rfl).1
    have tv7 := (rg_add ev7 rz0 kc_1 rfl).2
    have y8 : (1 : Int32).toInt = 1 := by decide
    have uv7 : (1 : Int) ≤ v7.toInt ∧ v7.toInt ≤ 253 := rv7
    refine m_puti x L5 11 rfl fi_11 (wm_in uf_279) dX12_word_30 (rj_11 (rg_w rv7 rfl)) (fun g9 H9 k9 eg9 L9 => ?_)
    refine lv_iinc (v := (16 : Int32)) (lv' := [(2, .int (16 : Int32)), (0, .ref h0), (1, .int p1)]) hx hb dX12_word_33 hl (k := 0) rfl (by decide) (by decide) rfl (fun ls hl => ?_)
    refine lv_goto (tgt := 3) hx hb dX12_word_36 (by decide) ?_
    refine lv_iload_n hx hb dX12_word_3 rfl (lv_at hl 0 rfl) ?_
    refine lv_if_lt (tgt := 39) hx hb dX12_word_4 (by decide) (fun c4_10 => ?_) (fun c4_10 => ?_)
    · skip
      exact absurd c4_10 (by decide)
    · skip
      refine lv_aload_n hx hb dX12_word_7 rfl (lv_at hl 1 rfl) ?_
      refine m_geta x L9 10 rfl rfl (wm_in uf_29) dX12_word_8 ?_
      refine lv_aload_n hx hb dX12_word_11 rfl (lv_at hl 1 rfl) ?_
      refine m_geti x L9 11 rfl rfl (wm_in uf_279) dX12_word_12 (fun v11 ev11 wv11 => ?_)
      refine m_top (((mm_st eg9)).trans ev11.symm) ?_
      refine lv_iload_n hx hb dX12_word_15 rfl (lv_at hl 2 rfl) ?_
      refine lv_iload_n hx hb dX12_word_16 rfl (lv_at hl 0 rfl) ?_
      refine lv_ishr hx hb dX12_word_17 ?_
      refine lv_topi (fun v12 ev12 => ?_)
      have rv12 : rg (-2147483648) (2147483647) v12 := rg_any v12
      have uv12 : (-2147483648 : Int) ≤ v12.toInt ∧ v12.toInt ≤ 2147483647 := rv12
      refine lv_sipush (v := 255) hx hb dX12_word_18 (by decide) ?_
      refine lv_iand hx hb dX12_word_21 ?_
      refine lv_topi (fun v13 ev13 => ?_)
      have rv13 : rg (0) (255) v13 := rg_and ev13 8 255 (by decide) rfl
      have uv13 : (0 : Int) ≤ v13.toInt ∧ v13.toInt ≤ 255 := rv13
      refine m_st x L9 10 rfl rv7 rfl (rj_10 (rg_any v13)) dX12_word_22 (fun g14 H14 k14 eg14 L14 => ?_)
      refine lv_aload_n hx hb dX12_word_23 rfl (lv_at hl 1 rfl) ?_
      refine lv_dup hx hb dX12_word_24 rfl ?_
      refine m_geti x L14 11 rfl rfl (wm_in uf_279) dX12_word_25 (fun v15 ev15 wv15 => ?_)
      refine m_top (((mm_up (mm_st eg9) eg14 rfl)).trans ev15.symm) ?_
      refine lv_iconst (v := 1) hx hb dX12_word_28 (by decide) ?_
      refine lv_iadd hx hb dX12_word_29 ?_
      refine lv_topi (fun v16 ev16 => ?_)
      have rv16 : rg (2) (254) v16 := (rg_add ev16 rv7 kc_1 rfl).1
      have tv16 := (rg_add ev16 rv7 kc_1 rfl).2
      have y17 : (1 : Int32).toInt = 1 := by decide
      have uv16 : (2 : Int) ≤ v16.toInt ∧ v16.toInt ≤ 254 := rv16
      refine m_puti x L14 11 rfl fi_11 (wm_in uf_279) dX12_word_30 (rj_11 (rg_w rv16 rfl)) (fun g18 H18 k18 eg18 L18 => ?_)
      refine lv_iinc (v := (8 : Int32)) (lv' := [(2, .int (8 : Int32)), (0, .ref h0), (1, .int p1)]) hx hb dX12_word_33 hl (k := 0) rfl (by decide) (by decide) rfl (fun ls hl => ?_)
      refine lv_goto (tgt := 3) hx hb dX12_word_36 (by decide) ?_
      refine lv_iload_n hx hb dX12_word_3 rfl (lv_at hl 0 rfl) ?_
      refine lv_if_lt (tgt := 39) hx hb dX12_word_4 (by decide) (fun c4_19 => ?_) (fun c4_19 => ?_)
      · skip
        exact absurd c4_19 (by decide)
      · skip
        refine lv_aload_n hx hb dX12_word_7 rfl (lv_at hl 1 rfl) ?_
        refine m_geta x L18 10 rfl rfl (wm_in uf_29) dX12_word_8 ?_
        refine lv_aload_n hx hb dX12_word_11 rfl (lv_at hl 1 rfl) ?_
        refine m_geti x L18 11 rfl rfl (wm_in uf_279) dX12_word_12 (fun v20 ev20 wv20 => ?_)
        refine m_top (((mm_st eg18)).trans ev20.symm) ?_
        refine lv_iload_n hx hb dX12_word_15 rfl (lv_at hl 2 rfl) ?_
        refine lv_iload_n hx hb dX12_word_16 rfl (lv_at hl 0 rfl) ?_
        refine lv_ishr hx hb dX12_word_17 ?_
        refine lv_topi (fun v21 ev21 => ?_)
        have rv21 : rg (-2147483648) (2147483647) v21 := rg_any v21
        have uv21 : (-2147483648 : Int) ≤ v21.toInt ∧ v21.toInt ≤ 2147483647 := rv21
        refine lv_sipush (v := 255) hx hb dX12_word_18 (by decide) ?_
        refine lv_iand hx hb dX12_word_21 ?_
        refine lv_topi (fun v22 ev22 => ?_)
        have rv22 : rg (0) (255) v22 := rg_and ev22 8 255 (by decide) rfl
        have uv22 : (0 : Int) ≤ v22.toInt ∧ v22.toInt ≤ 255 := rv22
        refine m_st x L18 10 rfl rv16 rfl (rj_10 (rg_any v22)) dX12_word_22 (fun g23 H23 k23 eg23 L23 => ?_)
        refine lv_aload_n hx hb dX12_word_23 rfl (lv_at hl 1 rfl) ?_
        refine lv_dup hx hb dX12_word_24 rfl ?_
        refine m_geti x L23 11 rfl rfl (wm_in uf_279) dX12_word_25 (fun v24 ev24 wv24 => ?_)
        refine m_top (((mm_up (mm_st eg18) eg23 rfl)).trans ev24.symm) ?_
        refine lv_iconst (v := 1) hx hb dX12_word_28 (by decide) ?_
        refine lv_iadd hx hb dX12_word_29 ?_
        refine lv_topi (fun v25 ev25 => ?_)
        have rv25 : rg (3) (255) v25 := (rg_add ev25 rv16 kc_1 rfl).1
        have tv25 := (rg_add ev25 rv16 kc_1 rfl).2
        have y26 : (1 : Int32).toInt = 1 := by decide
        have uv25 : (3 : Int) ≤ v25.toInt ∧ v25.toInt ≤ 255 := rv25
        refine m_puti x L23 11 rfl fi_11 (wm_in uf_279) dX12_word_30 (rj_11 (rg_w rv25 rfl)) (fun g27 H27 k27 eg27 L27 => ?_)
        refine lv_iinc (v := (0 : Int32)) (lv' := [(2, .int (0 : Int32)), (0, .ref h0), (1, .int p1)]) hx hb dX12_word_33 hl (k := 0) rfl (by decide) (by decide) rfl (fun ls hl => ?_)
        refine lv_goto (tgt := 3) hx hb dX12_word_36 (by decide) ?_
        refine lv_iload_n hx hb dX12_word_3 rfl (lv_at hl 0 rfl) ?_
        refine lv_if_lt (tgt := 39) hx hb dX12_word_4 (by decide) (fun c4_28 => ?_) (fun c4_28 => ?_)
        · skip
          exact absurd c4_28 (by decide)
        · skip
          refine lv_aload_n hx hb dX12_word_7 rfl (lv_at hl 1 rfl) ?_
          refine m_geta x L27 10 rfl rfl (wm_in uf_29) dX12_word_8 ?_
          refine lv_aload_n hx hb dX12_word_11 rfl (lv_at hl 1 rfl) ?_
          refine m_geti x L27 11 rfl rfl (wm_in uf_279) dX12_word_12 (fun v29 ev29 wv29 => ?_)
          refine m_top (((mm_st eg27)).trans ev29.symm) ?_
          refine lv_iload_n hx hb dX12_word_15 rfl (lv_at hl 2 rfl) ?_
          refine lv_iload_n hx hb dX12_word_16 rfl (lv_at hl 0 rfl) ?_
          refine lv_ishr hx hb dX12_word_17 ?_
          refine lv_topi (fun v30 ev30 => ?_)
          have rv30 : rg (-2147483648) (2147483647) v30 := rg_any v30
          have uv30 : (-2147483648 : Int) ≤ v30.toInt ∧ v30.toInt ≤ 2147483647 := rv30
          refine lv_sipush (v := 255) hx hb dX12_word_18 (by decide) ?_
          refine lv_iand hx hb dX12_word_21 ?_
          refine lv_topi (fun v31 ev31 => ?_)
          have rv31 : rg (0) (255) v31 := rg_and ev31 8 255 (by decide) rfl
          have uv31 : (0 : Int) ≤ v31.toInt ∧ v31.toInt ≤ 255 := rv31
          refine m_st x L27 10 rfl rv25 rfl (rj_10 (rg_any v31)) dX12_word_22 (fun g32 H32 k32 eg32 L32 => ?_)
          refine lv_aload_n hx hb dX12_word_23 rfl (lv_at hl 1 rfl) ?_
          refine lv_dup hx hb dX12_word_24 rfl ?_
          refine m_geti x L32 11 rfl rfl (wm_in uf_279) dX12_word_25 (fun v33 ev33 wv33 => ?_)
          refine m_top (((mm_up (mm_st eg27) eg32 rfl)).trans ev33.symm) ?_
          refine lv_iconst (v := 1) hx hb dX12_word_28 (by decide) ?_
          refine lv_iadd hx hb dX12_word_29 ?_
          refine lv_topi (fun v34 ev34 => ?_)
          have rv34 : rg (4) (256) v34 := (rg_add ev34 rv25 kc_1 rfl).1
          have tv34 := (rg_add ev34 rv25 kc_1 rfl).2
          have y35 : (1 : Int32).toInt = 1 := by decide
          have uv34 : (4 : Int) ≤ v34.toInt ∧ v34.toInt ≤ 256 := rv34
          refine m_puti x L32 11 rfl fi_11 (wm_in uf_279) dX12_word_30 (rj_11 (rg_w rv34 rfl)) (fun g36 H36 k36 eg36 L36 => ?_)
          refine lv_iinc (v := (-8 : Int32)) (lv' := [(2, .int (-8 : Int32)), (0, .ref h0), (1, .int p1)]) hx hb dX12_word_33 hl (k := 0) rfl (by decide) (by decide) rfl (fun ls hl => ?_)
          refine lv_goto (tgt := 3) hx hb dX12_word_36 (by decide) ?_
          refine lv_iload_n hx hb dX12_word_3 rfl (lv_at hl 0 rfl) ?_
          refine lv_if_lt (tgt := 39) hx hb dX12_word_4 (by decide) (fun c4_37 => ?_) (fun c4_37 => ?_)
          · skip
            exact hQ _ _ _ _ _ dX12_word_39 L36 ⟨(mFr.upE (mFr.upE (mFr.upE (mFr.upE (mFr.upE (mFr.upE (mFr.upE (mFr.upE mFr.rf eg5 rfl) eg9 rfl) eg14 rfl) eg18 rfl) eg23 rfl) eg27 rfl) eg32 rfl) eg36 rfl), rel_of (mm_st eg36) (by omega)⟩
          · skip
            exact absurd c4_37 (by decide)
theorem c_word (l : Launch) {G : mG} {h0 : Nat} {ad : Nat → Nat} (nn X : Int) (g : mSt) (p1 : Int32) (hnn : 2 ≤ nn ∧ nn ≤ 4) (hX : 0 ≤ X ∧ X ≤ 2000000000) (hpre0 : rg (0) (252) (g 11 0)) : Met l yX12_word (wm (Cond.code yX12_word cX12_word 3 none)) rm_word (va_Pc [.ref h0, .int p1] (mPre G h0 ad nn X g)) (mQv G h0 ad nn X (fun g1 => mFr [10, 11] g g1 ∧ ((g 11 0).toInt + 4 ≤ (g1 11 0).toInt ∧ (g1 11 0).toInt ≤ (g 11 0).toInt + 4))) 0 0 (mA h0 ad) := by
  refine Met.ofW (cc := cX12_word) (maxL := 3) (ret := none) (by decide) rfl ?_
  intro p e s m args below meth c s₁ B hml hv
  obtain ⟨rfl, hv⟩ := hv
  have hr := B.returns
  have hlocks := B.notSynchronized
  obtain ⟨x, L⟩ := m_start B rfl wm_X hv
  have hl := lv_entry ([.ref h0, .int p1]) (n := 3) (Nat.le_of_ble_eq_true rfl)
  rw [lg_entry_eq]
  generalize (lg_sl ([.ref h0, .int p1]) ++ List.replicate (3 - (lg_sl ([.ref h0, .int p1])).length) Slot.unset).toArray = ls at hl ⊢
  exact w_word x hml L hnn hX p1 hpre0 hl (fun pc' ls' g1 H1 locs1 hdg L hp => m_vret x L hr hlocks (Int.le_refl _) hp hdg)

def rm_outOf : Room := { frames := 0, cells := 0, slots := 0, locals := 0 }
theorem hd_outOf : yX12_outOf.cls = RX12 ∧ yX12_outOf.cls ≠ "java/lang/invoke/MethodHandle" ∧ yX12_outOf.cls ≠ "java/lang/invoke/VarHandle" ∧ (parseMethodDescriptor yX12_outOf.desc).map (fun d => d.parameters.length) = some 1 := by decide +kernel
set_option maxHeartbeats 4000000 in
set_option maxRecDepth 100000 in
theorem w_outOf {p : Program} {l : Launch} {e : Env} {s : State} {m : MethodId} {args : Array Value} {below : List Frame} {meth : Method} {c : Code} {H : Heap} {locs : List Loc} {Q : State → Prop} {ls : Array Slot} {G : mG} {h0 : Nat} {ad : Nat → Nat} {g : mSt} {H0 : Heap} {nn X : Int} (x : mX p c cX12_outOf s args (wm (Cond.code yX12_outOf cX12_outOf 2 (some .int))) m G h0 ad) (hml : c.maxLocals = 2) (L : mL G h0 ad H0 nn X g H locs) (hnn : 2 ≤ nn ∧ nn ≤ 4) (hX : 0 ≤ X ∧ X ≤ 2000000000) (p1 : Int32) (rp1 : rg (0) (7) p1) (np1 : p1.toInt < 2 * nn) (hl : lv_has ls 2 [(0, .ref h0), (1, .int p1)]) (hQ : ∀ (pc' : Nat) (ls' : Array Slot) (r : Int32) (g1 : mSt) (H1 : Heap) (locs1 : List Loc), decode cX12_outOf pc' = .ok (.ireturn, 1) → mL G h0 ad H0 nn X g1 H1 locs1 → (mFr [] g g1 ∧ rg (0) (7) r ∧ r.toInt < 2 * nn) → W p l e rm_outOf s m args below meth c H1 locs1 0 0 Q (F0 m pc' ls' [.int r])) : W p l e rm_outOf s m args below meth c H locs 0 0 Q (F0 m 0 ls []) := by
  have hx := x.1
  have hb := x.2.1
  have up1 : (0 : Int) ≤ p1.toInt ∧ p1.toInt ≤ 7 := rp1
  refine lv_iload_n hx hb dX12_outOf_0 rfl (lv_at hl 1 rfl) ?_
  refine lv_aload_n hx hb dX12_outOf_1 rfl (lv_at hl 0 rfl) ?_
  refine m_geti x L 0 rfl rfl (wm_in uf_260) dX12_outOf_2 (fun v1 ev1 wv1 => ?_)
  have rv1 : rg 2 4 v1 := rg_nn hnn wv1
  have tv1 : v1.toInt = nn := rg_n0 wv1
  have lv1 : v1.toInt = 1 * nn + 0 := by omega
  have uv1 : (2 : Int) ≤ v1.toInt ∧ v1.toInt ≤ 4 := rv1
  have sv1 : v1.toInt = (g 0 0).toInt := congrArg Int32.toInt (ev1.trans (congrFun ((show mFr [] g g from mFr.rf).at 0 rfl) _))
  refine lv_icmp_ge (tgt := 14) hx hb dX12_outOf_5 (by decide) (fun c5_2 => ?_) (fun c5_2 => ?_)
  · skip
    have ic5_2 := Int32.le_iff_toInt_le.mp c5_2
    have q3 : rg (2) (7) p1 := (rg_le c5_2 rv1 rp1).2
    have uq3 : (2 : Int) ≤ p1.toInt ∧ p1.toInt ≤ 7 := q3
    refine lv_iconst (v := 2) hx hb dX12_outOf_14 (by decide) ?_
    refine lv_iload_n hx hb dX12_outOf_15 rfl (lv_at hl 1 rfl) ?_
    refine lv_aload_n hx hb dX12_outOf_16 rfl (lv_at hl 0 rfl) ?_
    refine m_geti x L 0 rfl rfl (wm_in uf_260) dX12_outOf_17 (fun v4 ev4 wv4 => ?_)
    refine m_top ((ev1).trans ev4.symm) ?_
    refine lv_isub hx hb dX12_outOf_20 ?_
    refine lv_topi (fun v5 ev5 => ?_)
    have rv5 : rg (-2) (5) v5 := (rg_sub ev5 q3 rv1 rfl).1
    have tv5 := (rg_sub ev5 q3 rv1 rfl).2
    have uv5 : (-2 : Int) ≤ v5.toInt ∧ v5.toInt ≤ 5 := rv5
    refine lv_imul hx hb dX12_outOf_21 ?_
    refine lv_topi (fun v6 ev6 => ?_)
    have rv6 : rg (-4) (10) v6 := (rg_mulL ev6 kc_2 rv5 rfl).1
    have tv6 := (rg_mulL ev6 kc_2 rv5 rfl).2
    have y7 : (2 : Int32).toInt = 2 := by decide
    have uv6 : (-4 : Int) ≤ v6.toInt ∧ v6.toInt ≤ 10 := rv6
    refine lv_iconst (v := 1) hx hb dX12_outOf_22 (by decide) ?_
    refine lv_iadd hx hb dX12_outOf_23 ?_
    refine lv_topi (fun v8 ev8 => ?_)
    have rv8 : rg (-3) (11) v8 := (rg_add ev8 rv6 kc_1 rfl).1
    have tv8 := (rg_add ev8 rv6 kc_1 rfl).2
    have y9 : (1 : Int32).toInt = 1 := by decide
    have uv8 : (-3 : Int) ≤ v8.toInt ∧ v8.toInt ≤ 11 := rv8
    exact hQ _ _ v8 _ _ _ dX12_outOf_24 L ⟨mFr.rf, ⟨by omega, by omega⟩, (by omega)⟩
  · skip
    have b1p1_10 : p1.toInt < 1 * nn := by have := Int32.lt_iff_toInt_lt.mp (rg_nle c5_2); have := lv1; omega
    have ic5_2 := Int32.lt_iff_toInt_lt.mp (rg_nle c5_2)
    have q11 : rg (0) (3) p1 := (rg_lt (rg_nle c5_2) rp1 rv1).1
    have uq11 : (0 : Int) ≤ p1.toInt ∧ p1.toInt ≤ 3 := q11
    refine lv_iconst (v := 2) hx hb dX12_outOf_8 (by decide) ?_
    refine lv_iload_n hx hb dX12_outOf_9 rfl (lv_at hl 1 rfl) ?_
    refine lv_imul hx hb dX12_outOf_10 ?_
    refine lv_topi (fun v12 ev12 => ?_)
    have rv12 : rg (0) (6) v12 := (rg_mulL ev12 kc_2 q11 rfl).1
    have tv12 := (rg_mulL ev12 kc_2 q11 rfl).2
    have y13 : (2 : Int32).toInt = 2 := by decide
    have b4v12 : v12.toInt < 4 * nn := by have := np1; have := b1p1_10; have : (2 : Int32).toInt = 2 := (by decide); omega
    have b2v12 : v12.toInt < 2 * nn := by have := np1; have := b1p1_10; have : (2 : Int32).toInt = 2 := (by decide); omega
    have uv12 : (0 : Int) ≤ v12.toInt ∧ v12.toInt ≤ 6 := rv12
    refine lv_goto (tgt := 24) hx hb dX12_outOf_11 (by decide) ?_
    exact hQ _ _ v12 _ _ _ dX12_outOf_24 L ⟨mFr.rf, rg_w rv12 rfl, b2v12⟩
theorem c_outOf (l : Launch) {G : mG} {h0 : Nat} {ad : Nat → Nat} (nn X : Int) (g : mSt) (p1 : Int32) (hnn : 2 ≤ nn ∧ nn ≤ 4) (hX : 0 ≤ X ∧ X ≤ 2000000000) (rp1 : rg (0) (7) p1) (np1 : p1.toInt < 2 * nn) : Met l yX12_outOf (wm (Cond.code yX12_outOf cX12_outOf 2 (some .int))) rm_outOf (va_Pc [.ref h0, .int p1] (mPre G h0 ad nn X g)) (mQi G h0 ad nn X (fun r g1 => mFr [] g g1 ∧ rg (0) (7) r ∧ r.toInt < 2 * nn)) 0 0 (mA h0 ad) := by
  refine Met.ofW (cc := cX12_outOf) (maxL := 2) (ret := (some .int)) (by decide) rfl ?_
  intro p e s m args below meth c s₁ B hml hv
  obtain ⟨rfl, hv⟩ := hv
  have hr := B.returns
  have hlocks := B.notSynchronized
  obtain ⟨x, L⟩ := m_start B rfl wm_X hv
  have hl := lv_entry ([.ref h0, .int p1]) (n := 2) (Nat.le_of_ble_eq_true rfl)
  rw [lg_entry_eq]
  generalize (lg_sl ([.ref h0, .int p1]) ++ List.replicate (2 - (lg_sl ([.ref h0, .int p1])).length) Slot.unset).toArray = ls at hl ⊢
  exact w_outOf x hml L hnn hX p1 rp1 np1 hl (fun pc' ls' r g1 H1 locs1 hdg L hp => m_iret x L hr hlocks (Int.le_refl _) hp hdg)

def rm_sideOf : Room := { frames := 0, cells := 0, slots := 0, locals := 0 }
theorem hd_sideOf : yX12_sideOf.cls = RX12 ∧ yX12_sideOf.cls ≠ "java/lang/invoke/MethodHandle" ∧ yX12_sideOf.cls ≠ "java/lang/invoke/VarHandle" ∧ (parseMethodDescriptor yX12_sideOf.desc).map (fun d => d.parameters.length) = some 1 := by decide +kernel
set_option maxHeartbeats 4000000 in
set_option maxRecDepth 100000 in
theorem w_sideOf {p : Program} {l : Launch} {e : Env} {s : State} {m : MethodId} {args : Array Value} {below : List Frame} {meth : Method} {c : Code} {H : Heap} {locs : List Loc} {Q : State → Prop} {ls : Array Slot} {G : mG} {h0 : Nat} {ad : Nat → Nat} {g : mSt} {H0 : Heap} {nn X : Int} (x : mX p c cX12_sideOf s args (wm (Cond.code yX12_sideOf cX12_sideOf 2 (some .int))) m G h0 ad) (hml : c.maxLocals = 2) (L : mL G h0 ad H0 nn X g H locs) (hnn : 2 ≤ nn ∧ nn ≤ 4) (hX : 0 ≤ X ∧ X ≤ 2000000000) (p1 : Int32) (rp1 : rg (0) (7) p1) (np1 : p1.toInt < 2 * nn) (hl : lv_has ls 2 [(0, .ref h0), (1, .int p1)]) (hQ : ∀ (pc' : Nat) (ls' : Array Slot) (r : Int32) (g1 : mSt) (H1 : Heap) (locs1 : List Loc), decode cX12_sideOf pc' = .ok (.ireturn, 1) → mL G h0 ad H0 nn X g1 H1 locs1 → (mFr [] g g1 ∧ rg (0) (7) r ∧ r.toInt < 2 * nn) → W p l e rm_sideOf s m args below meth c H1 locs1 0 0 Q (F0 m pc' ls' [.int r])) : W p l e rm_sideOf s m args below meth c H locs 0 0 Q (F0 m 0 ls []) := by
  have hx := x.1
  have hb := x.2.1
  have up1 : (0 : Int) ≤ p1.toInt ∧ p1.toInt ≤ 7 := rp1
  refine lv_iload_n hx hb dX12_sideOf_0 rfl (lv_at hl 1 rfl) ?_
  refine lv_iconst (v := 2) hx hb dX12_sideOf_1 (by decide) ?_
  refine lv_irem hx hb dX12_sideOf_2 (by decide) ?_
  refine lv_topi (fun v1 ev1 => ?_)
  have rv1 : rg (0) (1) v1 := (rg_rem ev1 rp1 kc_2 rfl).1
  have tv1 := (rg_rem ev1 rp1 kc_2 rfl).2
  have y2 : (2 : Int32).toInt = 2 := by decide
  have uv1 : (0 : Int) ≤ v1.toInt ∧ v1.toInt ≤ 1 := rv1
  refine lv_if_ne (tgt := 17) hx hb dX12_sideOf_3 (by decide) (fun c3_3 => ?_) (fun c3_3 => ?_)
  · skip
    have ic3_3 : v1.toInt ≠ (0 : Int32).toInt := fun z => c3_3 (Int32.toInt_inj.mp z)
    have y4 : (0 : Int32).toInt = 0 := by decide
    have q5 : rg (1) (1) v1 := rg_neL c3_3 rv1 kc_0
    have uq5 : (1 : Int) ≤ v1.toInt ∧ v1.toInt ≤ 1 := q5
    refine lv_iload_n hx hb dX12_sideOf_17 rfl (lv_at hl 1 rfl) ?_
    refine lv_iconst (v := 2) hx hb dX12_sideOf_18 (by decide) ?_
    refine lv_idiv hx hb dX12_sideOf_19 (by decide) ?_
    refine lv_topi (fun v6 ev6 => ?_)
    have rv6 : rg (0) (3) v6 := (rg_div ev6 rp1 kc_2 rfl).1
    have tv6 := (rg_div ev6 rp1 kc_2 rfl).2
    have y7 : (2 : Int32).toInt = 2 := by decide
    have b1v6 : v6.toInt < 1 * nn := by have := np1; have : (2 : Int32).toInt = 2 := (by decide); omega
    have uv6 : (0 : Int) ≤ v6.toInt ∧ v6.toInt ≤ 3 := rv6
    exact hQ _ _ v6 _ _ _ dX12_sideOf_20 L ⟨mFr.rf, rg_w rv6 rfl, (nb_of rv6 rfl hnn)⟩
  · skip
    have ic3_3 := congrArg Int32.toInt c3_3
    have y8 : (0 : Int32).toInt = 0 := by decide
    have q9 : rg (0) (0) v1 := (rg_eq c3_3 rv1 kc_0).1
    have uq9 : (0 : Int) ≤ v1.toInt ∧ v1.toInt ≤ 0 := q9
    refine lv_aload_n hx hb dX12_sideOf_6 rfl (lv_at hl 0 rfl) ?_
    refine m_geti x L 0 rfl rfl (wm_in uf_260) dX12_sideOf_7 (fun v10 ev10 wv10 => ?_)
    have rv10 : rg 2 4 v10 := rg_nn hnn wv10
    have tv10 : v10.toInt = nn := rg_n0 wv10
    have lv10 : v10.toInt = 1 * nn + 0 := by omega
    have uv10 : (2 : Int) ≤ v10.toInt ∧ v10.toInt ≤ 4 := rv10
    have sv10 : v10.toInt = (g 0 0).toInt := congrArg Int32.toInt (ev10.trans (congrFun ((show mFr [] g g from mFr.rf).at 0 rfl) _))
    refine lv_iload_n hx hb dX12_sideOf_10 rfl (lv_at hl 1 rfl) ?_
    refine lv_iconst (v := 2) hx hb dX12_sideOf_11 (by decide) ?_
    refine lv_idiv hx hb dX12_sideOf_12 (by decide) ?_
    refine lv_topi (fun v11 ev11 => ?_)
    have rv11 : rg (0) (3) v11 := (rg_div ev11 rp1 kc_2 rfl).1
    have tv11 := (rg_div ev11 rp1 kc_2 rfl).2
    have y12 : (2 : Int32).toInt = 2 := by decide
    have b1v11 : v11.toInt < 1 * nn := by have := np1; have : (2 : Int32).toInt = 2 := (by decide); omega
    have uv11 : (0 : Int) ≤ v11.toInt ∧ v11.toInt ≤ 3 := rv11
    refine lv_iadd hx hb dX12_sideOf_13 ?_
    refine lv_topi (fun v13 ev13 => ?_)
    have rv13 : rg (2) (7) v13 := (rg_add ev13 rv10 rv11 rfl).1
    have tv13 := (rg_add ev13 rv10 rv11 rfl).2
    have b2v13 : v13.toInt < 2 * nn := by have := lv10; have := b1v11; omega
    have uv13 : (2 : Int) ≤ v13.toInt ∧ v13.toInt ≤ 7 := rv13
    refine lv_goto (tgt := 20) hx hb dX12_sideOf_14 (by decide) ?_
    exact hQ _ _ v13 _ _ _ dX12_sideOf_20 L ⟨mFr.rf, rg_w rv13 rfl, b2v13⟩
theorem c_sideOf (l : Launch) {G : mG} {h0 : Nat} {ad : Nat → Nat} (nn X : Int) (g : mSt) (p1 : Int32) (hnn : 2 ≤ nn ∧ nn ≤ 4) (hX : 0 ≤ X ∧ X ≤ 2000000000) (rp1 : rg (0) (7) p1) (np1 : p1.toInt < 2 * nn) : Met l yX12_sideOf (wm (Cond.code yX12_sideOf cX12_sideOf 2 (some .int))) rm_sideOf (va_Pc [.ref h0, .int p1] (mPre G h0 ad nn X g)) (mQi G h0 ad nn X (fun r g1 => mFr [] g g1 ∧ rg (0) (7) r ∧ r.toInt < 2 * nn)) 0 0 (mA h0 ad) := by
  refine Met.ofW (cc := cX12_sideOf) (maxL := 2) (ret := (some .int)) (by decide) rfl ?_
  intro p e s m args below meth c s₁ B hml hv
  obtain ⟨rfl, hv⟩ := hv
  have hr := B.returns
  have hlocks := B.notSynchronized
  obtain ⟨x, L⟩ := m_start B rfl wm_X hv
  have hl := lv_entry ([.ref h0, .int p1]) (n := 2) (Nat.le_of_ble_eq_true rfl)
  rw [lg_entry_eq]
  generalize (lg_sl ([.ref h0, .int p1]) ++ List.replicate (2 - (lg_sl ([.ref h0, .int p1])).length) Slot.unset).toArray = ls at hl ⊢
  exact w_sideOf x hml L hnn hX p1 rp1 np1 hl (fun pc' ls' r g1 H1 locs1 hdg L hp => m_iret x L hr hlocks (Int.le_refl _) hp hdg)

def rm_ready : Room := { frames := 1, cells := 0, slots := 0, locals := 23 }
theorem hd_ready : yX12_ready.cls = RX12 ∧ yX12_ready.cls ≠ "java/lang/invoke/MethodHandle" ∧ yX12_ready.cls ≠ "java/lang/invoke/VarHandle" ∧ (parseMethodDescriptor yX12_ready.desc).map (fun d => d.parameters.length) = some 2 := by decide +kernel
set_option maxHeartbeats 4000000 in
set_option maxRecDepth 100000 in
theorem w_ready {p : Program} {l : Launch} {e : Env} {s : State} {m : MethodId} {args : Array Value} {below : List Frame} {meth : Method} {c : Code} {H : Heap} {locs : List Loc} {Q : State → Prop} {ls : Array Slot} {G : mG} {h0 : Nat} {ad : Nat → Nat} {g : mSt} {H0 : Heap} {nn X : Int} (x : mX p c cX12_ready s args (wm (Cond.code yX12_ready cX12_ready 3 none)) m G h0 ad) (hml : c.maxLocals = 3) (L : mL G h0 ad H0 nn X g H locs) (hnn : 2 ≤ nn ∧ nn ≤ 4) (hX : 0 ≤ X ∧ X ≤ 2000000000) (p1 : Int32) (p2 : Int32) (rp1 : rg (0) (7) p1) (hl : lv_has ls 3 [(0, .ref h0), (1, .int p1), (2, .int p2)]) (hQ : ∀ (pc' : Nat) (ls' : Array Slot) (g1 : mSt) (H1 : Heap) (locs1 : List Loc), decode cX12_ready pc' = .ok (.return_, 1) → mL G h0 ad H0 nn X g1 H1 locs1 → (mFr [40, 41, 42, 43, 44, 45, 46, 47, 55, 56, 57, 64, 67] g g1 ∧ True) → W p l e rm_ready s m args below meth c H1 locs1 0 0 Q (F0 m pc' ls' [])) : W p l e rm_ready s m args below meth c H locs 0 0 Q (F0 m 0 ls []) := by
  have hx := x.1
  have hb := x.2.1
  refine lv_aload_n hx hb dX12_ready_0 rfl (lv_at hl 0 rfl) ?_
  refine lv_iload_n hx hb dX12_ready_1 rfl (lv_at hl 1 rfl) ?_
  refine lv_iload_n hx hb dX12_ready_2 rfl (lv_at hl 2 rfl) ?_
  refine m_cv (As := [.int p1, .int p2]) (rest := []) x hml L (c_anew l nn X g p1 p2 hnn hX (rg_w rp1 rfl)) (wm_V uc_anew ul_388 ui_anew us_anew u_init) rfl ⟨rfl, rfl⟩ hd_anew ⟨Nat.le_of_ble_eq_true rfl, Nat.le_of_ble_eq_true rfl⟩ rfl hl.1 rfl (lv_room (Nat.le_of_ble_eq_true rfl)) dX12_ready_3 (fun  g1 H1 k1 hp1 L1 => ?_)
  refine lv_aload_n hx hb dX12_ready_6 rfl (lv_at hl 0 rfl) ?_
  refine m_geta x L1 40 rfl rfl (wm_in uf_107) dX12_ready_7 ?_
  refine lv_iload_n hx hb dX12_ready_10 rfl (lv_at hl 1 rfl) ?_
  refine lv_iconst (v := 2) hx hb dX12_ready_11 (by decide) ?_
  refine m_st x L1 40 rfl rp1 rfl (rj_40 (rg_any (2 : Int32))) dX12_ready_12 (fun g2 H2 k2 eg2 L2 => ?_)
  refine lv_aload_n hx hb dX12_ready_13 rfl (lv_at hl 0 rfl) ?_
  refine m_geta x L2 55 rfl rfl (wm_in uf_153) dX12_ready_14 ?_
  refine lv_iload_n hx hb dX12_ready_17 rfl (lv_at hl 1 rfl) ?_
  refine lv_aload_n hx hb dX12_ready_18 rfl (lv_at hl 0 rfl) ?_
  refine m_geti x L2 1 rfl rfl (wm_in uf_378) dX12_ready_19 (fun v3 ev3 wv3 => ?_)
  have rv3 : rg (-2147483648) (2147483647) v3 := lj_1 wv3
  refine m_st x L2 55 rfl rp1 rfl (rj_55 (rg_any v3)) dX12_ready_22 (fun g4 H4 k4 eg4 L4 => ?_)
  refine lv_aload_n hx hb dX12_ready_23 rfl (lv_at hl 0 rfl) ?_
  refine m_geta x L4 56 rfl rfl (wm_in uf_156) dX12_ready_24 ?_
  refine lv_iload_n hx hb dX12_ready_27 rfl (lv_at hl 1 rfl) ?_
  refine lv_aload_n hx hb dX12_ready_28 rfl (lv_at hl 0 rfl) ?_
  refine m_geti x L4 1 rfl rfl (wm_in uf_378) dX12_ready_29 (fun v5 ev5 wv5 => ?_)
  refine m_top (((mm_up ev3 eg4 rfl)).trans ev5.symm) ?_
  refine m_st x L4 56 rfl rp1 rfl (rj_56 (rg_any v3)) dX12_ready_32 (fun g6 H6 k6 eg6 L6 => ?_)
  exact hQ _ _ _ _ _ dX12_ready_33 L6 ⟨(mFr.upE (mFr.upE (mFr.upE (mFr.tr mFr.rf hp1.1 rfl) eg2 rfl) eg4 rfl) eg6 rfl), trivial⟩
theorem c_ready (l : Launch) {G : mG} {h0 : Nat} {ad : Nat → Nat} (nn X : Int) (g : mSt) (p1 : Int32) (p2 : Int32) (hnn : 2 ≤ nn ∧ nn ≤ 4) (hX : 0 ≤ X ∧ X ≤ 2000000000) (rp1 : rg (0) (7) p1) : Met l yX12_ready (wm (Cond.code yX12_ready cX12_ready 3 none)) rm_ready (va_Pc [.ref h0, .int p1, .int p2] (mPre G h0 ad nn X g)) (mQv G h0 ad nn X (fun g1 => mFr [40, 41, 42, 43, 44, 45, 46, 47, 55, 56, 57, 64, 67] g g1 ∧ True)) 0 0 (mA h0 ad) := by
  refine Met.ofW (cc := cX12_ready) (maxL := 3) (ret := none) (by decide) rfl ?_
  intro p e s m args below meth c s₁ B hml hv
  obtain ⟨rfl, hv⟩ := hv
  have hr := B.returns
  have hlocks := B.notSynchronized
  obtain ⟨x, L⟩ := m_start B rfl wm_X hv
  have hl := lv_entry ([.ref h0, .int p1, .int p2]) (n := 3) (Nat.le_of_ble_eq_true rfl)
  rw [lg_entry_eq]
  generalize (lg_sl ([.ref h0, .int p1, .int p2]) ++ List.replicate (3 - (lg_sl ([.ref h0, .int p1, .int p2])).length) Slot.unset).toArray = ls at hl ⊢
  exact w_ready x hml L hnn hX p1 p2 rp1 hl (fun pc' ls' g1 H1 locs1 hdg L hp => m_vret x L hr hlocks (Int.le_refl _) hp hdg)

def rm_textByte : Room := { frames := 0, cells := 0, slots := 0, locals := 0 }
theorem hd_textByte : yX12_textByte.cls = RX12 ∧ yX12_textByte.cls ≠ "java/lang/invoke/MethodHandle" ∧ yX12_textByte.cls ≠ "java/lang/invoke/VarHandle" ∧ (parseMethodDescriptor yX12_textByte.desc).map (fun d => d.parameters.length) = some 1 := by decide +kernel
set_option maxHeartbeats 4000000 in
set_option maxRecDepth 100000 in
theorem w_textByte {p : Program} {l : Launch} {e : Env} {s : State} {m : MethodId} {args : Array Value} {below : List Frame} {meth : Method} {c : Code} {H : Heap} {locs : List Loc} {Q : State → Prop} {ls : Array Slot} {G : mG} {h0 : Nat} {ad : Nat → Nat} {g : mSt} {H0 : Heap} {nn X : Int} (x : mX p c cX12_textByte s args (wm (Cond.code yX12_textByte cX12_textByte 2 none)) m G h0 ad) (hml : c.maxLocals = 2) (L : mL G h0 ad H0 nn X g H locs) (hnn : 2 ≤ nn ∧ nn ≤ 4) (hX : 0 ≤ X ∧ X ≤ 2000000000) (p1 : Int32) (hpre0 : rg (0) (59) (g 91 0)) (hl : lv_has ls 2 [(0, .ref h0), (1, .int p1)]) (hQ : ∀ (pc' : Nat) (ls' : Array Slot) (g1 : mSt) (H1 : Heap) (locs1 : List Loc), decode cX12_textByte pc' = .ok (.return_, 1) → mL G h0 ad H0 nn X g1 H1 locs1 → (mFr [90, 91] g g1 ∧ ((g 91 0).toInt + 1 ≤ (g1 91 0).toInt ∧ (g1 91 0).toInt ≤ (g 91 0).toInt + 1)) → W p l e rm_textByte s m args below meth c H1 locs1 0 0 Q (F0 m pc' ls' [])) : W p l e rm_textByte s m args below meth c H locs 0 0 Q (F0 m 0 ls []) := by
  have hx := x.1
  have hb := x.2.1
  obtain ⟨z0, ez0⟩ : ∃ y : Int32, y = g 91 0 := ⟨_, rfl⟩
  have rz0 : rg (0) (59) z0 := rg_eqv ez0.symm hpre0
  have sz0 := congrArg Int32.toInt ez0
  have up1 : (-2147483648 : Int) ≤ p1.toInt ∧ p1.toInt ≤ 2147483647 := (rg_any p1)
  refine lv_aload_n hx hb dX12_textByte_0 rfl (lv_at hl 0 rfl) ?_
  refine m_geta x L 90 rfl rfl (wm_in uf_257) dX12_textByte_1 ?_
  refine lv_aload_n hx hb dX12_textByte_4 rfl (lv_at hl 0 rfl) ?_
  refine m_geti x L 91 rfl rfl (wm_in uf_469) dX12_textByte_5 (fun v1 ev1 wv1 => ?_)
  refine m_top ((ez0).trans ev1.symm) ?_
  refine lv_iload_n hx hb dX12_textByte_8 rfl (lv_at hl 1 rfl) ?_
  refine m_st x L 90 rfl rz0 rfl (rj_90 (rg_any p1)) dX12_textByte_9 (fun g2 H2 k2 eg2 L2 => ?_)
  refine lv_aload_n hx hb dX12_textByte_10 rfl (lv_at hl 0 rfl) ?_
  refine lv_dup hx hb dX12_textByte_11 rfl ?_
  refine m_geti x L2 91 rfl rfl (wm_in uf_469) dX12_textByte_12 (fun v3 ev3 wv3 => ?_)
  refine m_top (((mm_up ez0 eg2 rfl)).trans ev3.symm) ?_
  refine lv_iconst (v := 1) hx hb dX12_textByte_15 (by decide) ?_
  refine lv_iadd hx hb dX12_textByte_16 ?_
  refine lv_topi (fun v4 ev4 => ?_)
  have rv4 : rg (1) (60) v4 := (rg_add ev4 rz0 kc_1 rfl).1
  have tv4 := (rg_add ev4 rz0 kc_1 rfl).2
  have y5 : (1 : Int32).toInt = 1 := by decide
  have uv4 : (1 : Int) ≤ v4.toInt ∧ v4.toInt ≤ 60 := rv4
  refine m_puti x L2 91 rfl fi_91 (wm_in uf_469) dX12_textByte_17 (rj_91 (rg_w rv4 rfl)) (fun g6 H6 k6 eg6 L6 => ?_)
  exact hQ _ _ _ _ _ dX12_textByte_20 L6 ⟨(mFr.upE (mFr.upE mFr.rf eg2 rfl) eg6 rfl), rel_of (mm_st eg6) (by omega)⟩
theorem c_textByte (l : Launch) {G : mG} {h0 : Nat} {ad : Nat → Nat} (nn X : Int) (g : mSt) (p1 : Int32) (hnn : 2 ≤ nn ∧ nn ≤ 4) (hX : 0 ≤ X ∧ X ≤ 2000000000) (hpre0 : rg (0) (59) (g 91 0)) : Met l yX12_textByte (wm (Cond.code yX12_textByte cX12_textByte 2 none)) rm_textByte (va_Pc [.ref h0, .int p1] (mPre G h0 ad nn X g)) (mQv G h0 ad nn X (fun g1 => mFr [90, 91] g g1 ∧ ((g 91 0).toInt + 1 ≤ (g1 91 0).toInt ∧ (g1 91 0).toInt ≤ (g 91 0).toInt + 1))) 0 0 (mA h0 ad) := by
  refine Met.ofW (cc := cX12_textByte) (maxL := 2) (ret := none) (by decide) rfl ?_
  intro p e s m args below meth c s₁ B hml hv
  obtain ⟨rfl, hv⟩ := hv
  have hr := B.returns
  have hlocks := B.notSynchronized
  obtain ⟨x, L⟩ := m_start B rfl wm_X hv
  have hl := lv_entry ([.ref h0, .int p1]) (n := 2) (Nat.le_of_ble_eq_true rfl)
  rw [lg_entry_eq]
  generalize (lg_sl ([.ref h0, .int p1]) ++ List.replicate (2 - (lg_sl ([.ref h0, .int p1])).length) Slot.unset).toArray = ls at hl ⊢
  exact w_textByte x hml L hnn hX p1 hpre0 hl (fun pc' ls' g1 H1 locs1 hdg L hp => m_vret x L hr hlocks (Int.le_refl _) hp hdg)

def rm_end : Room := { frames := 0, cells := 0, slots := 0, locals := 0 }
theorem hd_end : yX12_end.cls = RX12 ∧ yX12_end.cls ≠ "java/lang/invoke/MethodHandle" ∧ yX12_end.cls ≠ "java/lang/invoke/VarHandle" ∧ (parseMethodDescriptor yX12_end.desc).map (fun d => d.parameters.length) = some 1 := by decide +kernel
set_option maxHeartbeats 4000000 in
set_option maxRecDepth 100000 in
theorem w_end {p : Program} {l : Launch} {e : Env} {s : State} {m : MethodId} {args : Array Value} {below : List Frame} {meth : Method} {c : Code} {H : Heap} {locs : List Loc} {Q : State → Prop} {ls : Array Slot} {G : mG} {h0 : Nat} {ad : Nat → Nat} {g : mSt} {H0 : Heap} {nn X : Int} (x : mX p c cX12_end s args (wm (Cond.code yX12_end cX12_end 2 (some .int))) m G h0 ad) (hml : c.maxLocals = 2) (L : mL G h0 ad H0 nn X g H locs) (hnn : 2 ≤ nn ∧ nn ≤ 4) (hX : 0 ≤ X ∧ X ≤ 2000000000) (p1 : Int32) (hl : lv_has ls 2 [(0, .ref h0), (1, .int p1)]) (hQ : ∀ (pc' : Nat) (ls' : Array Slot) (r : Int32) (g1 : mSt) (H1 : Heap) (locs1 : List Loc), decode cX12_end pc' = .ok (.ireturn, 1) → mL G h0 ad H0 nn X g1 H1 locs1 → (mFr [3] g g1 ∧ rg (-1) (200) r ∧ True) → W p l e rm_end s m args below meth c H1 locs1 0 0 Q (F0 m pc' ls' [.int r])) : W p l e rm_end s m args below meth c H locs 0 0 Q (F0 m 0 ls []) := by
  have hx := x.1
  have hb := x.2.1
  refine lv_iload_n hx hb dX12_end_0 rfl (lv_at hl 1 rfl) ?_
  have j19_1 : ∀ (g1 : mSt) (H1 : Heap) (k1 : List Loc) (ls : Array Slot), mFr [] g g1 → mL G h0 ad H0 nn X g1 H1 k1 → lv_has ls 2 [(0, .ref h0)] → W p l e rm_end s m args below meth c H1 k1 0 0 Q (F0 m 19 ls []) := by
    intro  g1 H1 k1 ls hF1 L1  hl
    refine lv_iconst (v := (-1)) hx hb dX12_end_19 (by decide) ?_
    exact hQ _ _ (-1 : Int32) _ _ _ dX12_end_20 L1 ⟨(mFr.tr mFr.rf hF1 rfl), rg_w kc_m1 rfl, trivial⟩
  refine lv_if_lt (tgt := 19) hx hb dX12_end_1 (by decide) (fun c1_2 => ?_) (fun c1_2 => ?_)
  · skip
    have q3 : rg (-2147483648) (-1) p1 := (rg_lt c1_2 (rg_any p1) kc_0).1
    exact j19_1  g _ _ ls mFr.rf L  (lv_sub hl [0] rfl)
  · skip
    have q4 : rg (0) (2147483647) p1 := (rg_le (rg_nlt c1_2) kc_0 (rg_any p1)).2
    refine lv_iload_n hx hb dX12_end_4 rfl (lv_at hl 1 rfl) ?_
    refine lv_bipush (v := 20) hx hb dX12_end_5 (by decide) ?_
    refine lv_icmp_gt (tgt := 19) hx hb dX12_end_7 (by decide) (fun c7_5 => ?_) (fun c7_5 => ?_)
    · skip
      have q6 : rg (21) (2147483647) p1 := (rg_lt c7_5 kc_20 q4).2
      exact j19_1  g _ _ ls mFr.rf L  (lv_sub hl [0] rfl)
    · skip
      have q7 : rg (0) (20) p1 := (rg_le (rg_nlt c7_5) q4 kc_20).1
      refine lv_aload_n hx hb dX12_end_10 rfl (lv_at hl 0 rfl) ?_
      refine m_geti x L 3 rfl rfl (wm_in uf_264) dX12_end_11 (fun v8 ev8 wv8 => ?_)
      have rv8 : rg (0) (200) v8 := lj_3 wv8
      refine lv_bipush (v := 20) hx hb dX12_end_14 (by decide) ?_
      refine lv_icmp_ge (tgt := 21) hx hb dX12_end_16 (by decide) (fun c16_9 => ?_) (fun c16_9 => ?_)
      · skip
        have q10 : rg (20) (200) v8 := (rg_le c16_9 kc_20 rv8).2
        refine lv_aload_n hx hb dX12_end_21 rfl (lv_at hl 0 rfl) ?_
        refine lv_aload_n hx hb dX12_end_22 rfl (lv_at hl 0 rfl) ?_
        refine m_geti x L 3 rfl rfl (wm_in uf_264) dX12_end_23 (fun v11 ev11 wv11 => ?_)
        refine m_top ((ev8).trans ev11.symm) ?_
        refine lv_bipush (v := 20) hx hb dX12_end_26 (by decide) ?_
        refine lv_isub hx hb dX12_end_28 ?_
        refine lv_topi (fun v12 ev12 => ?_)
        have rv12 : rg (0) (180) v12 := (rg_sub ev12 q10 kc_20 rfl).1
        refine lv_iload_n hx hb dX12_end_29 rfl (lv_at hl 1 rfl) ?_
        refine lv_iadd hx hb dX12_end_30 ?_
        refine lv_topi (fun v13 ev13 => ?_)
        have rv13 : rg (0) (200) v13 := (rg_add ev13 rv12 q7 rfl).1
        refine m_puti x L 3 rfl fi_3 (wm_in uf_264) dX12_end_31 (rj_3 (rg_w rv13 rfl)) (fun g14 H14 k14 eg14 L14 => ?_)
        refine lv_aload_n hx hb dX12_end_34 rfl (lv_at hl 0 rfl) ?_
        refine m_geti x L14 3 rfl rfl (wm_in uf_264) dX12_end_35 (fun v15 ev15 wv15 => ?_)
        refine m_top (((mm_st eg14)).trans ev15.symm) ?_
        exact hQ _ _ v13 _ _ _ dX12_end_38 L14 ⟨(mFr.upE mFr.rf eg14 rfl), rg_w rv13 rfl, trivial⟩
      · skip
        have q16 : rg (0) (19) v8 := (rg_lt (rg_nle c16_9) rv8 kc_20).1
        exact j19_1  g _ _ ls mFr.rf L  (lv_sub hl [0] rfl)
theorem c_end (l : Launch) {G : mG} {h0 : Nat} {ad : Nat → Nat} (nn X : Int) (g : mSt) (p1 : Int32) (hnn : 2 ≤ nn ∧ nn ≤ 4) (hX : 0 ≤ X ∧ X ≤ 2000000000) : Met l yX12_end (wm (Cond.code yX12_end cX12_end 2 (some .int))) rm_end (va_Pc [.ref h0, .int p1] (mPre G h0 ad nn X g)) (mQi G h0 ad nn X (fun r g1 => mFr [3] g g1 ∧ rg (-1) (200) r ∧ True)) 0 0 (mA h0 ad) := by
  refine Met.ofW (cc := cX12_end) (maxL := 2) (ret := (some .int)) (by decide) rfl ?_
  intro p e s m args below meth c s₁ B hml hv
  obtain ⟨rfl, hv⟩ := hv
  have hr := B.returns
  have hlocks := B.notSynchronized
  obtain ⟨x, L⟩ := m_start B rfl wm_X hv
  have hl := lv_entry ([.ref h0, .int p1]) (n := 2) (Nat.le_of_ble_eq_true rfl)
  rw [lg_entry_eq]
  generalize (lg_sl ([.ref h0, .int p1]) ++ List.replicate (2 - (lg_sl ([.ref h0, .int p1])).length) Slot.unset).toArray = ls at hl ⊢
  exact w_end x hml L hnn hX p1 hl (fun pc' ls' r g1 H1 locs1 hdg L hp => m_iret x L hr hlocks (Int.le_refl _) hp hdg)

def rm_calls : Room := { frames := 1, cells := 0, slots := 0, locals := 21 }
theorem hd_calls : yX12_calls.cls = RX12 ∧ yX12_calls.cls ≠ "java/lang/invoke/MethodHandle" ∧ yX12_calls.cls ≠ "java/lang/invoke/VarHandle" ∧ (parseMethodDescriptor yX12_calls.desc).map (fun d => d.parameters.length) = some 1 := by decide +kernel
set_option maxHeartbeats 4000000 in
set_option maxRecDepth 100000 in
theorem w_calls {p : Program} {l : Launch} {e : Env} {s : State} {m : MethodId} {args : Array Value} {below : List Frame} {meth : Method} {c : Code} {H : Heap} {locs : List Loc} {Q : State → Prop} {ls : Array Slot} {G : mG} {h0 : Nat} {ad : Nat → Nat} {g : mSt} {H0 : Heap} {nn X : Int} (x : mX p c cX12_calls s args (wm (Cond.code yX12_calls cX12_calls 2 (some .int))) m G h0 ad) (hml : c.maxLocals = 2) (L : mL G h0 ad H0 nn X g H locs) (hnn : 2 ≤ nn ∧ nn ≤ 4) (hX : 0 ≤ X ∧ X ≤ 2000000000) (p1 : Int32) (hl : lv_has ls 2 [(0, .ref h0), (1, .int p1)]) (hQ : ∀ (pc' : Nat) (ls' : Array Slot) (r : Int32) (g1 : mSt) (H1 : Heap) (locs1 : List Loc), decode cX12_calls pc' = .ok (.ireturn, 1) → mL G h0 ad H0 nn X g1 H1 locs1 → (mFr [] g g1 ∧ rg (-1) (40) r ∧ True) → W p l e rm_calls s m args below meth c H1 locs1 0 0 Q (F0 m pc' ls' [.int r])) : W p l e rm_calls s m args below meth c H locs 0 0 Q (F0 m 0 ls []) := by
  have hx := x.1
  have hb := x.2.1
  refine lv_aload_n hx hb dX12_calls_0 rfl (lv_at hl 0 rfl) ?_
  refine lv_iload_n hx hb dX12_calls_1 rfl (lv_at hl 1 rfl) ?_
  refine m_ci (As := [.int p1]) (rest := []) x hml L (c_isEnd l nn X g p1 hnn hX) (wm_V uc_isEnd ul_381 ui_isEnd us_isEnd u_init) rfl ⟨rfl, rfl⟩ hd_isEnd ⟨Nat.le_of_ble_eq_true rfl, Nat.le_of_ble_eq_true rfl⟩ rfl hl.1 rfl (lv_room (Nat.le_of_ble_eq_true rfl)) dX12_calls_2 (fun v2 g1 H1 k1 hp1 L1 => ?_)
  have rv2 : rg (0) (1) v2 := hp1.2.1
  have j18_4 : ∀ (b18_0_3 : Int32) (g4 : mSt) (H4 : Heap) (k4 : List Loc) (ls : Array Slot), mFr [] g1 g4 → mL G h0 ad H0 nn X g4 H4 k4 → rg (-1) (40) b18_0_3 → lv_has ls 2 [(0, .ref h0)] → W p l e rm_calls s m args below meth c H4 k4 0 0 Q (F0 m 18 ls [.int b18_0_3]) := by
    intro b18_0_3 g4 H4 k4 ls hF4 L4 rb18_0_3 hl
    exact hQ _ _ b18_0_3 _ _ _ dX12_calls_18 L4 ⟨(mFr.tr (mFr.tr mFr.rf hp1.1 rfl) hF4 rfl), rg_w rb18_0_3 rfl, trivial⟩
  refine lv_if_eq (tgt := 17) hx hb dX12_calls_5 (by decide) (fun c5_5 => ?_) (fun c5_5 => ?_)
  · skip
    have q6 : rg (0) (0) v2 := (rg_eq c5_5 rv2 kc_0).1
    refine lv_iconst (v := (-1)) hx hb dX12_calls_17 (by decide) ?_
    exact j18_4 (-1 : Int32) g1 _ _ ls mFr.rf L1 (rg_w kc_m1 rfl) (lv_sub hl [0] rfl)
  · skip
    have q7 : rg (0) (3) p1 ∧ p1.toInt < 1 * nn := hp1.2.2.1 c5_5
    have q8 : rg (1) (1) v2 := rg_neL c5_5 rv2 kc_0
    refine lv_aload_n hx hb dX12_calls_8 rfl (lv_at hl 0 rfl) ?_
    refine m_geta x L1 80 rfl rfl (wm_in uf_225) dX12_calls_9 ?_
    refine lv_iload_n hx hb dX12_calls_12 rfl (lv_at hl 1 rfl) ?_
    refine m_ld x L1 80 rfl q7.1 rfl dX12_calls_13 (fun v9 ev9 wv9 => ?_)
    have rv9 : rg (0) (40) v9 := lj_80 wv9
    refine lv_goto (tgt := 18) hx hb dX12_calls_14 (by decide) ?_
    exact j18_4 v9 g1 _ _ ls mFr.rf L1 (rg_w rv9 rfl) (lv_sub hl [0] rfl)
theorem c_calls (l : Launch) {G : mG} {h0 : Nat} {ad : Nat → Nat} (nn X : Int) (g : mSt) (p1 : Int32) (hnn : 2 ≤ nn ∧ nn ≤ 4) (hX : 0 ≤ X ∧ X ≤ 2000000000) : Met l yX12_calls (wm (Cond.code yX12_calls cX12_calls 2 (some .int))) rm_calls (va_Pc [.ref h0, .int p1] (mPre G h0 ad nn X g)) (mQi G h0 ad nn X (fun r g1 => mFr [] g g1 ∧ rg (-1) (40) r ∧ True)) 0 0 (mA h0 ad) := by
  refine Met.ofW (cc := cX12_calls) (maxL := 2) (ret := (some .int)) (by decide) rfl ?_
  intro p e s m args below meth c s₁ B hml hv
  obtain ⟨rfl, hv⟩ := hv
  have hr := B.returns
  have hlocks := B.notSynchronized
  obtain ⟨x, L⟩ := m_start B rfl wm_X hv
  have hl := lv_entry ([.ref h0, .int p1]) (n := 2) (Nat.le_of_ble_eq_true rfl)
  rw [lg_entry_eq]
  generalize (lg_sl ([.ref h0, .int p1]) ++ List.replicate (2 - (lg_sl ([.ref h0, .int p1])).length) Slot.unset).toArray = ls at hl ⊢
  exact w_calls x hml L hnn hX p1 hl (fun pc' ls' r g1 H1 locs1 hdg L hp => m_iret x L hr hlocks (Int.le_refl _) hp hdg)

def rm_count : Room := { frames := 0, cells := 0, slots := 0, locals := 0 }
theorem hd_count : yX12_count.cls = RX12 ∧ yX12_count.cls ≠ "java/lang/invoke/MethodHandle" ∧ yX12_count.cls ≠ "java/lang/invoke/VarHandle" ∧ (parseMethodDescriptor yX12_count.desc).map (fun d => d.parameters.length) = some 1 := by decide +kernel
set_option maxHeartbeats 4000000 in
set_option maxRecDepth 100000 in
theorem w_count {p : Program} {l : Launch} {e : Env} {s : State} {m : MethodId} {args : Array Value} {below : List Frame} {meth : Method} {c : Code} {H : Heap} {locs : List Loc} {Q : State → Prop} {ls : Array Slot} {G : mG} {h0 : Nat} {ad : Nat → Nat} {g : mSt} {H0 : Heap} {nn X : Int} (x : mX p c cX12_count s args (wm (Cond.code yX12_count cX12_count 2 (some .int))) m G h0 ad) (hml : c.maxLocals = 2) (L : mL G h0 ad H0 nn X g H locs) (hnn : 2 ≤ nn ∧ nn ≤ 4) (hX : 0 ≤ X ∧ X ≤ 2000000000) (p1 : Int32) (hl : lv_has ls 2 [(0, .ref h0), (1, .int p1)]) (hQ : ∀ (pc' : Nat) (ls' : Array Slot) (r : Int32) (g1 : mSt) (H1 : Heap) (locs1 : List Loc), decode cX12_count pc' = .ok (.ireturn, 1) → mL G h0 ad H0 nn X g1 H1 locs1 → (mFr [] g g1 ∧ rg (-2147483648) (2147483647) r ∧ True) → W p l e rm_count s m args below meth c H1 locs1 0 0 Q (F0 m pc' ls' [.int r])) : W p l e rm_count s m args below meth c H locs 0 0 Q (F0 m 0 ls []) := by
  have hx := x.1
  have hb := x.2.1
  refine lv_iload_n hx hb dX12_count_0 rfl (lv_at hl 1 rfl) ?_
  have j48_2 : ∀ (b48_0_1 : Int32) (g2 : mSt) (H2 : Heap) (k2 : List Loc) (ls : Array Slot), mFr [] g g2 → mL G h0 ad H0 nn X g2 H2 k2 → rg (-2147483648) (2147483647) b48_0_1 → lv_has ls 2 [(0, .ref h0)] → W p l e rm_count s m args below meth c H2 k2 0 0 Q (F0 m 48 ls [.int b48_0_1]) := by
    intro b48_0_1 g2 H2 k2 ls hF2 L2 rb48_0_1 hl
    exact hQ _ _ b48_0_1 _ _ _ dX12_count_48 L2 ⟨(mFr.tr mFr.rf hF2 rfl), rg_w rb48_0_1 rfl, trivial⟩
  refine lv_if_ne (tgt := 11) hx hb dX12_count_1 (by decide) (fun c1_3 => ?_) (fun c1_3 => ?_)
  · skip
    refine lv_iload_n hx hb dX12_count_11 rfl (lv_at hl 1 rfl) ?_
    refine lv_iconst (v := 1) hx hb dX12_count_12 (by decide) ?_
    refine lv_icmp_ne (tgt := 23) hx hb dX12_count_13 (by decide) (fun c13_4 => ?_) (fun c13_4 => ?_)
    · skip
      refine lv_iload_n hx hb dX12_count_23 rfl (lv_at hl 1 rfl) ?_
      refine lv_iconst (v := 2) hx hb dX12_count_24 (by decide) ?_
      refine lv_icmp_ne (tgt := 35) hx hb dX12_count_25 (by decide) (fun c25_5 => ?_) (fun c25_5 => ?_)
      · skip
        refine lv_iload_n hx hb dX12_count_35 rfl (lv_at hl 1 rfl) ?_
        refine lv_iconst (v := 3) hx hb dX12_count_36 (by decide) ?_
        refine lv_icmp_ne (tgt := 47) hx hb dX12_count_37 (by decide) (fun c37_6 => ?_) (fun c37_6 => ?_)
        · skip
          refine lv_iconst (v := (-1)) hx hb dX12_count_47 (by decide) ?_
          exact j48_2 (-1 : Int32) g _ _ ls mFr.rf L (rg_w kc_m1 rfl) (lv_sub hl [0] rfl)
        · skip
          have q7 : rg (3) (3) p1 := (rg_eq c37_6 (rg_any p1) kc_3).1
          refine lv_aload_n hx hb dX12_count_40 rfl (lv_at hl 0 rfl) ?_
          refine m_geti x L 20 rfl rfl (wm_in uf_326) dX12_count_41 (fun v8 ev8 wv8 => ?_)
          have rv8 : rg (-2147483648) (2147483647) v8 := lj_20 wv8
          refine lv_goto (tgt := 48) hx hb dX12_count_44 (by decide) ?_
          exact j48_2 v8 g _ _ ls mFr.rf L (rg_w rv8 rfl) (lv_sub hl [0] rfl)
      · skip
        have q9 : rg (2) (2) p1 := (rg_eq c25_5 (rg_any p1) kc_2).1
        refine lv_aload_n hx hb dX12_count_28 rfl (lv_at hl 0 rfl) ?_
        refine m_geti x L 19 rfl rfl (wm_in uf_323) dX12_count_29 (fun v10 ev10 wv10 => ?_)
        have rv10 : rg (-2147483648) (2147483647) v10 := lj_19 wv10
        refine lv_goto (tgt := 48) hx hb dX12_count_32 (by decide) ?_
        exact j48_2 v10 g _ _ ls mFr.rf L (rg_w rv10 rfl) (lv_sub hl [0] rfl)
    · skip
      have q11 : rg (1) (1) p1 := (rg_eq c13_4 (rg_any p1) kc_1).1
      refine lv_aload_n hx hb dX12_count_16 rfl (lv_at hl 0 rfl) ?_
      refine m_geti x L 1 rfl rfl (wm_in uf_378) dX12_count_17 (fun v12 ev12 wv12 => ?_)
      have rv12 : rg (-2147483648) (2147483647) v12 := lj_1 wv12
      refine lv_goto (tgt := 48) hx hb dX12_count_20 (by decide) ?_
      exact j48_2 v12 g _ _ ls mFr.rf L (rg_w rv12 rfl) (lv_sub hl [0] rfl)
  · skip
    have q13 : rg (0) (0) p1 := (rg_eq c1_3 (rg_any p1) kc_0).1
    refine lv_aload_n hx hb dX12_count_4 rfl (lv_at hl 0 rfl) ?_
    refine m_geti x L 0 rfl rfl (wm_in uf_260) dX12_count_5 (fun v14 ev14 wv14 => ?_)
    have rv14 : rg 2 4 v14 := rg_nn hnn wv14
    have tv14 : v14.toInt = nn := rg_n0 wv14
    have lv14 : v14.toInt = 1 * nn + 0 := by omega
    refine lv_goto (tgt := 48) hx hb dX12_count_8 (by decide) ?_
    exact j48_2 v14 g _ _ ls mFr.rf L (rg_w rv14 rfl) (lv_sub hl [0] rfl)
theorem c_count (l : Launch) {G : mG} {h0 : Nat} {ad : Nat → Nat} (nn X : Int) (g : mSt) (p1 : Int32) (hnn : 2 ≤ nn ∧ nn ≤ 4) (hX : 0 ≤ X ∧ X ≤ 2000000000) : Met l yX12_count (wm (Cond.code yX12_count cX12_count 2 (some .int))) rm_count (va_Pc [.ref h0, .int p1] (mPre G h0 ad nn X g)) (mQi G h0 ad nn X (fun r g1 => mFr [] g g1 ∧ rg (-2147483648) (2147483647) r ∧ True)) 0 0 (mA h0 ad) := by
  refine Met.ofW (cc := cX12_count) (maxL := 2) (ret := (some .int)) (by decide) rfl ?_
  intro p e s m args below meth c s₁ B hml hv
  obtain ⟨rfl, hv⟩ := hv
  have hr := B.returns
  have hlocks := B.notSynchronized
  obtain ⟨x, L⟩ := m_start B rfl wm_X hv
  have hl := lv_entry ([.ref h0, .int p1]) (n := 2) (Nat.le_of_ble_eq_true rfl)
  rw [lg_entry_eq]
  generalize (lg_sl ([.ref h0, .int p1]) ++ List.replicate (2 - (lg_sl ([.ref h0, .int p1])).length) Slot.unset).toArray = ls at hl ⊢
  exact w_count x hml L hnn hX p1 hl (fun pc' ls' r g1 H1 locs1 hdg L hp => m_iret x L hr hlocks (Int.le_refl _) hp hdg)

def rm_policy : Room := { frames := 1, cells := 0, slots := 0, locals := 21 }
theorem hd_policy : yX12_policy.cls = RX12 ∧ yX12_policy.cls ≠ "java/lang/invoke/MethodHandle" ∧ yX12_policy.cls ≠ "java/lang/invoke/VarHandle" ∧ (parseMethodDescriptor yX12_policy.desc).map (fun d => d.parameters.length) = some 3 := by decide +kernel
set_option maxHeartbeats 4000000 in
set_option maxRecDepth 100000 in
theorem w_policy {p : Program} {l : Launch} {e : Env} {s : State} {m : MethodId} {args : Array Value} {below : List Frame} {meth : Method} {c : Code} {H : Heap} {locs : List Loc} {Q : State → Prop} {ls : Array Slot} {G : mG} {h0 : Nat} {ad : Nat → Nat} {g : mSt} {H0 : Heap} {nn X : Int} (x : mX p c cX12_policy s args (wm (Cond.code yX12_policy cX12_policy 4 (some .int))) m G h0 ad) (hml : c.maxLocals = 4) (L : mL G h0 ad H0 nn X g H locs) (hnn : 2 ≤ nn ∧ nn ≤ 4) (hX : 0 ≤ X ∧ X ≤ 2000000000) (p1 : Int32) (p2 : Int32) (p3 : Int32) (hl : lv_has ls 4 [(0, .ref h0), (1, .int p1), (2, .int p2), (3, .int p3)]) (hQ : ∀ (pc' : Nat) (ls' : Array Slot) (r : Int32) (g1 : mSt) (H1 : Heap) (locs1 : List Loc), decode cX12_policy pc' = .ok (.ireturn, 1) → mL G h0 ad H0 nn X g1 H1 locs1 → (mFr [82, 83] g g1 ∧ rg (-1) (1) r ∧ True) → W p l e rm_policy s m args below meth c H1 locs1 0 0 Q (F0 m pc' ls' [.int r])) : W p l e rm_policy s m args below meth c H locs 0 0 Q (F0 m 0 ls []) := by
  have hx := x.1
  have hb := x.2.1
  refine lv_aload_n hx hb dX12_policy_0 rfl (lv_at hl 0 rfl) ?_
  refine lv_iload_n hx hb dX12_policy_1 rfl (lv_at hl 1 rfl) ?_
  refine m_ci (As := [.int p1]) (rest := []) x hml L (c_isEnd l nn X g p1 hnn hX) (wm_V uc_isEnd ul_381 ui_isEnd us_isEnd u_init) rfl ⟨rfl, rfl⟩ hd_isEnd ⟨Nat.le_of_ble_eq_true rfl, Nat.le_of_ble_eq_true rfl⟩ rfl hl.1 rfl (lv_room (Nat.le_of_ble_eq_true rfl)) dX12_policy_2 (fun v2 g1 H1 k1 hp1 L1 => ?_)
  have rv2 : rg (0) (1) v2 := hp1.2.1
  have j28_3 : ∀ (g3 : mSt) (H3 : Heap) (k3 : List Loc) (ls : Array Slot), mFr [] g1 g3 → mL G h0 ad H0 nn X g3 H3 k3 → lv_has ls 4 [(0, .ref h0)] → W p l e rm_policy s m args below meth c H3 k3 0 0 Q (F0 m 28 ls []) := by
    intro  g3 H3 k3 ls hF3 L3  hl
    refine lv_iconst (v := (-1)) hx hb dX12_policy_28 (by decide) ?_
    exact hQ _ _ (-1 : Int32) _ _ _ dX12_policy_29 L3 ⟨(mFr.tr (mFr.tr mFr.rf hp1.1 rfl) hF3 rfl), rg_w kc_m1 rfl, trivial⟩
  refine lv_if_eq (tgt := 28) hx hb dX12_policy_5 (by decide) (fun c5_4 => ?_) (fun c5_4 => ?_)
  · skip
    have q5 : rg (0) (0) v2 := (rg_eq c5_4 rv2 kc_0).1
    exact j28_3  g1 _ _ ls mFr.rf L1  (lv_sub hl [0] rfl)
  · skip
    have q6 : rg (0) (3) p1 ∧ p1.toInt < 1 * nn := hp1.2.2.1 c5_4
    have q7 : rg (1) (1) v2 := rg_neL c5_4 rv2 kc_0
    refine lv_iload_n hx hb dX12_policy_8 rfl (lv_at hl 2 rfl) ?_
    refine lv_if_lt (tgt := 28) hx hb dX12_policy_9 (by decide) (fun c9_8 => ?_) (fun c9_8 => ?_)
    · skip
      have q9 : rg (-2147483648) (-1) p2 := (rg_lt c9_8 (rg_any p2) kc_0).1
      exact j28_3  g1 _ _ ls mFr.rf L1  (lv_sub hl [0] rfl)
    · skip
      have q10 : rg (0) (2147483647) p2 := (rg_le (rg_nlt c9_8) kc_0 (rg_any p2)).2
      refine lv_iload_n hx hb dX12_policy_12 rfl (lv_at hl 2 rfl) ?_
      refine lv_iconst (v := 2) hx hb dX12_policy_13 (by decide) ?_
      refine lv_icmp_gt (tgt := 28) hx hb dX12_policy_14 (by decide) (fun c14_11 => ?_) (fun c14_11 => ?_)
      · skip
        have q12 : rg (3) (2147483647) p2 := (rg_lt c14_11 kc_2 q10).2
        exact j28_3  g1 _ _ ls mFr.rf L1  (lv_sub hl [0] rfl)
      · skip
        have q13 : rg (0) (2) p2 := (rg_le (rg_nlt c14_11) q10 kc_2).1
        refine lv_iload_n hx hb dX12_policy_17 rfl (lv_at hl 3 rfl) ?_
        refine lv_iconst (v := 1) hx hb dX12_policy_18 (by decide) ?_
        refine lv_icmp_lt (tgt := 28) hx hb dX12_policy_19 (by decide) (fun c19_14 => ?_) (fun c19_14 => ?_)
        · skip
          have q15 : rg (-2147483648) (0) p3 := (rg_lt c19_14 (rg_any p3) kc_1).1
          exact j28_3  g1 _ _ ls mFr.rf L1  (lv_sub hl [0] rfl)
        · skip
          have q16 : rg (1) (2147483647) p3 := (rg_le (rg_nlt c19_14) kc_1 (rg_any p3)).2
          refine lv_iload_n hx hb dX12_policy_22 rfl (lv_at hl 3 rfl) ?_
          refine lv_bipush (v := 30) hx hb dX12_policy_23 (by decide) ?_
          refine lv_icmp_le (tgt := 30) hx hb dX12_policy_25 (by decide) (fun c25_17 => ?_) (fun c25_17 => ?_)
          · skip
            have q18 : rg (1) (30) p3 := (rg_le c25_17 q16 kc_30).1
            refine lv_aload_n hx hb dX12_policy_30 rfl (lv_at hl 0 rfl) ?_
            refine m_geta x L1 82 rfl rfl (wm_in uf_231) dX12_policy_31 ?_
            refine lv_iload_n hx hb dX12_policy_34 rfl (lv_at hl 1 rfl) ?_
            refine lv_iload_n hx hb dX12_policy_35 rfl (lv_at hl 2 rfl) ?_
            refine m_st x L1 82 rfl q6.1 rfl (rj_82 (rg_any p2)) dX12_policy_36 (fun g19 H19 k19 eg19 L19 => ?_)
            refine lv_aload_n hx hb dX12_policy_37 rfl (lv_at hl 0 rfl) ?_
            refine m_geta x L19 83 rfl rfl (wm_in uf_234) dX12_policy_38 ?_
            refine lv_iload_n hx hb dX12_policy_41 rfl (lv_at hl 1 rfl) ?_
            refine lv_iload_n hx hb dX12_policy_42 rfl (lv_at hl 3 rfl) ?_
            refine m_st x L19 83 rfl q6.1 rfl (rj_83 (rg_any p3)) dX12_policy_43 (fun g20 H20 k20 eg20 L20 => ?_)
            refine lv_iconst (v := 1) hx hb dX12_policy_44 (by decide) ?_
            exact hQ _ _ (1 : Int32) _ _ _ dX12_policy_45 L20 ⟨(mFr.upE (mFr.upE (mFr.tr mFr.rf hp1.1 rfl) eg19 rfl) eg20 rfl), rg_w kc_1 rfl, trivial⟩
          · skip
            have q21 : rg (31) (2147483647) p3 := (rg_lt (rg_nle c25_17) kc_30 q16).2
            exact j28_3  g1 _ _ ls mFr.rf L1  (lv_sub hl [0] rfl)
theorem c_policy (l : Launch) {G : mG} {h0 : Nat} {ad : Nat → Nat} (nn X : Int) (g : mSt) (p1 : Int32) (p2 : Int32) (p3 : Int32) (hnn : 2 ≤ nn ∧ nn ≤ 4) (hX : 0 ≤ X ∧ X ≤ 2000000000) : Met l yX12_policy (wm (Cond.code yX12_policy cX12_policy 4 (some .int))) rm_policy (va_Pc [.ref h0, .int p1, .int p2, .int p3] (mPre G h0 ad nn X g)) (mQi G h0 ad nn X (fun r g1 => mFr [82, 83] g g1 ∧ rg (-1) (1) r ∧ True)) 0 0 (mA h0 ad) := by
  refine Met.ofW (cc := cX12_policy) (maxL := 4) (ret := (some .int)) (by decide) rfl ?_
  intro p e s m args below meth c s₁ B hml hv
  obtain ⟨rfl, hv⟩ := hv
  have hr := B.returns
  have hlocks := B.notSynchronized
  obtain ⟨x, L⟩ := m_start B rfl wm_X hv
  have hl := lv_entry ([.ref h0, .int p1, .int p2, .int p3]) (n := 4) (Nat.le_of_ble_eq_true rfl)
  rw [lg_entry_eq]
  generalize (lg_sl ([.ref h0, .int p1, .int p2, .int p3]) ++ List.replicate (4 - (lg_sl ([.ref h0, .int p1, .int p2, .int p3])).length) Slot.unset).toArray = ls at hl ⊢
  exact w_policy x hml L hnn hX p1 p2 p3 hl (fun pc' ls' r g1 H1 locs1 hdg L hp => m_iret x L hr hlocks (Int.le_refl _) hp hdg)

def rm_byteOfWord : Room := { frames := 0, cells := 0, slots := 0, locals := 0 }
theorem hd_byteOfWord : yX12_byteOfWord.cls = RX12 ∧ yX12_byteOfWord.cls ≠ "java/lang/invoke/MethodHandle" ∧ yX12_byteOfWord.cls ≠ "java/lang/invoke/VarHandle" ∧ (parseMethodDescriptor yX12_byteOfWord.desc).map (fun d => d.parameters.length) = some 1 := by decide +kernel
set_option maxHeartbeats 4000000 in
set_option maxRecDepth 100000 in
theorem w_byteOfWord {p : Program} {l : Launch} {e : Env} {s : State} {m : MethodId} {args : Array Value} {below : List Frame} {meth : Method} {c : Code} {H : Heap} {locs : List Loc} {Q : State → Prop} {ls : Array Slot} {G : mG} {h0 : Nat} {ad : Nat → Nat} {g : mSt} {H0 : Heap} {nn X : Int} (x : mX p c cX12_byteOfWord s args (wm (Cond.code yX12_byteOfWord cX12_byteOfWord 2 (some .int))) m G h0 ad) (hml : c.maxLocals = 2) (L : mL G h0 ad H0 nn X g H locs) (hnn : 2 ≤ nn ∧ nn ≤ 4) (hX : 0 ≤ X ∧ X ≤ 2000000000) (p1 : Int32) (rp1 : rg (0) (236) p1) (hl : lv_has ls 2 [(0, .ref h0), (1, .int p1)]) (hQ : ∀ (pc' : Nat) (ls' : Array Slot) (r : Int32) (g1 : mSt) (H1 : Heap) (locs1 : List Loc), decode cX12_byteOfWord pc' = .ok (.ireturn, 1) → mL G h0 ad H0 nn X g1 H1 locs1 → (mFr [] g g1 ∧ rg (-2147483648) (2147483647) r ∧ (r = bW g p1.toInt)) → W p l e rm_byteOfWord s m args below meth c H1 locs1 0 0 Q (F0 m pc' ls' [.int r])) : W p l e rm_byteOfWord s m args below meth c H locs 0 0 Q (F0 m 0 ls []) := by
  have hx := x.1
  have hb := x.2.1
  have up1 : (0 : Int) ≤ p1.toInt ∧ p1.toInt ≤ 236 := rp1
  refine lv_aload_n hx hb dX12_byteOfWord_0 rfl (lv_at hl 0 rfl) ?_
  refine m_geta x L 33 rfl rfl (wm_in uf_89) dX12_byteOfWord_1 ?_
  refine lv_iload_n hx hb dX12_byteOfWord_4 rfl (lv_at hl 1 rfl) ?_
  refine m_ld x L 33 rfl rp1 rfl dX12_byteOfWord_5 (fun v1 ev1 wv1 => ?_)
  have rv1 : rg (-2147483648) (2147483647) v1 := lj_33 wv1
  have uv1 : (-2147483648 : Int) ≤ v1.toInt ∧ v1.toInt ≤ 2147483647 := rv1
  have sv1 : v1.toInt = (g 33 p1.toNatClampNeg).toInt := congrArg Int32.toInt (ev1.trans (congrFun ((show mFr [] g g from mFr.rf).at 33 rfl) _))
  refine lv_bipush (v := 24) hx hb dX12_byteOfWord_6 (by decide) ?_
  refine lv_ishl hx hb dX12_byteOfWord_8 ?_
  refine lv_topi (fun v2 ev2 => ?_)
  have rv2 : rg (-2147483648) (2147483647) v2 := rg_any v2
  have uv2 : (-2147483648 : Int) ≤ v2.toInt ∧ v2.toInt ≤ 2147483647 := rv2
  refine lv_aload_n hx hb dX12_byteOfWord_9 rfl (lv_at hl 0 rfl) ?_
  refine m_geta x L 33 rfl rfl (wm_in uf_89) dX12_byteOfWord_10 ?_
  refine lv_iload_n hx hb dX12_byteOfWord_13 rfl (lv_at hl 1 rfl) ?_
  refine lv_iconst (v := 1) hx hb dX12_byteOfWord_14 (by decide) ?_
  refine lv_iadd hx hb dX12_byteOfWord_15 ?_
  refine lv_topi (fun v3 ev3 => ?_)
  have rv3 : rg (1) (237) v3 := (rg_add ev3 rp1 kc_1 rfl).1
  have dv3 := (rg_add ev3 rp1 kc_1 rfl).2
  have tv3 := (rg_add ev3 rp1 kc_1 rfl).2
  have y4 : (1 : Int32).toInt = 1 := by decide
  have uv3 : (1 : Int) ≤ v3.toInt ∧ v3.toInt ≤ 237 := rv3
  refine m_ld x L 33 rfl rv3 rfl dX12_byteOfWord_16 (fun v5 ev5 wv5 => ?_)
  have rv5 : rg (-2147483648) (2147483647) v5 := lj_33 wv5
  have uv5 : (-2147483648 : Int) ≤ v5.toInt ∧ v5.toInt ≤ 2147483647 := rv5
  have sv5 : v5.toInt = (g 33 v3.toNatClampNeg).toInt := congrArg Int32.toInt (ev5.trans (congrFun ((show mFr [] g g from mFr.rf).at 33 rfl) _))
  refine lv_bipush (v := 16) hx hb dX12_byteOfWord_17 (by decide) ?_
  refine lv_ishl hx hb dX12_byteOfWord_19 ?_
  refine lv_topi (fun v6 ev6 => ?_)
  have rv6 : rg (-2147483648) (2147483647) v6 := rg_any v6
  have uv6 : (-2147483648 : Int) ≤ v6.toInt ∧ v6.toInt ≤ 2147483647 := rv6
  refine lv_ior hx hb dX12_byteOfWord_20 ?_
  refine lv_topi (fun v7 ev7 => ?_)
  have rv7 : rg (-2147483648) (2147483647) v7 := rg_any v7
  have uv7 : (-2147483648 : Int) ≤ v7.toInt ∧ v7.toInt ≤ 2147483647 := rv7
  refine lv_aload_n hx hb dX12_byteOfWord_21 rfl (lv_at hl 0 rfl) ?_
  refine m_geta x L 33 rfl rfl (wm_in uf_89) dX12_byteOfWord_22 ?_
  refine lv_iload_n hx hb dX12_byteOfWord_25 rfl (lv_at hl 1 rfl) ?_
  refine lv_iconst (v := 2) hx hb dX12_byteOfWord_26 (by decide) ?_
  refine lv_iadd hx hb dX12_byteOfWord_27 ?_
  refine lv_topi (fun v8 ev8 => ?_)
  have rv8 : rg (2) (238) v8 := (rg_add ev8 rp1 kc_2 rfl).1
  have dv8 := (rg_add ev8 rp1 kc_2 rfl).2
  have tv8 := (rg_add ev8 rp1 kc_2 rfl).2
  have y9 : (2 : Int32).toInt = 2 := by decide
  have uv8 : (2 : Int) ≤ v8.toInt ∧ v8.toInt ≤ 238 := rv8
  refine m_ld x L 33 rfl rv8 rfl dX12_byteOfWord_28 (fun v10 ev10 wv10 => ?_)
  have rv10 : rg (-2147483648) (2147483647) v10 := lj_33 wv10
  have uv10 : (-2147483648 : Int) ≤ v10.toInt ∧ v10.toInt ≤ 2147483647 := rv10
  have sv10 : v10.toInt = (g 33 v8.toNatClampNeg).toInt := congrArg Int32.toInt (ev10.trans (congrFun ((show mFr [] g g from mFr.rf).at 33 rfl) _))
  refine lv_bipush (v := 8) hx hb dX12_byteOfWord_29 (by decide) ?_
  refine lv_ishl hx hb dX12_byteOfWord_31 ?_
  refine lv_topi (fun v11 ev11 => ?_)
  have rv11 : rg (-2147483648) (2147483647) v11 := rg_any v11
  have uv11 : (-2147483648 : Int) ≤ v11.toInt ∧ v11.toInt ≤ 2147483647 := rv11
  refine lv_ior hx hb dX12_byteOfWord_32 ?_
  refine lv_topi (fun v12 ev12 => ?_)
  have rv12 : rg (-2147483648) (2147483647) v12 := rg_any v12
  have uv12 : (-2147483648 : Int) ≤ v12.toInt ∧ v12.toInt ≤ 2147483647 := rv12
  refine lv_aload_n hx hb dX12_byteOfWord_33 rfl (lv_at hl 0 rfl) ?_
  refine m_geta x L 33 rfl rfl (wm_in uf_89) dX12_byteOfWord_34 ?_
  refine lv_iload_n hx hb dX12_byteOfWord_37 rfl (lv_at hl 1 rfl) ?_
  refine lv_iconst (v := 3) hx hb dX12_byteOfWord_38 (by decide) ?_
  refine lv_iadd hx hb dX12_byteOfWord_39 ?_
  refine lv_topi (fun v13 ev13 => ?_)
  have rv13 : rg (3) (239) v13 := (rg_add ev13 rp1 kc_3 rfl).1
  have dv13 := (rg_add ev13 rp1 kc_3 rfl).2
  have tv13 := (rg_add ev13 rp1 kc_3 rfl).2
  have y14 : (3 : Int32).toInt = 3 := by decide
  have uv13 : (3 : Int) ≤ v13.toInt ∧ v13.toInt ≤ 239 := rv13
  refine m_ld x L 33 rfl rv13 rfl dX12_byteOfWord_40 (fun v15 ev15 wv15 => ?_)
  have rv15 : rg (-2147483648) (2147483647) v15 := lj_33 wv15
  have uv15 : (-2147483648 : Int) ≤ v15.toInt ∧ v15.toInt ≤ 2147483647 := rv15
  have sv15 : v15.toInt = (g 33 v13.toNatClampNeg).toInt := congrArg Int32.toInt (ev15.trans (congrFun ((show mFr [] g g from mFr.rf).at 33 rfl) _))
  refine lv_ior hx hb dX12_byteOfWord_41 ?_
  refine lv_topi (fun v16 ev16 => ?_)
  have rv16 : rg (-2147483648) (2147483647) v16 := rg_any v16
  have uv16 : (-2147483648 : Int) ≤ v16.toInt ∧ v16.toInt ≤ 2147483647 := rv16
  exact hQ _ _ v16 _ _ _ dX12_byteOfWord_42 L ⟨mFr.rf, rg_w rv16 rfl, (by have h0_ := wA (g := g) (k := p1.toInt) ev1 (by rfl); have h1_ := wA (g := g) (k := p1.toInt + 1) ev5 (by have := dv3; have : (1 : Int32).toInt = 1 := (by decide); omega); have h2_ := wA (g := g) (k := p1.toInt + 2) ev10 (by have := dv8; have : (2 : Int32).toInt = 2 := (by decide); omega); have h3_ := wA (g := g) (k := p1.toInt + 3) ev15 (by have := dv13; have : (3 : Int32).toInt = 3 := (by decide); omega); unfold bW; rw [h0_, h1_, h2_, h3_, ← ev2, ← ev6, ← ev11, ← ev7, ← ev12, ← ev16])⟩
theorem c_byteOfWord (l : Launch) {G : mG} {h0 : Nat} {ad : Nat → Nat} (nn X : Int) (g : mSt) (p1 : Int32) (hnn : 2 ≤ nn ∧ nn ≤ 4) (hX : 0 ≤ X ∧ X ≤ 2000000000) (rp1 : rg (0) (236) p1) : Met l yX12_byteOfWord (wm (Cond.code yX12_byteOfWord cX12_byteOfWord 2 (some .int))) rm_byteOfWord (va_Pc [.ref h0, .int p1] (mPre G h0 ad nn X g)) (mQi G h0 ad nn X (fun r g1 => mFr [] g g1 ∧ rg (-2147483648) (2147483647) r ∧ (r = bW g p1.toInt))) 0 0 (mA h0 ad) := by
  refine Met.ofW (cc := cX12_byteOfWord) (maxL := 2) (ret := (some .int)) (by decide) rfl ?_
  intro p e s m args below meth c s₁ B hml hv
  obtain ⟨rfl, hv⟩ := hv
  have hr := B.returns
  have hlocks := B.notSynchronized
  obtain ⟨x, L⟩ := m_start B rfl wm_X hv
  have hl := lv_entry ([.ref h0, .int p1]) (n := 2) (Nat.le_of_ble_eq_true rfl)
  rw [lg_entry_eq]
  generalize (lg_sl ([.ref h0, .int p1]) ++ List.replicate (2 - (lg_sl ([.ref h0, .int p1])).length) Slot.unset).toArray = ls at hl ⊢
  exact w_byteOfWord x hml L hnn hX p1 rp1 hl (fun pc' ls' r g1 H1 locs1 hdg L hp => m_iret x L hr hlocks (Int.le_refl _) hp hdg)

def rm_dropFrames : Room := { frames := 0, cells := 0, slots := 0, locals := 0 }
theorem hd_dropFrames : yX12_dropFrames.cls = RX12 ∧ yX12_dropFrames.cls ≠ "java/lang/invoke/MethodHandle" ∧ yX12_dropFrames.cls ≠ "java/lang/invoke/VarHandle" ∧ (parseMethodDescriptor yX12_dropFrames.desc).map (fun d => d.parameters.length) = some 1 := by decide +kernel
set_option maxHeartbeats 4000000 in
set_option maxRecDepth 100000 in
theorem w_dropFrames {p : Program} {l : Launch} {e : Env} {s : State} {m : MethodId} {args : Array Value} {below : List Frame} {meth : Method} {c : Code} {H : Heap} {locs : List Loc} {Q : State → Prop} {ls : Array Slot} {G : mG} {h0 : Nat} {ad : Nat → Nat} {g : mSt} {H0 : Heap} {nn X : Int} (x : mX p c cX12_dropFrames s args (wm (Cond.code yX12_dropFrames cX12_dropFrames 2 none)) m G h0 ad) (hml : c.maxLocals = 2) (L : mL G h0 ad H0 nn X g H locs) (hnn : 2 ≤ nn ∧ nn ≤ 4) (hX : 0 ≤ X ∧ X ≤ 2000000000) (hJ : mJ nn [] g) (p1 : Int32) (rp1 : rg (0) (319) p1) (hl : lv_has ls 2 [(0, .ref h0), (1, .int p1)]) (hQ : ∀ (pc' : Nat) (ls' : Array Slot) (g1 : mSt) (H1 : Heap) (locs1 : List Loc), decode cX12_dropFrames pc' = .ok (.return_, 1) → mL G h0 ad H0 nn X g1 H1 locs1 → (mFr [86, 87, 89] g g1 ∧ mJ nn [] g1 ∧ True) → W p l e rm_dropFrames s m args below meth c H1 locs1 0 0 Q (F0 m pc' ls' [])) : W p l e rm_dropFrames s m args below meth c H locs 0 0 Q (F0 m 0 ls []) := by
  have hx := x.1
  have hb := x.2.1
  refine lv_iload_n hx hb dX12_dropFrames_0 rfl (lv_at hl 1 rfl) ?_
  refine lv_bipush (v := 40) hx hb dX12_dropFrames_1 (by decide) ?_
  refine lv_aload_n hx hb dX12_dropFrames_3 rfl (lv_at hl 0 rfl) ?_
  refine m_geti x L 0 rfl rfl (wm_in uf_260) dX12_dropFrames_4 (fun v1 ev1 wv1 => ?_)
  have rv1 : rg 2 4 v1 := rg_nn hnn wv1
  have tv1 : v1.toInt = nn := rg_n0 wv1
  have lv1 : v1.toInt = 1 * nn + 0 := by omega
  refine lv_imul hx hb dX12_dropFrames_7 ?_
  refine lv_topi (fun v2 ev2 => ?_)
  have rv2 : rg (80) (160) v2 := (rg_mulL ev2 kc_40 rv1 rfl).1
  have tv2 := (rg_mulL ev2 kc_40 rv1 rfl).2
  have lv2 : v2.toInt = 40 * nn + 0 := by have := lv1; have : (40 : Int32).toInt = 40 := (by decide); omega
  have j32_3 : ∀ (g3 : mSt) (H3 : Heap) (k3 : List Loc) (ls : Array Slot), mFr [86, 87, 89] g g3 → mL G h0 ad H0 nn X g3 H3 k3 → mJ nn [] g3 → lv_has ls 2 [(0, .ref h0)] → W p l e rm_dropFrames s m args below meth c H3 k3 0 0 Q (F0 m 32 ls []) := by
    intro  g3 H3 k3 ls hF3 L3 hJ3  hl
    exact hQ _ _ _ _ _ dX12_dropFrames_32 L3 ⟨(mFr.tr mFr.rf hF3 rfl), hJ3, trivial⟩
  refine lv_icmp_ge (tgt := 32) hx hb dX12_dropFrames_8 (by decide) (fun c8_4 => ?_) (fun c8_4 => ?_)
  · skip
    have q5 : rg (80) (319) p1 := (rg_le c8_4 rv2 rp1).2
    exact j32_3  g _ _ ls mFr.rf L hJ (lv_sub hl [0] rfl)
  · skip
    have b40p1_6 : p1.toInt < 40 * nn := by have := Int32.lt_iff_toInt_lt.mp (rg_nle c8_4); have := lv2; omega
    have q7 : rg (0) (159) p1 := (rg_lt (rg_nle c8_4) rp1 rv2).1
    refine lv_aload_n hx hb dX12_dropFrames_11 rfl (lv_at hl 0 rfl) ?_
    refine m_geta x L 86 rfl rfl (wm_in uf_244) dX12_dropFrames_12 ?_
    refine lv_iload_n hx hb dX12_dropFrames_15 rfl (lv_at hl 1 rfl) ?_
    refine lv_iconst (v := 0) hx hb dX12_dropFrames_16 (by decide) ?_
    refine m_st x L 86 rfl q7 rfl (rj_86 (rg_w kc_0 rfl)) dX12_dropFrames_17 (fun g8 H8 k8 eg8 L8 => ?_)
    refine lv_aload_n hx hb dX12_dropFrames_18 rfl (lv_at hl 0 rfl) ?_
    refine m_geta x L8 87 rfl rfl (wm_in uf_247) dX12_dropFrames_19 ?_
    refine lv_iload_n hx hb dX12_dropFrames_22 rfl (lv_at hl 1 rfl) ?_
    refine lv_iconst (v := 0) hx hb dX12_dropFrames_23 (by decide) ?_
    refine m_st x L8 87 rfl q7 rfl (rj_87 (rg_w kc_0 rfl)) dX12_dropFrames_24 (fun g9 H9 k9 eg9 L9 => ?_)
    have hJ10 := mJ_drop hJ eg8 eg9
    refine lv_aload_n hx hb dX12_dropFrames_25 rfl (lv_at hl 0 rfl) ?_
    refine m_geta x L9 89 rfl rfl (wm_in uf_254) dX12_dropFrames_26 ?_
    refine lv_iload_n hx hb dX12_dropFrames_29 rfl (lv_at hl 1 rfl) ?_
    refine lv_iconst (v := 0) hx hb dX12_dropFrames_30 (by decide) ?_
    refine m_st x L9 89 rfl q7 rfl (rj_89 (rg_w kc_0 rfl)) dX12_dropFrames_31 (fun g11 H11 k11 eg11 L11 => ?_)
    have hJ12 := mJ_89 hJ10 eg11 kc_0 rfl
    exact j32_3  g11 _ _ ls (mFr.upE (mFr.upE (mFr.upE mFr.rf eg8 rfl) eg9 rfl) eg11 rfl) L11 hJ12 (lv_sub hl [0] rfl)
theorem c_dropFrames (l : Launch) {G : mG} {h0 : Nat} {ad : Nat → Nat} (nn X : Int) (g : mSt) (p1 : Int32) (hnn : 2 ≤ nn ∧ nn ≤ 4) (hX : 0 ≤ X ∧ X ≤ 2000000000) (hJ : mJ nn [] g) (rp1 : rg (0) (319) p1) : Met l yX12_dropFrames (wm (Cond.code yX12_dropFrames cX12_dropFrames 2 none)) rm_dropFrames (va_Pc [.ref h0, .int p1] (mPre G h0 ad nn X g)) (mQv G h0 ad nn X (fun g1 => mFr [86, 87, 89] g g1 ∧ mJ nn [] g1 ∧ True)) 0 0 (mA h0 ad) := by
  refine Met.ofW (cc := cX12_dropFrames) (maxL := 2) (ret := none) (by decide) rfl ?_
  intro p e s m args below meth c s₁ B hml hv
  obtain ⟨rfl, hv⟩ := hv
  have hr := B.returns
  have hlocks := B.notSynchronized
  obtain ⟨x, L⟩ := m_start B rfl wm_X hv
  have hl := lv_entry ([.ref h0, .int p1]) (n := 2) (Nat.le_of_ble_eq_true rfl)
  rw [lg_entry_eq]
  generalize (lg_sl ([.ref h0, .int p1]) ++ List.replicate (2 - (lg_sl ([.ref h0, .int p1])).length) Slot.unset).toArray = ls at hl ⊢
  exact w_dropFrames x hml L hnn hX hJ p1 rp1 hl (fun pc' ls' g1 H1 locs1 hdg L hp => m_vret x L hr hlocks (Int.le_refl _) hp hdg)

def rm_over : Room := { frames := 1, cells := 0, slots := 0, locals := 21 }
theorem hd_over : yX12_over.cls = RX12 ∧ yX12_over.cls ≠ "java/lang/invoke/MethodHandle" ∧ yX12_over.cls ≠ "java/lang/invoke/VarHandle" ∧ (parseMethodDescriptor yX12_over.desc).map (fun d => d.parameters.length) = some 2 := by decide +kernel
set_option maxHeartbeats 4000000 in
set_option maxRecDepth 100000 in
theorem w_over {p : Program} {l : Launch} {e : Env} {s : State} {m : MethodId} {args : Array Value} {below : List Frame} {meth : Method} {c : Code} {H : Heap} {locs : List Loc} {Q : State → Prop} {ls : Array Slot} {G : mG} {h0 : Nat} {ad : Nat → Nat} {g : mSt} {H0 : Heap} {nn X : Int} (x : mX p c cX12_over s args (wm (Cond.code yX12_over cX12_over 3 none)) m G h0 ad) (hml : c.maxLocals = 3) (L : mL G h0 ad H0 nn X g H locs) (hnn : 2 ≤ nn ∧ nn ≤ 4) (hX : 0 ≤ X ∧ X ≤ 2000000000) (hJ : mJ nn [] g) (p1 : Int32) (p2 : Int32) (rp1 : rg (0) (319) p1) (hl : lv_has ls 3 [(0, .ref h0), (1, .int p1), (2, .int p2)]) (hQ : ∀ (pc' : Nat) (ls' : Array Slot) (g1 : mSt) (H1 : Heap) (locs1 : List Loc), decode cX12_over pc' = .ok (.return_, 1) → mL G h0 ad H0 nn X g1 H1 locs1 → (mFr [68, 74, 86, 87, 89] g g1 ∧ mJ nn [] g1 ∧ True) → W p l e rm_over s m args below meth c H1 locs1 0 0 Q (F0 m pc' ls' [])) : W p l e rm_over s m args below meth c H locs 0 0 Q (F0 m 0 ls []) := by
  have hx := x.1
  have hb := x.2.1
  refine lv_aload_n hx hb dX12_over_0 rfl (lv_at hl 0 rfl) ?_
  refine m_geta x L 68 rfl rfl (wm_in uf_192) dX12_over_1 ?_
  refine lv_iload_n hx hb dX12_over_4 rfl (lv_at hl 1 rfl) ?_
  refine lv_iconst (v := 0) hx hb dX12_over_5 (by decide) ?_
  refine m_st x L 68 rfl rp1 rfl (rj_68 (rg_w kc_0 rfl)) dX12_over_6 (fun g1 H1 k1 eg1 L1 => ?_)
  have hJ2 := mJ_68z hJ eg1
  refine lv_aload_n hx hb dX12_over_7 rfl (lv_at hl 0 rfl) ?_
  refine m_geta x L1 74 rfl rfl (wm_in uf_210) dX12_over_8 ?_
  refine lv_iload_n hx hb dX12_over_11 rfl (lv_at hl 1 rfl) ?_
  refine lv_iload_n hx hb dX12_over_12 rfl (lv_at hl 2 rfl) ?_
  refine m_st x L1 74 rfl rp1 rfl (rj_74 (rg_any p2)) dX12_over_13 (fun g3 H3 k3 eg3 L3 => ?_)
  refine lv_aload_n hx hb dX12_over_14 rfl (lv_at hl 0 rfl) ?_
  refine lv_iload_n hx hb dX12_over_15 rfl (lv_at hl 1 rfl) ?_
  refine m_cv (As := [.int p1]) (rest := []) x hml L3 (c_dropFrames l nn X g3 p1 hnn hX (mJ_up hJ2 eg3 rfl) (rg_w rp1 rfl)) (wm_V uc_dropFrames ul_485 ui_dropFrames us_dropFrames u_init) rfl ⟨rfl, rfl⟩ hd_dropFrames ⟨Nat.le_of_ble_eq_true rfl, Nat.le_of_ble_eq_true rfl⟩ rfl hl.1 rfl (lv_room (Nat.le_of_ble_eq_true rfl)) dX12_over_16 (fun  g4 H4 k4 hp4 L4 => ?_)
  exact hQ _ _ _ _ _ dX12_over_19 L4 ⟨(mFr.tr (mFr.upE (mFr.upE mFr.rf eg1 rfl) eg3 rfl) hp4.1 rfl), hp4.2.1, trivial⟩
theorem c_over (l : Launch) {G : mG} {h0 : Nat} {ad : Nat → Nat} (nn X : Int) (g : mSt) (p1 : Int32) (p2 : Int32) (hnn : 2 ≤ nn ∧ nn ≤ 4) (hX : 0 ≤ X ∧ X ≤ 2000000000) (hJ : mJ nn [] g) (rp1 : rg (0) (319) p1) : Met l yX12_over (wm (Cond.code yX12_over cX12_over 3 none)) rm_over (va_Pc [.ref h0, .int p1, .int p2] (mPre G h0 ad nn X g)) (mQv G h0 ad nn X (fun g1 => mFr [68, 74, 86, 87, 89] g g1 ∧ mJ nn [] g1 ∧ True)) 0 0 (mA h0 ad) := by
  refine Met.ofW (cc := cX12_over) (maxL := 3) (ret := none) (by decide) rfl ?_
  intro p e s m args below meth c s₁ B hml hv
  obtain ⟨rfl, hv⟩ := hv
  have hr := B.returns
  have hlocks := B.notSynchronized
  obtain ⟨x, L⟩ := m_start B rfl wm_X hv
  have hl := lv_entry ([.ref h0, .int p1, .int p2]) (n := 3) (Nat.le_of_ble_eq_true rfl)
  rw [lg_entry_eq]
  generalize (lg_sl ([.ref h0, .int p1, .int p2]) ++ List.replicate (3 - (lg_sl ([.ref h0, .int p1, .int p2])).length) Slot.unset).toArray = ls at hl ⊢
  exact w_over x hml L hnn hX hJ p1 p2 rp1 hl (fun pc' ls' g1 H1 locs1 hdg L hp => m_vret x L hr hlocks (Int.le_refl _) hp hdg)

def rm_sendText : Room := { frames := 0, cells := 0, slots := 0, locals := 0 }
theorem hd_sendText : yX12_sendText.cls = RX12 ∧ yX12_sendText.cls ≠ "java/lang/invoke/MethodHandle" ∧ yX12_sendText.cls ≠ "java/lang/invoke/VarHandle" ∧ (parseMethodDescriptor yX12_sendText.desc).map (fun d => d.parameters.length) = some 1 := by decide +kernel
set_option maxHeartbeats 4000000 in
set_option maxRecDepth 100000 in
theorem w_sendText {p : Program} {l : Launch} {e : Env} {s : State} {m : MethodId} {args : Array Value} {below : List Frame} {meth : Method} {c : Code} {H : Heap} {locs : List Loc} {Q : State → Prop} {ls : Array Slot} {G : mG} {h0 : Nat} {ad : Nat → Nat} {g : mSt} {H0 : Heap} {nn X : Int} (x : mX p c cX12_sendText s args (wm (Cond.code yX12_sendText cX12_sendText 3 none)) m G h0 ad) (hml : c.maxLocals = 3) (L : mL G h0 ad H0 nn X g H locs) (hnn : 2 ≤ nn ∧ nn ≤ 4) (hX : 0 ≤ X ∧ X ≤ 2000000000) (p1 : Int32) (rp1 : rg (0) (7) p1) (hl : lv_has ls 3 [(0, .ref h0), (1, .int p1)]) (hQ : ∀ (pc' : Nat) (ls' : Array Slot) (g1 : mSt) (H1 : Heap) (locs1 : List Loc), decode cX12_sendText pc' = .ok (.return_, 1) → mL G h0 ad H0 nn X g1 H1 locs1 → (mFr [58, 59, 60] g g1 ∧ True) → W p l e rm_sendText s m args below meth c H1 locs1 0 0 Q (F0 m pc' ls' [])) : W p l e rm_sendText s m args below meth c H locs 0 0 Q (F0 m 0 ls []) := by
  have hx := x.1
  have hb := x.2.1
  refine lv_aload_n hx hb dX12_sendText_0 rfl (lv_at hl 0 rfl) ?_
  refine m_geta x L 60 rfl rfl (wm_in uf_168) dX12_sendText_1 ?_
  refine lv_iload_n hx hb dX12_sendText_4 rfl (lv_at hl 1 rfl) ?_
  refine m_ld x L 60 rfl rp1 rfl dX12_sendText_5 (fun v1 ev1 wv1 => ?_)
  have rv1 : rg (0) (10) v1 := lj_60 wv1
  refine lv_bipush (v := 10) hx hb dX12_sendText_6 (by decide) ?_
  refine lv_icmp_ne (tgt := 12) hx hb dX12_sendText_8 (by decide) (fun c8_2 => ?_) (fun c8_2 => ?_)
  · skip
    have q3 : rg (0) (9) v1 := rg_neH c8_2 rv1 kc_10
    refine lv_aload_n hx hb dX12_sendText_12 rfl (lv_at hl 0 rfl) ?_
    refine m_geta x L 59 rfl rfl (wm_in uf_165) dX12_sendText_13 ?_
    refine lv_bipush (v := 10) hx hb dX12_sendText_16 (by decide) ?_
    refine lv_iload_n hx hb dX12_sendText_18 rfl (lv_at hl 1 rfl) ?_
    refine lv_imul hx hb dX12_sendText_19 ?_
    refine lv_topi (fun v4 ev4 => ?_)
    have rv4 : rg (0) (70) v4 := (rg_mulL ev4 kc_10 rp1 rfl).1
    refine lv_aload_n hx hb dX12_sendText_20 rfl (lv_at hl 0 rfl) ?_
    refine m_geta x L 60 rfl rfl (wm_in uf_168) dX12_sendText_21 ?_
    refine lv_iload_n hx hb dX12_sendText_24 rfl (lv_at hl 1 rfl) ?_
    refine m_ld x L 60 rfl rp1 rfl dX12_sendText_25 (fun v5 ev5 wv5 => ?_)
    refine m_top ((ev1).trans ev5.symm) ?_
    refine lv_iadd hx hb dX12_sendText_26 ?_
    refine lv_topi (fun v6 ev6 => ?_)
    have rv6 : rg (0) (79) v6 := (rg_add ev6 rv4 q3 rfl).1
    refine lv_aload_n hx hb dX12_sendText_27 rfl (lv_at hl 0 rfl) ?_
    refine m_geti x L 91 rfl rfl (wm_in uf_469) dX12_sendText_28 (fun v7 ev7 wv7 => ?_)
    have rv7 : rg (0) (60) v7 := lj_91 wv7
    refine m_st x L 59 rfl rv6 rfl (rj_59 (rg_w rv7 rfl)) dX12_sendText_31 (fun g8 H8 k8 eg8 L8 => ?_)
    refine lv_iconst (v := 0) hx hb dX12_sendText_32 (by decide) ?_
    refine lv_istore_n (lv' := [(2, .int (0 : Int32)), (0, .ref h0), (1, .int p1)]) hx hb dX12_sendText_33 rfl hl (by decide) rfl (fun ls hl => ?_)
    have j34_10 : ∀ (n : Nat) (a34_2_9 : Int32) (g10 : mSt) (H10 : Heap) (k10 : List Loc) (ls : Array Slot), mFr [58] g8 g10 → mL G h0 ad H0 nn X g10 H10 k10 → rg (0) (60) a34_2_9 → lv_has ls 3 [(0, .ref h0), (1, .int p1), (2, .int a34_2_9)] → ((60 : Int) - a34_2_9.toInt).toNat = n → W p l e rm_sendText s m args below meth c H10 k10 0 0 Q (F0 m 34 ls []) := by
      intro n
      induction n using Nat.strongRecOn with
      | _ n ih10 =>
        intro a34_2_9 g10 H10 k10 ls hF10 L10 ra34_2_9 hl hn10
        subst hn10
        refine lv_iload_n hx hb dX12_sendText_34 rfl (lv_at hl 2 rfl) ?_
        refine lv_aload_n hx hb dX12_sendText_35 rfl (lv_at hl 0 rfl) ?_
        refine m_geti x L10 91 rfl rfl (wm_in uf_469) dX12_sendText_36 (fun v11 ev11 wv11 => ?_)
        refine m_top (((mm_fr (mm_up ev7 eg8 rfl) hF10 rfl)).trans ev11.symm) ?_
        refine lv_icmp_ge (tgt := 76) hx hb dX12_sendText_39 (by decide) (fun c39_12 => ?_) (fun c39_12 => ?_)
        · skip
          refine lv_aload_n hx hb dX12_sendText_76 rfl (lv_at hl 0 rfl) ?_
          refine m_geta x L10 60 rfl rfl (wm_in uf_168) dX12_sendText_77 ?_
          refine lv_iload_n hx hb dX12_sendText_80 rfl (lv_at hl 1 rfl) ?_
          refine lv_dup2_11 hx hb dX12_sendText_81 rfl rfl ?_
          refine m_ld x L10 60 rfl rp1 rfl dX12_sendText_82 (fun v13 ev13 wv13 => ?_)
          refine m_top (((mm_fr (mm_up ev1 eg8 rfl) hF10 rfl)).trans ev13.symm) ?_
          refine lv_iconst (v := 1) hx hb dX12_sendText_83 (by decide) ?_
          refine lv_iadd hx hb dX12_sendText_84 ?_
          refine lv_topi (fun v14 ev14 => ?_)
          have rv14 : rg (1) (10) v14 := (rg_add ev14 q3 kc_1 rfl).1
          refine m_st x L10 60 rfl rp1 rfl (rj_60 (rg_w rv14 rfl)) dX12_sendText_85 (fun g15 H15 k15 eg15 L15 => ?_)
          exact hQ _ _ _ _ _ dX12_sendText_86 L15 ⟨(mFr.upE (mFr.tr (mFr.upE mFr.rf eg8 rfl) hF10 rfl) eg15 rfl), trivial⟩
        · skip
          have q16 : rg (0) (59) a34_2_9 := (rg_lt (rg_nle c39_12) ra34_2_9 rv7).1
          have q17 : rg (1) (60) v7 := (rg_lt (rg_nle c39_12) ra34_2_9 rv7).2
          refine lv_aload_n hx hb dX12_sendText_42 rfl (lv_at hl 0 rfl) ?_
          refine m_geta x L10 58 rfl rfl (wm_in uf_162) dX12_sendText_43 ?_
          refine lv_sipush (v := 600) hx hb dX12_sendText_46 (by decide) ?_
          refine lv_iload_n hx hb dX12_sendText_49 rfl (lv_at hl 1 rfl) ?_
          refine lv_imul hx hb dX12_sendText_50 ?_
          refine lv_topi (fun v18 ev18 => ?_)
          have rv18 : rg (0) (4200) v18 := (rg_mulL ev18 kc_600 rp1 rfl).1
          refine lv_bipush (v := 60) hx hb dX12_sendText_51 (by decide) ?_
          refine lv_aload_n hx hb dX12_sendText_53 rfl (lv_at hl 0 rfl) ?_
          refine m_geta x L10 60 rfl rfl (wm_in uf_168) dX12_sendText_54 ?_
          refine lv_iload_n hx hb dX12_sendText_57 rfl (lv_at hl 1 rfl) ?_
          refine m_ld x L10 60 rfl rp1 rfl dX12_sendText_58 (fun v19 ev19 wv19 => ?_)
          refine m_top (((mm_fr (mm_up ev1 eg8 rfl) hF10 rfl)).trans ev19.symm) ?_
          refine lv_imul hx hb dX12_sendText_59 ?_
          refine lv_topi (fun v20 ev20 => ?_)
          have rv20 : rg (0) (540) v20 := (rg_mulL ev20 kc_60 q3 rfl).1
          refine lv_iadd hx hb dX12_sendText_60 ?_
          refine lv_topi (fun v21 ev21 => ?_)
          have rv21 : rg (0) (4740) v21 := (rg_add ev21 rv18 rv20 rfl).1
          refine lv_iload_n hx hb dX12_sendText_61 rfl (lv_at hl 2 rfl) ?_
          refine lv_iadd hx hb dX12_sendText_62 ?_
          refine lv_topi (fun v22 ev22 => ?_)
          have rv22 : rg (0) (4799) v22 := (rg_add ev22 rv21 q16 rfl).1
          refine lv_aload_n hx hb dX12_sendText_63 rfl (lv_at hl 0 rfl) ?_
          refine m_geta x L10 90 rfl rfl (wm_in uf_257) dX12_sendText_64 ?_
          refine lv_iload_n hx hb dX12_sendText_67 rfl (lv_at hl 2 rfl) ?_
          refine m_ld x L10 90 rfl q16 rfl dX12_sendText_68 (fun v23 ev23 wv23 => ?_)
          have rv23 : rg (-2147483648) (2147483647) v23 := lj_90 wv23
          refine m_st x L10 58 rfl rv22 rfl (rj_58 (rg_any v23)) dX12_sendText_69 (fun g24 H24 k24 eg24 L24 => ?_)
          obtain ⟨v25, ev25, fv25⟩ := inc_ex a34_2_9 (1) (1 : Int32) (by decide)
          have rv25 : rg (1) (60) v25 := (rg_add ev25 q16 kc_1 rfl).1
          have tv25 := (rg_add ev25 q16 kc_1 rfl).2
          refine lv_iinc (v := v25) (lv' := [(2, .int v25), (0, .ref h0), (1, .int p1)]) hx hb dX12_sendText_70 hl (k := 2) rfl fv25 (by decide) rfl (fun ls hl => ?_)
          refine lv_goto (tgt := 34) hx hb dX12_sendText_73 (by decide) ?_
          exact ih10 _ (ms_up tv25 kc_1 q16 rfl rfl) v25 g24 _ _ ls (mFr.upE hF10 eg24 rfl) L24 (rg_w rv25 rfl) (lv_sub hl [1, 2, 0] rfl) rfl
    exact j34_10 _ (0 : Int32) g8 _ _ ls mFr.rf L8 (rg_w kc_0 rfl) (lv_sub hl [1, 2, 0] rfl) rfl
  · skip
    have q26 : rg (10) (10) v1 := (rg_eq c8_2 rv1 kc_10).1
    exact hQ _ _ _ _ _ dX12_sendText_11 L ⟨mFr.rf, trivial⟩
theorem c_sendText (l : Launch) {G : mG} {h0 : Nat} {ad : Nat → Nat} (nn X : Int) (g : mSt) (p1 : Int32) (hnn : 2 ≤ nn ∧ nn ≤ 4) (hX : 0 ≤ X ∧ X ≤ 2000000000) (rp1 : rg (0) (7) p1) : Met l yX12_sendText (wm (Cond.code yX12_sendText cX12_sendText 3 none)) rm_sendText (va_Pc [.ref h0, .int p1] (mPre G h0 ad nn X g)) (mQv G h0 ad nn X (fun g1 => mFr [58, 59, 60] g g1 ∧ True)) 0 0 (mA h0 ad) := by
  refine Met.ofW (cc := cX12_sendText) (maxL := 3) (ret := none) (by decide) rfl ?_
  intro p e s m args below meth c s₁ B hml hv
  obtain ⟨rfl, hv⟩ := hv
  have hr := B.returns
  have hlocks := B.notSynchronized
  obtain ⟨x, L⟩ := m_start B rfl wm_X hv
  have hl := lv_entry ([.ref h0, .int p1]) (n := 3) (Nat.le_of_ble_eq_true rfl)
  rw [lg_entry_eq]
  generalize (lg_sl ([.ref h0, .int p1]) ++ List.replicate (3 - (lg_sl ([.ref h0, .int p1])).length) Slot.unset).toArray = ls at hl ⊢
  exact w_sendText x hml L hnn hX p1 rp1 hl (fun pc' ls' g1 H1 locs1 hdg L hp => m_vret x L hr hlocks (Int.le_refl _) hp hdg)

def rm_joinedWith : Room := { frames := 0, cells := 0, slots := 0, locals := 0 }
theorem hd_joinedWith : yX12_joinedWith.cls = RX12 ∧ yX12_joinedWith.cls ≠ "java/lang/invoke/MethodHandle" ∧ yX12_joinedWith.cls ≠ "java/lang/invoke/VarHandle" ∧ (parseMethodDescriptor yX12_joinedWith.desc).map (fun d => d.parameters.length) = some 1 := by decide +kernel
set_option maxHeartbeats 4000000 in
set_option maxRecDepth 100000 in
theorem w_joinedWith {p : Program} {l : Launch} {e : Env} {s : State} {m : MethodId} {args : Array Value} {below : List Frame} {meth : Method} {c : Code} {H : Heap} {locs : List Loc} {Q : State → Prop} {ls : Array Slot} {G : mG} {h0 : Nat} {ad : Nat → Nat} {g : mSt} {H0 : Heap} {nn X : Int} (x : mX p c cX12_joinedWith s args (wm (Cond.code yX12_joinedWith cX12_joinedWith 3 (some .int))) m G h0 ad) (hml : c.maxLocals = 3) (L : mL G h0 ad H0 nn X g H locs) (hnn : 2 ≤ nn ∧ nn ≤ 4) (hX : 0 ≤ X ∧ X ≤ 2000000000) (p1 : Int32) (rp1 : rg (0) (319) p1) (hl : lv_has ls 3 [(0, .ref h0), (1, .int p1)]) (hQ : ∀ (pc' : Nat) (ls' : Array Slot) (r : Int32) (g1 : mSt) (H1 : Heap) (locs1 : List Loc), decode cX12_joinedWith pc' = .ok (.ireturn, 1) → mL G h0 ad H0 nn X g1 H1 locs1 → (mFr [] g g1 ∧ rg (-2) (319) r ∧ r.toInt < 80 * nn) → W p l e rm_joinedWith s m args below meth c H1 locs1 0 0 Q (F0 m pc' ls' [.int r])) : W p l e rm_joinedWith s m args below meth c H locs 0 0 Q (F0 m 0 ls []) := by
  have hx := x.1
  have hb := x.2.1
  refine lv_aload_n hx hb dX12_joinedWith_0 rfl (lv_at hl 0 rfl) ?_
  refine m_geta x L 77 rfl rfl (wm_in uf_219) dX12_joinedWith_1 ?_
  refine lv_iload_n hx hb dX12_joinedWith_4 rfl (lv_at hl 1 rfl) ?_
  refine m_ld x L 77 rfl rp1 rfl dX12_joinedWith_5 (fun v1 ev1 wv1 => ?_)
  have rv1 : rg (-2) 319 v1 := rg_pair hnn wv1
  have b80v1 : v1.toInt < 80 * nn := rg_p80 wv1
  refine lv_istore_n (lv' := [(2, .int v1), (0, .ref h0), (1, .int p1)]) hx hb dX12_joinedWith_6 rfl hl (by decide) rfl (fun ls hl => ?_)
  refine lv_iload_n hx hb dX12_joinedWith_7 rfl (lv_at hl 0 rfl) ?_
  refine lv_if_lt (tgt := 37) hx hb dX12_joinedWith_8 (by decide) (fun c8_2 => ?_) (fun c8_2 => ?_)
  · skip
    have q3 : rg (-2) (-1) v1 := (rg_lt c8_2 rv1 kc_0).1
    refine lv_bipush (v := (-2)) hx hb dX12_joinedWith_37 (by decide) ?_
    exact hQ _ _ (-2 : Int32) _ _ _ dX12_joinedWith_39 L ⟨mFr.rf, rg_w kc_m2 rfl, (nb_of kc_m2 rfl hnn)⟩
  · skip
    have q4 : rg (0) (319) v1 := (rg_le (rg_nlt c8_2) kc_0 rv1).2
    refine lv_aload_n hx hb dX12_joinedWith_11 rfl (lv_at hl 1 rfl) ?_
    refine m_geta x L 68 rfl rfl (wm_in uf_192) dX12_joinedWith_12 ?_
    refine lv_iload_n hx hb dX12_joinedWith_15 rfl (lv_at hl 2 rfl) ?_
    refine m_ld x L 68 rfl rp1 rfl dX12_joinedWith_16 (fun v5 ev5 wv5 => ?_)
    have rv5 : rg (0) (11) v5 := lj_68 wv5
    refine lv_bipush (v := 10) hx hb dX12_joinedWith_17 (by decide) ?_
    refine lv_icmp_ne (tgt := 37) hx hb dX12_joinedWith_19 (by decide) (fun c19_6 => ?_) (fun c19_6 => ?_)
    · skip
      refine lv_bipush (v := (-2)) hx hb dX12_joinedWith_37 (by decide) ?_
      exact hQ _ _ (-2 : Int32) _ _ _ dX12_joinedWith_39 L ⟨mFr.rf, rg_w kc_m2 rfl, (nb_of kc_m2 rfl hnn)⟩
    · skip
      have q7 : rg (10) (10) v5 := (rg_eq c19_6 rv5 kc_10).1
      refine lv_aload_n hx hb dX12_joinedWith_22 rfl (lv_at hl 1 rfl) ?_
      refine m_geta x L 68 rfl rfl (wm_in uf_192) dX12_joinedWith_23 ?_
      refine lv_iload_n hx hb dX12_joinedWith_26 rfl (lv_at hl 0 rfl) ?_
      refine m_ld x L 68 rfl q4 rfl dX12_joinedWith_27 (fun v8 ev8 wv8 => ?_)
      have rv8 : rg (0) (11) v8 := lj_68 wv8
      refine lv_bipush (v := 10) hx hb dX12_joinedWith_28 (by decide) ?_
      refine lv_icmp_ne (tgt := 37) hx hb dX12_joinedWith_30 (by decide) (fun c30_9 => ?_) (fun c30_9 => ?_)
      · skip
        refine lv_bipush (v := (-2)) hx hb dX12_joinedWith_37 (by decide) ?_
        exact hQ _ _ (-2 : Int32) _ _ _ dX12_joinedWith_39 L ⟨mFr.rf, rg_w kc_m2 rfl, (nb_of kc_m2 rfl hnn)⟩
      · skip
        have q10 : rg (10) (10) v8 := (rg_eq c30_9 rv8 kc_10).1
        refine lv_iload_n hx hb dX12_joinedWith_33 rfl (lv_at hl 0 rfl) ?_
        refine lv_goto (tgt := 39) hx hb dX12_joinedWith_34 (by decide) ?_
        exact hQ _ _ v1 _ _ _ dX12_joinedWith_39 L ⟨mFr.rf, rg_w q4 rfl, b80v1⟩
theorem c_joinedWith (l : Launch) {G : mG} {h0 : Nat} {ad : Nat → Nat} (nn X : Int) (g : mSt) (p1 : Int32) (hnn : 2 ≤ nn ∧ nn ≤ 4) (hX : 0 ≤ X ∧ X ≤ 2000000000) (rp1 : rg (0) (319) p1) : Met l yX12_joinedWith (wm (Cond.code yX12_joinedWith cX12_joinedWith 3 (some .int))) rm_joinedWith (va_Pc [.ref h0, .int p1] (mPre G h0 ad nn X g)) (mQi G h0 ad nn X (fun r g1 => mFr [] g g1 ∧ rg (-2) (319) r ∧ r.toInt < 80 * nn)) 0 0 (mA h0 ad) := by
  refine Met.ofW (cc := cX12_joinedWith) (maxL := 3) (ret := (some .int)) (by decide) rfl ?_
  intro p e s m args below meth c s₁ B hml hv
  obtain ⟨rfl, hv⟩ := hv
  have hr := B.returns
  have hlocks := B.notSynchronized
  obtain ⟨x, L⟩ := m_start B rfl wm_X hv
  have hl := lv_entry ([.ref h0, .int p1]) (n := 3) (Nat.le_of_ble_eq_true rfl)
  rw [lg_entry_eq]
  generalize (lg_sl ([.ref h0, .int p1]) ++ List.replicate (3 - (lg_sl ([.ref h0, .int p1])).length) Slot.unset).toArray = ls at hl ⊢
  exact w_joinedWith x hml L hnn hX p1 rp1 hl (fun pc' ls' r g1 H1 locs1 hdg L hp => m_iret x L hr hlocks (Int.le_refl _) hp hdg)

def rm_dropWaiting : Room := { frames := 0, cells := 0, slots := 0, locals := 0 }
theorem hd_dropWaiting : yX12_dropWaiting.cls = RX12 ∧ yX12_dropWaiting.cls ≠ "java/lang/invoke/MethodHandle" ∧ yX12_dropWaiting.cls ≠ "java/lang/invoke/VarHandle" ∧ (parseMethodDescriptor yX12_dropWaiting.desc).map (fun d => d.parameters.length) = some 1 := by decide +kernel
set_option maxHeartbeats 4000000 in
set_option maxRecDepth 100000 in
theorem w_dropWaiting {p : Program} {l : Launch} {e : Env} {s : State} {m : MethodId} {args : Array Value} {below : List Frame} {meth : Method} {c : Code} {H : Heap} {locs : List Loc} {Q : State → Prop} {ls : Array Slot} {G : mG} {h0 : Nat} {ad : Nat → Nat} {g : mSt} {H0 : Heap} {nn X : Int} (x : mX p c cX12_dropWaiting s args (wm (Cond.code yX12_dropWaiting cX12_dropWaiting 3 none)) m G h0 ad) (hml : c.maxLocals = 3) (L : mL G h0 ad H0 nn X g H locs) (hnn : 2 ≤ nn ∧ nn ≤ 4) (hX : 0 ≤ X ∧ X ≤ 2000000000) (p1 : Int32) (rp1 : rg (0) (7) p1) (hpre0 : rg (1) (10) (g 60 p1.toNatClampNeg)) (hl : lv_has ls 3 [(0, .ref h0), (1, .int p1)]) (hQ : ∀ (pc' : Nat) (ls' : Array Slot) (g1 : mSt) (H1 : Heap) (locs1 : List Loc), decode cX12_dropWaiting pc' = .ok (.return_, 1) → mL G h0 ad H0 nn X g1 H1 locs1 → (mFr [58, 59, 60] g g1 ∧ ((g 60 p1.toNatClampNeg).toInt + -1 ≤ (g1 60 p1.toNatClampNeg).toInt ∧ (g1 60 p1.toNatClampNeg).toInt ≤ (g 60 p1.toNatClampNeg).toInt + -1)) → W p l e rm_dropWaiting s m args below meth c H1 locs1 0 0 Q (F0 m pc' ls' [])) : W p l e rm_dropWaiting s m args below meth c H locs 0 0 Q (F0 m 0 ls []) := by
  have hx := x.1
  have hb := x.2.1
  obtain ⟨z0, ez0⟩ : ∃ y : Int32, y = g 60 p1.toNatClampNeg := ⟨_, rfl⟩
  have rz0 : rg (1) (10) z0 := rg_eqv ez0.symm hpre0
  have sz0 := congrArg Int32.toInt ez0
  have up1 : (0 : Int) ≤ p1.toInt ∧ p1.toInt ≤ 7 := rp1
  refine lv_aload_n hx hb dX12_dropWaiting_0 rfl (lv_at hl 0 rfl) ?_
  refine m_geta x L 60 rfl rfl (wm_in uf_168) dX12_dropWaiting_1 ?_
  refine lv_iload_n hx hb dX12_dropWaiting_4 rfl (lv_at hl 1 rfl) ?_
  refine lv_dup2_11 hx hb dX12_dropWaiting_5 rfl rfl ?_
  refine m_ld x L 60 rfl rp1 rfl dX12_dropWaiting_6 (fun v1 ev1 wv1 => ?_)
  refine m_top ((ez0).trans ev1.symm) ?_
  refine lv_iconst (v := 1) hx hb dX12_dropWaiting_7 (by decide) ?_
  refine lv_isub hx hb dX12_dropWaiting_8 ?_
  refine lv_topi (fun v2 ev2 => ?_)
  have rv2 : rg (0) (9) v2 := (rg_sub ev2 rz0 kc_1 rfl).1
  have tv2 := (rg_sub ev2 rz0 kc_1 rfl).2
  have y3 : (1 : Int32).toInt = 1 := by decide
  have uv2 : (0 : Int) ≤ v2.toInt ∧ v2.toInt ≤ 9 := rv2
  refine m_st x L 60 rfl rp1 rfl (rj_60 (rg_w rv2 rfl)) dX12_dropWaiting_9 (fun g4 H4 k4 eg4 L4 => ?_)
  refine lv_iconst (v := 0) hx hb dX12_dropWaiting_10 (by decide) ?_
  refine lv_istore_n (lv' := [(2, .int (0 : Int32)), (0, .ref h0), (1, .int p1)]) hx hb dX12_dropWaiting_11 rfl hl (by decide) rfl (fun ls hl => ?_)
  have j12_6 : ∀ (n : Nat) (a12_2_5 : Int32) (g6 : mSt) (H6 : Heap) (k6 : List Loc) (ls : Array Slot), mFr [59] g4 g6 → mL G h0 ad H0 nn X g6 H6 k6 → rg (0) (9) a12_2_5 → lv_has ls 3 [(0, .ref h0), (1, .int p1), (2, .int a12_2_5)] → ((9 : Int) - a12_2_5.toInt).toNat = n → W p l e rm_dropWaiting s m args below meth c H6 k6 0 0 Q (F0 m 12 ls []) := by
    intro n
    induction n using Nat.strongRecOn with
    | _ n ih6 =>
      intro a12_2_5 g6 H6 k6 ls hF6 L6 ra12_2_5 hl hn6
      subst hn6
      have ua12_2_5 : (0 : Int) ≤ a12_2_5.toInt ∧ a12_2_5.toInt ≤ 9 := ra12_2_5
      refine lv_iload_n hx hb dX12_dropWaiting_12 rfl (lv_at hl 2 rfl) ?_
      refine lv_aload_n hx hb dX12_dropWaiting_13 rfl (lv_at hl 0 rfl) ?_
      refine m_geta x L6 60 rfl rfl (wm_in uf_168) dX12_dropWaiting_14 ?_
      refine lv_iload_n hx hb dX12_dropWaiting_17 rfl (lv_at hl 1 rfl) ?_
      refine m_ld x L6 60 rfl rp1 rfl dX12_dropWaiting_18 (fun v7 ev7 wv7 => ?_)
      refine m_top (((mm_fr (mm_st eg4) hF6 rfl)).trans ev7.symm) ?_
      refine lv_icmp_ge (tgt := 52) hx hb dX12_dropWaiting_19 (by decide) (fun c19_8 => ?_) (fun c19_8 => ?_)
      · skip
        have ic19_8 := Int32.le_iff_toInt_le.mp c19_8
        refine lv_iconst (v := 0) hx hb dX12_dropWaiting_52 (by decide) ?_
        refine lv_istore_n (lv' := [(2, .int (0 : Int32)), (0, .ref h0), (1, .int p1)]) hx hb dX12_dropWaiting_53 rfl hl (by decide) rfl (fun ls hl => ?_)
        have j54_10 : ∀ (n : Nat) (a54_2_9 : Int32) (g10 : mSt) (H10 : Heap) (k10 : List Loc) (ls : Array Slot), mFr [58] g6 g10 → mL G h0 ad H0 nn X g10 H10 k10 → rg (0) (1000) a54_2_9 → lv_has ls 3 [(0, .ref h0), (1, .int p1), (2, .int a54_2_9)] → ((1000 : Int) - a54_2_9.toInt).toNat = n → W p l e rm_dropWaiting s m args below meth c H10 k10 0 0 Q (F0 m 54 ls []) := by
          intro n
          induction n using Nat.strongRecOn with
          | _ n ih10 =>
            intro a54_2_9 g10 H10 k10 ls hF10 L10 ra54_2_9 hl hn10
            subst hn10
            have ua54_2_9 : (0 : Int) ≤ a54_2_9.toInt ∧ a54_2_9.toInt ≤ 1000 := ra54_2_9
            refine lv_iload_n hx hb dX12_dropWaiting_54 rfl (lv_at hl 2 rfl) ?_
            refine lv_bipush (v := 60) hx hb dX12_dropWaiting_55 (by decide) ?_
            refine lv_aload_n hx hb dX12_dropWaiting_57 rfl (lv_at hl 0 rfl) ?_
            refine m_geta x L10 60 rfl rfl (wm_in uf_168) dX12_dropWaiting_58 ?_
            refine lv_iload_n hx hb dX12_dropWaiting_61 rfl (lv_at hl 1 rfl) ?_
            refine m_ld x L10 60 rfl rp1 rfl dX12_dropWaiting_62 (fun v11 ev11 wv11 => ?_)
            refine m_top (((mm_fr (mm_fr (mm_st eg4) hF6 rfl) hF10 rfl)).trans ev11.symm) ?_
            refine lv_imul hx hb dX12_dropWaiting_63 ?_
            refine lv_topi (fun v12 ev12 => ?_)
            have rv12 : rg (0) (540) v12 := (rg_mulL ev12 kc_60 rv2 rfl).1
            have tv12 := (rg_mulL ev12 kc_60 rv2 rfl).2
            have y13 : (60 : Int32).toInt = 60 := by decide
            have uv12 : (0 : Int) ≤ v12.toInt ∧ v12.toInt ≤ 540 := rv12
            refine lv_icmp_ge (tgt := 100) hx hb dX12_dropWaiting_64 (by decide) (fun c64_14 => ?_) (fun c64_14 => ?_)
            · skip
              have ic64_14 := Int32.le_iff_toInt_le.mp c64_14
              exact hQ _ _ _ _ _ dX12_dropWaiting_100 L10 ⟨(mFr.tr (mFr.tr (mFr.upE mFr.rf eg4 rfl) hF6 rfl) hF10 rfl), rel_of (mm_fr (mm_fr (mm_st eg4) hF6 rfl) hF10 rfl) (by omega)⟩
            · skip
              have ic64_14 := Int32.lt_iff_toInt_lt.mp (rg_nle c64_14)
              have q15 : rg (0) (539) a54_2_9 := (rg_lt (rg_nle c64_14) ra54_2_9 rv12).1
              have uq15 : (0 : Int) ≤ a54_2_9.toInt ∧ a54_2_9.toInt ≤ 539 := q15
              have q16 : rg (1) (540) v12 := (rg_lt (rg_nle c64_14) ra54_2_9 rv12).2
              have uq16 : (1 : Int) ≤ v12.toInt ∧ v12.toInt ≤ 540 := q16
              refine lv_aload_n hx hb dX12_dropWaiting_67 rfl (lv_at hl 0 rfl) ?_
              refine m_geta x L10 58 rfl rfl (wm_in uf_162) dX12_dropWaiting_68 ?_
              refine lv_sipush (v := 600) hx hb dX12_dropWaiting_71 (by decide) ?_
              refine lv_iload_n hx hb dX12_dropWaiting_74 rfl (lv_at hl 1 rfl) ?_
              refine lv_imul hx hb dX12_dropWaiting_75 ?_
              refine lv_topi (fun v17 ev17 => ?_)
              have rv17 : rg (0) (4200) v17 := (rg_mulL ev17 kc_600 rp1 rfl).1
              have tv17 := (rg_mulL ev17 kc_600 rp1 rfl).2
              have y18 : (600 : Int32).toInt = 600 := by decide
              have uv17 : (0 : Int) ≤ v17.toInt ∧ v17.toInt ≤ 4200 := rv17
              refine lv_iload_n hx hb dX12_dropWaiting_76 rfl (lv_at hl 2 rfl) ?_
              refine lv_iadd hx hb dX12_dropWaiting_77 ?_
              refine lv_topi (fun v19 ev19 => ?_)
              have rv19 : rg (0) (4739) v19 := (rg_add ev19 rv17 q15 rfl).1
              have tv19 := (rg_add ev19 rv17 q15 rfl).2
              have uv19 : (0 : Int) ≤ v19.toInt ∧ v19.toInt ≤ 4739 := rv19
              refine lv_aload_n hx hb dX12_dropWaiting_78 rfl (lv_at hl 0 rfl) ?_
              refine m_geta x L10 58 rfl rfl (wm_in uf_162) dX12_dropWaiting_79 ?_
              refine lv_sipush (v := 600) hx hb dX12_dropWaiting_82 (by decide) ?_
              refine lv_iload_n hx hb dX12_dropWaiting_85 rfl (lv_at hl 1 rfl) ?_
              refine lv_imul hx hb dX12_dropWaiting_86 ?_
              refine m_top ev17 ?_
              refine lv_iload_n hx hb dX12_dropWaiting_87 rfl (lv_at hl 2 rfl) ?_
              refine lv_iadd hx hb dX12_dropWaiting_88 ?_
              refine m_top ev19 ?_
              refine lv_bipush (v := 60) hx hb dX12_dropWaiting_89 (by decide) ?_
              refine lv_iadd hx hb dX12_dropWaiting_91 ?_
              refine lv_topi (fun v20 ev20 => ?_)
              have rv20 : rg (60) (4799) v20 := (rg_add ev20 rv19 kc_60 rfl).1
              have tv20 := (rg_add ev20 rv19 kc_60 rfl).2
              have y21 : (60 : Int32).toInt = 60 := by decide
              have uv20 : (60 : Int) ≤ v20.toInt ∧ v20.toInt ≤ 4799 := rv20
              refine m_ld x L10 58 rfl rv20 rfl dX12_dropWaiting_92 (fun v22 ev22 wv22 => ?_)
              have rv22 : rg (-2147483648) (2147483647) v22 := lj_58 wv22
              have uv22 : (-2147483648 : Int) ≤ v22.toInt ∧ v22.toInt ≤ 2147483647 := rv22
              refine m_st x L10 58 rfl rv19 rfl (rj_58 (rg_any v22)) dX12_dropWaiting_93 (fun g23 H23 k23 eg23 L23 => ?_)
              obtain ⟨v24, ev24, fv24⟩ := inc_ex a54_2_9 (1) (1 : Int32) (by decide)
              have rv24 : rg (1) (540) v24 := (rg_add ev24 q15 kc_1 rfl).1
              have tv24 := (rg_add ev24 q15 kc_1 rfl).2
              have yv24 : (1 : Int32).toInt = 1 := by decide
              refine lv_iinc (v := v24) (lv' := [(2, .int v24), (0, .ref h0), (1, .int p1)]) hx hb dX12_dropWaiting_94 hl (k := 2) rfl fv24 (by decide) rfl (fun ls hl => ?_)
              refine lv_goto (tgt := 54) hx hb dX12_dropWaiting_97 (by decide) ?_
              exact ih10 _ (ms_up tv24 kc_1 q15 rfl rfl) v24 g23 _ _ ls (mFr.upE hF10 eg23 rfl) L23 (rg_w rv24 rfl) (lv_sub hl [1, 2, 0] rfl) rfl
        have y25 : (0 : Int32).toInt = 0 := by decide
        exact j54_10 _ (0 : Int32) g6 _ _ ls mFr.rf L6 (rg_w kc_0 rfl) (lv_sub hl [1, 2, 0] rfl) rfl
      · skip
        have ic19_8 := Int32.lt_iff_toInt_lt.mp (rg_nle c19_8)
        have q26 : rg (0) (8) a12_2_5 := (rg_lt (rg_nle c19_8) ra12_2_5 rv2).1
        have uq26 : (0 : Int) ≤ a12_2_5.toInt ∧ a12_2_5.toInt ≤ 8 := q26
        have q27 : rg (1) (9) v2 := (rg_lt (rg_nle c19_8) ra12_2_5 rv2).2
        have uq27 : (1 : Int) ≤ v2.toInt ∧ v2.toInt ≤ 9 := q27
        refine lv_aload_n hx hb dX12_dropWaiting_22 rfl (lv_at hl 0 rfl) ?_
        refine m_geta x L6 59 rfl rfl (wm_in uf_165) dX12_dropWaiting_23 ?_
        refine lv_bipush (v := 10) hx hb dX12_dropWaiting_26 (by decide) ?_
        refine lv_iload_n hx hb dX12_dropWaiting_28 rfl (lv_at hl 1 rfl) ?_
        refine lv_imul hx hb dX12_dropWaiting_29 ?_
        refine lv_topi (fun v28 ev28 => ?_)
        have rv28 : rg (0) (70) v28 := (rg_mulL ev28 kc_10 rp1 rfl).1
        have tv28 := (rg_mulL ev28 kc_10 rp1 rfl).2
        have y29 : (10 : Int32).toInt = 10 := by decide
        have uv28 : (0 : Int) ≤ v28.toInt ∧ v28.toInt ≤ 70 := rv28
        refine lv_iload_n hx hb dX12_dropWaiting_30 rfl (lv_at hl 2 rfl) ?_
        refine lv_iadd hx hb dX12_dropWaiting_31 ?_
        refine lv_topi (fun v30 ev30 => ?_)
        have rv30 : rg (0) (78) v30 := (rg_add ev30 rv28 q26 rfl).1
        have tv30 := (rg_add ev30 rv28 q26 rfl).2
        have uv30 : (0 : Int) ≤ v30.toInt ∧ v30.toInt ≤ 78 := rv30
        refine lv_aload_n hx hb dX12_dropWaiting_32 rfl (lv_at hl 0 rfl) ?_
        refine m_geta x L6 59 rfl rfl (wm_in uf_165) dX12_dropWaiting_33 ?_
        refine lv_bipush (v := 10) hx hb dX12_dropWaiting_36 (by decide) ?_
        refine lv_iload_n hx hb dX12_dropWaiting_38 rfl (lv_at hl 1 rfl) ?_
        refine lv_imul hx hb dX12_dropWaiting_39 ?_
        refine m_top ev28 ?_
        refine lv_iload_n hx hb dX12_dropWaiting_40 rfl (lv_at hl 2 rfl) ?_
        refine lv_iadd hx hb dX12_dropWaiting_41 ?_
        refine m_top ev30 ?_
        refine lv_iconst (v := 1) hx hb dX12_dropWaiting_42 (by decide) ?_
        refine lv_iadd hx hb dX12_dropWaiting_43 ?_
        refine lv_topi (fun v31 ev31 => ?_)
        have rv31 : rg (1) (79) v31 := (rg_add ev31 rv30 kc_1 rfl).1
        have tv31 := (rg_add ev31 rv30 kc_1 rfl).2
        have y32 : (1 : Int32).toInt = 1 := by decide
        have uv31 : (1 : Int) ≤ v31.toInt ∧ v31.toInt ≤ 79 := rv31
        refine m_ld x L6 59 rfl rv31 rfl dX12_dropWaiting_44 (fun v33 ev33 wv33 => ?_)
        have rv33 : rg (0) (60) v33 := lj_59 wv33
        have uv33 : (0 : Int) ≤ v33.toInt ∧ v33.toInt ≤ 60 := rv33
        refine m_st x L6 59 rfl rv30 rfl (rj_59 (rg_w rv33 rfl)) dX12_dropWaiting_45 (fun g34 H34 k34 eg34 L34 => ?_)
        obtain ⟨v35, ev35, fv35⟩ := inc_ex a12_2_5 (1) (1 : Int32) (by decide)
        have rv35 : rg (1) (9) v35 := (rg_add ev35 q26 kc_1 rfl).1
        have tv35 := (rg_add ev35 q26 kc_1 rfl).2
        have yv35 : (1 : Int32).toInt = 1 := by decide
        refine lv_iinc (v := v35) (lv' := [(2, .int v35), (0, .ref h0), (1, .int p1)]) hx hb dX12_dropWaiting_46 hl (k := 2) rfl fv35 (by decide) rfl (fun ls hl => ?_)
        refine lv_goto (tgt := 12) hx hb dX12_dropWaiting_49 (by decide) ?_
        exact ih6 _ (ms_up tv35 kc_1 q26 rfl rfl) v35 g34 _ _ ls (mFr.upE hF6 eg34 rfl) L34 (rg_w rv35 rfl) (lv_sub hl [1, 2, 0] rfl) rfl
  have y36 : (0 : Int32).toInt = 0 := by decide
  exact j12_6 _ (0 : Int32) g4 _ _ ls mFr.rf L4 (rg_w kc_0 rfl) (lv_sub hl [1, 2, 0] rfl) rfl
theorem c_dropWaiting (l : Launch) {G : mG} {h0 : Nat} {ad : Nat → Nat} (nn X : Int) (g : mSt) (p1 : Int32) (hnn : 2 ≤ nn ∧ nn ≤ 4) (hX : 0 ≤ X ∧ X ≤ 2000000000) (rp1 : rg (0) (7) p1) (hpre0 : rg (1) (10) (g 60 p1.toNatClampNeg)) : Met l yX12_dropWaiting (wm (Cond.code yX12_dropWaiting cX12_dropWaiting 3 none)) rm_dropWaiting (va_Pc [.ref h0, .int p1] (mPre G h0 ad nn X g)) (mQv G h0 ad nn X (fun g1 => mFr [58, 59, 60] g g1 ∧ ((g 60 p1.toNatClampNeg).toInt + -1 ≤ (g1 60 p1.toNatClampNeg).toInt ∧ (g1 60 p1.toNatClampNeg).toInt ≤ (g 60 p1.toNatClampNeg).toInt + -1))) 0 0 (mA h0 ad) := by
  refine Met.ofW (cc := cX12_dropWaiting) (maxL := 3) (ret := none) (by decide) rfl ?_
  intro p e s m args below meth c s₁ B hml hv
  obtain ⟨rfl, hv⟩ := hv
  have hr := B.returns
  have hlocks := B.notSynchronized
  obtain ⟨x, L⟩ := m_start B rfl wm_X hv
  have hl := lv_entry ([.ref h0, .int p1]) (n := 3) (Nat.le_of_ble_eq_true rfl)
  rw [lg_entry_eq]
  generalize (lg_sl ([.ref h0, .int p1]) ++ List.replicate (3 - (lg_sl ([.ref h0, .int p1])).length) Slot.unset).toArray = ls at hl ⊢
  exact w_dropWaiting x hml L hnn hX p1 rp1 hpre0 hl (fun pc' ls' g1 H1 locs1 hdg L hp => m_vret x L hr hlocks (Int.le_refl _) hp hdg)

def rm_acknowledge : Room := { frames := 0, cells := 0, slots := 0, locals := 0 }
theorem hd_acknowledge : yX12_acknowledge.cls = RX12 ∧ yX12_acknowledge.cls ≠ "java/lang/invoke/MethodHandle" ∧ yX12_acknowledge.cls ≠ "java/lang/invoke/VarHandle" ∧ (parseMethodDescriptor yX12_acknowledge.desc).map (fun d => d.parameters.length) = some 2 := by decide +kernel
set_option maxHeartbeats 4000000 in
set_option maxRecDepth 100000 in
theorem w_acknowledge {p : Program} {l : Launch} {e : Env} {s : State} {m : MethodId} {args : Array Value} {below : List Frame} {meth : Method} {c : Code} {H : Heap} {locs : List Loc} {Q : State → Prop} {ls : Array Slot} {G : mG} {h0 : Nat} {ad : Nat → Nat} {g : mSt} {H0 : Heap} {nn X : Int} (x : mX p c cX12_acknowledge s args (wm (Cond.code yX12_acknowledge cX12_acknowledge 4 none)) m G h0 ad) (hml : c.maxLocals = 4) (L : mL G h0 ad H0 nn X g H locs) (hnn : 2 ≤ nn ∧ nn ≤ 4) (hX : 0 ≤ X ∧ X ≤ 2000000000) (p1 : Int32) (p2 : Int32) (rp1 : rg (0) (7) p1) (rp2 : rg (0) (2147483647) p2) (hl : lv_has ls 4 [(0, .ref h0), (1, .int p1), (2, .int p2)]) (hQ : ∀ (pc' : Nat) (ls' : Array Slot) (g1 : mSt) (H1 : Heap) (locs1 : List Loc), decode cX12_acknowledge pc' = .ok (.return_, 1) → mL G h0 ad H0 nn X g1 H1 locs1 → (mFr [42, 64] g g1 ∧ True) → W p l e rm_acknowledge s m args below meth c H1 locs1 0 0 Q (F0 m pc' ls' [])) : W p l e rm_acknowledge s m args below meth c H locs 0 0 Q (F0 m 0 ls []) := by
  have hx := x.1
  have hb := x.2.1
  refine lv_aload_n hx hb dX12_acknowledge_0 rfl (lv_at hl 0 rfl) ?_
  refine m_geta x L 42 rfl rfl (wm_in uf_113) dX12_acknowledge_1 ?_
  refine lv_iload_n hx hb dX12_acknowledge_4 rfl (lv_at hl 1 rfl) ?_
  refine m_ld x L 42 rfl rp1 rfl dX12_acknowledge_5 (fun v1 ev1 wv1 => ?_)
  have rv1 : rg (0) (2147483647) v1 := lj_42 wv1
  refine lv_istore_n (lv' := [(3, .int v1), (0, .ref h0), (1, .int p1), (2, .int p2)]) hx hb dX12_acknowledge_6 rfl hl (by decide) rfl (fun ls hl => ?_)
  have j7_3 : ∀ (n : Nat) (a7_3_2 : Int32) (g3 : mSt) (H3 : Heap) (k3 : List Loc) (ls : Array Slot), mFr [64] g g3 → mL G h0 ad H0 nn X g3 H3 k3 → rg (0) (2147483647) a7_3_2 → lv_has ls 4 [(0, .ref h0), (1, .int p1), (2, .int p2), (3, .int a7_3_2)] → ((2147483647 : Int) - a7_3_2.toInt).toNat = n → W p l e rm_acknowledge s m args below meth c H3 k3 0 0 Q (F0 m 7 ls []) := by
    intro n
    induction n using Nat.strongRecOn with
    | _ n ih3 =>
      intro a7_3_2 g3 H3 k3 ls hF3 L3 ra7_3_2 hl hn3
      subst hn3
      refine lv_iload_n hx hb dX12_acknowledge_7 rfl (lv_at hl 3 rfl) ?_
      refine lv_iload_n hx hb dX12_acknowledge_8 rfl (lv_at hl 2 rfl) ?_
      refine lv_icmp_ge (tgt := 33) hx hb dX12_acknowledge_9 (by decide) (fun c9_4 => ?_) (fun c9_4 => ?_)
      · skip
        refine lv_aload_n hx hb dX12_acknowledge_33 rfl (lv_at hl 0 rfl) ?_
        refine m_geta x L3 42 rfl rfl (wm_in uf_113) dX12_acknowledge_34 ?_
        refine lv_iload_n hx hb dX12_acknowledge_37 rfl (lv_at hl 1 rfl) ?_
        refine lv_iload_n hx hb dX12_acknowledge_38 rfl (lv_at hl 2 rfl) ?_
        refine m_st x L3 42 rfl rp1 rfl (rj_42 (rg_w rp2 rfl)) dX12_acknowledge_39 (fun g5 H5 k5 eg5 L5 => ?_)
        exact hQ _ _ _ _ _ dX12_acknowledge_40 L5 ⟨(mFr.upE (mFr.tr mFr.rf hF3 rfl) eg5 rfl), trivial⟩
      · skip
        have q6 : rg (0) (2147483646) a7_3_2 := (rg_lt (rg_nle c9_4) ra7_3_2 rp2).1
        have q7 : rg (1) (2147483647) p2 := (rg_lt (rg_nle c9_4) ra7_3_2 rp2).2
        refine lv_aload_n hx hb dX12_acknowledge_12 rfl (lv_at hl 0 rfl) ?_
        refine m_geta x L3 64 rfl rfl (wm_in uf_180) dX12_acknowledge_13 ?_
        refine lv_bipush (v := 8) hx hb dX12_acknowledge_16 (by decide) ?_
        refine lv_iload_n hx hb dX12_acknowledge_18 rfl (lv_at hl 1 rfl) ?_
        refine lv_imul hx hb dX12_acknowledge_19 ?_
        refine lv_topi (fun v8 ev8 => ?_)
        have rv8 : rg (0) (56) v8 := (rg_mulL ev8 kc_8 rp1 rfl).1
        refine lv_iload_n hx hb dX12_acknowledge_20 rfl (lv_at hl 3 rfl) ?_
        refine lv_bipush (v := 8) hx hb dX12_acknowledge_21 (by decide) ?_
        refine lv_irem hx hb dX12_acknowledge_23 (by decide) ?_
        refine lv_topi (fun v9 ev9 => ?_)
        have rv9 : rg (0) (7) v9 := (rg_rem ev9 q6 kc_8 rfl).1
        refine lv_iadd hx hb dX12_acknowledge_24 ?_
        refine lv_topi (fun v10 ev10 => ?_)
        have rv10 : rg (0) (63) v10 := (rg_add ev10 rv8 rv9 rfl).1
        refine lv_iconst (v := 0) hx hb dX12_acknowledge_25 (by decide) ?_
        refine m_stz x L3 64 rfl rv10 rfl (rg_w kc_0 rfl) (rj_64 (rg_w kc_0 rfl)) dX12_acknowledge_26 (fun g11 H11 k11 eg11 L11 => ?_)
        obtain ⟨v12, ev12, fv12⟩ := inc_ex a7_3_2 (1) (1 : Int32) (by decide)
        have rv12 : rg (1) (2147483647) v12 := (rg_add ev12 q6 kc_1 rfl).1
        have tv12 := (rg_add ev12 q6 kc_1 rfl).2
        refine lv_iinc (v := v12) (lv' := [(3, .int v12), (0, .ref h0), (1, .int p1), (2, .int p2)]) hx hb dX12_acknowledge_27 hl (k := 3) rfl fv12 (by decide) rfl (fun ls hl => ?_)
        refine lv_goto (tgt := 7) hx hb dX12_acknowledge_30 (by decide) ?_
        exact ih3 _ (ms_up tv12 kc_1 q6 rfl rfl) v12 g11 _ _ ls (mFr.upE hF3 eg11 rfl) L11 (rg_w rv12 rfl) (lv_sub hl [1, 2, 3, 0] rfl) rfl
  exact j7_3 _ v1 g _ _ ls mFr.rf L (rg_w rv1 rfl) (lv_sub hl [1, 2, 3, 0] rfl) rfl
theorem c_acknowledge (l : Launch) {G : mG} {h0 : Nat} {ad : Nat → Nat} (nn X : Int) (g : mSt) (p1 : Int32) (p2 : Int32) (hnn : 2 ≤ nn ∧ nn ≤ 4) (hX : 0 ≤ X ∧ X ≤ 2000000000) (rp1 : rg (0) (7) p1) (rp2 : rg (0) (2147483647) p2) : Met l yX12_acknowledge (wm (Cond.code yX12_acknowledge cX12_acknowledge 4 none)) rm_acknowledge (va_Pc [.ref h0, .int p1, .int p2] (mPre G h0 ad nn X g)) (mQv G h0 ad nn X (fun g1 => mFr [42, 64] g g1 ∧ True)) 0 0 (mA h0 ad) := by
  refine Met.ofW (cc := cX12_acknowledge) (maxL := 4) (ret := none) (by decide) rfl ?_
  intro p e s m args below meth c s₁ B hml hv
  obtain ⟨rfl, hv⟩ := hv
  have hr := B.returns
  have hlocks := B.notSynchronized
  obtain ⟨x, L⟩ := m_start B rfl wm_X hv
  have hl := lv_entry ([.ref h0, .int p1, .int p2]) (n := 4) (Nat.le_of_ble_eq_true rfl)
  rw [lg_entry_eq]
  generalize (lg_sl ([.ref h0, .int p1, .int p2]) ++ List.replicate (4 - (lg_sl ([.ref h0, .int p1, .int p2])).length) Slot.unset).toArray = ls at hl ⊢
  exact w_acknowledge x hml L hnn hX p1 p2 rp1 rp2 hl (fun pc' ls' g1 H1 locs1 hdg L hp => m_vret x L hr hlocks (Int.le_refl _) hp hdg)

def rm_checkWhole : Room := { frames := 1, cells := 0, slots := 0, locals := 23 }
theorem hd_checkWhole : yX12_checkWhole.cls = RX12 ∧ yX12_checkWhole.cls ≠ "java/lang/invoke/MethodHandle" ∧ yX12_checkWhole.cls ≠ "java/lang/invoke/VarHandle" ∧ (parseMethodDescriptor yX12_checkWhole.desc).map (fun d => d.parameters.length) = some 1 := by decide +kernel
set_option maxHeartbeats 4000000 in
set_option maxRecDepth 100000 in
theorem w_checkWhole {p : Program} {l : Launch} {e : Env} {s : State} {m : MethodId} {args : Array Value} {below : List Frame} {meth : Method} {c : Code} {H : Heap} {locs : List Loc} {Q : State → Prop} {ls : Array Slot} {G : mG} {h0 : Nat} {ad : Nat → Nat} {g : mSt} {H0 : Heap} {nn X : Int} (x : mX p c cX12_checkWhole s args (wm (Cond.code yX12_checkWhole cX12_checkWhole 6 (some .int))) m G h0 ad) (hml : c.maxLocals = 6) (L : mL G h0 ad H0 nn X g H locs) (hnn : 2 ≤ nn ∧ nn ≤ 4) (hX : 0 ≤ X ∧ X ≤ 2000000000) (p1 : Int32) (rp1 : rg (48) (240) p1) (hl : lv_has ls 6 [(0, .ref h0), (1, .int p1)]) (hQ : ∀ (pc' : Nat) (ls' : Array Slot) (r : Int32) (g1 : mSt) (H1 : Heap) (locs1 : List Loc), decode cX12_checkWhole pc' = .ok (.ireturn, 1) → mL G h0 ad H0 nn X g1 H1 locs1 → (mFr [4] g g1 ∧ rg (0) (200) r ∧ True) → W p l e rm_checkWhole s m args below meth c H1 locs1 0 0 Q (F0 m pc' ls' [.int r])) : W p l e rm_checkWhole s m args below meth c H locs 0 0 Q (F0 m 0 ls []) := by
  have hx := x.1
  have hb := x.2.1
  refine lv_aload_n hx hb dX12_checkWhole_0 rfl (lv_at hl 0 rfl) ?_
  refine m_geta x L 33 rfl rfl (wm_in uf_89) dX12_checkWhole_1 ?_
  refine lv_iload_n hx hb dX12_checkWhole_4 rfl (lv_at hl 1 rfl) ?_
  refine lv_bipush (v := 6) hx hb dX12_checkWhole_5 (by decide) ?_
  refine lv_isub hx hb dX12_checkWhole_7 ?_
  refine lv_topi (fun v1 ev1 => ?_)
  have rv1 : rg (42) (234) v1 := (rg_sub ev1 rp1 kc_6 rfl).1
  refine m_ld x L 33 rfl rv1 rfl dX12_checkWhole_8 (fun v2 ev2 wv2 => ?_)
  have rv2 : rg (-2147483648) (2147483647) v2 := lj_33 wv2
  refine lv_bipush (v := 8) hx hb dX12_checkWhole_9 (by decide) ?_
  refine lv_ishl hx hb dX12_checkWhole_11 ?_
  refine lv_topi (fun v3 ev3 => ?_)
  have rv3 : rg (-2147483648) (2147483647) v3 := rg_any v3
  refine lv_aload_n hx hb dX12_checkWhole_12 rfl (lv_at hl 0 rfl) ?_
  refine m_geta x L 33 rfl rfl (wm_in uf_89) dX12_checkWhole_13 ?_
  refine lv_iload_n hx hb dX12_checkWhole_16 rfl (lv_at hl 1 rfl) ?_
  refine lv_iconst (v := 5) hx hb dX12_checkWhole_17 (by decide) ?_
  refine lv_isub hx hb dX12_checkWhole_18 ?_
  refine lv_topi (fun v4 ev4 => ?_)
  have rv4 : rg (43) (235) v4 := (rg_sub ev4 rp1 kc_5 rfl).1
  refine m_ld x L 33 rfl rv4 rfl dX12_checkWhole_19 (fun v5 ev5 wv5 => ?_)
  have rv5 : rg (-2147483648) (2147483647) v5 := lj_33 wv5
  refine lv_ior hx hb dX12_checkWhole_20 ?_
  refine lv_topi (fun v6 ev6 => ?_)
  have rv6 : rg (-2147483648) (2147483647) v6 := rg_any v6
  refine lv_istore_n (lv' := [(2, .int v6), (0, .ref h0), (1, .int p1)]) hx hb dX12_checkWhole_21 rfl hl (by decide) rfl (fun ls hl => ?_)
  refine lv_iload_n hx hb dX12_checkWhole_22 rfl (lv_at hl 0 rfl) ?_
  refine lv_iconst (v := 1) hx hb dX12_checkWhole_23 (by decide) ?_
  have j45_7 : ∀ (g7 : mSt) (H7 : Heap) (k7 : List Loc) (ls : Array Slot), mFr [] g g7 → mL G h0 ad H0 nn X g7 H7 k7 → lv_has ls 6 [(0, .ref h0)] → W p l e rm_checkWhole s m args below meth c H7 k7 0 0 Q (F0 m 45 ls []) := by
    intro  g7 H7 k7 ls hF7 L7  hl
    refine lv_iconst (v := 0) hx hb dX12_checkWhole_45 (by decide) ?_
    exact hQ _ _ (0 : Int32) _ _ _ dX12_checkWhole_46 L7 ⟨(mFr.tr mFr.rf hF7 rfl), rg_w kc_0 rfl, trivial⟩
  refine lv_icmp_lt (tgt := 45) hx hb dX12_checkWhole_24 (by decide) (fun c24_8 => ?_) (fun c24_8 => ?_)
  · skip
    have q9 : rg (-2147483648) (0) v6 := (rg_lt c24_8 rv6 kc_1).1
    exact j45_7  g _ _ ls mFr.rf L  (lv_sub hl [1] rfl)
  · skip
    have q10 : rg (1) (2147483647) v6 := (rg_le (rg_nlt c24_8) kc_1 rv6).2
    refine lv_iload_n hx hb dX12_checkWhole_27 rfl (lv_at hl 0 rfl) ?_
    refine lv_sipush (v := 200) hx hb dX12_checkWhole_28 (by decide) ?_
    refine lv_icmp_gt (tgt := 45) hx hb dX12_checkWhole_31 (by decide) (fun c31_11 => ?_) (fun c31_11 => ?_)
    · skip
      have q12 : rg (201) (2147483647) v6 := (rg_lt c31_11 kc_200 q10).2
      exact j45_7  g _ _ ls mFr.rf L  (lv_sub hl [1] rfl)
    · skip
      have q13 : rg (1) (200) v6 := (rg_le (rg_nlt c31_11) q10 kc_200).1
      refine lv_bipush (v := 48) hx hb dX12_checkWhole_34 (by decide) ?_
      refine lv_iload_n hx hb dX12_checkWhole_36 rfl (lv_at hl 0 rfl) ?_
      refine pf_call (va_runS (As := [.int v6]) (rest := [.int (48 : Int32)]) ⟨hx, hb, hml, x.2.2.2.2.1, x.2.2.1⟩ (c_co l v6) (va_cwS 1 x.2.2.1 (wm_T ut_cellsOf ul_285 u_init us_co) rfl rfl rfl (by decide +kernel) ⟨Nat.le_of_ble_eq_true rfl, Nat.le_of_ble_eq_true rfl⟩) ⟨fun _ _ _ _ q => q, fun _ _ _ => ⟨rfl, trivial⟩⟩ rfl rfl hl.1 rfl (lv_room (Nat.le_of_ble_eq_true rfl)) dX12_checkWhole_37 ⟨Nat.le_of_ble_eq_true rfl, Nat.le_of_ble_eq_true rfl⟩) ?_
      refine lv_topi (fun v14 ev14 => ?_)
      have rv14 : rg (1) (5) v14 := rg_co ev14 q13 rfl
      refine lv_imul hx hb dX12_checkWhole_40 ?_
      refine lv_topi (fun v15 ev15 => ?_)
      have rv15 : rg (48) (240) v15 := (rg_mulL ev15 kc_48 rv14 rfl).1
      refine lv_iload_n hx hb dX12_checkWhole_41 rfl (lv_at hl 2 rfl) ?_
      refine lv_icmp_eq (tgt := 47) hx hb dX12_checkWhole_42 (by decide) (fun c42_16 => ?_) (fun c42_16 => ?_)
      · skip
        refine lv_aload_n hx hb dX12_checkWhole_47 rfl (lv_at hl 1 rfl) ?_
        refine m_cv (As := []) (rest := []) x hml L (c_crcBegin l nn X g hnn hX) (wm_V uc_crcBegin ul_288 ui_crcBegin us_crcBegin u_init) rfl ⟨rfl, rfl⟩ hd_crcBegin ⟨Nat.le_of_ble_eq_true rfl, Nat.le_of_ble_eq_true rfl⟩ rfl hl.1 rfl (lv_room (Nat.le_of_ble_eq_true rfl)) dX12_checkWhole_48 (fun  g17 H17 k17 hp17 L17 => ?_)
        refine lv_iconst (v := 0) hx hb dX12_checkWhole_51 (by decide) ?_
        refine lv_istore_n (lv' := [(3, .int (0 : Int32)), (2, .int v6), (0, .ref h0), (1, .int p1)]) hx hb dX12_checkWhole_52 rfl hl (by decide) rfl (fun ls hl => ?_)
        have j53_19 : ∀ (n : Nat) (a53_3_18 : Int32) (g19 : mSt) (H19 : Heap) (k19 : List Loc) (ls : Array Slot), mFr [4] g17 g19 → mL G h0 ad H0 nn X g19 H19 k19 → rg (0) (236) a53_3_18 → lv_has ls 6 [(0, .ref h0), (1, .int p1), (2, .int v6), (3, .int a53_3_18)] → ((236 : Int) - a53_3_18.toInt).toNat = n → W p l e rm_checkWhole s m args below meth c H19 k19 0 0 Q (F0 m 53 ls []) := by
          intro n
          induction n using Nat.strongRecOn with
          | _ n ih19 =>
            intro a53_3_18 g19 H19 k19 ls hF19 L19 ra53_3_18 hl hn19
            subst hn19
            refine lv_iload_n hx hb dX12_checkWhole_53 rfl (lv_at hl 3 rfl) ?_
            refine lv_iload_n hx hb dX12_checkWhole_54 rfl (lv_at hl 1 rfl) ?_
            refine lv_iconst (v := 4) hx hb dX12_checkWhole_55 (by decide) ?_
            refine lv_isub hx hb dX12_checkWhole_56 ?_
            refine lv_topi (fun v20 ev20 => ?_)
            have rv20 : rg (44) (236) v20 := (rg_sub ev20 rp1 kc_4 rfl).1
            refine lv_icmp_ge (tgt := 76) hx hb dX12_checkWhole_57 (by decide) (fun c57_21 => ?_) (fun c57_21 => ?_)
            · skip
              have q22 : rg (44) (236) a53_3_18 := (rg_le c57_21 rv20 ra53_3_18).2
              refine lv_aload_n hx hb dX12_checkWhole_76 rfl (lv_at hl 0 rfl) ?_
              refine m_geti x L19 4 rfl rfl (wm_in uf_271) dX12_checkWhole_77 (fun v23 ev23 wv23 => ?_)
              have rv23 : rg (-2147483648) (2147483647) v23 := lj_4 wv23
              refine lv_iconst (v := (-1)) hx hb dX12_checkWhole_80 (by decide) ?_
              refine lv_ixor hx hb dX12_checkWhole_81 ?_
              refine lv_topi (fun v24 ev24 => ?_)
              have rv24 : rg (-2147483648) (2147483647) v24 := rg_any v24
              refine lv_istore_n (lv' := [(3, .int v24), (0, .ref h0), (1, .int p1), (2, .int v6)]) hx hb dX12_checkWhole_82 rfl hl (by decide) rfl (fun ls hl => ?_)
              refine lv_iconst (v := 1) hx hb dX12_checkWhole_83 (by decide) ?_
              refine lv_istore (lv' := [(4, .int (1 : Int32)), (3, .int v24), (0, .ref h0), (1, .int p1), (2, .int v6)]) hx hb dX12_checkWhole_84 hl (by decide) rfl (fun ls hl => ?_)
              refine lv_iconst (v := 0) hx hb dX12_checkWhole_86 (by decide) ?_
              refine lv_istore (lv' := [(5, .int (0 : Int32)), (4, .int (1 : Int32)), (3, .int v24), (0, .ref h0), (1, .int p1), (2, .int v6)]) hx hb dX12_checkWhole_87 hl (by decide) rfl (fun ls hl => ?_)
              have j89_27 : ∀ (n : Nat) (a89_4_25 a89_5_26 : Int32) (g27 : mSt) (H27 : Heap) (k27 : List Loc) (ls : Array Slot), mFr [] g19 g27 → mL G h0 ad H0 nn X g27 H27 k27 → rg (0) (1) a89_4_25 → rg (0) (4) a89_5_26 → lv_has ls 6 [(0, .ref h0), (1, .int p1), (2, .int v6), (3, .int v24), (4, .int a89_4_25), (5, .int a89_5_26)] → ((4 : Int) - a89_5_26.toInt).toNat = n → W p l e rm_checkWhole s m args below meth c H27 k27 0 0 Q (F0 m 89 ls []) := by
                intro n
                induction n using Nat.strongRecOn with
                | _ n ih27 =>
                  intro a89_4_25 a89_5_26 g27 H27 k27 ls hF27 L27 ra89_4_25 ra89_5_26 hl hn27
                  subst hn27
                  refine lv_iload hx hb dX12_checkWhole_89 (lv_at hl 5 rfl) ?_
                  refine lv_iconst (v := 4) hx hb dX12_checkWhole_91 (by decide) ?_
                  refine lv_icmp_ge (tgt := 141) hx hb dX12_checkWhole_92 (by decide) (fun c92_28 => ?_) (fun c92_28 => ?_)
                  · skip
                    have q29 : rg (4) (4) a89_5_26 := (rg_le c92_28 kc_4 ra89_5_26).2
                    refine lv_iload hx hb dX12_checkWhole_141 (lv_at hl 4 rfl) ?_
                    have j151_31 : ∀ (b151_0_30 : Int32) (g31 : mSt) (H31 : Heap) (k31 : List Loc) (ls : Array Slot), mFr [] g27 g31 → mL G h0 ad H0 nn X g31 H31 k31 → rg (0) (200) b151_0_30 → lv_has ls 6 [(0, .ref h0)] → W p l e rm_checkWhole s m args below meth c H31 k31 0 0 Q (F0 m 151 ls [.int b151_0_30]) := by
                      intro b151_0_30 g31 H31 k31 ls hF31 L31 rb151_0_30 hl
                      exact hQ _ _ b151_0_30 _ _ _ dX12_checkWhole_151 L31 ⟨(mFr.tr (mFr.tr (mFr.tr (mFr.tr mFr.rf hp17.1 rfl) hF19 rfl) hF27 rfl) hF31 rfl), rg_w rb151_0_30 rfl, trivial⟩
                    refine lv_if_eq (tgt := 150) hx hb dX12_checkWhole_143 (by decide) (fun c143_32 => ?_) (fun c143_32 => ?_)
                    · skip
                      have q33 : rg (0) (0) a89_4_25 := (rg_eq c143_32 ra89_4_25 kc_0).1
                      refine lv_iconst (v := 0) hx hb dX12_checkWhole_150 (by decide) ?_
                      exact j151_31 (0 : Int32) g27 _ _ ls mFr.rf L27 (rg_w kc_0 rfl) (lv_sub hl [0] rfl)
                    · skip
                      have q34 : rg (1) (1) a89_4_25 := rg_neL c143_32 ra89_4_25 kc_0
                      refine lv_iload_n hx hb dX12_checkWhole_146 rfl (lv_at hl 2 rfl) ?_
                      refine lv_goto (tgt := 151) hx hb dX12_checkWhole_147 (by decide) ?_
                      exact j151_31 v6 g27 _ _ ls mFr.rf L27 (rg_w q13 rfl) (lv_sub hl [0] rfl)
                  · skip
                    have q35 : rg (0) (3) a89_5_26 := (rg_lt (rg_nle c92_28) ra89_5_26 kc_4).1
                    refine lv_iload hx hb dX12_checkWhole_95 (lv_at hl 4 rfl) ?_
                    have j133_37 : ∀ (b133_0_36 : Int32) (g37 : mSt) (H37 : Heap) (k37 : List Loc) (ls : Array Slot), mFr [] g27 g37 → mL G h0 ad H0 nn X g37 H37 k37 → rg (0) (1) b133_0_36 → lv_has ls 6 [(0, .ref h0), (1, .int p1), (2, .int v6), (3, .int v24), (5, .int a89_5_26)] → W p l e rm_checkWhole s m args below meth c H37 k37 0 0 Q (F0 m 133 ls [.int b133_0_36]) := by
                      intro b133_0_36 g37 H37 k37 ls hF37 L37 rb133_0_36 hl
                      refine lv_istore (lv' := [(4, .int b133_0_36), (0, .ref h0), (1, .int p1), (2, .int v6), (3, .int v24), (5, .int a89_5_26)]) hx hb dX12_checkWhole_133 hl (by decide) rfl (fun ls hl => ?_)
                      obtain ⟨v38, ev38, fv38⟩ := inc_ex a89_5_26 (1) (1 : Int32) (by decide)
                      have rv38 : rg (1) (4) v38 := (rg_add ev38 q35 kc_1 rfl).1
                      have tv38 := (rg_add ev38 q35 kc_1 rfl).2
                      refine lv_iinc (v := v38) (lv' := [(5, .int v38), (4, .int b133_0_36), (0, .ref h0), (1, .int p1), (2, .int v6), (3, .int v24)]) hx hb dX12_checkWhole_135 hl (k := 5) rfl fv38 (by decide) rfl (fun ls hl => ?_)
                      refine lv_goto (tgt := 89) hx hb dX12_checkWhole_138 (by decide) ?_
                      exact ih27 _ (ms_up tv38 kc_1 q35 rfl rfl) b133_0_36 v38 g37 _ _ ls (mFr.tr hF27 hF37 rfl) L37 (rg_w rb133_0_36 rfl) (rg_w rv38 rfl) (lv_sub hl [2, 3, 4, 5, 1, 0] rfl) rfl
                    have j132_39 : ∀ (g39 : mSt) (H39 : Heap) (k39 : List Loc) (ls : Array Slot), mFr [] g27 g39 → mL G h0 ad H0 nn X g39 H39 k39 → lv_has ls 6 [(0, .ref h0), (1, .int p1), (2, .int v6), (3, .int v24), (5, .int a89_5_26)] → W p l e rm_checkWhole s m args below meth c H39 k39 0 0 Q (F0 m 132 ls []) := by
                      intro  g39 H39 k39 ls hF39 L39  hl
                      refine lv_iconst (v := 0) hx hb dX12_checkWhole_132 (by decide) ?_
                      exact j133_37 (0 : Int32) g39 _ _ ls (mFr.tr mFr.rf hF39 rfl) L39 (rg_w kc_0 rfl) (lv_sub hl [0, 1, 2, 3, 4] rfl)
                    refine lv_if_eq (tgt := 132) hx hb dX12_checkWhole_97 (by decide) (fun c97_40 => ?_) (fun c97_40 => ?_)
                    · skip
                      have q41 : rg (0) (0) a89_4_25 := (rg_eq c97_40 ra89_4_25 kc_0).1
                      exact j132_39  g27 _ _ ls mFr.rf L27  (lv_sub hl [0, 1, 2, 3, 5] rfl)
                    · skip
                      have q42 : rg (1) (1) a89_4_25 := rg_neL c97_40 ra89_4_25 kc_0
                      refine lv_aload_n hx hb dX12_checkWhole_100 rfl (lv_at hl 0 rfl) ?_
                      refine m_geta x L27 33 rfl rfl (wm_in uf_89) dX12_checkWhole_101 ?_
                      refine lv_iload_n hx hb dX12_checkWhole_104 rfl (lv_at hl 1 rfl) ?_
                      refine lv_iconst (v := 4) hx hb dX12_checkWhole_105 (by decide) ?_
                      refine lv_isub hx hb dX12_checkWhole_106 ?_
                      refine m_top ev20 ?_
                      refine lv_iload hx hb dX12_checkWhole_107 (lv_at hl 5 rfl) ?_
                      refine lv_iadd hx hb dX12_checkWhole_109 ?_
                      refine lv_topi (fun v43 ev43 => ?_)
                      have rv43 : rg (44) (239) v43 := (rg_add ev43 rv20 q35 rfl).1
                      refine m_ld x L27 33 rfl rv43 rfl dX12_checkWhole_110 (fun v44 ev44 wv44 => ?_)
                      have rv44 : rg (-2147483648) (2147483647) v44 := lj_33 wv44
                      refine lv_iload_n hx hb dX12_checkWhole_111 rfl (lv_at hl 3 rfl) ?_
                      refine lv_bipush (v := 24) hx hb dX12_checkWhole_112 (by decide) ?_
                      refine lv_bipush (v := 8) hx hb dX12_checkWhole_114 (by decide) ?_
                      refine lv_iload hx hb dX12_checkWhole_116 (lv_at hl 5 rfl) ?_
                      refine lv_imul hx hb dX12_checkWhole_118 ?_
                      refine lv_topi (fun v45 ev45 => ?_)
                      have rv45 : rg (0) (24) v45 := (rg_mulL ev45 kc_8 q35 rfl).1
                      refine lv_isub hx hb dX12_checkWhole_119 ?_
                      refine lv_topi (fun v46 ev46 => ?_)
                      have rv46 : rg (0) (24) v46 := (rg_sub ev46 kc_24 rv45 rfl).1
                      refine lv_ishr hx hb dX12_checkWhole_120 ?_
                      refine lv_topi (fun v47 ev47 => ?_)
                      have rv47 : rg (-2147483648) (2147483647) v47 := rg_any v47
                      refine lv_sipush (v := 255) hx hb dX12_checkWhole_121 (by decide) ?_
                      refine lv_iand hx hb dX12_checkWhole_124 ?_
                      refine lv_topi (fun v48 ev48 => ?_)
                      have rv48 : rg (0) (255) v48 := rg_and ev48 8 255 (by decide) rfl
                      refine lv_icmp_ne (tgt := 132) hx hb dX12_checkWhole_125 (by decide) (fun c125_49 => ?_) (fun c125_49 => ?_)
                      · skip
                        exact j132_39  g27 _ _ ls mFr.rf L27  (lv_sub hl [0, 1, 2, 3, 5] rfl)
                      · skip
                        have q50 : rg (0) (255) v44 := (rg_eq c125_49 rv44 rv48).1
                        refine lv_iconst (v := 1) hx hb dX12_checkWhole_128 (by decide) ?_
                        refine lv_goto (tgt := 133) hx hb dX12_checkWhole_129 (by decide) ?_
                        exact j133_37 (1 : Int32) g27 _ _ ls mFr.rf L27 (rg_w kc_1 rfl) (lv_sub hl [0, 1, 2, 3, 5] rfl)
              exact j89_27 _ (1 : Int32) (0 : Int32) g19 _ _ ls mFr.rf L19 (rg_w kc_1 rfl) (rg_w kc_0 rfl) (lv_sub hl [3, 4, 5, 2, 1, 0] rfl) rfl
            · skip
              have q51 : rg (0) (235) a53_3_18 := (rg_lt (rg_nle c57_21) ra53_3_18 rv20).1
              refine lv_aload_n hx hb dX12_checkWhole_60 rfl (lv_at hl 0 rfl) ?_
              refine lv_aload_n hx hb dX12_checkWhole_61 rfl (lv_at hl 0 rfl) ?_
              refine m_geta x L19 33 rfl rfl (wm_in uf_89) dX12_checkWhole_62 ?_
              refine lv_iload_n hx hb dX12_checkWhole_65 rfl (lv_at hl 3 rfl) ?_
              refine m_ld x L19 33 rfl q51 rfl dX12_checkWhole_66 (fun v52 ev52 wv52 => ?_)
              have rv52 : rg (-2147483648) (2147483647) v52 := lj_33 wv52
              refine m_cv (As := [.int v52]) (rest := []) x hml L19 (c_crcByte l nn X g19 v52 hnn hX) (wm_V uc_crcByte ul_291 ui_crcByte us_crcByte u_init) rfl ⟨rfl, rfl⟩ hd_crcByte ⟨Nat.le_of_ble_eq_true rfl, Nat.le_of_ble_eq_true rfl⟩ rfl hl.1 rfl (lv_room (Nat.le_of_ble_eq_true rfl)) dX12_checkWhole_67 (fun  g53 H53 k53 hp53 L53 => ?_)
              obtain ⟨v54, ev54, fv54⟩ := inc_ex a53_3_18 (1) (1 : Int32) (by decide)
              have rv54 : rg (1) (236) v54 := (rg_add ev54 q51 kc_1 rfl).1
              have tv54 := (rg_add ev54 q51 kc_1 rfl).2
              refine lv_iinc (v := v54) (lv' := [(3, .int v54), (0, .ref h0), (1, .int p1), (2, .int v6)]) hx hb dX12_checkWhole_70 hl (k := 3) rfl fv54 (by decide) rfl (fun ls hl => ?_)
              refine lv_goto (tgt := 53) hx hb dX12_checkWhole_73 (by decide) ?_
              exact ih19 _ (ms_up tv54 kc_1 q51 rfl rfl) v54 g53 _ _ ls (mFr.tr hF19 hp53.1 rfl) L53 (rg_w rv54 rfl) (lv_sub hl [1, 2, 3, 0] rfl) rfl
        exact j53_19 _ (0 : Int32) g17 _ _ ls mFr.rf L17 (rg_w kc_0 rfl) (lv_sub hl [2, 3, 1, 0] rfl) rfl
      · skip
        exact j45_7  g _ _ ls mFr.rf L  (lv_sub hl [1] rfl)
theorem c_checkWhole (l : Launch) {G : mG} {h0 : Nat} {ad : Nat → Nat} (nn X : Int) (g : mSt) (p1 : Int32) (hnn : 2 ≤ nn ∧ nn ≤ 4) (hX : 0 ≤ X ∧ X ≤ 2000000000) (rp1 : rg (48) (240) p1) : Met l yX12_checkWhole (wm (Cond.code yX12_checkWhole cX12_checkWhole 6 (some .int))) rm_checkWhole (va_Pc [.ref h0, .int p1] (mPre G h0 ad nn X g)) (mQi G h0 ad nn X (fun r g1 => mFr [4] g g1 ∧ rg (0) (200) r ∧ True)) 0 0 (mA h0 ad) := by
  refine Met.ofW (cc := cX12_checkWhole) (maxL := 6) (ret := (some .int)) (by decide) rfl ?_
  intro p e s m args below meth c s₁ B hml hv
  obtain ⟨rfl, hv⟩ := hv
  have hr := B.returns
  have hlocks := B.notSynchronized
  obtain ⟨x, L⟩ := m_start B rfl wm_X hv
  have hl := lv_entry ([.ref h0, .int p1]) (n := 6) (Nat.le_of_ble_eq_true rfl)
  rw [lg_entry_eq]
  generalize (lg_sl ([.ref h0, .int p1]) ++ List.replicate (6 - (lg_sl ([.ref h0, .int p1])).length) Slot.unset).toArray = ls at hl ⊢
  exact w_checkWhole x hml L hnn hX p1 rp1 hl (fun pc' ls' r g1 H1 locs1 hdg L hp => m_iret x L hr hlocks (Int.le_refl _) hp hdg)

def rm_closeFrame : Room := { frames := 1, cells := 0, slots := 0, locals := 23 }
theorem hd_closeFrame : yX12_closeFrame.cls = RX12 ∧ yX12_closeFrame.cls ≠ "java/lang/invoke/MethodHandle" ∧ yX12_closeFrame.cls ≠ "java/lang/invoke/VarHandle" ∧ (parseMethodDescriptor yX12_closeFrame.desc).map (fun d => d.parameters.length) = some 0 := by decide +kernel
set_option maxHeartbeats 4000000 in
set_option maxRecDepth 100000 in
theorem w_closeFrame {p : Program} {l : Launch} {e : Env} {s : State} {m : MethodId} {args : Array Value} {below : List Frame} {meth : Method} {c : Code} {H : Heap} {locs : List Loc} {Q : State → Prop} {ls : Array Slot} {G : mG} {h0 : Nat} {ad : Nat → Nat} {g : mSt} {H0 : Heap} {nn X : Int} (x : mX p c cX12_closeFrame s args (wm (Cond.code yX12_closeFrame cX12_closeFrame 3 none)) m G h0 ad) (hml : c.maxLocals = 3) (L : mL G h0 ad H0 nn X g H locs) (hnn : 2 ≤ nn ∧ nn ≤ 4) (hX : 0 ≤ X ∧ X ≤ 2000000000) (hpre0 : rg (0) (200) (g 11 0)) (hl : lv_has ls 3 [(0, .ref h0)]) (hQ : ∀ (pc' : Nat) (ls' : Array Slot) (g1 : mSt) (H1 : Heap) (locs1 : List Loc), decode cX12_closeFrame pc' = .ok (.return_, 1) → mL G h0 ad H0 nn X g1 H1 locs1 → (mFr [4, 10] g g1 ∧ True) → W p l e rm_closeFrame s m args below meth c H1 locs1 0 0 Q (F0 m pc' ls' [])) : W p l e rm_closeFrame s m args below meth c H locs 0 0 Q (F0 m 0 ls []) := by
  have hx := x.1
  have hb := x.2.1
  obtain ⟨z0, ez0⟩ : ∃ y : Int32, y = g 11 0 := ⟨_, rfl⟩
  have rz0 : rg (0) (200) z0 := rg_eqv ez0.symm hpre0
  refine lv_bipush (v := 48) hx hb dX12_closeFrame_0 (by decide) ?_
  refine lv_aload_n hx hb dX12_closeFrame_2 rfl (lv_at hl 0 rfl) ?_
  refine m_geti x L 11 rfl rfl (wm_in uf_279) dX12_closeFrame_3 (fun v1 ev1 wv1 => ?_)
  refine m_top ((ez0).trans ev1.symm) ?_
  refine pf_call (va_runS (As := [.int z0]) (rest := [.int (48 : Int32)]) ⟨hx, hb, hml, x.2.2.2.2.1, x.2.2.1⟩ (c_co l z0) (va_cwS 1 x.2.2.1 (wm_T ut_cellsOf ul_285 u_init us_co) rfl rfl rfl (by decide +kernel) ⟨Nat.le_of_ble_eq_true rfl, Nat.le_of_ble_eq_true rfl⟩) ⟨fun _ _ _ _ q => q, fun _ _ _ => ⟨rfl, trivial⟩⟩ rfl rfl hl.1 rfl (lv_room (Nat.le_of_ble_eq_true rfl)) dX12_closeFrame_6 ⟨Nat.le_of_ble_eq_true rfl, Nat.le_of_ble_eq_true rfl⟩) ?_
  refine lv_topi (fun v2 ev2 => ?_)
  have rv2 : rg (1) (5) v2 := rg_co ev2 rz0 rfl
  refine lv_imul hx hb dX12_closeFrame_9 ?_
  refine lv_topi (fun v3 ev3 => ?_)
  have rv3 : rg (48) (240) v3 := (rg_mulL ev3 kc_48 rv2 rfl).1
  refine lv_istore_n (lv' := [(1, .int v3), (0, .ref h0)]) hx hb dX12_closeFrame_10 rfl hl (by decide) rfl (fun ls hl => ?_)
  refine lv_aload_n hx hb dX12_closeFrame_11 rfl (lv_at hl 1 rfl) ?_
  refine m_geti x L 11 rfl rfl (wm_in uf_279) dX12_closeFrame_12 (fun v4 ev4 wv4 => ?_)
  refine m_top ((ez0).trans ev4.symm) ?_
  refine lv_istore_n (lv' := [(2, .int z0), (1, .int v3), (0, .ref h0)]) hx hb dX12_closeFrame_15 rfl hl (by decide) rfl (fun ls hl => ?_)
  have j16_6 : ∀ (n : Nat) (a16_2_5 : Int32) (g6 : mSt) (H6 : Heap) (k6 : List Loc) (ls : Array Slot), mFr [10] g g6 → mL G h0 ad H0 nn X g6 H6 k6 → rg (0) (236) a16_2_5 → lv_has ls 3 [(0, .ref h0), (1, .int v3), (2, .int a16_2_5)] → ((236 : Int) - a16_2_5.toInt).toNat = n → W p l e rm_closeFrame s m args below meth c H6 k6 0 0 Q (F0 m 16 ls []) := by
    intro n
    induction n using Nat.strongRecOn with
    | _ n ih6 =>
      intro a16_2_5 g6 H6 k6 ls hF6 L6 ra16_2_5 hl hn6
      subst hn6
      refine lv_iload_n hx hb dX12_closeFrame_16 rfl (lv_at hl 2 rfl) ?_
      refine lv_iload_n hx hb dX12_closeFrame_17 rfl (lv_at hl 1 rfl) ?_
      refine lv_iconst (v := 4) hx hb dX12_closeFrame_18 (by decide) ?_
      refine lv_isub hx hb dX12_closeFrame_19 ?_
      refine lv_topi (fun v7 ev7 => ?_)
      have rv7 : rg (44) (236) v7 := (rg_sub ev7 rv3 kc_4 rfl).1
      refine lv_icmp_ge (tgt := 36) hx hb dX12_closeFrame_20 (by decide) (fun c20_8 => ?_) (fun c20_8 => ?_)
      · skip
        have q9 : rg (44) (236) a16_2_5 := (rg_le c20_8 rv7 ra16_2_5).2
        refine lv_aload_n hx hb dX12_closeFrame_36 rfl (lv_at hl 0 rfl) ?_
        refine m_geta x L6 10 rfl rfl (wm_in uf_29) dX12_closeFrame_37 ?_
        refine lv_iload_n hx hb dX12_closeFrame_40 rfl (lv_at hl 1 rfl) ?_
        refine lv_bipush (v := 6) hx hb dX12_closeFrame_41 (by decide) ?_
        refine lv_isub hx hb dX12_closeFrame_43 ?_
        refine lv_topi (fun v10 ev10 => ?_)
        have rv10 : rg (42) (234) v10 := (rg_sub ev10 rv3 kc_6 rfl).1
        refine lv_aload_n hx hb dX12_closeFrame_44 rfl (lv_at hl 0 rfl) ?_
        refine m_geti x L6 11 rfl rfl (wm_in uf_279) dX12_closeFrame_45 (fun v11 ev11 wv11 => ?_)
        refine m_top (((mm_fr ez0 hF6 rfl)).trans ev11.symm) ?_
        refine lv_bipush (v := 8) hx hb dX12_closeFrame_48 (by decide) ?_
        refine lv_ishr hx hb dX12_closeFrame_50 ?_
        refine lv_topi (fun v12 ev12 => ?_)
        have rv12 : rg (0) (0) v12 := rg_shr ev12 8 rz0 rfl
        refine m_st x L6 10 rfl rv10 rfl (rj_10 (rg_any v12)) dX12_closeFrame_51 (fun g13 H13 k13 eg13 L13 => ?_)
        refine lv_aload_n hx hb dX12_closeFrame_52 rfl (lv_at hl 0 rfl) ?_
        refine m_geta x L13 10 rfl rfl (wm_in uf_29) dX12_closeFrame_53 ?_
        refine lv_iload_n hx hb dX12_closeFrame_56 rfl (lv_at hl 1 rfl) ?_
        refine lv_iconst (v := 5) hx hb dX12_closeFrame_57 (by decide) ?_
        refine lv_isub hx hb dX12_closeFrame_58 ?_
        refine lv_topi (fun v14 ev14 => ?_)
        have rv14 : rg (43) (235) v14 := (rg_sub ev14 rv3 kc_5 rfl).1
        refine lv_aload_n hx hb dX12_closeFrame_59 rfl (lv_at hl 0 rfl) ?_
        refine m_geti x L13 11 rfl rfl (wm_in uf_279) dX12_closeFrame_60 (fun v15 ev15 wv15 => ?_)
        refine m_top (((mm_up (mm_fr ez0 hF6 rfl) eg13 rfl)).trans ev15.symm) ?_
        refine lv_sipush (v := 255) hx hb dX12_closeFrame_63 (by decide) ?_
        refine lv_iand hx hb dX12_closeFrame_66 ?_
        refine lv_topi (fun v16 ev16 => ?_)
        have rv16 : rg (0) (255) v16 := rg_and ev16 8 255 (by decide) rfl
        refine m_st x L13 10 rfl rv14 rfl (rj_10 (rg_any v16)) dX12_closeFrame_67 (fun g17 H17 k17 eg17 L17 => ?_)
        refine lv_aload_n hx hb dX12_closeFrame_68 rfl (lv_at hl 0 rfl) ?_
        refine m_cv (As := []) (rest := []) x hml L17 (c_crcBegin l nn X g17 hnn hX) (wm_V uc_crcBegin ul_288 ui_crcBegin us_crcBegin u_init) rfl ⟨rfl, rfl⟩ hd_crcBegin ⟨Nat.le_of_ble_eq_true rfl, Nat.le_of_ble_eq_true rfl⟩ rfl hl.1 rfl (lv_room (Nat.le_of_ble_eq_true rfl)) dX12_closeFrame_69 (fun  g18 H18 k18 hp18 L18 => ?_)
        refine lv_iconst (v := 0) hx hb dX12_closeFrame_72 (by decide) ?_
        refine lv_istore_n (lv' := [(2, .int (0 : Int32)), (0, .ref h0), (1, .int v3)]) hx hb dX12_closeFrame_73 rfl hl (by decide) rfl (fun ls hl => ?_)
        have j74_20 : ∀ (n : Nat) (a74_2_19 : Int32) (g20 : mSt) (H20 : Heap) (k20 : List Loc) (ls : Array Slot), mFr [4] g18 g20 → mL G h0 ad H0 nn X g20 H20 k20 → rg (0) (236) a74_2_19 → lv_has ls 3 [(0, .ref h0), (1, .int v3), (2, .int a74_2_19)] → ((236 : Int) - a74_2_19.toInt).toNat = n → W p l e rm_closeFrame s m args below meth c H20 k20 0 0 Q (F0 m 74 ls []) := by
          intro n
          induction n using Nat.strongRecOn with
          | _ n ih20 =>
            intro a74_2_19 g20 H20 k20 ls hF20 L20 ra74_2_19 hl hn20
            subst hn20
            refine lv_iload_n hx hb dX12_closeFrame_74 rfl (lv_at hl 2 rfl) ?_
            refine lv_iload_n hx hb dX12_closeFrame_75 rfl (lv_at hl 1 rfl) ?_
            refine lv_iconst (v := 4) hx hb dX12_closeFrame_76 (by decide) ?_
            refine lv_isub hx hb dX12_closeFrame_77 ?_
            refine m_top ev7 ?_
            refine lv_icmp_ge (tgt := 97) hx hb dX12_closeFrame_78 (by decide) (fun c78_21 => ?_) (fun c78_21 => ?_)
            · skip
              have q22 : rg (44) (236) a74_2_19 := (rg_le c78_21 rv7 ra74_2_19).2
              refine lv_iconst (v := 0) hx hb dX12_closeFrame_97 (by decide) ?_
              refine lv_istore_n (lv' := [(2, .int (0 : Int32)), (0, .ref h0), (1, .int v3)]) hx hb dX12_closeFrame_98 rfl hl (by decide) rfl (fun ls hl => ?_)
              have j99_24 : ∀ (n : Nat) (a99_2_23 : Int32) (g24 : mSt) (H24 : Heap) (k24 : List Loc) (ls : Array Slot), mFr [10] g20 g24 → mL G h0 ad H0 nn X g24 H24 k24 → rg (0) (4) a99_2_23 → lv_has ls 3 [(0, .ref h0), (1, .int v3), (2, .int a99_2_23)] → ((4 : Int) - a99_2_23.toInt).toNat = n → W p l e rm_closeFrame s m args below meth c H24 k24 0 0 Q (F0 m 99 ls []) := by
                intro n
                induction n using Nat.strongRecOn with
                | _ n ih24 =>
                  intro a99_2_23 g24 H24 k24 ls hF24 L24 ra99_2_23 hl hn24
                  subst hn24
                  refine lv_iload_n hx hb dX12_closeFrame_99 rfl (lv_at hl 2 rfl) ?_
                  refine lv_iconst (v := 4) hx hb dX12_closeFrame_100 (by decide) ?_
                  refine lv_icmp_ge (tgt := 138) hx hb dX12_closeFrame_101 (by decide) (fun c101_25 => ?_) (fun c101_25 => ?_)
                  · skip
                    have q26 : rg (4) (4) a99_2_23 := (rg_le c101_25 kc_4 ra99_2_23).2
                    exact hQ _ _ _ _ _ dX12_closeFrame_138 L24 ⟨(mFr.tr (mFr.tr (mFr.tr (mFr.upE (mFr.upE (mFr.tr mFr.rf hF6 rfl) eg13 rfl) eg17 rfl) hp18.1 rfl) hF20 rfl) hF24 rfl), trivial⟩
                  · skip
                    have q27 : rg (0) (3) a99_2_23 := (rg_lt (rg_nle c101_25) ra99_2_23 kc_4).1
                    refine lv_aload_n hx hb dX12_closeFrame_104 rfl (lv_at hl 0 rfl) ?_
                    refine m_geta x L24 10 rfl rfl (wm_in uf_29) dX12_closeFrame_105 ?_
                    refine lv_iload_n hx hb dX12_closeFrame_108 rfl (lv_at hl 1 rfl) ?_
                    refine lv_iconst (v := 4) hx hb dX12_closeFrame_109 (by decide) ?_
                    refine lv_isub hx hb dX12_closeFrame_110 ?_
                    refine m_top ev7 ?_
                    refine lv_iload_n hx hb dX12_closeFrame_111 rfl (lv_at hl 2 rfl) ?_
                    refine lv_iadd hx hb dX12_closeFrame_112 ?_
                    refine lv_topi (fun v28 ev28 => ?_)
                    have rv28 : rg (44) (239) v28 := (rg_add ev28 rv7 q27 rfl).1
                    refine lv_aload_n hx hb dX12_closeFrame_113 rfl (lv_at hl 0 rfl) ?_
                    refine m_geti x L24 4 rfl rfl (wm_in uf_271) dX12_closeFrame_114 (fun v29 ev29 wv29 => ?_)
                    have rv29 : rg (-2147483648) (2147483647) v29 := lj_4 wv29
                    refine lv_iconst (v := (-1)) hx hb dX12_closeFrame_117 (by decide) ?_
                    refine lv_ixor hx hb dX12_closeFrame_118 ?_
                    refine lv_topi (fun v30 ev30 => ?_)
                    have rv30 : rg (-2147483648) (2147483647) v30 := rg_any v30
                    refine lv_bipush (v := 24) hx hb dX12_closeFrame_119 (by decide) ?_
                    refine lv_bipush (v := 8) hx hb dX12_closeFrame_121 (by decide) ?_
                    refine lv_iload_n hx hb dX12_closeFrame_123 rfl (lv_at hl 2 rfl) ?_
                    refine lv_imul hx hb dX12_closeFrame_124 ?_
                    refine lv_topi (fun v31 ev31 => ?_)
                    have rv31 : rg (0) (24) v31 := (rg_mulL ev31 kc_8 q27 rfl).1
                    refine lv_isub hx hb dX12_closeFrame_125 ?_
                    refine lv_topi (fun v32 ev32 => ?_)
                    have rv32 : rg (0) (24) v32 := (rg_sub ev32 kc_24 rv31 rfl).1
                    refine lv_ishr hx hb dX12_closeFrame_126 ?_
                    refine lv_topi (fun v33 ev33 => ?_)
                    have rv33 : rg (-2147483648) (2147483647) v33 := rg_any v33
                    refine lv_sipush (v := 255) hx hb dX12_closeFrame_127 (by decide) ?_
                    refine lv_iand hx hb dX12_closeFrame_130 ?_
                    refine lv_topi (fun v34 ev34 => ?_)
                    have rv34 : rg (0) (255) v34 := rg_and ev34 8 255 (by decide) rfl
                    refine m_st x L24 10 rfl rv28 rfl (rj_10 (rg_any v34)) dX12_closeFrame_131 (fun g35 H35 k35 eg35 L35 => ?_)
                    obtain ⟨v36, ev36, fv36⟩ := inc_ex a99_2_23 (1) (1 : Int32) (by decide)
                    have rv36 : rg (1) (4) v36 := (rg_add ev36 q27 kc_1 rfl).1
                    have tv36 := (rg_add ev36 q27 kc_1 rfl).2
                    refine lv_iinc (v := v36) (lv' := [(2, .int v36), (0, .ref h0), (1, .int v3)]) hx hb dX12_closeFrame_132 hl (k := 2) rfl fv36 (by decide) rfl (fun ls hl => ?_)
                    refine lv_goto (tgt := 99) hx hb dX12_closeFrame_135 (by decide) ?_
                    exact ih24 _ (ms_up tv36 kc_1 q27 rfl rfl) v36 g35 _ _ ls (mFr.upE hF24 eg35 rfl) L35 (rg_w rv36 rfl) (lv_sub hl [1, 2, 0] rfl) rfl
              exact j99_24 _ (0 : Int32) g20 _ _ ls mFr.rf L20 (rg_w kc_0 rfl) (lv_sub hl [1, 2, 0] rfl) rfl
            · skip
              have q37 : rg (0) (235) a74_2_19 := (rg_lt (rg_nle c78_21) ra74_2_19 rv7).1
              refine lv_aload_n hx hb dX12_closeFrame_81 rfl (lv_at hl 0 rfl) ?_
              refine lv_aload_n hx hb dX12_closeFrame_82 rfl (lv_at hl 0 rfl) ?_
              refine m_geta x L20 10 rfl rfl (wm_in uf_29) dX12_closeFrame_83 ?_
              refine lv_iload_n hx hb dX12_closeFrame_86 rfl (lv_at hl 2 rfl) ?_
              refine m_ld x L20 10 rfl q37 rfl dX12_closeFrame_87 (fun v38 ev38 wv38 => ?_)
              have rv38 : rg (-2147483648) (2147483647) v38 := lj_10 wv38
              refine m_cv (As := [.int v38]) (rest := []) x hml L20 (c_crcByte l nn X g20 v38 hnn hX) (wm_V uc_crcByte ul_291 ui_crcByte us_crcByte u_init) rfl ⟨rfl, rfl⟩ hd_crcByte ⟨Nat.le_of_ble_eq_true rfl, Nat.le_of_ble_eq_true rfl⟩ rfl hl.1 rfl (lv_room (Nat.le_of_ble_eq_true rfl)) dX12_closeFrame_88 (fun  g39 H39 k39 hp39 L39 => ?_)
              obtain ⟨v40, ev40, fv40⟩ := inc_ex a74_2_19 (1) (1 : Int32) (by decide)
              have rv40 : rg (1) (236) v40 := (rg_add ev40 q37 kc_1 rfl).1
              have tv40 := (rg_add ev40 q37 kc_1 rfl).2
              refine lv_iinc (v := v40) (lv' := [(2, .int v40), (0, .ref h0), (1, .int v3)]) hx hb dX12_closeFrame_91 hl (k := 2) rfl fv40 (by decide) rfl (fun ls hl => ?_)
              refine lv_goto (tgt := 74) hx hb dX12_closeFrame_94 (by decide) ?_
              exact ih20 _ (ms_up tv40 kc_1 q37 rfl rfl) v40 g39 _ _ ls (mFr.tr hF20 hp39.1 rfl) L39 (rg_w rv40 rfl) (lv_sub hl [1, 2, 0] rfl) rfl
        exact j74_20 _ (0 : Int32) g18 _ _ ls mFr.rf L18 (rg_w kc_0 rfl) (lv_sub hl [1, 2, 0] rfl) rfl
      · skip
        have q41 : rg (0) (235) a16_2_5 := (rg_lt (rg_nle c20_8) ra16_2_5 rv7).1
        refine lv_aload_n hx hb dX12_closeFrame_23 rfl (lv_at hl 0 rfl) ?_
        refine m_geta x L6 10 rfl rfl (wm_in uf_29) dX12_closeFrame_24 ?_
        refine lv_iload_n hx hb dX12_closeFrame_27 rfl (lv_at hl 2 rfl) ?_
        refine lv_iconst (v := 0) hx hb dX12_closeFrame_28 (by decide) ?_
        refine m_st x L6 10 rfl q41 rfl (rj_10 (rg_any (0 : Int32))) dX12_closeFrame_29 (fun g42 H42 k42 eg42 L42 => ?_)
        obtain ⟨v43, ev43, fv43⟩ := inc_ex a16_2_5 (1) (1 : Int32) (by decide)
        have rv43 : rg (1) (236) v43 := (rg_add ev43 q41 kc_1 rfl).1
        have tv43 := (rg_add ev43 q41 kc_1 rfl).2
        refine lv_iinc (v := v43) (lv' := [(2, .int v43), (0, .ref h0), (1, .int v3)]) hx hb dX12_closeFrame_30 hl (k := 2) rfl fv43 (by decide) rfl (fun ls hl => ?_)
        refine lv_goto (tgt := 16) hx hb dX12_closeFrame_33 (by decide) ?_
        exact ih6 _ (ms_up tv43 kc_1 q41 rfl rfl) v43 g42 _ _ ls (mFr.upE hF6 eg42 rfl) L42 (rg_w rv43 rfl) (lv_sub hl [1, 2, 0] rfl) rfl
  exact j16_6 _ z0 g _ _ ls mFr.rf L (rg_w rz0 rfl) (lv_sub hl [2, 1, 0] rfl) rfl
theorem c_closeFrame (l : Launch) {G : mG} {h0 : Nat} {ad : Nat → Nat} (nn X : Int) (g : mSt) (hnn : 2 ≤ nn ∧ nn ≤ 4) (hX : 0 ≤ X ∧ X ≤ 2000000000) (hpre0 : rg (0) (200) (g 11 0)) : Met l yX12_closeFrame (wm (Cond.code yX12_closeFrame cX12_closeFrame 3 none)) rm_closeFrame (va_Pc [.ref h0] (mPre G h0 ad nn X g)) (mQv G h0 ad nn X (fun g1 => mFr [4, 10] g g1 ∧ True)) 0 0 (mA h0 ad) := by
  refine Met.ofW (cc := cX12_closeFrame) (maxL := 3) (ret := none) (by decide) rfl ?_
  intro p e s m args below meth c s₁ B hml hv
  obtain ⟨rfl, hv⟩ := hv
  have hr := B.returns
  have hlocks := B.notSynchronized
  obtain ⟨x, L⟩ := m_start B rfl wm_X hv
  have hl := lv_entry ([.ref h0]) (n := 3) (Nat.le_of_ble_eq_true rfl)
  rw [lg_entry_eq]
  generalize (lg_sl ([.ref h0]) ++ List.replicate (3 - (lg_sl ([.ref h0])).length) Slot.unset).toArray = ls at hl ⊢
  exact w_closeFrame x hml L hnn hX hpre0 hl (fun pc' ls' g1 H1 locs1 hdg L hp => m_vret x L hr hlocks (Int.le_refl _) hp hdg)

def rm_unitGo : Room := { frames := 3, cells := 0, slots := 0, locals := 70 }
theorem hd_unitGo : yX12_unitGo.cls = RX12 ∧ yX12_unitGo.cls ≠ "java/lang/invoke/MethodHandle" ∧ yX12_unitGo.cls ≠ "java/lang/invoke/VarHandle" ∧ (parseMethodDescriptor yX12_unitGo.desc).map (fun d => d.parameters.length) = some 3 := by decide +kernel
set_option maxHeartbeats 4000000 in
set_option maxRecDepth 100000 in
theorem w_unitGo {p : Program} {l : Launch} {e : Env} {s : State} {m : MethodId} {args : Array Value} {below : List Frame} {meth : Method} {c : Code} {H : Heap} {locs : List Loc} {Q : State → Prop} {ls : Array Slot} {G : mG} {h0 : Nat} {ad : Nat → Nat} {g : mSt} {H0 : Heap} {nn X : Int} (x : mX p c cX12_unitGo s args (wm (Cond.code yX12_unitGo cX12_unitGo 7 none)) m G h0 ad) (hml : c.maxLocals = 7) (L : mL G h0 ad H0 nn X g H locs) (hnn : 2 ≤ nn ∧ nn ≤ 4) (hX : 0 ≤ X ∧ X ≤ 2000000000) (p1 : Int32) (p2 : Int32) (p3 : Int32) (rp1 : rg (0) (7) p1) (np1 : p1.toInt < 2 * nn) (hpre0 : rg (0) (196) (g 11 0)) (hl : lv_has ls 7 [(0, .ref h0), (1, .int p1), (2, .int p2), (3, .int p3)]) (hQ : ∀ (pc' : Nat) (ls' : Array Slot) (g1 : mSt) (H1 : Heap) (locs1 : List Loc), decode cX12_unitGo pc' = .ok (.return_, 1) → mL G h0 ad H0 nn X g1 H1 locs1 → (mFr [4, 5, 7, 8, 9, 10, 11] g g1 ∧ True) → W p l e rm_unitGo s m args below meth c H1 locs1 0 0 Q (F0 m pc' ls' [])) : W p l e rm_unitGo s m args below meth c H locs 0 0 Q (F0 m 0 ls []) := by
  have hx := x.1
  have hb := x.2.1
  obtain ⟨z0, ez0⟩ : ∃ y : Int32, y = g 11 0 := ⟨_, rfl⟩
  have rz0 : rg (0) (196) z0 := rg_eqv ez0.symm hpre0
  refine lv_aload_n hx hb dX12_unitGo_0 rfl (lv_at hl 0 rfl) ?_
  refine lv_iload_n hx hb dX12_unitGo_1 rfl (lv_at hl 2 rfl) ?_
  refine lv_bipush (v := 24) hx hb dX12_unitGo_2 (by decide) ?_
  refine lv_ishl hx hb dX12_unitGo_4 ?_
  refine lv_topi (fun v1 ev1 => ?_)
  have rv1 : rg (-2147483648) (2147483647) v1 := rg_any v1
  refine lv_iload_n hx hb dX12_unitGo_5 rfl (lv_at hl 3 rfl) ?_
  refine lv_ior hx hb dX12_unitGo_6 ?_
  refine lv_topi (fun v2 ev2 => ?_)
  have rv2 : rg (-2147483648) (2147483647) v2 := rg_any v2
  refine m_cv (As := [.int v2]) (rest := []) x hml L (c_word l nn X g v2 hnn hX (rg_eqv ez0 (rg_w rz0 rfl))) (wm_V uc_word ul_299 ui_word us_word u_init) rfl ⟨rfl, rfl⟩ hd_word ⟨Nat.le_of_ble_eq_true rfl, Nat.le_of_ble_eq_true rfl⟩ rfl hl.1 rfl (lv_room (Nat.le_of_ble_eq_true rfl)) dX12_unitGo_7 (fun  g3 H3 k3 hp3 L3 => ?_)
  obtain ⟨v4, ev4⟩ : ∃ y : Int32, y = g3 11 0 := ⟨_, rfl⟩
  have rv4 : rg (4) (200) v4 := rg_rel ez0 ev4 rz0 hp3.2 rfl
  refine lv_aload_n hx hb dX12_unitGo_10 rfl (lv_at hl 0 rfl) ?_
  refine lv_iload_n hx hb dX12_unitGo_11 rfl (lv_at hl 1 rfl) ?_
  refine m_ci (As := [.int p1]) (rest := []) x hml L3 (c_outOf l nn X g3 p1 hnn hX (rg_w rp1 rfl) np1) (wm_V uc_outOf ul_302 ui_outOf us_outOf u_init) rfl ⟨rfl, rfl⟩ hd_outOf ⟨Nat.le_of_ble_eq_true rfl, Nat.le_of_ble_eq_true rfl⟩ rfl hl.1 rfl (lv_room (Nat.le_of_ble_eq_true rfl)) dX12_unitGo_12 (fun v6 g5 H5 k5 hp5 L5 => ?_)
  have rv6 : rg (0) (7) v6 := hp5.2.1
  refine lv_istore (lv' := [(4, .int v6), (0, .ref h0), (1, .int p1), (2, .int p2), (3, .int p3)]) hx hb dX12_unitGo_15 hl (by decide) rfl (fun ls hl => ?_)
  refine lv_aload_n hx hb dX12_unitGo_17 rfl (lv_at hl 1 rfl) ?_
  refine m_geti x L5 11 rfl rfl (wm_in uf_279) dX12_unitGo_18 (fun v7 ev7 wv7 => ?_)
  refine m_top (((mm_fr ev4 hp5.1 rfl)).trans ev7.symm) ?_
  refine pf_call (va_runS (As := [.int v4]) (rest := []) ⟨hx, hb, hml, x.2.2.2.2.1, x.2.2.1⟩ (c_co l v4) (va_cwS 1 x.2.2.1 (wm_T ut_cellsOf ul_285 u_init us_co) rfl rfl rfl (by decide +kernel) ⟨Nat.le_of_ble_eq_true rfl, Nat.le_of_ble_eq_true rfl⟩) ⟨fun _ _ _ _ q => q, fun _ _ _ => ⟨rfl, trivial⟩⟩ rfl rfl hl.1 rfl (lv_room (Nat.le_of_ble_eq_true rfl)) dX12_unitGo_21 ⟨Nat.le_of_ble_eq_true rfl, Nat.le_of_ble_eq_true rfl⟩) ?_
  refine lv_topi (fun v8 ev8 => ?_)
  have rv8 : rg (1) (5) v8 := rg_co ev8 rv4 rfl
  refine lv_istore (lv' := [(5, .int v8), (4, .int v6), (0, .ref h0), (1, .int p1), (2, .int p2), (3, .int p3)]) hx hb dX12_unitGo_24 hl (by decide) rfl (fun ls hl => ?_)
  refine lv_aload_n hx hb dX12_unitGo_26 rfl (lv_at hl 2 rfl) ?_
  refine m_geta x L5 7 rfl rfl (wm_in uf_20) dX12_unitGo_27 ?_
  refine lv_iconst (v := 2) hx hb dX12_unitGo_30 (by decide) ?_
  refine lv_iload hx hb dX12_unitGo_31 (lv_at hl 1 rfl) ?_
  refine lv_imul hx hb dX12_unitGo_33 ?_
  refine lv_topi (fun v9 ev9 => ?_)
  have rv9 : rg (0) (14) v9 := (rg_mulL ev9 kc_2 rv6 rfl).1
  have tv9 := (rg_mulL ev9 kc_2 rv6 rfl).2
  have b4v9 : v9.toInt < 4 * nn := by have := hp5.2.2; have : (2 : Int32).toInt = 2 := (by decide); omega
  refine m_ld x L5 7 rfl rv9 rfl dX12_unitGo_34 (fun v10 ev10 wv10 => ?_)
  have rv10 : rg (0) (40) v10 := lj_7 wv10
  refine lv_iload hx hb dX12_unitGo_35 (lv_at hl 0 rfl) ?_
  refine lv_iadd hx hb dX12_unitGo_37 ?_
  refine lv_topi (fun v11 ev11 => ?_)
  have rv11 : rg (1) (45) v11 := (rg_add ev11 rv10 rv8 rfl).1
  refine lv_bipush (v := 40) hx hb dX12_unitGo_38 (by decide) ?_
  refine lv_icmp_le (tgt := 56) hx hb dX12_unitGo_40 (by decide) (fun c40_12 => ?_) (fun c40_12 => ?_)
  · skip
    have q13 : rg (1) (40) v11 := (rg_le c40_12 rv11 kc_40).1
    refine lv_aload_n hx hb dX12_unitGo_56 rfl (lv_at hl 2 rfl) ?_
    refine m_cv (As := []) (rest := []) x hml L5 (c_closeFrame l nn X g5 hnn hX (rg_eqv (mm_fr ev4 hp5.1 rfl) (rg_w rv4 rfl))) (wm_V uc_closeFrame ul_282 ui_closeFrame us_closeFrame u_init) rfl ⟨rfl, rfl⟩ hd_closeFrame ⟨Nat.le_of_ble_eq_true rfl, Nat.le_of_ble_eq_true rfl⟩ rfl hl.1 rfl (lv_room (Nat.le_of_ble_eq_true rfl)) dX12_unitGo_57 (fun  g14 H14 k14 hp14 L14 => ?_)
    refine lv_iconst (v := 0) hx hb dX12_unitGo_60 (by decide) ?_
    refine lv_istore (lv' := [(6, .int (0 : Int32)), (5, .int v8), (4, .int v6), (0, .ref h0), (1, .int p1), (2, .int p2), (3, .int p3)]) hx hb dX12_unitGo_61 hl (by decide) rfl (fun ls hl => ?_)
    have j63_16 : ∀ (n : Nat) (a63_6_15 : Int32) (g16 : mSt) (H16 : Heap) (k16 : List Loc) (ls : Array Slot), mFr [5, 7, 8, 9] g14 g16 → mL G h0 ad H0 nn X g16 H16 k16 → rg (0) (5) a63_6_15 → lv_has ls 7 [(0, .ref h0), (4, .int v6), (5, .int v8), (6, .int a63_6_15)] → ((5 : Int) - a63_6_15.toInt).toNat = n → W p l e rm_unitGo s m args below meth c H16 k16 0 0 Q (F0 m 63 ls []) := by
      intro n
      induction n using Nat.strongRecOn with
      | _ n ih16 =>
        intro a63_6_15 g16 H16 k16 ls hF16 L16 ra63_6_15 hl hn16
        subst hn16
        refine lv_iload hx hb dX12_unitGo_63 (lv_at hl 3 rfl) ?_
        refine lv_iload hx hb dX12_unitGo_65 (lv_at hl 2 rfl) ?_
        refine lv_icmp_ge (tgt := 104) hx hb dX12_unitGo_67 (by decide) (fun c67_17 => ?_) (fun c67_17 => ?_)
        · skip
          have q18 : rg (1) (5) a63_6_15 := (rg_le c67_17 rv8 ra63_6_15).2
          exact hQ _ _ _ _ _ dX12_unitGo_104 L16 ⟨(mFr.tr (mFr.tr (mFr.tr (mFr.tr mFr.rf hp3.1 rfl) hp5.1 rfl) hp14.1 rfl) hF16 rfl), trivial⟩
        · skip
          have q19 : rg (0) (4) a63_6_15 := (rg_lt (rg_nle c67_17) ra63_6_15 rv8).1
          refine lv_aload_n hx hb dX12_unitGo_70 rfl (lv_at hl 0 rfl) ?_
          refine lv_iload hx hb dX12_unitGo_71 (lv_at hl 3 rfl) ?_
          refine lv_iconst (v := 5) hx hb dX12_unitGo_73 (by decide) ?_
          refine lv_iload hx hb dX12_unitGo_74 (lv_at hl 3 rfl) ?_
          refine lv_iload hx hb dX12_unitGo_76 (lv_at hl 2 rfl) ?_
          refine lv_iconst (v := 1) hx hb dX12_unitGo_78 (by decide) ?_
          refine lv_isub hx hb dX12_unitGo_79 ?_
          refine lv_topi (fun v20 ev20 => ?_)
          have rv20 : rg (0) (4) v20 := (rg_sub ev20 rv8 kc_1 rfl).1
          have j88_22 : ∀ (b88_3_21 : Int32) (g22 : mSt) (H22 : Heap) (k22 : List Loc) (ls : Array Slot), mFr [] g16 g22 → mL G h0 ad H0 nn X g22 H22 k22 → rg (0) (1) b88_3_21 → lv_has ls 7 [(0, .ref h0), (4, .int v6), (5, .int v8), (6, .int a63_6_15)] → W p l e rm_unitGo s m args below meth c H22 k22 0 0 Q (F0 m 88 ls [.int b88_3_21, .int (5 : Int32), .int a63_6_15, .ref h0]) := by
            intro b88_3_21 g22 H22 k22 ls hF22 L22 rb88_3_21 hl
            refine m_cv (As := [.int a63_6_15, .int (5 : Int32), .int b88_3_21]) (rest := []) x hml L22 (c_layCell l nn X g22 a63_6_15 (5 : Int32) b88_3_21 hnn hX (rg_w q19 rfl) (rg_w rb88_3_21 rfl)) (wm_V uc_layCell ul_305 ui_layCell us_layCell u_init) rfl ⟨rfl, rfl⟩ hd_layCell ⟨Nat.le_of_ble_eq_true rfl, Nat.le_of_ble_eq_true rfl⟩ rfl hl.1 rfl (lv_room (Nat.le_of_ble_eq_true rfl)) dX12_unitGo_88 (fun  g23 H23 k23 hp23 L23 => ?_)
            refine lv_aload_n hx hb dX12_unitGo_91 rfl (lv_at hl 0 rfl) ?_
            refine lv_iload hx hb dX12_unitGo_92 (lv_at hl 1 rfl) ?_
            refine lv_iconst (v := 0) hx hb dX12_unitGo_94 (by decide) ?_
            refine m_cv (As := [.int v6, .int (0 : Int32)]) (rest := []) x hml L23 (c_addCell l nn X g23 v6 (0 : Int32) hnn hX (rg_w rv6 rfl) (rg_w kc_0 rfl)) (wm_V uc_addCell ul_309 ui_addCell us_addCell u_init) rfl ⟨rfl, rfl⟩ hd_addCell ⟨Nat.le_of_ble_eq_true rfl, Nat.le_of_ble_eq_true rfl⟩ rfl hl.1 rfl (lv_room (Nat.le_of_ble_eq_true rfl)) dX12_unitGo_95 (fun  g24 H24 k24 hp24 L24 => ?_)
            obtain ⟨v25, ev25, fv25⟩ := inc_ex a63_6_15 (1) (1 : Int32) (by decide)
            have rv25 : rg (1) (5) v25 := (rg_add ev25 q19 kc_1 rfl).1
            have tv25 := (rg_add ev25 q19 kc_1 rfl).2
            refine lv_iinc (v := v25) (lv' := [(6, .int v25), (0, .ref h0), (4, .int v6), (5, .int v8)]) hx hb dX12_unitGo_98 hl (k := 3) rfl fv25 (by decide) rfl (fun ls hl => ?_)
            refine lv_goto (tgt := 63) hx hb dX12_unitGo_101 (by decide) ?_
            exact ih16 _ (ms_up tv25 kc_1 q19 rfl rfl) v25 g24 _ _ ls (mFr.tr (mFr.tr (mFr.tr hF16 hF22 rfl) hp23.1 rfl) hp24.1 rfl) L24 (rg_w rv25 rfl) (lv_sub hl [1, 2, 3, 0] rfl) rfl
          refine lv_icmp_ne (tgt := 87) hx hb dX12_unitGo_80 (by decide) (fun c80_26 => ?_) (fun c80_26 => ?_)
          · skip
            refine lv_iconst (v := 0) hx hb dX12_unitGo_87 (by decide) ?_
            exact j88_22 (0 : Int32) g16 _ _ ls mFr.rf L16 (rg_w kc_0 rfl) (lv_sub hl [0, 1, 2, 3] rfl)
          · skip
            refine lv_iconst (v := 1) hx hb dX12_unitGo_83 (by decide) ?_
            refine lv_goto (tgt := 88) hx hb dX12_unitGo_84 (by decide) ?_
            exact j88_22 (1 : Int32) g16 _ _ ls mFr.rf L16 (rg_w kc_1 rfl) (lv_sub hl [0, 1, 2, 3] rfl)
    exact j63_16 _ (0 : Int32) g14 _ _ ls mFr.rf L14 (rg_w kc_0 rfl) (lv_sub hl [3, 2, 1, 0] rfl) rfl
  · skip
    have q27 : rg (41) (45) v11 := (rg_lt (rg_nle c40_12) kc_40 rv11).2
    refine lv_aload_n hx hb dX12_unitGo_43 rfl (lv_at hl 2 rfl) ?_
    refine m_geta x L5 8 rfl rfl (wm_in uf_23) dX12_unitGo_44 ?_
    refine lv_iload hx hb dX12_unitGo_47 (lv_at hl 1 rfl) ?_
    refine lv_dup2_11 hx hb dX12_unitGo_49 rfl rfl ?_
    refine m_ld x L5 8 rfl rv6 rfl dX12_unitGo_50 (fun v28 ev28 wv28 => ?_)
    have rv28 : rg (-2147483648) (2147483647) v28 := lj_8 wv28
    refine lv_iload hx hb dX12_unitGo_51 (lv_at hl 0 rfl) ?_
    refine lv_iadd hx hb dX12_unitGo_53 ?_
    refine lv_topi (fun v29 ev29 => ?_)
    have rv29 : rg (-2147483648) (2147483647) v29 := rg_any v29
    refine m_st x L5 8 rfl rv6 rfl (rj_8 (rg_any v29)) dX12_unitGo_54 (fun g30 H30 k30 eg30 L30 => ?_)
    exact hQ _ _ _ _ _ dX12_unitGo_55 L30 ⟨(mFr.upE (mFr.tr (mFr.tr mFr.rf hp3.1 rfl) hp5.1 rfl) eg30 rfl), trivial⟩
theorem c_unitGo (l : Launch) {G : mG} {h0 : Nat} {ad : Nat → Nat} (nn X : Int) (g : mSt) (p1 : Int32) (p2 : Int32) (p3 : Int32) (hnn : 2 ≤ nn ∧ nn ≤ 4) (hX : 0 ≤ X ∧ X ≤ 2000000000) (rp1 : rg (0) (7) p1) (np1 : p1.toInt < 2 * nn) (hpre0 : rg (0) (196) (g 11 0)) : Met l yX12_unitGo (wm (Cond.code yX12_unitGo cX12_unitGo 7 none)) rm_unitGo (va_Pc [.ref h0, .int p1, .int p2, .int p3] (mPre G h0 ad nn X g)) (mQv G h0 ad nn X (fun g1 => mFr [4, 5, 7, 8, 9, 10, 11] g g1 ∧ True)) 0 0 (mA h0 ad) := by
  refine Met.ofW (cc := cX12_unitGo) (maxL := 7) (ret := none) (by decide) rfl ?_
  intro p e s m args below meth c s₁ B hml hv
  obtain ⟨rfl, hv⟩ := hv
  have hr := B.returns
  have hlocks := B.notSynchronized
  obtain ⟨x, L⟩ := m_start B rfl wm_X hv
  have hl := lv_entry ([.ref h0, .int p1, .int p2, .int p3]) (n := 7) (Nat.le_of_ble_eq_true rfl)
  rw [lg_entry_eq]
  generalize (lg_sl ([.ref h0, .int p1, .int p2, .int p3]) ++ List.replicate (7 - (lg_sl ([.ref h0, .int p1, .int p2, .int p3])).length) Slot.unset).toArray = ls at hl ⊢
  exact w_unitGo x hml L hnn hX p1 p2 p3 rp1 np1 hpre0 hl (fun pc' ls' g1 H1 locs1 hdg L hp => m_vret x L hr hlocks (Int.le_refl _) hp hdg)

def rm_small : Room := { frames := 4, cells := 0, slots := 0, locals := 96 }
theorem hd_small : yX12_small.cls = RX12 ∧ yX12_small.cls ≠ "java/lang/invoke/MethodHandle" ∧ yX12_small.cls ≠ "java/lang/invoke/VarHandle" ∧ (parseMethodDescriptor yX12_small.desc).map (fun d => d.parameters.length) = some 3 := by decide +kernel
set_option maxHeartbeats 4000000 in
set_option maxRecDepth 100000 in
theorem w_small {p : Program} {l : Launch} {e : Env} {s : State} {m : MethodId} {args : Array Value} {below : List Frame} {meth : Method} {c : Code} {H : Heap} {locs : List Loc} {Q : State → Prop} {ls : Array Slot} {G : mG} {h0 : Nat} {ad : Nat → Nat} {g : mSt} {H0 : Heap} {nn X : Int} (x : mX p c cX12_small s args (wm (Cond.code yX12_small cX12_small 4 none)) m G h0 ad) (hml : c.maxLocals = 4) (L : mL G h0 ad H0 nn X g H locs) (hnn : 2 ≤ nn ∧ nn ≤ 4) (hX : 0 ≤ X ∧ X ≤ 2000000000) (p1 : Int32) (p2 : Int32) (p3 : Int32) (rp1 : rg (0) (7) p1) (np1 : p1.toInt < 2 * nn) (hl : lv_has ls 4 [(0, .ref h0), (1, .int p1), (2, .int p2), (3, .int p3)]) (hQ : ∀ (pc' : Nat) (ls' : Array Slot) (g1 : mSt) (H1 : Heap) (locs1 : List Loc), decode cX12_small pc' = .ok (.return_, 1) → mL G h0 ad H0 nn X g1 H1 locs1 → (mFr [4, 5, 7, 8, 9, 10, 11] g g1 ∧ True) → W p l e rm_small s m args below meth c H1 locs1 0 0 Q (F0 m pc' ls' [])) : W p l e rm_small s m args below meth c H locs 0 0 Q (F0 m 0 ls []) := by
  have hx := x.1
  have hb := x.2.1
  refine lv_aload_n hx hb dX12_small_0 rfl (lv_at hl 0 rfl) ?_
  refine m_cv (As := []) (rest := []) x hml L (c_unitBegin l nn X g hnn hX) (wm_V uc_unitBegin ul_313 ui_unitBegin us_unitBegin u_init) rfl ⟨rfl, rfl⟩ hd_unitBegin ⟨Nat.le_of_ble_eq_true rfl, Nat.le_of_ble_eq_true rfl⟩ rfl hl.1 rfl (lv_room (Nat.le_of_ble_eq_true rfl)) dX12_small_1 (fun  g1 H1 k1 hp1 L1 => ?_)
  obtain ⟨v2, ev2⟩ : ∃ y : Int32, y = g1 11 0 := ⟨_, rfl⟩
  have rv2 : rg (0) (0) v2 := rg_eqv ev2.symm hp1.2
  refine lv_aload_n hx hb dX12_small_4 rfl (lv_at hl 0 rfl) ?_
  refine lv_iload_n hx hb dX12_small_5 rfl (lv_at hl 1 rfl) ?_
  refine lv_iload_n hx hb dX12_small_6 rfl (lv_at hl 2 rfl) ?_
  refine lv_iload_n hx hb dX12_small_7 rfl (lv_at hl 3 rfl) ?_
  refine m_cv (As := [.int p1, .int p2, .int p3]) (rest := []) x hml L1 (c_unitGo l nn X g1 p1 p2 p3 hnn hX (rg_w rp1 rfl) np1 (rg_eqv ev2 (rg_w rv2 rfl))) (wm_V uc_unitGo ul_316 ui_unitGo us_unitGo u_init) rfl ⟨rfl, rfl⟩ hd_unitGo ⟨Nat.le_of_ble_eq_true rfl, Nat.le_of_ble_eq_true rfl⟩ rfl hl.1 rfl (lv_room (Nat.le_of_ble_eq_true rfl)) dX12_small_8 (fun  g3 H3 k3 hp3 L3 => ?_)
  exact hQ _ _ _ _ _ dX12_small_11 L3 ⟨(mFr.tr (mFr.tr mFr.rf hp1.1 rfl) hp3.1 rfl), trivial⟩
theorem c_small (l : Launch) {G : mG} {h0 : Nat} {ad : Nat → Nat} (nn X : Int) (g : mSt) (p1 : Int32) (p2 : Int32) (p3 : Int32) (hnn : 2 ≤ nn ∧ nn ≤ 4) (hX : 0 ≤ X ∧ X ≤ 2000000000) (rp1 : rg (0) (7) p1) (np1 : p1.toInt < 2 * nn) : Met l yX12_small (wm (Cond.code yX12_small cX12_small 4 none)) rm_small (va_Pc [.ref h0, .int p1, .int p2, .int p3] (mPre G h0 ad nn X g)) (mQv G h0 ad nn X (fun g1 => mFr [4, 5, 7, 8, 9, 10, 11] g g1 ∧ True)) 0 0 (mA h0 ad) := by
  refine Met.ofW (cc := cX12_small) (maxL := 4) (ret := none) (by decide) rfl ?_
  intro p e s m args below meth c s₁ B hml hv
  obtain ⟨rfl, hv⟩ := hv
  have hr := B.returns
  have hlocks := B.notSynchronized
  obtain ⟨x, L⟩ := m_start B rfl wm_X hv
  have hl := lv_entry ([.ref h0, .int p1, .int p2, .int p3]) (n := 4) (Nat.le_of_ble_eq_true rfl)
  rw [lg_entry_eq]
  generalize (lg_sl ([.ref h0, .int p1, .int p2, .int p3]) ++ List.replicate (4 - (lg_sl ([.ref h0, .int p1, .int p2, .int p3])).length) Slot.unset).toArray = ls at hl ⊢
  exact w_small x hml L hnn hX p1 p2 p3 rp1 np1 hl (fun pc' ls' g1 H1 locs1 hdg L hp => m_vret x L hr hlocks (Int.le_refl _) hp hdg)

def rm_withMay : Room := { frames := 4, cells := 0, slots := 0, locals := 96 }
theorem hd_withMay : yX12_withMay.cls = RX12 ∧ yX12_withMay.cls ≠ "java/lang/invoke/MethodHandle" ∧ yX12_withMay.cls ≠ "java/lang/invoke/VarHandle" ∧ (parseMethodDescriptor yX12_withMay.desc).map (fun d => d.parameters.length) = some 4 := by decide +kernel
set_option maxHeartbeats 4000000 in
set_option maxRecDepth 100000 in
theorem w_withMay {p : Program} {l : Launch} {e : Env} {s : State} {m : MethodId} {args : Array Value} {below : List Frame} {meth : Method} {c : Code} {H : Heap} {locs : List Loc} {Q : State → Prop} {ls : Array Slot} {G : mG} {h0 : Nat} {ad : Nat → Nat} {g : mSt} {H0 : Heap} {nn X : Int} (x : mX p c cX12_withMay s args (wm (Cond.code yX12_withMay cX12_withMay 5 none)) m G h0 ad) (hml : c.maxLocals = 5) (L : mL G h0 ad H0 nn X g H locs) (hnn : 2 ≤ nn ∧ nn ≤ 4) (hX : 0 ≤ X ∧ X ≤ 2000000000) (p1 : Int32) (p2 : Int32) (p3 : Int32) (p4 : Int32) (rp1 : rg (0) (7) p1) (np1 : p1.toInt < 2 * nn) (hl : lv_has ls 5 [(0, .ref h0), (1, .int p1), (2, .int p2), (3, .int p3), (4, .int p4)]) (hQ : ∀ (pc' : Nat) (ls' : Array Slot) (g1 : mSt) (H1 : Heap) (locs1 : List Loc), decode cX12_withMay pc' = .ok (.return_, 1) → mL G h0 ad H0 nn X g1 H1 locs1 → (mFr [4, 5, 7, 8, 9, 10, 11] g g1 ∧ True) → W p l e rm_withMay s m args below meth c H1 locs1 0 0 Q (F0 m pc' ls' [])) : W p l e rm_withMay s m args below meth c H locs 0 0 Q (F0 m 0 ls []) := by
  have hx := x.1
  have hb := x.2.1
  refine lv_aload_n hx hb dX12_withMay_0 rfl (lv_at hl 0 rfl) ?_
  refine m_cv (As := []) (rest := []) x hml L (c_unitBegin l nn X g hnn hX) (wm_V uc_unitBegin ul_313 ui_unitBegin us_unitBegin u_init) rfl ⟨rfl, rfl⟩ hd_unitBegin ⟨Nat.le_of_ble_eq_true rfl, Nat.le_of_ble_eq_true rfl⟩ rfl hl.1 rfl (lv_room (Nat.le_of_ble_eq_true rfl)) dX12_withMay_1 (fun  g1 H1 k1 hp1 L1 => ?_)
  obtain ⟨v2, ev2⟩ : ∃ y : Int32, y = g1 11 0 := ⟨_, rfl⟩
  have rv2 : rg (0) (0) v2 := rg_eqv ev2.symm hp1.2
  refine lv_aload_n hx hb dX12_withMay_4 rfl (lv_at hl 0 rfl) ?_
  refine lv_iload_n hx hb dX12_withMay_5 rfl (lv_at hl 3 rfl) ?_
  refine m_cv (As := [.int p3]) (rest := []) x hml L1 (c_word l nn X g1 p3 hnn hX (rg_eqv ev2 (rg_w rv2 rfl))) (wm_V uc_word ul_299 ui_word us_word u_init) rfl ⟨rfl, rfl⟩ hd_word ⟨Nat.le_of_ble_eq_true rfl, Nat.le_of_ble_eq_true rfl⟩ rfl hl.1 rfl (lv_room (Nat.le_of_ble_eq_true rfl)) dX12_withMay_6 (fun  g3 H3 k3 hp3 L3 => ?_)
  obtain ⟨v4, ev4⟩ : ∃ y : Int32, y = g3 11 0 := ⟨_, rfl⟩
  have rv4 : rg (4) (4) v4 := rg_rel ev2 ev4 rv2 hp3.2 rfl
  refine lv_aload_n hx hb dX12_withMay_9 rfl (lv_at hl 0 rfl) ?_
  refine lv_iload_n hx hb dX12_withMay_10 rfl (lv_at hl 1 rfl) ?_
  refine lv_iload_n hx hb dX12_withMay_11 rfl (lv_at hl 2 rfl) ?_
  refine lv_iload hx hb dX12_withMay_12 (lv_at hl 4 rfl) ?_
  refine m_cv (As := [.int p1, .int p2, .int p4]) (rest := []) x hml L3 (c_unitGo l nn X g3 p1 p2 p4 hnn hX (rg_w rp1 rfl) np1 (rg_eqv ev4 (rg_w rv4 rfl))) (wm_V uc_unitGo ul_316 ui_unitGo us_unitGo u_init) rfl ⟨rfl, rfl⟩ hd_unitGo ⟨Nat.le_of_ble_eq_true rfl, Nat.le_of_ble_eq_true rfl⟩ rfl hl.1 rfl (lv_room (Nat.le_of_ble_eq_true rfl)) dX12_withMay_14 (fun  g5 H5 k5 hp5 L5 => ?_)
  exact hQ _ _ _ _ _ dX12_withMay_17 L5 ⟨(mFr.tr (mFr.tr (mFr.tr mFr.rf hp1.1 rfl) hp3.1 rfl) hp5.1 rfl), trivial⟩
theorem c_withMay (l : Launch) {G : mG} {h0 : Nat} {ad : Nat → Nat} (nn X : Int) (g : mSt) (p1 : Int32) (p2 : Int32) (p3 : Int32) (p4 : Int32) (hnn : 2 ≤ nn ∧ nn ≤ 4) (hX : 0 ≤ X ∧ X ≤ 2000000000) (rp1 : rg (0) (7) p1) (np1 : p1.toInt < 2 * nn) : Met l yX12_withMay (wm (Cond.code yX12_withMay cX12_withMay 5 none)) rm_withMay (va_Pc [.ref h0, .int p1, .int p2, .int p3, .int p4] (mPre G h0 ad nn X g)) (mQv G h0 ad nn X (fun g1 => mFr [4, 5, 7, 8, 9, 10, 11] g g1 ∧ True)) 0 0 (mA h0 ad) := by
  refine Met.ofW (cc := cX12_withMay) (maxL := 5) (ret := none) (by decide) rfl ?_
  intro p e s m args below meth c s₁ B hml hv
  obtain ⟨rfl, hv⟩ := hv
  have hr := B.returns
  have hlocks := B.notSynchronized
  obtain ⟨x, L⟩ := m_start B rfl wm_X hv
  have hl := lv_entry ([.ref h0, .int p1, .int p2, .int p3, .int p4]) (n := 5) (Nat.le_of_ble_eq_true rfl)
  rw [lg_entry_eq]
  generalize (lg_sl ([.ref h0, .int p1, .int p2, .int p3, .int p4]) ++ List.replicate (5 - (lg_sl ([.ref h0, .int p1, .int p2, .int p3, .int p4])).length) Slot.unset).toArray = ls at hl ⊢
  exact w_withMay x hml L hnn hX p1 p2 p3 p4 rp1 np1 hl (fun pc' ls' g1 H1 locs1 hdg L hp => m_vret x L hr hlocks (Int.le_refl _) hp hdg)

def rm_crc : Room := { frames := 2, cells := 0, slots := 0, locals := 45 }
theorem hd_crc : yX12_crc.cls = RX12 ∧ yX12_crc.cls ≠ "java/lang/invoke/MethodHandle" ∧ yX12_crc.cls ≠ "java/lang/invoke/VarHandle" ∧ (parseMethodDescriptor yX12_crc.desc).map (fun d => d.parameters.length) = some 0 := by decide +kernel
set_option maxHeartbeats 4000000 in
set_option maxRecDepth 100000 in
theorem w_crc {p : Program} {l : Launch} {e : Env} {s : State} {m : MethodId} {args : Array Value} {below : List Frame} {meth : Method} {c : Code} {H : Heap} {locs : List Loc} {Q : State → Prop} {ls : Array Slot} {G : mG} {h0 : Nat} {ad : Nat → Nat} {g : mSt} {H0 : Heap} {nn X : Int} (x : mX p c cX12_crc s args (wm (Cond.code yX12_crc cX12_crc 2 (some .int))) m G h0 ad) (hml : c.maxLocals = 2) (L : mL G h0 ad H0 nn X g H locs) (hnn : 2 ≤ nn ∧ nn ≤ 4) (hX : 0 ≤ X ∧ X ≤ 2000000000) (hl : lv_has ls 2 [(0, .ref h0)]) (hQ : ∀ (pc' : Nat) (ls' : Array Slot) (r : Int32) (g1 : mSt) (H1 : Heap) (locs1 : List Loc), decode cX12_crc pc' = .ok (.ireturn, 1) → mL G h0 ad H0 nn X g1 H1 locs1 → (mFr [4, 10, 11] g g1 ∧ rg (-2147483648) (2147483647) r ∧ True) → W p l e rm_crc s m args below meth c H1 locs1 0 0 Q (F0 m pc' ls' [.int r])) : W p l e rm_crc s m args below meth c H locs 0 0 Q (F0 m 0 ls []) := by
  have hx := x.1
  have hb := x.2.1
  refine lv_aload_n hx hb dX12_crc_0 rfl (lv_at hl 0 rfl) ?_
  refine m_geti x L 3 rfl rfl (wm_in uf_264) dX12_crc_1 (fun v1 ev1 wv1 => ?_)
  have rv1 : rg (0) (200) v1 := lj_3 wv1
  refine lv_if_ne (tgt := 9) hx hb dX12_crc_4 (by decide) (fun c4_2 => ?_) (fun c4_2 => ?_)
  · skip
    have q3 : rg (1) (200) v1 := rg_neL c4_2 rv1 kc_0
    refine lv_aload_n hx hb dX12_crc_9 rfl (lv_at hl 0 rfl) ?_
    refine lv_aload_n hx hb dX12_crc_10 rfl (lv_at hl 0 rfl) ?_
    refine m_geti x L 3 rfl rfl (wm_in uf_264) dX12_crc_11 (fun v4 ev4 wv4 => ?_)
    refine m_top ((ev1).trans ev4.symm) ?_
    refine m_puti x L 11 rfl fi_11 (wm_in uf_279) dX12_crc_14 (rj_11 (rg_w q3 rfl)) (fun g5 H5 k5 eg5 L5 => ?_)
    refine lv_iconst (v := 0) hx hb dX12_crc_17 (by decide) ?_
    refine lv_istore_n (lv' := [(1, .int (0 : Int32)), (0, .ref h0)]) hx hb dX12_crc_18 rfl hl (by decide) rfl (fun ls hl => ?_)
    have j19_7 : ∀ (n : Nat) (a19_1_6 : Int32) (g7 : mSt) (H7 : Heap) (k7 : List Loc) (ls : Array Slot), mFr [10] g5 g7 → mL G h0 ad H0 nn X g7 H7 k7 → rg (0) (200) a19_1_6 → lv_has ls 2 [(0, .ref h0), (1, .int a19_1_6)] → ((200 : Int) - a19_1_6.toInt).toNat = n → W p l e rm_crc s m args below meth c H7 k7 0 0 Q (F0 m 19 ls []) := by
      intro n
      induction n using Nat.strongRecOn with
      | _ n ih7 =>
        intro a19_1_6 g7 H7 k7 ls hF7 L7 ra19_1_6 hl hn7
        subst hn7
        refine lv_iload_n hx hb dX12_crc_19 rfl (lv_at hl 1 rfl) ?_
        refine lv_aload_n hx hb dX12_crc_20 rfl (lv_at hl 0 rfl) ?_
        refine m_geti x L7 3 rfl rfl (wm_in uf_264) dX12_crc_21 (fun v8 ev8 wv8 => ?_)
        refine m_top (((mm_fr (mm_up ev1 eg5 rfl) hF7 rfl)).trans ev8.symm) ?_
        refine lv_icmp_ge (tgt := 45) hx hb dX12_crc_24 (by decide) (fun c24_9 => ?_) (fun c24_9 => ?_)
        · skip
          have q10 : rg (1) (200) a19_1_6 := (rg_le c24_9 q3 ra19_1_6).2
          refine lv_aload_n hx hb dX12_crc_45 rfl (lv_at hl 0 rfl) ?_
          refine m_cv (As := []) (rest := []) x hml L7 (c_closeFrame l nn X g7 hnn hX (rg_eqv (mm_fr (mm_st eg5) hF7 rfl) (rg_w q3 rfl))) (wm_V uc_closeFrame ul_282 ui_closeFrame us_closeFrame u_init) rfl ⟨rfl, rfl⟩ hd_closeFrame ⟨Nat.le_of_ble_eq_true rfl, Nat.le_of_ble_eq_true rfl⟩ rfl hl.1 rfl (lv_room (Nat.le_of_ble_eq_true rfl)) dX12_crc_46 (fun  g11 H11 k11 hp11 L11 => ?_)
          refine lv_aload_n hx hb dX12_crc_49 rfl (lv_at hl 0 rfl) ?_
          refine m_geti x L11 4 rfl rfl (wm_in uf_271) dX12_crc_50 (fun v12 ev12 wv12 => ?_)
          have rv12 : rg (-2147483648) (2147483647) v12 := lj_4 wv12
          refine lv_iconst (v := (-1)) hx hb dX12_crc_53 (by decide) ?_
          refine lv_ixor hx hb dX12_crc_54 ?_
          refine lv_topi (fun v13 ev13 => ?_)
          have rv13 : rg (-2147483648) (2147483647) v13 := rg_any v13
          exact hQ _ _ v13 _ _ _ dX12_crc_55 L11 ⟨(mFr.tr (mFr.tr (mFr.upE mFr.rf eg5 rfl) hF7 rfl) hp11.1 rfl), rg_w rv13 rfl, trivial⟩
        · skip
          have q14 : rg (0) (199) a19_1_6 := (rg_lt (rg_nle c24_9) ra19_1_6 q3).1
          refine lv_aload_n hx hb dX12_crc_27 rfl (lv_at hl 0 rfl) ?_
          refine m_geta x L7 10 rfl rfl (wm_in uf_29) dX12_crc_28 ?_
          refine lv_iload_n hx hb dX12_crc_31 rfl (lv_at hl 1 rfl) ?_
          refine lv_aload_n hx hb dX12_crc_32 rfl (lv_at hl 0 rfl) ?_
          refine m_geta x L7 2 rfl rfl (wm_in uf_7) dX12_crc_33 ?_
          refine lv_iload_n hx hb dX12_crc_36 rfl (lv_at hl 1 rfl) ?_
          refine m_ld x L7 2 rfl q14 rfl dX12_crc_37 (fun v15 ev15 wv15 => ?_)
          have rv15 : rg (-2147483648) (2147483647) v15 := lj_2 wv15
          refine m_st x L7 10 rfl q14 rfl (rj_10 (rg_any v15)) dX12_crc_38 (fun g16 H16 k16 eg16 L16 => ?_)
          obtain ⟨v17, ev17, fv17⟩ := inc_ex a19_1_6 (1) (1 : Int32) (by decide)
          have rv17 : rg (1) (200) v17 := (rg_add ev17 q14 kc_1 rfl).1
          have tv17 := (rg_add ev17 q14 kc_1 rfl).2
          refine lv_iinc (v := v17) (lv' := [(1, .int v17), (0, .ref h0)]) hx hb dX12_crc_39 hl (k := 1) rfl fv17 (by decide) rfl (fun ls hl => ?_)
          refine lv_goto (tgt := 19) hx hb dX12_crc_42 (by decide) ?_
          exact ih7 _ (ms_up tv17 kc_1 q14 rfl rfl) v17 g16 _ _ ls (mFr.upE hF7 eg16 rfl) L16 (rg_w rv17 rfl) (lv_sub hl [1, 0] rfl) rfl
    exact j19_7 _ (0 : Int32) g5 _ _ ls mFr.rf L5 (rg_w kc_0 rfl) (lv_sub hl [1, 0] rfl) rfl
  · skip
    have q18 : rg (0) (0) v1 := (rg_eq c4_2 rv1 kc_0).1
    refine lv_iconst (v := 0) hx hb dX12_crc_7 (by decide) ?_
    exact hQ _ _ (0 : Int32) _ _ _ dX12_crc_8 L ⟨mFr.rf, rg_w kc_0 rfl, trivial⟩
theorem c_crc (l : Launch) {G : mG} {h0 : Nat} {ad : Nat → Nat} (nn X : Int) (g : mSt) (hnn : 2 ≤ nn ∧ nn ≤ 4) (hX : 0 ≤ X ∧ X ≤ 2000000000) : Met l yX12_crc (wm (Cond.code yX12_crc cX12_crc 2 (some .int))) rm_crc (va_Pc [.ref h0] (mPre G h0 ad nn X g)) (mQi G h0 ad nn X (fun r g1 => mFr [4, 10, 11] g g1 ∧ rg (-2147483648) (2147483647) r ∧ True)) 0 0 (mA h0 ad) := by
  refine Met.ofW (cc := cX12_crc) (maxL := 2) (ret := (some .int)) (by decide) rfl ?_
  intro p e s m args below meth c s₁ B hml hv
  obtain ⟨rfl, hv⟩ := hv
  have hr := B.returns
  have hlocks := B.notSynchronized
  obtain ⟨x, L⟩ := m_start B rfl wm_X hv
  have hl := lv_entry ([.ref h0]) (n := 2) (Nat.le_of_ble_eq_true rfl)
  rw [lg_entry_eq]
  generalize (lg_sl ([.ref h0]) ++ List.replicate (2 - (lg_sl ([.ref h0])).length) Slot.unset).toArray = ls at hl ⊢
  exact w_crc x hml L hnn hX hl (fun pc' ls' r g1 H1 locs1 hdg L hp => m_iret x L hr hlocks (Int.le_refl _) hp hdg)

def rm_askAgain : Room := { frames := 5, cells := 0, slots := 0, locals := 120 }
theorem hd_askAgain : yX12_askAgain.cls = RX12 ∧ yX12_askAgain.cls ≠ "java/lang/invoke/MethodHandle" ∧ yX12_askAgain.cls ≠ "java/lang/invoke/VarHandle" ∧ (parseMethodDescriptor yX12_askAgain.desc).map (fun d => d.parameters.length) = some 1 := by decide +kernel
set_option maxHeartbeats 4000000 in
set_option maxRecDepth 100000 in
theorem w_askAgain {p : Program} {l : Launch} {e : Env} {s : State} {m : MethodId} {args : Array Value} {below : List Frame} {meth : Method} {c : Code} {H : Heap} {locs : List Loc} {Q : State → Prop} {ls : Array Slot} {G : mG} {h0 : Nat} {ad : Nat → Nat} {g : mSt} {H0 : Heap} {nn X : Int} (x : mX p c cX12_askAgain s args (wm (Cond.code yX12_askAgain cX12_askAgain 2 none)) m G h0 ad) (hml : c.maxLocals = 2) (L : mL G h0 ad H0 nn X g H locs) (hnn : 2 ≤ nn ∧ nn ≤ 4) (hX : 0 ≤ X ∧ X ≤ 2000000000) (p1 : Int32) (rp1 : rg (0) (7) p1) (np1 : p1.toInt < 2 * nn) (hl : lv_has ls 2 [(0, .ref h0), (1, .int p1)]) (hQ : ∀ (pc' : Nat) (ls' : Array Slot) (g1 : mSt) (H1 : Heap) (locs1 : List Loc), decode cX12_askAgain pc' = .ok (.return_, 1) → mL G h0 ad H0 nn X g1 H1 locs1 → (mFr [4, 5, 7, 8, 9, 10, 11] g g1 ∧ True) → W p l e rm_askAgain s m args below meth c H1 locs1 0 0 Q (F0 m pc' ls' [])) : W p l e rm_askAgain s m args below meth c H locs 0 0 Q (F0 m 0 ls []) := by
  have hx := x.1
  have hb := x.2.1
  refine lv_aload_n hx hb dX12_askAgain_0 rfl (lv_at hl 0 rfl) ?_
  refine m_geta x L 40 rfl rfl (wm_in uf_107) dX12_askAgain_1 ?_
  refine lv_iload_n hx hb dX12_askAgain_4 rfl (lv_at hl 1 rfl) ?_
  refine m_ld x L 40 rfl rp1 rfl dX12_askAgain_5 (fun v1 ev1 wv1 => ?_)
  have rv1 : rg (-2147483648) (2147483647) v1 := lj_40 wv1
  refine lv_iconst (v := 1) hx hb dX12_askAgain_6 (by decide) ?_
  have j75_2 : ∀ (g2 : mSt) (H2 : Heap) (k2 : List Loc) (ls : Array Slot), mFr [4, 5, 7, 8, 9, 10, 11] g g2 → mL G h0 ad H0 nn X g2 H2 k2 → lv_has ls 2 [(0, .ref h0)] → W p l e rm_askAgain s m args below meth c H2 k2 0 0 Q (F0 m 75 ls []) := by
    intro  g2 H2 k2 ls hF2 L2  hl
    exact hQ _ _ _ _ _ dX12_askAgain_75 L2 ⟨(mFr.tr mFr.rf hF2 rfl), trivial⟩
  refine lv_icmp_ne (tgt := 27) hx hb dX12_askAgain_7 (by decide) (fun c7_3 => ?_) (fun c7_3 => ?_)
  · skip
    refine lv_aload_n hx hb dX12_askAgain_27 rfl (lv_at hl 0 rfl) ?_
    refine m_geta x L 40 rfl rfl (wm_in uf_107) dX12_askAgain_28 ?_
    refine lv_iload_n hx hb dX12_askAgain_31 rfl (lv_at hl 1 rfl) ?_
    refine m_ld x L 40 rfl rp1 rfl dX12_askAgain_32 (fun v4 ev4 wv4 => ?_)
    refine m_top ((ev1).trans ev4.symm) ?_
    refine lv_iconst (v := 3) hx hb dX12_askAgain_33 (by decide) ?_
    refine lv_icmp_ne (tgt := 68) hx hb dX12_askAgain_34 (by decide) (fun c34_5 => ?_) (fun c34_5 => ?_)
    · skip
      refine lv_aload_n hx hb dX12_askAgain_68 rfl (lv_at hl 0 rfl) ?_
      refine lv_iload_n hx hb dX12_askAgain_69 rfl (lv_at hl 1 rfl) ?_
      refine lv_iconst (v := 3) hx hb dX12_askAgain_70 (by decide) ?_
      refine lv_iconst (v := 0) hx hb dX12_askAgain_71 (by decide) ?_
      refine m_cv (As := [.int p1, .int (3 : Int32), .int (0 : Int32)]) (rest := []) x hml L (c_small l nn X g p1 (3 : Int32) (0 : Int32) hnn hX (rg_w rp1 rfl) np1) (wm_V uc_small ul_400 ui_small us_small u_init) rfl ⟨rfl, rfl⟩ hd_small ⟨Nat.le_of_ble_eq_true rfl, Nat.le_of_ble_eq_true rfl⟩ rfl hl.1 rfl (lv_room (Nat.le_of_ble_eq_true rfl)) dX12_askAgain_72 (fun  g6 H6 k6 hp6 L6 => ?_)
      exact j75_2  g6 _ _ ls (mFr.tr mFr.rf hp6.1 rfl) L6  (lv_sub hl [0] rfl)
    · skip
      have q7 : rg (3) (3) v1 := (rg_eq c34_5 rv1 kc_3).1
      refine lv_aload_n hx hb dX12_askAgain_37 rfl (lv_at hl 0 rfl) ?_
      refine lv_iload_n hx hb dX12_askAgain_38 rfl (lv_at hl 1 rfl) ?_
      refine lv_aload_n hx hb dX12_askAgain_39 rfl (lv_at hl 0 rfl) ?_
      refine m_geta x L 54 rfl rfl (wm_in uf_149) dX12_askAgain_40 ?_
      refine lv_iload_n hx hb dX12_askAgain_43 rfl (lv_at hl 1 rfl) ?_
      refine m_ldz x L 54 rfl rp1 rfl dX12_askAgain_44 (fun v8 ev8 wv8 => ?_)
      have rv8 : rg (0) (1) v8 := lj_54 wv8
      have j54_10 : ∀ (b54_2_9 : Int32) (g10 : mSt) (H10 : Heap) (k10 : List Loc) (ls : Array Slot), mFr [] g g10 → mL G h0 ad H0 nn X g10 H10 k10 → rg (5) (9) b54_2_9 → lv_has ls 2 [(0, .ref h0), (1, .int p1)] → W p l e rm_askAgain s m args below meth c H10 k10 0 0 Q (F0 m 54 ls [.int b54_2_9, .int p1, .ref h0]) := by
        intro b54_2_9 g10 H10 k10 ls hF10 L10 rb54_2_9 hl
        refine lv_bipush (v := 8) hx hb dX12_askAgain_54 (by decide) ?_
        refine lv_aload_n hx hb dX12_askAgain_56 rfl (lv_at hl 0 rfl) ?_
        refine m_geta x L10 49 rfl rfl (wm_in uf_134) dX12_askAgain_57 ?_
        refine lv_iload_n hx hb dX12_askAgain_60 rfl (lv_at hl 1 rfl) ?_
        refine m_ld x L10 49 rfl rp1 rfl dX12_askAgain_61 (fun v11 ev11 wv11 => ?_)
        have rv11 : rg (-2147483648) (2147483647) v11 := lj_49 wv11
        refine m_cv (As := [.int p1, .int b54_2_9, .int (8 : Int32), .int v11]) (rest := []) x hml L10 (c_withMay l nn X g10 p1 b54_2_9 (8 : Int32) v11 hnn hX (rg_w rp1 rfl) np1) (wm_V uc_withMay ul_397 ui_withMay us_withMay u_init) rfl ⟨rfl, rfl⟩ hd_withMay ⟨Nat.le_of_ble_eq_true rfl, Nat.le_of_ble_eq_true rfl⟩ rfl hl.1 rfl (lv_room (Nat.le_of_ble_eq_true rfl)) dX12_askAgain_62 (fun  g12 H12 k12 hp12 L12 => ?_)
        refine lv_goto (tgt := 75) hx hb dX12_askAgain_65 (by decide) ?_
        exact j75_2  g12 _ _ ls (mFr.tr (mFr.tr mFr.rf hF10 rfl) hp12.1 rfl) L12  (lv_sub hl [0] rfl)
      refine lv_if_eq (tgt := 53) hx hb dX12_askAgain_45 (by decide) (fun c45_13 => ?_) (fun c45_13 => ?_)
      · skip
        have q14 : rg (0) (0) v8 := (rg_eq c45_13 rv8 kc_0).1
        refine lv_iconst (v := 5) hx hb dX12_askAgain_53 (by decide) ?_
        exact j54_10 (5 : Int32) g _ _ ls mFr.rf L (rg_w kc_5 rfl) (lv_sub hl [0, 1] rfl)
      · skip
        have q15 : rg (1) (1) v8 := rg_neL c45_13 rv8 kc_0
        refine lv_bipush (v := 9) hx hb dX12_askAgain_48 (by decide) ?_
        refine lv_goto (tgt := 54) hx hb dX12_askAgain_50 (by decide) ?_
        exact j54_10 (9 : Int32) g _ _ ls mFr.rf L (rg_w kc_9 rfl) (lv_sub hl [0, 1] rfl)
  · skip
    have q16 : rg (1) (1) v1 := (rg_eq c7_3 rv1 kc_1).1
    refine lv_aload_n hx hb dX12_askAgain_10 rfl (lv_at hl 0 rfl) ?_
    refine lv_iload_n hx hb dX12_askAgain_11 rfl (lv_at hl 1 rfl) ?_
    refine lv_iconst (v := 1) hx hb dX12_askAgain_12 (by decide) ?_
    refine lv_bipush (v := 8) hx hb dX12_askAgain_13 (by decide) ?_
    refine lv_aload_n hx hb dX12_askAgain_15 rfl (lv_at hl 0 rfl) ?_
    refine m_geta x L 49 rfl rfl (wm_in uf_134) dX12_askAgain_16 ?_
    refine lv_iload_n hx hb dX12_askAgain_19 rfl (lv_at hl 1 rfl) ?_
    refine m_ld x L 49 rfl rp1 rfl dX12_askAgain_20 (fun v17 ev17 wv17 => ?_)
    have rv17 : rg (-2147483648) (2147483647) v17 := lj_49 wv17
    refine m_cv (As := [.int p1, .int (1 : Int32), .int (8 : Int32), .int v17]) (rest := []) x hml L (c_withMay l nn X g p1 (1 : Int32) (8 : Int32) v17 hnn hX (rg_w rp1 rfl) np1) (wm_V uc_withMay ul_397 ui_withMay us_withMay u_init) rfl ⟨rfl, rfl⟩ hd_withMay ⟨Nat.le_of_ble_eq_true rfl, Nat.le_of_ble_eq_true rfl⟩ rfl hl.1 rfl (lv_room (Nat.le_of_ble_eq_true rfl)) dX12_askAgain_21 (fun  g18 H18 k18 hp18 L18 => ?_)
    refine lv_goto (tgt := 75) hx hb dX12_askAgain_24 (by decide) ?_
    exact j75_2  g18 _ _ ls (mFr.tr mFr.rf hp18.1 rfl) L18  (lv_sub hl [0] rfl)
theorem c_askAgain (l : Launch) {G : mG} {h0 : Nat} {ad : Nat → Nat} (nn X : Int) (g : mSt) (p1 : Int32) (hnn : 2 ≤ nn ∧ nn ≤ 4) (hX : 0 ≤ X ∧ X ≤ 2000000000) (rp1 : rg (0) (7) p1) (np1 : p1.toInt < 2 * nn) : Met l yX12_askAgain (wm (Cond.code yX12_askAgain cX12_askAgain 2 none)) rm_askAgain (va_Pc [.ref h0, .int p1] (mPre G h0 ad nn X g)) (mQv G h0 ad nn X (fun g1 => mFr [4, 5, 7, 8, 9, 10, 11] g g1 ∧ True)) 0 0 (mA h0 ad) := by
  refine Met.ofW (cc := cX12_askAgain) (maxL := 2) (ret := none) (by decide) rfl ?_
  intro p e s m args below meth c s₁ B hml hv
  obtain ⟨rfl, hv⟩ := hv
  have hr := B.returns
  have hlocks := B.notSynchronized
  obtain ⟨x, L⟩ := m_start B rfl wm_X hv
  have hl := lv_entry ([.ref h0, .int p1]) (n := 2) (Nat.le_of_ble_eq_true rfl)
  rw [lg_entry_eq]
  generalize (lg_sl ([.ref h0, .int p1]) ++ List.replicate (2 - (lg_sl ([.ref h0, .int p1])).length) Slot.unset).toArray = ls at hl ⊢
  exact w_askAgain x hml L hnn hX p1 rp1 np1 hl (fun pc' ls' g1 H1 locs1 hdg L hp => m_vret x L hr hlocks (Int.le_refl _) hp hdg)

def rm_ask : Room := { frames := 6, cells := 0, slots := 0, locals := 141 }
theorem hd_ask : yX12_ask.cls = RX12 ∧ yX12_ask.cls ≠ "java/lang/invoke/MethodHandle" ∧ yX12_ask.cls ≠ "java/lang/invoke/VarHandle" ∧ (parseMethodDescriptor yX12_ask.desc).map (fun d => d.parameters.length) = some 2 := by decide +kernel
set_option maxHeartbeats 4000000 in
set_option maxRecDepth 100000 in
theorem w_ask {p : Program} {l : Launch} {e : Env} {s : State} {m : MethodId} {args : Array Value} {below : List Frame} {meth : Method} {c : Code} {H : Heap} {locs : List Loc} {Q : State → Prop} {ls : Array Slot} {G : mG} {h0 : Nat} {ad : Nat → Nat} {g : mSt} {H0 : Heap} {nn X : Int} (x : mX p c cX12_ask s args (wm (Cond.code yX12_ask cX12_ask 3 none)) m G h0 ad) (hml : c.maxLocals = 3) (L : mL G h0 ad H0 nn X g H locs) (hnn : 2 ≤ nn ∧ nn ≤ 4) (hX : 0 ≤ X ∧ X ≤ 2000000000) (p1 : Int32) (p2 : Int32) (rp1 : rg (0) (7) p1) (np1 : p1.toInt < 2 * nn) (hl : lv_has ls 3 [(0, .ref h0), (1, .int p1), (2, .int p2)]) (hQ : ∀ (pc' : Nat) (ls' : Array Slot) (g1 : mSt) (H1 : Heap) (locs1 : List Loc), decode cX12_ask pc' = .ok (.return_, 1) → mL G h0 ad H0 nn X g1 H1 locs1 → (mFr [4, 5, 7, 8, 9, 10, 11, 40, 52, 53] g g1 ∧ True) → W p l e rm_ask s m args below meth c H1 locs1 0 0 Q (F0 m pc' ls' [])) : W p l e rm_ask s m args below meth c H locs 0 0 Q (F0 m 0 ls []) := by
  have hx := x.1
  have hb := x.2.1
  refine lv_aload_n hx hb dX12_ask_0 rfl (lv_at hl 0 rfl) ?_
  refine m_geta x L 40 rfl rfl (wm_in uf_107) dX12_ask_1 ?_
  refine lv_iload_n hx hb dX12_ask_4 rfl (lv_at hl 1 rfl) ?_
  refine lv_iload_n hx hb dX12_ask_5 rfl (lv_at hl 2 rfl) ?_
  refine m_st x L 40 rfl rp1 rfl (rj_40 (rg_any p2)) dX12_ask_6 (fun g1 H1 k1 eg1 L1 => ?_)
  refine lv_aload_n hx hb dX12_ask_7 rfl (lv_at hl 0 rfl) ?_
  refine m_geta x L1 52 rfl rfl (wm_in uf_143) dX12_ask_8 ?_
  refine lv_iload_n hx hb dX12_ask_11 rfl (lv_at hl 1 rfl) ?_
  refine lv_aload_n hx hb dX12_ask_12 rfl (lv_at hl 0 rfl) ?_
  refine m_geti x L1 1 rfl rfl (wm_in uf_378) dX12_ask_13 (fun v2 ev2 wv2 => ?_)
  have rv2 : rg (-2147483648) (2147483647) v2 := lj_1 wv2
  refine m_st x L1 52 rfl rp1 rfl (rj_52 (rg_any v2)) dX12_ask_16 (fun g3 H3 k3 eg3 L3 => ?_)
  refine lv_aload_n hx hb dX12_ask_17 rfl (lv_at hl 0 rfl) ?_
  refine m_geta x L3 53 rfl rfl (wm_in uf_146) dX12_ask_18 ?_
  refine lv_iload_n hx hb dX12_ask_21 rfl (lv_at hl 1 rfl) ?_
  refine lv_iconst (v := 1) hx hb dX12_ask_22 (by decide) ?_
  refine m_st x L3 53 rfl rp1 rfl (rj_53 (rg_any (1 : Int32))) dX12_ask_23 (fun g4 H4 k4 eg4 L4 => ?_)
  refine lv_aload_n hx hb dX12_ask_24 rfl (lv_at hl 0 rfl) ?_
  refine lv_iload_n hx hb dX12_ask_25 rfl (lv_at hl 1 rfl) ?_
  refine m_cv (As := [.int p1]) (rest := []) x hml L4 (c_askAgain l nn X g4 p1 hnn hX (rg_w rp1 rfl) np1) (wm_V uc_askAgain ul_394 ui_askAgain us_askAgain u_init) rfl ⟨rfl, rfl⟩ hd_askAgain ⟨Nat.le_of_ble_eq_true rfl, Nat.le_of_ble_eq_true rfl⟩ rfl hl.1 rfl (lv_room (Nat.le_of_ble_eq_true rfl)) dX12_ask_26 (fun  g5 H5 k5 hp5 L5 => ?_)
  exact hQ _ _ _ _ _ dX12_ask_29 L5 ⟨(mFr.tr (mFr.upE (mFr.upE (mFr.upE mFr.rf eg1 rfl) eg3 rfl) eg4 rfl) hp5.1 rfl), trivial⟩
theorem c_ask (l : Launch) {G : mG} {h0 : Nat} {ad : Nat → Nat} (nn X : Int) (g : mSt) (p1 : Int32) (p2 : Int32) (hnn : 2 ≤ nn ∧ nn ≤ 4) (hX : 0 ≤ X ∧ X ≤ 2000000000) (rp1 : rg (0) (7) p1) (np1 : p1.toInt < 2 * nn) : Met l yX12_ask (wm (Cond.code yX12_ask cX12_ask 3 none)) rm_ask (va_Pc [.ref h0, .int p1, .int p2] (mPre G h0 ad nn X g)) (mQv G h0 ad nn X (fun g1 => mFr [4, 5, 7, 8, 9, 10, 11, 40, 52, 53] g g1 ∧ True)) 0 0 (mA h0 ad) := by
  refine Met.ofW (cc := cX12_ask) (maxL := 3) (ret := none) (by decide) rfl ?_
  intro p e s m args below meth c s₁ B hml hv
  obtain ⟨rfl, hv⟩ := hv
  have hr := B.returns
  have hlocks := B.notSynchronized
  obtain ⟨x, L⟩ := m_start B rfl wm_X hv
  have hl := lv_entry ([.ref h0, .int p1, .int p2]) (n := 3) (Nat.le_of_ble_eq_true rfl)
  rw [lg_entry_eq]
  generalize (lg_sl ([.ref h0, .int p1, .int p2]) ++ List.replicate (3 - (lg_sl ([.ref h0, .int p1, .int p2])).length) Slot.unset).toArray = ls at hl ⊢
  exact w_ask x hml L hnn hX p1 p2 rp1 np1 hl (fun pc' ls' g1 H1 locs1 hdg L hp => m_vret x L hr hlocks (Int.le_refl _) hp hdg)

def rm_askReset : Room := { frames := 7, cells := 0, slots := 0, locals := 163 }
theorem hd_askReset : yX12_askReset.cls = RX12 ∧ yX12_askReset.cls ≠ "java/lang/invoke/MethodHandle" ∧ yX12_askReset.cls ≠ "java/lang/invoke/VarHandle" ∧ (parseMethodDescriptor yX12_askReset.desc).map (fun d => d.parameters.length) = some 2 := by decide +kernel
set_option maxHeartbeats 4000000 in
set_option maxRecDepth 100000 in
theorem w_askReset {p : Program} {l : Launch} {e : Env} {s : State} {m : MethodId} {args : Array Value} {below : List Frame} {meth : Method} {c : Code} {H : Heap} {locs : List Loc} {Q : State → Prop} {ls : Array Slot} {G : mG} {h0 : Nat} {ad : Nat → Nat} {g : mSt} {H0 : Heap} {nn X : Int} (x : mX p c cX12_askReset s args (wm (Cond.code yX12_askReset cX12_askReset 3 none)) m G h0 ad) (hml : c.maxLocals = 3) (L : mL G h0 ad H0 nn X g H locs) (hnn : 2 ≤ nn ∧ nn ≤ 4) (hX : 0 ≤ X ∧ X ≤ 2000000000) (p1 : Int32) (p2 : Int32) (rp1 : rg (0) (7) p1) (np1 : p1.toInt < 2 * nn) (rp2 : rg (0) (1) p2) (hl : lv_has ls 3 [(0, .ref h0), (1, .int p1), (2, .int p2)]) (hQ : ∀ (pc' : Nat) (ls' : Array Slot) (g1 : mSt) (H1 : Heap) (locs1 : List Loc), decode cX12_askReset pc' = .ok (.return_, 1) → mL G h0 ad H0 nn X g1 H1 locs1 → (mFr [4, 5, 7, 8, 9, 10, 11, 40, 49, 52, 53, 54] g g1 ∧ True) → W p l e rm_askReset s m args below meth c H1 locs1 0 0 Q (F0 m pc' ls' [])) : W p l e rm_askReset s m args below meth c H locs 0 0 Q (F0 m 0 ls []) := by
  have hx := x.1
  have hb := x.2.1
  refine lv_aload_n hx hb dX12_askReset_0 rfl (lv_at hl 0 rfl) ?_
  refine m_geta x L 49 rfl rfl (wm_in uf_134) dX12_askReset_1 ?_
  refine lv_iload_n hx hb dX12_askReset_4 rfl (lv_at hl 1 rfl) ?_
  refine lv_dup2_11 hx hb dX12_askReset_5 rfl rfl ?_
  refine m_ld x L 49 rfl rp1 rfl dX12_askReset_6 (fun v1 ev1 wv1 => ?_)
  have rv1 : rg (-2147483648) (2147483647) v1 := lj_49 wv1
  refine lv_iconst (v := 1) hx hb dX12_askReset_7 (by decide) ?_
  refine lv_iadd hx hb dX12_askReset_8 ?_
  refine lv_topi (fun v2 ev2 => ?_)
  have rv2 : rg (-2147483648) (2147483647) v2 := rg_any v2
  refine m_st x L 49 rfl rp1 rfl (rj_49 (rg_any v2)) dX12_askReset_9 (fun g3 H3 k3 eg3 L3 => ?_)
  refine lv_aload_n hx hb dX12_askReset_10 rfl (lv_at hl 0 rfl) ?_
  refine m_geta x L3 54 rfl rfl (wm_in uf_149) dX12_askReset_11 ?_
  refine lv_iload_n hx hb dX12_askReset_14 rfl (lv_at hl 1 rfl) ?_
  refine lv_iload_n hx hb dX12_askReset_15 rfl (lv_at hl 2 rfl) ?_
  refine m_stz x L3 54 rfl rp1 rfl (rg_w rp2 rfl) (rj_54 (rg_w rp2 rfl)) dX12_askReset_16 (fun g4 H4 k4 eg4 L4 => ?_)
  refine lv_aload_n hx hb dX12_askReset_17 rfl (lv_at hl 0 rfl) ?_
  refine lv_iload_n hx hb dX12_askReset_18 rfl (lv_at hl 1 rfl) ?_
  refine lv_iconst (v := 3) hx hb dX12_askReset_19 (by decide) ?_
  refine m_cv (As := [.int p1, .int (3 : Int32)]) (rest := []) x hml L4 (c_ask l nn X g4 p1 (3 : Int32) hnn hX (rg_w rp1 rfl) np1) (wm_V uc_ask ul_403 ui_ask us_ask u_init) rfl ⟨rfl, rfl⟩ hd_ask ⟨Nat.le_of_ble_eq_true rfl, Nat.le_of_ble_eq_true rfl⟩ rfl hl.1 rfl (lv_room (Nat.le_of_ble_eq_true rfl)) dX12_askReset_20 (fun  g5 H5 k5 hp5 L5 => ?_)
  exact hQ _ _ _ _ _ dX12_askReset_23 L5 ⟨(mFr.tr (mFr.upE (mFr.upE mFr.rf eg3 rfl) eg4 rfl) hp5.1 rfl), trivial⟩
theorem c_askReset (l : Launch) {G : mG} {h0 : Nat} {ad : Nat → Nat} (nn X : Int) (g : mSt) (p1 : Int32) (p2 : Int32) (hnn : 2 ≤ nn ∧ nn ≤ 4) (hX : 0 ≤ X ∧ X ≤ 2000000000) (rp1 : rg (0) (7) p1) (np1 : p1.toInt < 2 * nn) (rp2 : rg (0) (1) p2) : Met l yX12_askReset (wm (Cond.code yX12_askReset cX12_askReset 3 none)) rm_askReset (va_Pc [.ref h0, .int p1, .int p2] (mPre G h0 ad nn X g)) (mQv G h0 ad nn X (fun g1 => mFr [4, 5, 7, 8, 9, 10, 11, 40, 49, 52, 53, 54] g g1 ∧ True)) 0 0 (mA h0 ad) := by
  refine Met.ofW (cc := cX12_askReset) (maxL := 3) (ret := none) (by decide) rfl ?_
  intro p e s m args below meth c s₁ B hml hv
  obtain ⟨rfl, hv⟩ := hv
  have hr := B.returns
  have hlocks := B.notSynchronized
  obtain ⟨x, L⟩ := m_start B rfl wm_X hv
  have hl := lv_entry ([.ref h0, .int p1, .int p2]) (n := 3) (Nat.le_of_ble_eq_true rfl)
  rw [lg_entry_eq]
  generalize (lg_sl ([.ref h0, .int p1, .int p2]) ++ List.replicate (3 - (lg_sl ([.ref h0, .int p1, .int p2])).length) Slot.unset).toArray = ls at hl ⊢
  exact w_askReset x hml L hnn hX p1 p2 rp1 np1 rp2 hl (fun pc' ls' g1 H1 locs1 hdg L hp => m_vret x L hr hlocks (Int.le_refl _) hp hdg)

def rm_sendPoll : Room := { frames := 4, cells := 0, slots := 0, locals := 96 }
theorem hd_sendPoll : yX12_sendPoll.cls = RX12 ∧ yX12_sendPoll.cls ≠ "java/lang/invoke/MethodHandle" ∧ yX12_sendPoll.cls ≠ "java/lang/invoke/VarHandle" ∧ (parseMethodDescriptor yX12_sendPoll.desc).map (fun d => d.parameters.length) = some 1 := by decide +kernel
set_option maxHeartbeats 4000000 in
set_option maxRecDepth 100000 in
theorem w_sendPoll {p : Program} {l : Launch} {e : Env} {s : State} {m : MethodId} {args : Array Value} {below : List Frame} {meth : Method} {c : Code} {H : Heap} {locs : List Loc} {Q : State → Prop} {ls : Array Slot} {G : mG} {h0 : Nat} {ad : Nat → Nat} {g : mSt} {H0 : Heap} {nn X : Int} (x : mX p c cX12_sendPoll s args (wm (Cond.code yX12_sendPoll cX12_sendPoll 2 none)) m G h0 ad) (hml : c.maxLocals = 2) (L : mL G h0 ad H0 nn X g H locs) (hnn : 2 ≤ nn ∧ nn ≤ 4) (hX : 0 ≤ X ∧ X ≤ 2000000000) (p1 : Int32) (rp1 : rg (0) (7) p1) (np1 : p1.toInt < 2 * nn) (hl : lv_has ls 2 [(0, .ref h0), (1, .int p1)]) (hQ : ∀ (pc' : Nat) (ls' : Array Slot) (g1 : mSt) (H1 : Heap) (locs1 : List Loc), decode cX12_sendPoll pc' = .ok (.return_, 1) → mL G h0 ad H0 nn X g1 H1 locs1 → (mFr [4, 5, 7, 8, 9, 10, 11, 44, 56, 57] g g1 ∧ True) → W p l e rm_sendPoll s m args below meth c H1 locs1 0 0 Q (F0 m pc' ls' [])) : W p l e rm_sendPoll s m args below meth c H locs 0 0 Q (F0 m 0 ls []) := by
  have hx := x.1
  have hb := x.2.1
  refine lv_aload_n hx hb dX12_sendPoll_0 rfl (lv_at hl 0 rfl) ?_
  refine m_geta x L 44 rfl rfl (wm_in uf_119) dX12_sendPoll_1 ?_
  refine lv_iload_n hx hb dX12_sendPoll_4 rfl (lv_at hl 1 rfl) ?_
  refine lv_dup2_11 hx hb dX12_sendPoll_5 rfl rfl ?_
  refine m_ld x L 44 rfl rp1 rfl dX12_sendPoll_6 (fun v1 ev1 wv1 => ?_)
  have rv1 : rg (-2147483648) (2147483647) v1 := lj_44 wv1
  refine lv_iconst (v := 1) hx hb dX12_sendPoll_7 (by decide) ?_
  refine lv_iadd hx hb dX12_sendPoll_8 ?_
  refine lv_topi (fun v2 ev2 => ?_)
  have rv2 : rg (-2147483648) (2147483647) v2 := rg_any v2
  refine m_st x L 44 rfl rp1 rfl (rj_44 (rg_any v2)) dX12_sendPoll_9 (fun g3 H3 k3 eg3 L3 => ?_)
  refine lv_aload_n hx hb dX12_sendPoll_10 rfl (lv_at hl 0 rfl) ?_
  refine m_geta x L3 56 rfl rfl (wm_in uf_156) dX12_sendPoll_11 ?_
  refine lv_iload_n hx hb dX12_sendPoll_14 rfl (lv_at hl 1 rfl) ?_
  refine lv_aload_n hx hb dX12_sendPoll_15 rfl (lv_at hl 0 rfl) ?_
  refine m_geti x L3 1 rfl rfl (wm_in uf_378) dX12_sendPoll_16 (fun v4 ev4 wv4 => ?_)
  have rv4 : rg (-2147483648) (2147483647) v4 := lj_1 wv4
  refine m_st x L3 56 rfl rp1 rfl (rj_56 (rg_any v4)) dX12_sendPoll_19 (fun g5 H5 k5 eg5 L5 => ?_)
  refine lv_aload_n hx hb dX12_sendPoll_20 rfl (lv_at hl 0 rfl) ?_
  refine m_geta x L5 57 rfl rfl (wm_in uf_159) dX12_sendPoll_21 ?_
  refine lv_iload_n hx hb dX12_sendPoll_24 rfl (lv_at hl 1 rfl) ?_
  refine lv_iconst (v := 0) hx hb dX12_sendPoll_25 (by decide) ?_
  refine m_st x L5 57 rfl rp1 rfl (rj_57 (rg_any (0 : Int32))) dX12_sendPoll_26 (fun g6 H6 k6 eg6 L6 => ?_)
  refine lv_aload_n hx hb dX12_sendPoll_27 rfl (lv_at hl 0 rfl) ?_
  refine m_cv (As := []) (rest := []) x hml L6 (c_unitBegin l nn X g6 hnn hX) (wm_V uc_unitBegin ul_313 ui_unitBegin us_unitBegin u_init) rfl ⟨rfl, rfl⟩ hd_unitBegin ⟨Nat.le_of_ble_eq_true rfl, Nat.le_of_ble_eq_true rfl⟩ rfl hl.1 rfl (lv_room (Nat.le_of_ble_eq_true rfl)) dX12_sendPoll_28 (fun  g7 H7 k7 hp7 L7 => ?_)
  obtain ⟨v8, ev8⟩ : ∃ y : Int32, y = g7 11 0 := ⟨_, rfl⟩
  have rv8 : rg (0) (0) v8 := rg_eqv ev8.symm hp7.2
  refine lv_aload_n hx hb dX12_sendPoll_31 rfl (lv_at hl 0 rfl) ?_
  refine lv_aload_n hx hb dX12_sendPoll_32 rfl (lv_at hl 0 rfl) ?_
  refine m_geta x L7 44 rfl rfl (wm_in uf_119) dX12_sendPoll_33 ?_
  refine lv_iload_n hx hb dX12_sendPoll_36 rfl (lv_at hl 1 rfl) ?_
  refine m_ld x L7 44 rfl rp1 rfl dX12_sendPoll_37 (fun v9 ev9 wv9 => ?_)
  refine m_top (((mm_fr (mm_up (mm_up (mm_st eg3) eg5 rfl) eg6 rfl) hp7.1 rfl)).trans ev9.symm) ?_
  refine m_cv (As := [.int v2]) (rest := []) x hml L7 (c_word l nn X g7 v2 hnn hX (rg_eqv ev8 (rg_w rv8 rfl))) (wm_V uc_word ul_299 ui_word us_word u_init) rfl ⟨rfl, rfl⟩ hd_word ⟨Nat.le_of_ble_eq_true rfl, Nat.le_of_ble_eq_true rfl⟩ rfl hl.1 rfl (lv_room (Nat.le_of_ble_eq_true rfl)) dX12_sendPoll_38 (fun  g10 H10 k10 hp10 L10 => ?_)
  obtain ⟨v11, ev11⟩ : ∃ y : Int32, y = g10 11 0 := ⟨_, rfl⟩
  have rv11 : rg (4) (4) v11 := rg_rel ev8 ev11 rv8 hp10.2 rfl
  refine lv_aload_n hx hb dX12_sendPoll_41 rfl (lv_at hl 0 rfl) ?_
  refine lv_iload_n hx hb dX12_sendPoll_42 rfl (lv_at hl 1 rfl) ?_
  refine lv_bipush (v := 10) hx hb dX12_sendPoll_43 (by decide) ?_
  refine lv_aload_n hx hb dX12_sendPoll_45 rfl (lv_at hl 0 rfl) ?_
  refine m_geta x L10 41 rfl rfl (wm_in uf_110) dX12_sendPoll_46 ?_
  refine lv_iload_n hx hb dX12_sendPoll_49 rfl (lv_at hl 1 rfl) ?_
  refine m_ld x L10 41 rfl rp1 rfl dX12_sendPoll_50 (fun v12 ev12 wv12 => ?_)
  have rv12 : rg (0) (2147483647) v12 := lj_41 wv12
  refine m_cv (As := [.int p1, .int (10 : Int32), .int v12]) (rest := []) x hml L10 (c_unitGo l nn X g10 p1 (10 : Int32) v12 hnn hX (rg_w rp1 rfl) np1 (rg_eqv ev11 (rg_w rv11 rfl))) (wm_V uc_unitGo ul_316 ui_unitGo us_unitGo u_init) rfl ⟨rfl, rfl⟩ hd_unitGo ⟨Nat.le_of_ble_eq_true rfl, Nat.le_of_ble_eq_true rfl⟩ rfl hl.1 rfl (lv_room (Nat.le_of_ble_eq_true rfl)) dX12_sendPoll_51 (fun  g13 H13 k13 hp13 L13 => ?_)
  exact hQ _ _ _ _ _ dX12_sendPoll_54 L13 ⟨(mFr.tr (mFr.tr (mFr.tr (mFr.upE (mFr.upE (mFr.upE mFr.rf eg3 rfl) eg5 rfl) eg6 rfl) hp7.1 rfl) hp10.1 rfl) hp13.1 rfl), trivial⟩
theorem c_sendPoll (l : Launch) {G : mG} {h0 : Nat} {ad : Nat → Nat} (nn X : Int) (g : mSt) (p1 : Int32) (hnn : 2 ≤ nn ∧ nn ≤ 4) (hX : 0 ≤ X ∧ X ≤ 2000000000) (rp1 : rg (0) (7) p1) (np1 : p1.toInt < 2 * nn) : Met l yX12_sendPoll (wm (Cond.code yX12_sendPoll cX12_sendPoll 2 none)) rm_sendPoll (va_Pc [.ref h0, .int p1] (mPre G h0 ad nn X g)) (mQv G h0 ad nn X (fun g1 => mFr [4, 5, 7, 8, 9, 10, 11, 44, 56, 57] g g1 ∧ True)) 0 0 (mA h0 ad) := by
  refine Met.ofW (cc := cX12_sendPoll) (maxL := 2) (ret := none) (by decide) rfl ?_
  intro p e s m args below meth c s₁ B hml hv
  obtain ⟨rfl, hv⟩ := hv
  have hr := B.returns
  have hlocks := B.notSynchronized
  obtain ⟨x, L⟩ := m_start B rfl wm_X hv
  have hl := lv_entry ([.ref h0, .int p1]) (n := 2) (Nat.le_of_ble_eq_true rfl)
  rw [lg_entry_eq]
  generalize (lg_sl ([.ref h0, .int p1]) ++ List.replicate (2 - (lg_sl ([.ref h0, .int p1])).length) Slot.unset).toArray = ls at hl ⊢
  exact w_sendPoll x hml L hnn hX p1 rp1 np1 hl (fun pc' ls' g1 H1 locs1 hdg L hp => m_vret x L hr hlocks (Int.le_refl _) hp hdg)

def rm_sendData : Room := { frames := 5, cells := 0, slots := 0, locals := 117 }
theorem hd_sendData : yX12_sendData.cls = RX12 ∧ yX12_sendData.cls ≠ "java/lang/invoke/MethodHandle" ∧ yX12_sendData.cls ≠ "java/lang/invoke/VarHandle" ∧ (parseMethodDescriptor yX12_sendData.desc).map (fun d => d.parameters.length) = some 2 := by decide +kernel
set_option maxHeartbeats 4000000 in
set_option maxRecDepth 100000 in
theorem w_sendData {p : Program} {l : Launch} {e : Env} {s : State} {m : MethodId} {args : Array Value} {below : List Frame} {meth : Method} {c : Code} {H : Heap} {locs : List Loc} {Q : State → Prop} {ls : Array Slot} {G : mG} {h0 : Nat} {ad : Nat → Nat} {g : mSt} {H0 : Heap} {nn X : Int} (x : mX p c cX12_sendData s args (wm (Cond.code yX12_sendData cX12_sendData 5 none)) m G h0 ad) (hml : c.maxLocals = 5) (L : mL G h0 ad H0 nn X g H locs) (hnn : 2 ≤ nn ∧ nn ≤ 4) (hX : 0 ≤ X ∧ X ≤ 2000000000) (p1 : Int32) (p2 : Int32) (rp1 : rg (0) (7) p1) (np1 : p1.toInt < 2 * nn) (rp2 : rg (0) (2147483647) p2) (hl : lv_has ls 5 [(0, .ref h0), (1, .int p1), (2, .int p2)]) (hQ : ∀ (pc' : Nat) (ls' : Array Slot) (g1 : mSt) (H1 : Heap) (locs1 : List Loc), decode cX12_sendData pc' = .ok (.return_, 1) → mL G h0 ad H0 nn X g1 H1 locs1 → (mFr [4, 5, 7, 8, 9, 10, 11, 44, 56, 57, 63, 64] g g1 ∧ True) → W p l e rm_sendData s m args below meth c H1 locs1 0 0 Q (F0 m pc' ls' [])) : W p l e rm_sendData s m args below meth c H locs 0 0 Q (F0 m 0 ls []) := by
  have hx := x.1
  have hb := x.2.1
  refine lv_bipush (v := 8) hx hb dX12_sendData_0 (by decide) ?_
  refine lv_iload_n hx hb dX12_sendData_2 rfl (lv_at hl 1 rfl) ?_
  refine lv_imul hx hb dX12_sendData_3 ?_
  refine lv_topi (fun v1 ev1 => ?_)
  have rv1 : rg (0) (56) v1 := (rg_mulL ev1 kc_8 rp1 rfl).1
  have tv1 := (rg_mulL ev1 kc_8 rp1 rfl).2
  have b16v1 : v1.toInt < 16 * nn := by have := np1; have : (8 : Int32).toInt = 8 := (by decide); omega
  refine lv_iload_n hx hb dX12_sendData_4 rfl (lv_at hl 2 rfl) ?_
  refine lv_bipush (v := 8) hx hb dX12_sendData_5 (by decide) ?_
  refine lv_irem hx hb dX12_sendData_7 (by decide) ?_
  refine lv_topi (fun v2 ev2 => ?_)
  have rv2 : rg (0) (7) v2 := (rg_rem ev2 rp2 kc_8 rfl).1
  refine lv_iadd hx hb dX12_sendData_8 ?_
  refine lv_topi (fun v3 ev3 => ?_)
  have rv3 : rg (0) (63) v3 := (rg_add ev3 rv1 rv2 rfl).1
  have tv3 := (rg_add ev3 rv1 rv2 rfl).2
  refine lv_istore_n (lv' := [(3, .int v3), (0, .ref h0), (1, .int p1), (2, .int p2)]) hx hb dX12_sendData_9 rfl hl (by decide) rfl (fun ls hl => ?_)
  refine lv_aload_n hx hb dX12_sendData_10 rfl (lv_at hl 1 rfl) ?_
  refine m_geta x L 64 rfl rfl (wm_in uf_180) dX12_sendData_11 ?_
  refine lv_iload_n hx hb dX12_sendData_14 rfl (lv_at hl 0 rfl) ?_
  refine lv_iconst (v := 0) hx hb dX12_sendData_15 (by decide) ?_
  refine m_stz x L 64 rfl rv3 rfl (rg_w kc_0 rfl) (rj_64 (rg_w kc_0 rfl)) dX12_sendData_16 (fun g4 H4 k4 eg4 L4 => ?_)
  refine lv_aload_n hx hb dX12_sendData_17 rfl (lv_at hl 1 rfl) ?_
  refine m_geta x L4 63 rfl rfl (wm_in uf_177) dX12_sendData_18 ?_
  refine lv_iload_n hx hb dX12_sendData_21 rfl (lv_at hl 0 rfl) ?_
  refine lv_aload_n hx hb dX12_sendData_22 rfl (lv_at hl 1 rfl) ?_
  refine m_geta x L4 44 rfl rfl (wm_in uf_119) dX12_sendData_23 ?_
  refine lv_iload_n hx hb dX12_sendData_26 rfl (lv_at hl 2 rfl) ?_
  refine m_ld x L4 44 rfl rp1 rfl dX12_sendData_27 (fun v5 ev5 wv5 => ?_)
  have rv5 : rg (-2147483648) (2147483647) v5 := lj_44 wv5
  refine m_st x L4 63 rfl rv3 rfl (rj_63 (rg_any v5)) dX12_sendData_28 (fun g6 H6 k6 eg6 L6 => ?_)
  refine lv_aload_n hx hb dX12_sendData_29 rfl (lv_at hl 1 rfl) ?_
  refine m_cv (As := []) (rest := []) x hml L6 (c_unitBegin l nn X g6 hnn hX) (wm_V uc_unitBegin ul_313 ui_unitBegin us_unitBegin u_init) rfl ⟨rfl, rfl⟩ hd_unitBegin ⟨Nat.le_of_ble_eq_true rfl, Nat.le_of_ble_eq_true rfl⟩ rfl hl.1 rfl (lv_room (Nat.le_of_ble_eq_true rfl)) dX12_sendData_30 (fun  g7 H7 k7 hp7 L7 => ?_)
  obtain ⟨v8, ev8⟩ : ∃ y : Int32, y = g7 11 0 := ⟨_, rfl⟩
  have rv8 : rg (0) (0) v8 := rg_eqv ev8.symm hp7.2
  refine lv_iconst (v := 0) hx hb dX12_sendData_33 (by decide) ?_
  refine lv_istore (lv' := [(4, .int (0 : Int32)), (3, .int v3), (0, .ref h0), (1, .int p1), (2, .int p2)]) hx hb dX12_sendData_34 hl (by decide) rfl (fun ls hl => ?_)
  have j36_10 : ∀ (n : Nat) (a36_4_9 : Int32) (g10 : mSt) (H10 : Heap) (k10 : List Loc) (ls : Array Slot), mFr [10] g7 g10 → mL G h0 ad H0 nn X g10 H10 k10 → rg (0) (60) a36_4_9 → lv_has ls 5 [(0, .ref h0), (1, .int p1), (2, .int p2), (3, .int v3), (4, .int a36_4_9)] → ((60 : Int) - a36_4_9.toInt).toNat = n → W p l e rm_sendData s m args below meth c H10 k10 0 0 Q (F0 m 36 ls []) := by
    intro n
    induction n using Nat.strongRecOn with
    | _ n ih10 =>
      intro a36_4_9 g10 H10 k10 ls hF10 L10 ra36_4_9 hl hn10
      subst hn10
      refine lv_iload hx hb dX12_sendData_36 (lv_at hl 4 rfl) ?_
      refine lv_aload_n hx hb dX12_sendData_38 rfl (lv_at hl 0 rfl) ?_
      refine m_geta x L10 62 rfl rfl (wm_in uf_174) dX12_sendData_39 ?_
      refine lv_iload_n hx hb dX12_sendData_42 rfl (lv_at hl 3 rfl) ?_
      refine m_ld x L10 62 rfl rv3 rfl dX12_sendData_43 (fun v11 ev11 wv11 => ?_)
      have rv11 : rg (0) (60) v11 := lj_62 wv11
      refine lv_icmp_ge (tgt := 72) hx hb dX12_sendData_44 (by decide) (fun c44_12 => ?_) (fun c44_12 => ?_)
      · skip
        refine lv_aload_n hx hb dX12_sendData_72 rfl (lv_at hl 0 rfl) ?_
        refine lv_aload_n hx hb dX12_sendData_73 rfl (lv_at hl 0 rfl) ?_
        refine m_geta x L10 62 rfl rfl (wm_in uf_174) dX12_sendData_74 ?_
        refine lv_iload_n hx hb dX12_sendData_77 rfl (lv_at hl 3 rfl) ?_
        refine m_ld x L10 62 rfl rv3 rfl dX12_sendData_78 (fun v13 ev13 wv13 => ?_)
        refine m_top ((ev11).trans ev13.symm) ?_
        refine m_puti x L10 11 rfl fi_11 (wm_in uf_279) dX12_sendData_79 (rj_11 (rg_w rv11 rfl)) (fun g14 H14 k14 eg14 L14 => ?_)
        refine lv_aload_n hx hb dX12_sendData_82 rfl (lv_at hl 0 rfl) ?_
        refine lv_iload_n hx hb dX12_sendData_83 rfl (lv_at hl 1 rfl) ?_
        refine lv_bipush (v := 8) hx hb dX12_sendData_84 (by decide) ?_
        refine lv_iload_n hx hb dX12_sendData_86 rfl (lv_at hl 2 rfl) ?_
        refine m_cv (As := [.int p1, .int (8 : Int32), .int p2]) (rest := []) x hml L14 (c_unitGo l nn X g14 p1 (8 : Int32) p2 hnn hX (rg_w rp1 rfl) np1 (rg_eqv (mm_st eg14) (rg_w rv11 rfl))) (wm_V uc_unitGo ul_316 ui_unitGo us_unitGo u_init) rfl ⟨rfl, rfl⟩ hd_unitGo ⟨Nat.le_of_ble_eq_true rfl, Nat.le_of_ble_eq_true rfl⟩ rfl hl.1 rfl (lv_room (Nat.le_of_ble_eq_true rfl)) dX12_sendData_87 (fun  g15 H15 k15 hp15 L15 => ?_)
        refine lv_aload_n hx hb dX12_sendData_90 rfl (lv_at hl 0 rfl) ?_
        refine m_geta x L15 57 rfl rfl (wm_in uf_159) dX12_sendData_91 ?_
        refine lv_iload_n hx hb dX12_sendData_94 rfl (lv_at hl 1 rfl) ?_
        refine lv_dup2_11 hx hb dX12_sendData_95 rfl rfl ?_
        refine m_ld x L15 57 rfl rp1 rfl dX12_sendData_96 (fun v16 ev16 wv16 => ?_)
        have rv16 : rg (-2147483648) (2147483647) v16 := lj_57 wv16
        refine lv_iconst (v := 1) hx hb dX12_sendData_97 (by decide) ?_
        refine lv_iadd hx hb dX12_sendData_98 ?_
        refine lv_topi (fun v17 ev17 => ?_)
        have rv17 : rg (-2147483648) (2147483647) v17 := rg_any v17
        refine m_st x L15 57 rfl rp1 rfl (rj_57 (rg_any v17)) dX12_sendData_99 (fun g18 H18 k18 eg18 L18 => ?_)
        refine lv_aload_n hx hb dX12_sendData_100 rfl (lv_at hl 0 rfl) ?_
        refine m_geta x L18 57 rfl rfl (wm_in uf_159) dX12_sendData_101 ?_
        refine lv_iload_n hx hb dX12_sendData_104 rfl (lv_at hl 1 rfl) ?_
        refine m_ld x L18 57 rfl rp1 rfl dX12_sendData_105 (fun v19 ev19 wv19 => ?_)
        refine m_top (((mm_st eg18)).trans ev19.symm) ?_
        refine lv_iconst (v := 5) hx hb dX12_sendData_106 (by decide) ?_
        have j115_20 : ∀ (g20 : mSt) (H20 : Heap) (k20 : List Loc) (ls : Array Slot), mFr [4, 5, 7, 8, 9, 10, 11, 44, 56, 57] g18 g20 → mL G h0 ad H0 nn X g20 H20 k20 → lv_has ls 5 [(0, .ref h0)] → W p l e rm_sendData s m args below meth c H20 k20 0 0 Q (F0 m 115 ls []) := by
          intro  g20 H20 k20 ls hF20 L20  hl
          exact hQ _ _ _ _ _ dX12_sendData_115 L20 ⟨(mFr.tr (mFr.upE (mFr.tr (mFr.upE (mFr.tr (mFr.tr (mFr.upE (mFr.upE mFr.rf eg4 rfl) eg6 rfl) hp7.1 rfl) hF10 rfl) eg14 rfl) hp15.1 rfl) eg18 rfl) hF20 rfl), trivial⟩
        refine lv_icmp_ne (tgt := 115) hx hb dX12_sendData_107 (by decide) (fun c107_21 => ?_) (fun c107_21 => ?_)
        · skip
          exact j115_20  g18 _ _ ls mFr.rf L18  (lv_sub hl [0] rfl)
        · skip
          have q22 : rg (5) (5) v17 := (rg_eq c107_21 rv17 kc_5).1
          refine lv_aload_n hx hb dX12_sendData_110 rfl (lv_at hl 0 rfl) ?_
          refine lv_iload_n hx hb dX12_sendData_111 rfl (lv_at hl 1 rfl) ?_
          refine m_cv (As := [.int p1]) (rest := []) x hml L18 (c_sendPoll l nn X g18 p1 hnn hX (rg_w rp1 rfl) np1) (wm_V uc_sendPoll ul_451 ui_sendPoll us_sendPoll u_init) rfl ⟨rfl, rfl⟩ hd_sendPoll ⟨Nat.le_of_ble_eq_true rfl, Nat.le_of_ble_eq_true rfl⟩ rfl hl.1 rfl (lv_room (Nat.le_of_ble_eq_true rfl)) dX12_sendData_112 (fun  g23 H23 k23 hp23 L23 => ?_)
          exact j115_20  g23 _ _ ls (mFr.tr mFr.rf hp23.1 rfl) L23  (lv_sub hl [0] rfl)
      · skip
        have q24 : rg (0) (59) a36_4_9 := (rg_lt (rg_nle c44_12) ra36_4_9 rv11).1
        have q25 : rg (1) (60) v11 := (rg_lt (rg_nle c44_12) ra36_4_9 rv11).2
        refine lv_aload_n hx hb dX12_sendData_47 rfl (lv_at hl 0 rfl) ?_
        refine m_geta x L10 10 rfl rfl (wm_in uf_29) dX12_sendData_48 ?_
        refine lv_iload hx hb dX12_sendData_51 (lv_at hl 4 rfl) ?_
        refine lv_aload_n hx hb dX12_sendData_53 rfl (lv_at hl 0 rfl) ?_
        refine m_geta x L10 61 rfl rfl (wm_in uf_171) dX12_sendData_54 ?_
        refine lv_bipush (v := 60) hx hb dX12_sendData_57 (by decide) ?_
        refine lv_iload_n hx hb dX12_sendData_59 rfl (lv_at hl 3 rfl) ?_
        refine lv_imul hx hb dX12_sendData_60 ?_
        refine lv_topi (fun v26 ev26 => ?_)
        have rv26 : rg (0) (3780) v26 := (rg_mulL ev26 kc_60 rv3 rfl).1
        refine lv_iload hx hb dX12_sendData_61 (lv_at hl 4 rfl) ?_
        refine lv_iadd hx hb dX12_sendData_63 ?_
        refine lv_topi (fun v27 ev27 => ?_)
        have rv27 : rg (0) (3839) v27 := (rg_add ev27 rv26 q24 rfl).1
        refine m_ld x L10 61 rfl rv27 rfl dX12_sendData_64 (fun v28 ev28 wv28 => ?_)
        have rv28 : rg (-2147483648) (2147483647) v28 := lj_61 wv28
        refine m_st x L10 10 rfl q24 rfl (rj_10 (rg_any v28)) dX12_sendData_65 (fun g29 H29 k29 eg29 L29 => ?_)
        obtain ⟨v30, ev30, fv30⟩ := inc_ex a36_4_9 (1) (1 : Int32) (by decide)
        have rv30 : rg (1) (60) v30 := (rg_add ev30 q24 kc_1 rfl).1
        have tv30 := (rg_add ev30 q24 kc_1 rfl).2
        refine lv_iinc (v := v30) (lv' := [(4, .int v30), (0, .ref h0), (1, .int p1), (2, .int p2), (3, .int v3)]) hx hb dX12_sendData_66 hl (k := 4) rfl fv30 (by decide) rfl (fun ls hl => ?_)
        refine lv_goto (tgt := 36) hx hb dX12_sendData_69 (by decide) ?_
        exact ih10 _ (ms_up tv30 kc_1 q24 rfl rfl) v30 g29 _ _ ls (mFr.upE hF10 eg29 rfl) L29 (rg_w rv30 rfl) (lv_sub hl [1, 2, 3, 4, 0] rfl) rfl
  exact j36_10 _ (0 : Int32) g7 _ _ ls mFr.rf L7 (rg_w kc_0 rfl) (lv_sub hl [2, 3, 4, 1, 0] rfl) rfl
theorem c_sendData (l : Launch) {G : mG} {h0 : Nat} {ad : Nat → Nat} (nn X : Int) (g : mSt) (p1 : Int32) (p2 : Int32) (hnn : 2 ≤ nn ∧ nn ≤ 4) (hX : 0 ≤ X ∧ X ≤ 2000000000) (rp1 : rg (0) (7) p1) (np1 : p1.toInt < 2 * nn) (rp2 : rg (0) (2147483647) p2) : Met l yX12_sendData (wm (Cond.code yX12_sendData cX12_sendData 5 none)) rm_sendData (va_Pc [.ref h0, .int p1, .int p2] (mPre G h0 ad nn X g)) (mQv G h0 ad nn X (fun g1 => mFr [4, 5, 7, 8, 9, 10, 11, 44, 56, 57, 63, 64] g g1 ∧ True)) 0 0 (mA h0 ad) := by
  refine Met.ofW (cc := cX12_sendData) (maxL := 5) (ret := none) (by decide) rfl ?_
  intro p e s m args below meth c s₁ B hml hv
  obtain ⟨rfl, hv⟩ := hv
  have hr := B.returns
  have hlocks := B.notSynchronized
  obtain ⟨x, L⟩ := m_start B rfl wm_X hv
  have hl := lv_entry ([.ref h0, .int p1, .int p2]) (n := 5) (Nat.le_of_ble_eq_true rfl)
  rw [lg_entry_eq]
  generalize (lg_sl ([.ref h0, .int p1, .int p2]) ++ List.replicate (5 - (lg_sl ([.ref h0, .int p1, .int p2])).length) Slot.unset).toArray = ls at hl ⊢
  exact w_sendData x hml L hnn hX p1 p2 rp1 np1 rp2 hl (fun pc' ls' g1 H1 locs1 hdg L hp => m_vret x L hr hlocks (Int.le_refl _) hp hdg)

def rm_poll : Room := { frames := 4, cells := 0, slots := 0, locals := 96 }
theorem hd_poll : yX12_poll.cls = RX12 ∧ yX12_poll.cls ≠ "java/lang/invoke/MethodHandle" ∧ yX12_poll.cls ≠ "java/lang/invoke/VarHandle" ∧ (parseMethodDescriptor yX12_poll.desc).map (fun d => d.parameters.length) = some 3 := by decide +kernel
set_option maxHeartbeats 4000000 in
set_option maxRecDepth 100000 in
theorem w_poll {p : Program} {l : Launch} {e : Env} {s : State} {m : MethodId} {args : Array Value} {below : List Frame} {meth : Method} {c : Code} {H : Heap} {locs : List Loc} {Q : State → Prop} {ls : Array Slot} {G : mG} {h0 : Nat} {ad : Nat → Nat} {g : mSt} {H0 : Heap} {nn X : Int} (x : mX p c cX12_poll s args (wm (Cond.code yX12_poll cX12_poll 10 none)) m G h0 ad) (hml : c.maxLocals = 10) (L : mL G h0 ad H0 nn X g H locs) (hnn : 2 ≤ nn ∧ nn ≤ 4) (hX : 0 ≤ X ∧ X ≤ 2000000000) (p1 : Int32) (p2 : Int32) (p3 : Int32) (rp1 : rg (0) (7) p1) (np1 : p1.toInt < 2 * nn) (rp3 : rg (0) (16777215) p3) (hl : lv_has ls 10 [(0, .ref h0), (1, .int p1), (2, .int p2), (3, .int p3)]) (hQ : ∀ (pc' : Nat) (ls' : Array Slot) (g1 : mSt) (H1 : Heap) (locs1 : List Loc), decode cX12_poll pc' = .ok (.return_, 1) → mL G h0 ad H0 nn X g1 H1 locs1 → (mFr [4, 5, 7, 8, 9, 10, 11, 47] g g1 ∧ True) → W p l e rm_poll s m args below meth c H1 locs1 0 0 Q (F0 m pc' ls' [])) : W p l e rm_poll s m args below meth c H locs 0 0 Q (F0 m 0 ls []) := by
  have hx := x.1
  have hb := x.2.1
  have up1 : (0 : Int) ≤ p1.toInt ∧ p1.toInt ≤ 7 := rp1
  have up2 : (-2147483648 : Int) ≤ p2.toInt ∧ p2.toInt ≤ 2147483647 := (rg_any p2)
  have up3 : (0 : Int) ≤ p3.toInt ∧ p3.toInt ≤ 16777215 := rp3
  refine lv_aload_n hx hb dX12_poll_0 rfl (lv_at hl 0 rfl) ?_
  refine m_geta x L 46 rfl rfl (wm_in uf_125) dX12_poll_1 ?_
  refine lv_iload_n hx hb dX12_poll_4 rfl (lv_at hl 1 rfl) ?_
  refine m_ld x L 46 rfl rp1 rfl dX12_poll_5 (fun v1 ev1 wv1 => ?_)
  have rv1 : rg (0) (16777224) v1 := lj_46 wv1
  have uv1 : (0 : Int) ≤ v1.toInt ∧ v1.toInt ≤ 16777224 := rv1
  have sv1 : v1.toInt = (g 46 p1.toNatClampNeg).toInt := congrArg Int32.toInt (ev1.trans (congrFun ((show mFr [4, 5, 7, 8, 9, 10, 11, 47] g g from mFr.rf).at 46 rfl) _))
  refine lv_bipush (v := 8) hx hb dX12_poll_6 (by decide) ?_
  refine lv_iadd hx hb dX12_poll_8 ?_
  refine lv_topi (fun v2 ev2 => ?_)
  have rv2 : rg (8) (16777232) v2 := (rg_add ev2 rv1 kc_8 rfl).1
  have tv2 := (rg_add ev2 rv1 kc_8 rfl).2
  have y3 : (8 : Int32).toInt = 8 := by decide
  have uv2 : (8 : Int) ≤ v2.toInt ∧ v2.toInt ≤ 16777232 := rv2
  refine lv_istore (lv' := [(4, .int v2), (0, .ref h0), (1, .int p1), (2, .int p2), (3, .int p3)]) hx hb dX12_poll_9 hl (by decide) rfl (fun ls hl => ?_)
  refine lv_iload_n hx hb dX12_poll_11 rfl (lv_at hl 4 rfl) ?_
  refine lv_iload hx hb dX12_poll_12 (lv_at hl 0 rfl) ?_
  have j23_5 : ∀ (b23_0_4 : Int32) (g5 : mSt) (H5 : Heap) (k5 : List Loc) (ls : Array Slot), mFr [] g g5 → mL G h0 ad H0 nn X g5 H5 k5 → rg (0) (16777215) b23_0_4 → lv_has ls 10 [(0, .ref h0), (1, .int p1), (2, .int p2), (4, .int v2)] → W p l e rm_poll s m args below meth c H5 k5 0 0 Q (F0 m 23 ls [.int b23_0_4]) := by
    intro b23_0_4 g5 H5 k5 ls hF5 L5 rb23_0_4 hl
    have ub23_0_4 : (0 : Int) ≤ b23_0_4.toInt ∧ b23_0_4.toInt ≤ 16777215 := rb23_0_4
    refine lv_istore (lv' := [(5, .int b23_0_4), (0, .ref h0), (1, .int p1), (2, .int p2), (4, .int v2)]) hx hb dX12_poll_23 hl (by decide) rfl (fun ls hl => ?_)
    refine lv_aload_n hx hb dX12_poll_25 rfl (lv_at hl 1 rfl) ?_
    refine m_geta x L5 47 rfl rfl (wm_in uf_128) dX12_poll_26 ?_
    refine lv_iload_n hx hb dX12_poll_29 rfl (lv_at hl 2 rfl) ?_
    refine lv_aload_n hx hb dX12_poll_30 rfl (lv_at hl 1 rfl) ?_
    refine m_geta x L5 47 rfl rfl (wm_in uf_128) dX12_poll_31 ?_
    refine lv_iload_n hx hb dX12_poll_34 rfl (lv_at hl 2 rfl) ?_
    refine m_ld x L5 47 rfl rp1 rfl dX12_poll_35 (fun v6 ev6 wv6 => ?_)
    have rv6 : rg (-2147483648) (2147483647) v6 := lj_47 wv6
    have uv6 : (-2147483648 : Int) ≤ v6.toInt ∧ v6.toInt ≤ 2147483647 := rv6
    refine lv_iload hx hb dX12_poll_36 (lv_at hl 0 rfl) ?_
    have j52_8 : ∀ (b52_2_7 : Int32) (g8 : mSt) (H8 : Heap) (k8 : List Loc) (ls : Array Slot), mFr [] g5 g8 → mL G h0 ad H0 nn X g8 H8 k8 → rg (0) (2147483647) b52_2_7 → lv_has ls 10 [(0, .ref h0), (1, .int p1), (2, .int p2), (4, .int v2)] → W p l e rm_poll s m args below meth c H8 k8 0 0 Q (F0 m 52 ls [.int b52_2_7, .int p1, .ref (ad 47)]) := by
      intro b52_2_7 g8 H8 k8 ls hF8 L8 rb52_2_7 hl
      have ub52_2_7 : (0 : Int) ≤ b52_2_7.toInt ∧ b52_2_7.toInt ≤ 2147483647 := rb52_2_7
      refine m_st x L8 47 rfl rp1 rfl (rj_47 (rg_any b52_2_7)) dX12_poll_52 (fun g9 H9 k9 eg9 L9 => ?_)
      refine lv_aload_n hx hb dX12_poll_53 rfl (lv_at hl 0 rfl) ?_
      refine m_cv (As := []) (rest := []) x hml L9 (c_unitBegin l nn X g9 hnn hX) (wm_V uc_unitBegin ul_313 ui_unitBegin us_unitBegin u_init) rfl ⟨rfl, rfl⟩ hd_unitBegin ⟨Nat.le_of_ble_eq_true rfl, Nat.le_of_ble_eq_true rfl⟩ rfl hl.1 rfl (lv_room (Nat.le_of_ble_eq_true rfl)) dX12_poll_54 (fun  g10 H10 k10 hp10 L10 => ?_)
      obtain ⟨v11, ev11⟩ : ∃ y : Int32, y = g10 11 0 := ⟨_, rfl⟩
      have rv11 : rg (0) (0) v11 := rg_eqv ev11.symm hp10.2
      have uv11 : (0 : Int) ≤ v11.toInt ∧ v11.toInt ≤ 0 := rv11
      refine lv_aload_n hx hb dX12_poll_57 rfl (lv_at hl 0 rfl) ?_
      refine m_geta x L10 46 rfl rfl (wm_in uf_125) dX12_poll_58 ?_
      refine lv_iload_n hx hb dX12_poll_61 rfl (lv_at hl 1 rfl) ?_
      refine m_ld x L10 46 rfl rp1 rfl dX12_poll_62 (fun v12 ev12 wv12 => ?_)
      refine m_top (((mm_fr (mm_up (mm_fr (mm_fr ev1 hF5 rfl) hF8 rfl) eg9 rfl) hp10.1 rfl)).trans ev12.symm) ?_
      refine lv_aload_n hx hb dX12_poll_63 rfl (lv_at hl 0 rfl) ?_
      refine m_geta x L10 47 rfl rfl (wm_in uf_128) dX12_poll_64 ?_
      refine lv_iload_n hx hb dX12_poll_67 rfl (lv_at hl 1 rfl) ?_
      refine m_ld x L10 47 rfl rp1 rfl dX12_poll_68 (fun v13 ev13 wv13 => ?_)
      refine m_top (((mm_fr (mm_st eg9) hp10.1 rfl)).trans ev13.symm) ?_
      have j184_14 : ∀ (g14 : mSt) (H14 : Heap) (k14 : List Loc) (ls : Array Slot), mFr [10, 11] g10 g14 → mL G h0 ad H0 nn X g14 H14 k14 → rg (0) (256) (g14 11 0) → ((g14 11 0)).toInt ≤ 56 → lv_has ls 10 [(0, .ref h0), (1, .int p1), (2, .int p2), (4, .int v2)] → W p l e rm_poll s m args below meth c H14 k14 0 0 Q (F0 m 184 ls []) := by
        intro  g14 H14 k14 ls hF14 L14  hm14_0 hv14_0 hl
        obtain ⟨z14_0, ez14_0⟩ : ∃ y : Int32, y = g14 11 0 := ⟨_, rfl⟩
        have rz14_0 : rg (0) (256) z14_0 := rg_eqv ez14_0.symm hm14_0
        have uz14_0 : (0 : Int) ≤ z14_0.toInt ∧ z14_0.toInt ≤ 256 := rz14_0
        have sz14_0 := congrArg Int32.toInt ez14_0
        refine lv_aload_n hx hb dX12_poll_184 rfl (lv_at hl 0 rfl) ?_
        refine lv_iload_n hx hb dX12_poll_185 rfl (lv_at hl 2 rfl) ?_
        refine m_cv (As := [.int p2]) (rest := []) x hml L14 (c_word l nn X g14 p2 hnn hX (rg_eqv ez14_0 (⟨by omega, by omega⟩ : rg (0) (252) z14_0))) (wm_V uc_word ul_299 ui_word us_word u_init) rfl ⟨rfl, rfl⟩ hd_word ⟨Nat.le_of_ble_eq_true rfl, Nat.le_of_ble_eq_true rfl⟩ rfl hl.1 rfl (lv_room (Nat.le_of_ble_eq_true rfl)) dX12_poll_186 (fun  g15 H15 k15 hp15 L15 => ?_)
        obtain ⟨v16, ev16⟩ : ∃ y : Int32, y = g15 11 0 := ⟨_, rfl⟩
        have rv16 : rg (0) (256) v16 := rg_eqv ev16.symm (lj_11 (L15.2.2 11 _))
        have hv16 := rel_conv ez14_0 ev16 hp15.2
        have uv16 : (0 : Int) ≤ v16.toInt ∧ v16.toInt ≤ 256 := rv16
        refine lv_aload_n hx hb dX12_poll_189 rfl (lv_at hl 0 rfl) ?_
        refine lv_iload hx hb dX12_poll_190 (lv_at hl 3 rfl) ?_
        refine m_cv (As := [.int v2]) (rest := []) x hml L15 (c_word l nn X g15 v2 hnn hX (rg_eqv ev16 (⟨by omega, by omega⟩ : rg (0) (252) v16))) (wm_V uc_word ul_299 ui_word us_word u_init) rfl ⟨rfl, rfl⟩ hd_word ⟨Nat.le_of_ble_eq_true rfl, Nat.le_of_ble_eq_true rfl⟩ rfl hl.1 rfl (lv_room (Nat.le_of_ble_eq_true rfl)) dX12_poll_192 (fun  g17 H17 k17 hp17 L17 => ?_)
        obtain ⟨v18, ev18⟩ : ∃ y : Int32, y = g17 11 0 := ⟨_, rfl⟩
        have rv18 : rg (0) (256) v18 := rg_eqv ev18.symm (lj_11 (L17.2.2 11 _))
        have hv18 := rel_conv ev16 ev18 hp17.2
        have uv18 : (0 : Int) ≤ v18.toInt ∧ v18.toInt ≤ 256 := rv18
        refine lv_aload_n hx hb dX12_poll_195 rfl (lv_at hl 0 rfl) ?_
        refine lv_iload_n hx hb dX12_poll_196 rfl (lv_at hl 1 rfl) ?_
        refine lv_bipush (v := 11) hx hb dX12_poll_197 (by decide) ?_
        refine lv_aload_n hx hb dX12_poll_199 rfl (lv_at hl 0 rfl) ?_
        refine m_geta x L17 46 rfl rfl (wm_in uf_125) dX12_poll_200 ?_
        refine lv_iload_n hx hb dX12_poll_203 rfl (lv_at hl 1 rfl) ?_
        refine m_ld x L17 46 rfl rp1 rfl dX12_poll_204 (fun v19 ev19 wv19 => ?_)
        refine m_top (((mm_fr (mm_fr (mm_fr (mm_fr (mm_up (mm_fr (mm_fr ev1 hF5 rfl) hF8 rfl) eg9 rfl) hp10.1 rfl) hF14 rfl) hp15.1 rfl) hp17.1 rfl)).trans ev19.symm) ?_
        refine m_cv (As := [.int p1, .int (11 : Int32), .int v1]) (rest := []) x hml L17 (c_unitGo l nn X g17 p1 (11 : Int32) v1 hnn hX (rg_w rp1 rfl) np1 (rg_eqv ev18 (⟨by omega, by omega⟩ : rg (0) (196) v18))) (wm_V uc_unitGo ul_316 ui_unitGo us_unitGo u_init) rfl ⟨rfl, rfl⟩ hd_unitGo ⟨Nat.le_of_ble_eq_true rfl, Nat.le_of_ble_eq_true rfl⟩ rfl hl.1 rfl (lv_room (Nat.le_of_ble_eq_true rfl)) dX12_poll_205 (fun  g20 H20 k20 hp20 L20 => ?_)
        exact hQ _ _ _ _ _ dX12_poll_208 L20 ⟨(mFr.tr (mFr.tr (mFr.tr (mFr.tr (mFr.tr (mFr.upE (mFr.tr (mFr.tr mFr.rf hF5 rfl) hF8 rfl) eg9 rfl) hp10.1 rfl) hF14 rfl) hp15.1 rfl) hp17.1 rfl) hp20.1 rfl), trivial⟩
      refine lv_icmp_ge (tgt := 184) hx hb dX12_poll_69 (by decide) (fun c69_21 => ?_) (fun c69_21 => ?_)
      · skip
        have ic69_21 := Int32.le_iff_toInt_le.mp c69_21
        have q22 : rg (0) (16777224) b52_2_7 := (rg_le c69_21 rb52_2_7 rv1).1
        have uq22 : (0 : Int) ≤ b52_2_7.toInt ∧ b52_2_7.toInt ≤ 16777224 := q22
        have y23 := congrArg Int32.toInt ev11
        exact j184_14  g10 _ _ ls mFr.rf L10 (rg_eqv ev11 (rg_w rv11 rfl)) (by omega) (lv_sub hl [0, 1, 2, 3] rfl)
      · skip
        have ic69_21 := Int32.lt_iff_toInt_lt.mp (rg_nle c69_21)
        have q24 : rg (1) (2147483647) b52_2_7 := (rg_lt (rg_nle c69_21) rv1 rb52_2_7).2
        have uq24 : (1 : Int) ≤ b52_2_7.toInt ∧ b52_2_7.toInt ≤ 2147483647 := q24
        refine lv_iconst (v := 1) hx hb dX12_poll_72 (by decide) ?_
        refine lv_istore (lv' := [(6, .int (1 : Int32)), (0, .ref h0), (1, .int p1), (2, .int p2), (4, .int v2)]) hx hb dX12_poll_73 hl (by decide) rfl (fun ls hl => ?_)
        refine lv_iconst (v := 1) hx hb dX12_poll_75 (by decide) ?_
        refine lv_istore (lv' := [(7, .int (1 : Int32)), (6, .int (1 : Int32)), (0, .ref h0), (1, .int p1), (2, .int p2), (4, .int v2)]) hx hb dX12_poll_76 hl (by decide) rfl (fun ls hl => ?_)
        refine lv_aload_n hx hb dX12_poll_78 rfl (lv_at hl 2 rfl) ?_
        refine lv_aload_n hx hb dX12_poll_79 rfl (lv_at hl 2 rfl) ?_
        refine m_geta x L10 46 rfl rfl (wm_in uf_125) dX12_poll_80 ?_
        refine lv_iload_n hx hb dX12_poll_83 rfl (lv_at hl 3 rfl) ?_
        refine m_ld x L10 46 rfl rp1 rfl dX12_poll_84 (fun v25 ev25 wv25 => ?_)
        refine m_top (((mm_fr (mm_up (mm_fr (mm_fr ev1 hF5 rfl) hF8 rfl) eg9 rfl) hp10.1 rfl)).trans ev25.symm) ?_
        refine m_cv (As := [.int v1]) (rest := []) x hml L10 (c_word l nn X g10 v1 hnn hX (rg_eqv ev11 (rg_w rv11 rfl))) (wm_V uc_word ul_299 ui_word us_word u_init) rfl ⟨rfl, rfl⟩ hd_word ⟨Nat.le_of_ble_eq_true rfl, Nat.le_of_ble_eq_true rfl⟩ rfl hl.1 rfl (lv_room (Nat.le_of_ble_eq_true rfl)) dX12_poll_85 (fun  g26 H26 k26 hp26 L26 => ?_)
        obtain ⟨v27, ev27⟩ : ∃ y : Int32, y = g26 11 0 := ⟨_, rfl⟩
        have rv27 : rg (4) (4) v27 := rg_rel ev11 ev27 rv11 hp26.2 rfl
        have hv27 := rel_conv ev11 ev27 hp26.2
        have uv27 : (4 : Int) ≤ v27.toInt ∧ v27.toInt ≤ 4 := rv27
        refine lv_aload_n hx hb dX12_poll_88 rfl (lv_at hl 2 rfl) ?_
        refine m_geta x L26 46 rfl rfl (wm_in uf_125) dX12_poll_89 ?_
        refine lv_iload_n hx hb dX12_poll_92 rfl (lv_at hl 3 rfl) ?_
        refine m_ld x L26 46 rfl rp1 rfl dX12_poll_93 (fun v28 ev28 wv28 => ?_)
        refine m_top (((mm_fr (mm_fr (mm_up (mm_fr (mm_fr ev1 hF5 rfl) hF8 rfl) eg9 rfl) hp10.1 rfl) hp26.1 rfl)).trans ev28.symm) ?_
        refine lv_iconst (v := 1) hx hb dX12_poll_94 (by decide) ?_
        refine lv_iadd hx hb dX12_poll_95 ?_
        refine lv_topi (fun v29 ev29 => ?_)
        have rv29 : rg (1) (16777225) v29 := (rg_add ev29 rv1 kc_1 rfl).1
        have tv29 := (rg_add ev29 rv1 kc_1 rfl).2
        have y30 : (1 : Int32).toInt = 1 := by decide
        have uv29 : (1 : Int) ≤ v29.toInt ∧ v29.toInt ≤ 16777225 := rv29
        refine lv_istore (lv' := [(8, .int v29), (7, .int (1 : Int32)), (6, .int (1 : Int32)), (0, .ref h0), (1, .int p1), (2, .int p2), (4, .int v2)]) hx hb dX12_poll_96 hl (by decide) rfl (fun ls hl => ?_)
        have j98_34 : ∀ (n : Nat) (a98_6_31 a98_7_32 a98_8_33 : Int32) (g34 : mSt) (H34 : Heap) (k34 : List Loc) (ls : Array Slot), mFr [10, 11] g26 g34 → mL G h0 ad H0 nn X g34 H34 k34 → rg (1) (12) a98_6_31 → rg (0) (1) a98_7_32 → rg (1) (2147483647) a98_8_33 → rg (0) (256) (g34 11 0) → ((g34 11 0)).toInt ≤ 4 * a98_6_31.toInt → lv_has ls 10 [(0, .ref h0), (1, .int p1), (2, .int p2), (4, .int v2), (6, .int a98_6_31), (7, .int a98_7_32), (8, .int a98_8_33)] → ((2147483647 : Int) - a98_8_33.toInt).toNat = n → W p l e rm_poll s m args below meth c H34 k34 0 0 Q (F0 m 98 ls []) := by
          intro n
          induction n using Nat.strongRecOn with
          | _ n ih34 =>
            intro a98_6_31 a98_7_32 a98_8_33 g34 H34 k34 ls hF34 L34 ra98_6_31 ra98_7_32 ra98_8_33 hm34_0 hv34_0 hl hn34
            subst hn34
            obtain ⟨z34_0, ez34_0⟩ : ∃ y : Int32, y = g34 11 0 := ⟨_, rfl⟩
            have rz34_0 : rg (0) (256) z34_0 := rg_eqv ez34_0.symm hm34_0
            have uz34_0 : (0 : Int) ≤ z34_0.toInt ∧ z34_0.toInt ≤ 256 := rz34_0
            have sz34_0 := congrArg Int32.toInt ez34_0
            have ua98_6_31 : (1 : Int) ≤ a98_6_31.toInt ∧ a98_6_31.toInt ≤ 12 := ra98_6_31
            have ua98_7_32 : (0 : Int) ≤ a98_7_32.toInt ∧ a98_7_32.toInt ≤ 1 := ra98_7_32
            have ua98_8_33 : (1 : Int) ≤ a98_8_33.toInt ∧ a98_8_33.toInt ≤ 2147483647 := ra98_8_33
            refine lv_iload hx hb dX12_poll_98 (lv_at hl 6 rfl) ?_
            refine lv_aload_n hx hb dX12_poll_100 rfl (lv_at hl 0 rfl) ?_
            refine m_geta x L34 47 rfl rfl (wm_in uf_128) dX12_poll_101 ?_
            refine lv_iload_n hx hb dX12_poll_104 rfl (lv_at hl 1 rfl) ?_
            refine m_ld x L34 47 rfl rp1 rfl dX12_poll_105 (fun v35 ev35 wv35 => ?_)
            refine m_top (((mm_fr (mm_fr (mm_fr (mm_st eg9) hp10.1 rfl) hp26.1 rfl) hF34 rfl)).trans ev35.symm) ?_
            have j167_36 : ∀ (g36 : mSt) (H36 : Heap) (k36 : List Loc) (ls : Array Slot), mFr [] g34 g36 → mL G h0 ad H0 nn X g36 H36 k36 → lv_has ls 10 [(0, .ref h0), (1, .int p1), (2, .int p2), (4, .int v2), (6, .int a98_6_31)] → W p l e rm_poll s m args below meth c H36 k36 0 0 Q (F0 m 167 ls []) := by
              intro  g36 H36 k36 ls hF36 L36  hl
              refine lv_iload hx hb dX12_poll_167 (lv_at hl 4 rfl) ?_
              refine lv_bipush (v := 12) hx hb dX12_poll_169 (by decide) ?_
              refine lv_icmp_ge (tgt := 184) hx hb dX12_poll_171 (by decide) (fun c171_37 => ?_) (fun c171_37 => ?_)
              · skip
                have ic171_37 := Int32.le_iff_toInt_le.mp c171_37
                have q38 : rg (12) (12) a98_6_31 := (rg_le c171_37 kc_12 ra98_6_31).2
                have uq38 : (12 : Int) ≤ a98_6_31.toInt ∧ a98_6_31.toInt ≤ 12 := q38
                have y39 := congrArg Int32.toInt (mm_fr ez34_0 hF36 rfl)
                exact j184_14  g36 _ _ ls (mFr.tr (mFr.tr (mFr.tr mFr.rf hp26.1 rfl) hF34 rfl) hF36 rfl) L36 (rg_eqv (mm_fr ez34_0 hF36 rfl) (rg_w rz34_0 rfl)) (by omega) (lv_sub hl [0, 1, 2, 3] rfl)
              · skip
                have ic171_37 := Int32.lt_iff_toInt_lt.mp (rg_nle c171_37)
                have q40 : rg (1) (11) a98_6_31 := (rg_lt (rg_nle c171_37) ra98_6_31 kc_12).1
                have uq40 : (1 : Int) ≤ a98_6_31.toInt ∧ a98_6_31.toInt ≤ 11 := q40
                refine lv_aload_n hx hb dX12_poll_174 rfl (lv_at hl 0 rfl) ?_
                refine lv_aload_n hx hb dX12_poll_175 rfl (lv_at hl 0 rfl) ?_
                refine m_geta x L36 47 rfl rfl (wm_in uf_128) dX12_poll_176 ?_
                refine lv_iload_n hx hb dX12_poll_179 rfl (lv_at hl 1 rfl) ?_
                refine m_ld x L36 47 rfl rp1 rfl dX12_poll_180 (fun v41 ev41 wv41 => ?_)
                refine m_top (((mm_fr (mm_fr (mm_fr (mm_fr (mm_st eg9) hp10.1 rfl) hp26.1 rfl) hF34 rfl) hF36 rfl)).trans ev41.symm) ?_
                refine m_cv (As := [.int b52_2_7]) (rest := []) x hml L36 (c_word l nn X g36 b52_2_7 hnn hX (rg_eqv (mm_fr ez34_0 hF36 rfl) (⟨by omega, by omega⟩ : rg (0) (252) z34_0))) (wm_V uc_word ul_299 ui_word us_word u_init) rfl ⟨rfl, rfl⟩ hd_word ⟨Nat.le_of_ble_eq_true rfl, Nat.le_of_ble_eq_true rfl⟩ rfl hl.1 rfl (lv_room (Nat.le_of_ble_eq_true rfl)) dX12_poll_181 (fun  g42 H42 k42 hp42 L42 => ?_)
                obtain ⟨v43, ev43⟩ : ∃ y : Int32, y = g42 11 0 := ⟨_, rfl⟩
                have rv43 : rg (0) (256) v43 := rg_eqv ev43.symm (lj_11 (L42.2.2 11 _))
                have hv43 := rel_conv (mm_fr ez34_0 hF36 rfl) ev43 hp42.2
                have uv43 : (0 : Int) ≤ v43.toInt ∧ v43.toInt ≤ 256 := rv43
                have y44 := congrArg Int32.toInt ev43
                exact j184_14  g42 _ _ ls (mFr.tr (mFr.tr (mFr.tr (mFr.tr mFr.rf hp26.1 rfl) hF34 rfl) hF36 rfl) hp42.1 rfl) L42 (rg_eqv ev43 (rg_w rv43 rfl)) (by omega) (lv_sub hl [0, 1, 2, 3] rfl)
            refine lv_icmp_ge (tgt := 167) hx hb dX12_poll_106 (by decide) (fun c106_45 => ?_) (fun c106_45 => ?_)
            · skip
              have ic106_45 := Int32.le_iff_toInt_le.mp c106_45
              exact j167_36  g34 _ _ ls mFr.rf L34  (lv_sub hl [0, 1, 2, 3, 4] rfl)
            · skip
              have ic106_45 := Int32.lt_iff_toInt_lt.mp (rg_nle c106_45)
              have q46 : rg (1) (2147483646) a98_8_33 := (rg_lt (rg_nle c106_45) ra98_8_33 q24).1
              have uq46 : (1 : Int) ≤ a98_8_33.toInt ∧ a98_8_33.toInt ≤ 2147483646 := q46
              have q47 : rg (2) (2147483647) b52_2_7 := (rg_lt (rg_nle c106_45) ra98_8_33 q24).2
              have uq47 : (2 : Int) ≤ b52_2_7.toInt ∧ b52_2_7.toInt ≤ 2147483647 := q47
              refine lv_iload hx hb dX12_poll_109 (lv_at hl 4 rfl) ?_
              refine lv_bipush (v := 12) hx hb dX12_poll_111 (by decide) ?_
              refine lv_icmp_ge (tgt := 167) hx hb dX12_poll_113 (by decide) (fun c113_48 => ?_) (fun c113_48 => ?_)
              · skip
                have ic113_48 := Int32.le_iff_toInt_le.mp c113_48
                have q49 : rg (12) (12) a98_6_31 := (rg_le c113_48 kc_12 ra98_6_31).2
                have uq49 : (12 : Int) ≤ a98_6_31.toInt ∧ a98_6_31.toInt ≤ 12 := q49
                exact j167_36  g34 _ _ ls mFr.rf L34  (lv_sub hl [0, 1, 2, 3, 4] rfl)
              · skip
                have ic113_48 := Int32.lt_iff_toInt_lt.mp (rg_nle c113_48)
                have q50 : rg (1) (11) a98_6_31 := (rg_lt (rg_nle c113_48) ra98_6_31 kc_12).1
                have uq50 : (1 : Int) ≤ a98_6_31.toInt ∧ a98_6_31.toInt ≤ 11 := q50
                refine lv_aload_n hx hb dX12_poll_116 rfl (lv_at hl 0 rfl) ?_
                refine m_geta x L34 67 rfl rfl (wm_in uf_189) dX12_poll_117 ?_
                refine lv_bipush (v := 8) hx hb dX12_poll_120 (by decide) ?_
                refine lv_iload_n hx hb dX12_poll_122 rfl (lv_at hl 1 rfl) ?_
                refine lv_imul hx hb dX12_poll_123 ?_
                refine lv_topi (fun v51 ev51 => ?_)
                have rv51 : rg (0) (56) v51 := (rg_mulL ev51 kc_8 rp1 rfl).1
                have tv51 := (rg_mulL ev51 kc_8 rp1 rfl).2
                have y52 : (8 : Int32).toInt = 8 := by decide
                have b16v51 : v51.toInt < 16 * nn := by have := np1; have : (8 : Int32).toInt = 8 := (by decide); omega
                have uv51 : (0 : Int) ≤ v51.toInt ∧ v51.toInt ≤ 56 := rv51
                refine lv_iload hx hb dX12_poll_124 (lv_at hl 6 rfl) ?_
                refine lv_bipush (v := 8) hx hb dX12_poll_126 (by decide) ?_
                refine lv_irem hx hb dX12_poll_128 (by decide) ?_
                refine lv_topi (fun v53 ev53 => ?_)
                have rv53 : rg (0) (7) v53 := (rg_rem ev53 q46 kc_8 rfl).1
                have tv53 := (rg_rem ev53 q46 kc_8 rfl).2
                have y54 : (8 : Int32).toInt = 8 := by decide
                have uv53 : (0 : Int) ≤ v53.toInt ∧ v53.toInt ≤ 7 := rv53
                refine lv_iadd hx hb dX12_poll_129 ?_
                refine lv_topi (fun v55 ev55 => ?_)
                have rv55 : rg (0) (63) v55 := (rg_add ev55 rv51 rv53 rfl).1
                have tv55 := (rg_add ev55 rv51 rv53 rfl).2
                have uv55 : (0 : Int) ≤ v55.toInt ∧ v55.toInt ≤ 63 := rv55
                refine m_ldz x L34 67 rfl rv55 rfl dX12_poll_130 (fun v56 ev56 wv56 => ?_)
                have rv56 : rg (0) (1) v56 := lj_67 wv56
                have uv56 : (0 : Int) ≤ v56.toInt ∧ v56.toInt ≤ 1 := rv56
                have sv56 : v56.toInt = (g 67 v55.toNatClampNeg).toInt := congrArg Int32.toInt (ev56.trans (congrFun ((show mFr [4, 5, 7, 8, 9, 10, 11, 47] g g34 from (mFr.tr (mFr.tr (mFr.tr (mFr.upE (mFr.tr (mFr.tr mFr.rf hF5 rfl) hF8 rfl) eg9 rfl) hp10.1 rfl) hp26.1 rfl) hF34 rfl)).at 67 rfl) _))
                have j139_58 : ∀ (b139_0_57 : Int32) (g58 : mSt) (H58 : Heap) (k58 : List Loc) (ls : Array Slot), mFr [] g34 g58 → mL G h0 ad H0 nn X g58 H58 k58 → rg (0) (1) b139_0_57 → lv_has ls 10 [(0, .ref h0), (1, .int p1), (2, .int p2), (4, .int v2), (6, .int a98_6_31), (7, .int a98_7_32), (8, .int a98_8_33)] → W p l e rm_poll s m args below meth c H58 k58 0 0 Q (F0 m 139 ls [.int b139_0_57]) := by
                  intro b139_0_57 g58 H58 k58 ls hF58 L58 rb139_0_57 hl
                  have ub139_0_57 : (0 : Int) ≤ b139_0_57.toInt ∧ b139_0_57.toInt ≤ 1 := rb139_0_57
                  refine lv_istore (lv' := [(9, .int b139_0_57), (0, .ref h0), (1, .int p1), (2, .int p2), (4, .int v2), (6, .int a98_6_31), (7, .int a98_7_32), (8, .int a98_8_33)]) hx hb dX12_poll_139 hl (by decide) rfl (fun ls hl => ?_)
                  refine lv_iload hx hb dX12_poll_141 (lv_at hl 0 rfl) ?_
                  refine lv_iload hx hb dX12_poll_143 (lv_at hl 6 rfl) ?_
                  have j161_61 : ∀ (a161_6_59 a161_7_60 : Int32) (g61 : mSt) (H61 : Heap) (k61 : List Loc) (ls : Array Slot), mFr [10, 11] g58 g61 → mL G h0 ad H0 nn X g61 H61 k61 → rg (1) (12) a161_6_59 → rg (0) (1) a161_7_60 → rg (0) (256) (g61 11 0) → ((g61 11 0)).toInt ≤ 4 * a161_6_59.toInt → lv_has ls 10 [(0, .ref h0), (1, .int p1), (2, .int p2), (4, .int v2), (6, .int a161_6_59), (7, .int a161_7_60), (8, .int a98_8_33)] → W p l e rm_poll s m args below meth c H61 k61 0 0 Q (F0 m 161 ls []) := by
                    intro a161_6_59 a161_7_60 g61 H61 k61 ls hF61 L61 ra161_6_59 ra161_7_60 hm61_0 hv61_0 hl
                    obtain ⟨z61_0, ez61_0⟩ : ∃ y : Int32, y = g61 11 0 := ⟨_, rfl⟩
                    have rz61_0 : rg (0) (256) z61_0 := rg_eqv ez61_0.symm hm61_0
                    have uz61_0 : (0 : Int) ≤ z61_0.toInt ∧ z61_0.toInt ≤ 256 := rz61_0
                    have sz61_0 := congrArg Int32.toInt ez61_0
                    have ua161_6_59 : (1 : Int) ≤ a161_6_59.toInt ∧ a161_6_59.toInt ≤ 12 := ra161_6_59
                    have ua161_7_60 : (0 : Int) ≤ a161_7_60.toInt ∧ a161_7_60.toInt ≤ 1 := ra161_7_60
                    obtain ⟨v62, ev62, fv62⟩ := inc_ex a98_8_33 (1) (1 : Int32) (by decide)
                    have rv62 : rg (2) (2147483647) v62 := (rg_add ev62 q46 kc_1 rfl).1
                    have tv62 := (rg_add ev62 q46 kc_1 rfl).2
                    have yv62 : (1 : Int32).toInt = 1 := by decide
                    refine lv_iinc (v := v62) (lv' := [(8, .int v62), (0, .ref h0), (1, .int p1), (2, .int p2), (4, .int v2), (6, .int a161_6_59), (7, .int a161_7_60)]) hx hb dX12_poll_161 hl (k := 6) rfl fv62 (by decide) rfl (fun ls hl => ?_)
                    refine lv_goto (tgt := 98) hx hb dX12_poll_164 (by decide) ?_
                    have y63 := congrArg Int32.toInt ez61_0
                    exact ih34 _ (ms_up tv62 kc_1 q46 rfl rfl) a161_6_59 a161_7_60 v62 g61 _ _ ls (mFr.tr (mFr.tr hF34 hF58 rfl) hF61 rfl) L61 (rg_w ra161_6_59 rfl) (rg_w ra161_7_60 rfl) (rg_w rv62 rfl) (rg_eqv ez61_0 (rg_w rz61_0 rfl)) (by omega) (lv_sub hl [1, 2, 3, 4, 5, 6, 0] rfl) rfl
                  refine lv_icmp_eq (tgt := 161) hx hb dX12_poll_145 (by decide) (fun c145_64 => ?_) (fun c145_64 => ?_)
                  · skip
                    have ic145_64 := congrArg Int32.toInt c145_64
                    have y65 := congrArg Int32.toInt (mm_fr ez34_0 hF58 rfl)
                    exact j161_61 a98_6_31 a98_7_32 g58 _ _ ls mFr.rf L58 (rg_w q50 rfl) (rg_w ra98_7_32 rfl) (rg_eqv (mm_fr ez34_0 hF58 rfl) (rg_w rz34_0 rfl)) (by omega) (lv_sub hl [1, 2, 3, 4, 5, 6, 7] rfl)
                  · skip
                    have ic145_64 : b139_0_57.toInt ≠ a98_7_32.toInt := fun z => c145_64 (Int32.toInt_inj.mp z)
                    refine lv_aload_n hx hb dX12_poll_148 rfl (lv_at hl 1 rfl) ?_
                    refine lv_iload hx hb dX12_poll_149 (lv_at hl 7 rfl) ?_
                    refine m_cv (As := [.int a98_8_33]) (rest := []) x hml L58 (c_word l nn X g58 a98_8_33 hnn hX (rg_eqv (mm_fr ez34_0 hF58 rfl) (⟨by omega, by omega⟩ : rg (0) (252) z34_0))) (wm_V uc_word ul_299 ui_word us_word u_init) rfl ⟨rfl, rfl⟩ hd_word ⟨Nat.le_of_ble_eq_true rfl, Nat.le_of_ble_eq_true rfl⟩ rfl hl.1 rfl (lv_room (Nat.le_of_ble_eq_true rfl)) dX12_poll_151 (fun  g66 H66 k66 hp66 L66 => ?_)
                    obtain ⟨v67, ev67⟩ : ∃ y : Int32, y = g66 11 0 := ⟨_, rfl⟩
                    have rv67 : rg (0) (256) v67 := rg_eqv ev67.symm (lj_11 (L66.2.2 11 _))
                    have hv67 := rel_conv (mm_fr ez34_0 hF58 rfl) ev67 hp66.2
                    have uv67 : (0 : Int) ≤ v67.toInt ∧ v67.toInt ≤ 256 := rv67
                    obtain ⟨v68, ev68, fv68⟩ := inc_ex a98_6_31 (1) (1 : Int32) (by decide)
                    have rv68 : rg (2) (12) v68 := (rg_add ev68 q50 kc_1 rfl).1
                    have tv68 := (rg_add ev68 q50 kc_1 rfl).2
                    have yv68 : (1 : Int32).toInt = 1 := by decide
                    refine lv_iinc (v := v68) (lv' := [(6, .int v68), (9, .int b139_0_57), (0, .ref h0), (1, .int p1), (2, .int p2), (4, .int v2), (7, .int a98_7_32), (8, .int a98_8_33)]) hx hb dX12_poll_154 hl (k := 5) rfl fv68 (by decide) rfl (fun ls hl => ?_)
                    refine lv_iload hx hb dX12_poll_157 (lv_at hl 1 rfl) ?_
                    refine lv_istore (lv' := [(7, .int b139_0_57), (6, .int v68), (9, .int b139_0_57), (0, .ref h0), (1, .int p1), (2, .int p2), (4, .int v2), (8, .int a98_8_33)]) hx hb dX12_poll_159 hl (by decide) rfl (fun ls hl => ?_)
                    have y69 := congrArg Int32.toInt ev67
                    exact j161_61 v68 b139_0_57 g66 _ _ ls (mFr.tr mFr.rf hp66.1 rfl) L66 (rg_w rv68 rfl) (rg_w rb139_0_57 rfl) (rg_eqv ev67 (rg_w rv67 rfl)) (by omega) (lv_sub hl [3, 4, 5, 6, 1, 0, 7] rfl)
                refine lv_if_ne (tgt := 138) hx hb dX12_poll_131 (by decide) (fun c131_70 => ?_) (fun c131_70 => ?_)
                · skip
                  have ic131_70 : v56.toInt ≠ (0 : Int32).toInt := fun z => c131_70 (Int32.toInt_inj.mp z)
                  have y71 : (0 : Int32).toInt = 0 := by decide
                  have q72 : rg (1) (1) v56 := rg_neL c131_70 rv56 kc_0
                  have uq72 : (1 : Int) ≤ v56.toInt ∧ v56.toInt ≤ 1 := q72
                  refine lv_iconst (v := 0) hx hb dX12_poll_138 (by decide) ?_
                  have y73 : (0 : Int32).toInt = 0 := by decide
                  exact j139_58 (0 : Int32) g34 _ _ ls mFr.rf L34 (rg_w kc_0 rfl) (lv_sub hl [0, 1, 2, 3, 4, 5, 6] rfl)
                · skip
                  have ic131_70 := congrArg Int32.toInt c131_70
                  have y74 : (0 : Int32).toInt = 0 := by decide
                  have q75 : rg (0) (0) v56 := (rg_eq c131_70 rv56 kc_0).1
                  have uq75 : (0 : Int) ≤ v56.toInt ∧ v56.toInt ≤ 0 := q75
                  refine lv_iconst (v := 1) hx hb dX12_poll_134 (by decide) ?_
                  refine lv_goto (tgt := 139) hx hb dX12_poll_135 (by decide) ?_
                  have y76 : (1 : Int32).toInt = 1 := by decide
                  exact j139_58 (1 : Int32) g34 _ _ ls mFr.rf L34 (rg_w kc_1 rfl) (lv_sub hl [0, 1, 2, 3, 4, 5, 6] rfl)
        have y77 : (1 : Int32).toInt = 1 := by decide
        have y78 : (1 : Int32).toInt = 1 := by decide
        have y79 := congrArg Int32.toInt ev27
        exact j98_34 _ (1 : Int32) (1 : Int32) v29 g26 _ _ ls mFr.rf L26 (rg_w kc_1 rfl) (rg_w kc_1 rfl) (rg_w rv29 rfl) (rg_eqv ev27 (rg_w rv27 rfl)) (by omega) (lv_sub hl [3, 4, 5, 6, 2, 1, 0] rfl) rfl
    refine lv_icmp_ge (tgt := 46) hx hb dX12_poll_38 (by decide) (fun c38_80 => ?_) (fun c38_80 => ?_)
    · skip
      have ic38_80 := Int32.le_iff_toInt_le.mp c38_80
      have q81 : rg (0) (2147483647) v6 := (rg_le c38_80 rb23_0_4 rv6).2
      have uq81 : (0 : Int) ≤ v6.toInt ∧ v6.toInt ≤ 2147483647 := q81
      refine lv_aload_n hx hb dX12_poll_46 rfl (lv_at hl 1 rfl) ?_
      refine m_geta x L5 47 rfl rfl (wm_in uf_128) dX12_poll_47 ?_
      refine lv_iload_n hx hb dX12_poll_50 rfl (lv_at hl 2 rfl) ?_
      refine m_ld x L5 47 rfl rp1 rfl dX12_poll_51 (fun v82 ev82 wv82 => ?_)
      refine m_top ((ev6).trans ev82.symm) ?_
      exact j52_8 v6 g5 _ _ ls mFr.rf L5 (rg_w q81 rfl) (lv_sub hl [1, 2, 3, 4] rfl)
    · skip
      have ic38_80 := Int32.lt_iff_toInt_lt.mp (rg_nle c38_80)
      have q83 : rg (-2147483648) (16777214) v6 := (rg_lt (rg_nle c38_80) rv6 rb23_0_4).1
      have uq83 : (-2147483648 : Int) ≤ v6.toInt ∧ v6.toInt ≤ 16777214 := q83
      refine lv_iload hx hb dX12_poll_41 (lv_at hl 0 rfl) ?_
      refine lv_goto (tgt := 52) hx hb dX12_poll_43 (by decide) ?_
      exact j52_8 b23_0_4 g5 _ _ ls mFr.rf L5 (rg_w rb23_0_4 rfl) (lv_sub hl [1, 2, 3, 4] rfl)
  refine lv_icmp_ge (tgt := 21) hx hb dX12_poll_14 (by decide) (fun c14_84 => ?_) (fun c14_84 => ?_)
  · skip
    have ic14_84 := Int32.le_iff_toInt_le.mp c14_84
    have q85 : rg (8) (16777215) v2 := (rg_le c14_84 rv2 rp3).1
    have uq85 : (8 : Int) ≤ v2.toInt ∧ v2.toInt ≤ 16777215 := q85
    have q86 : rg (8) (16777215) p3 := (rg_le c14_84 rv2 rp3).2
    have uq86 : (8 : Int) ≤ p3.toInt ∧ p3.toInt ≤ 16777215 := q86
    refine lv_iload hx hb dX12_poll_21 (lv_at hl 0 rfl) ?_
    exact j23_5 v2 g _ _ ls mFr.rf L (rg_w q85 rfl) (lv_sub hl [1, 2, 3, 0] rfl)
  · skip
    have ic14_84 := Int32.lt_iff_toInt_lt.mp (rg_nle c14_84)
    refine lv_iload_n hx hb dX12_poll_17 rfl (lv_at hl 4 rfl) ?_
    refine lv_goto (tgt := 23) hx hb dX12_poll_18 (by decide) ?_
    exact j23_5 p3 g _ _ ls mFr.rf L (rg_w rp3 rfl) (lv_sub hl [1, 2, 3, 0] rfl)
theorem c_poll (l : Launch) {G : mG} {h0 : Nat} {ad : Nat → Nat} (nn X : Int) (g : mSt) (p1 : Int32) (p2 : Int32) (p3 : Int32) (hnn : 2 ≤ nn ∧ nn ≤ 4) (hX : 0 ≤ X ∧ X ≤ 2000000000) (rp1 : rg (0) (7) p1) (np1 : p1.toInt < 2 * nn) (rp3 : rg (0) (16777215) p3) : Met l yX12_poll (wm (Cond.code yX12_poll cX12_poll 10 none)) rm_poll (va_Pc [.ref h0, .int p1, .int p2, .int p3] (mPre G h0 ad nn X g)) (mQv G h0 ad nn X (fun g1 => mFr [4, 5, 7, 8, 9, 10, 11, 47] g g1 ∧ True)) 0 0 (mA h0 ad) := by
  refine Met.ofW (cc := cX12_poll) (maxL := 10) (ret := none) (by decide) rfl ?_
  intro p e s m args below meth c s₁ B hml hv
  obtain ⟨rfl, hv⟩ := hv
  have hr := B.returns
  have hlocks := B.notSynchronized
  obtain ⟨x, L⟩ := m_start B rfl wm_X hv
  have hl := lv_entry ([.ref h0, .int p1, .int p2, .int p3]) (n := 10) (Nat.le_of_ble_eq_true rfl)
  rw [lg_entry_eq]
  generalize (lg_sl ([.ref h0, .int p1, .int p2, .int p3]) ++ List.replicate (10 - (lg_sl ([.ref h0, .int p1, .int p2, .int p3])).length) Slot.unset).toArray = ls at hl ⊢
  exact w_poll x hml L hnn hX p1 p2 p3 rp1 np1 rp3 hl (fun pc' ls' g1 H1 locs1 hdg L hp => m_vret x L hr hlocks (Int.le_refl _) hp hdg)

def rm_beginText : Room := { frames := 1, cells := 0, slots := 0, locals := 21 }
theorem hd_beginText : yX12_beginText.cls = RX12 ∧ yX12_beginText.cls ≠ "java/lang/invoke/MethodHandle" ∧ yX12_beginText.cls ≠ "java/lang/invoke/VarHandle" ∧ (parseMethodDescriptor yX12_beginText.desc).map (fun d => d.parameters.length) = some 4 := by decide +kernel
set_option maxHeartbeats 4000000 in
set_option maxRecDepth 100000 in
theorem w_beginText {p : Program} {l : Launch} {e : Env} {s : State} {m : MethodId} {args : Array Value} {below : List Frame} {meth : Method} {c : Code} {H : Heap} {locs : List Loc} {Q : State → Prop} {ls : Array Slot} {G : mG} {h0 : Nat} {ad : Nat → Nat} {g : mSt} {H0 : Heap} {nn X : Int} (x : mX p c cX12_beginText s args (wm (Cond.code yX12_beginText cX12_beginText 5 none)) m G h0 ad) (hml : c.maxLocals = 5) (L : mL G h0 ad H0 nn X g H locs) (hnn : 2 ≤ nn ∧ nn ≤ 4) (hX : 0 ≤ X ∧ X ≤ 2000000000) (p1 : Int32) (p2 : Int32) (p3 : Int32) (p4 : Int32) (rp1 : rg (0) (1) p1) (hl : lv_has ls 5 [(0, .ref h0), (1, .int p1), (2, .int p2), (3, .int p3), (4, .int p4)]) (hQ : ∀ (pc' : Nat) (ls' : Array Slot) (g1 : mSt) (H1 : Heap) (locs1 : List Loc), decode cX12_beginText pc' = .ok (.return_, 1) → mL G h0 ad H0 nn X g1 H1 locs1 → (mFr [90, 91] g g1 ∧ rg (9) (9) (g1 91 0)) → W p l e rm_beginText s m args below meth c H1 locs1 0 0 Q (F0 m pc' ls' [])) : W p l e rm_beginText s m args below meth c H locs 0 0 Q (F0 m 0 ls []) := by
  have hx := x.1
  have hb := x.2.1
  refine lv_aload_n hx hb dX12_beginText_0 rfl (lv_at hl 0 rfl) ?_
  refine lv_iconst (v := 0) hx hb dX12_beginText_1 (by decide) ?_
  refine m_puti x L 91 rfl fi_91 (wm_in uf_469) dX12_beginText_2 (rj_91 (rg_w kc_0 rfl)) (fun g1 H1 k1 eg1 L1 => ?_)
  refine lv_aload_n hx hb dX12_beginText_5 rfl (lv_at hl 0 rfl) ?_
  refine lv_bipush (v := 9) hx hb dX12_beginText_6 (by decide) ?_
  refine m_cv (As := [.int (9 : Int32)]) (rest := []) x hml L1 (c_textByte l nn X g1 (9 : Int32) hnn hX (rg_eqv (mm_st eg1) (rg_w kc_0 rfl))) (wm_V uc_textByte ul_472 ui_textByte us_textByte u_init) rfl ⟨rfl, rfl⟩ hd_textByte ⟨Nat.le_of_ble_eq_true rfl, Nat.le_of_ble_eq_true rfl⟩ rfl hl.1 rfl (lv_room (Nat.le_of_ble_eq_true rfl)) dX12_beginText_8 (fun  g2 H2 k2 hp2 L2 => ?_)
  obtain ⟨v3, ev3⟩ : ∃ y : Int32, y = g2 91 0 := ⟨_, rfl⟩
  have rv3 : rg (1) (1) v3 := rg_rel (mm_st eg1) ev3 kc_0 hp2.2 rfl
  refine lv_aload_n hx hb dX12_beginText_11 rfl (lv_at hl 0 rfl) ?_
  refine lv_iconst (v := 3) hx hb dX12_beginText_12 (by decide) ?_
  refine m_cv (As := [.int (3 : Int32)]) (rest := []) x hml L2 (c_textByte l nn X g2 (3 : Int32) hnn hX (rg_eqv ev3 (rg_w rv3 rfl))) (wm_V uc_textByte ul_472 ui_textByte us_textByte u_init) rfl ⟨rfl, rfl⟩ hd_textByte ⟨Nat.le_of_ble_eq_true rfl, Nat.le_of_ble_eq_true rfl⟩ rfl hl.1 rfl (lv_room (Nat.le_of_ble_eq_true rfl)) dX12_beginText_13 (fun  g4 H4 k4 hp4 L4 => ?_)
  obtain ⟨v5, ev5⟩ : ∃ y : Int32, y = g4 91 0 := ⟨_, rfl⟩
  have rv5 : rg (2) (2) v5 := rg_rel ev3 ev5 rv3 hp4.2 rfl
  refine lv_aload_n hx hb dX12_beginText_16 rfl (lv_at hl 0 rfl) ?_
  refine lv_iload_n hx hb dX12_beginText_17 rfl (lv_at hl 1 rfl) ?_
  have j28_7 : ∀ (b28_1_6 : Int32) (g7 : mSt) (H7 : Heap) (k7 : List Loc) (ls : Array Slot), mFr [] g4 g7 → mL G h0 ad H0 nn X g7 H7 k7 → rg (0) (128) b28_1_6 → lv_has ls 5 [(0, .ref h0), (2, .int p2), (3, .int p3), (4, .int p4)] → W p l e rm_beginText s m args below meth c H7 k7 0 0 Q (F0 m 28 ls [.int b28_1_6, .ref h0]) := by
    intro b28_1_6 g7 H7 k7 ls hF7 L7 rb28_1_6 hl
    refine lv_iload_n hx hb dX12_beginText_28 rfl (lv_at hl 1 rfl) ?_
    refine lv_bipush (v := 16) hx hb dX12_beginText_29 (by decide) ?_
    refine lv_ishr hx hb dX12_beginText_31 ?_
    refine lv_topi (fun v8 ev8 => ?_)
    have rv8 : rg (-2147483648) (2147483647) v8 := rg_any v8
    refine lv_ior hx hb dX12_beginText_32 ?_
    refine lv_topi (fun v9 ev9 => ?_)
    have rv9 : rg (-2147483648) (2147483647) v9 := rg_any v9
    refine m_cv (As := [.int v9]) (rest := []) x hml L7 (c_textByte l nn X g7 v9 hnn hX (rg_eqv (mm_fr ev5 hF7 rfl) (rg_w rv5 rfl))) (wm_V uc_textByte ul_472 ui_textByte us_textByte u_init) rfl ⟨rfl, rfl⟩ hd_textByte ⟨Nat.le_of_ble_eq_true rfl, Nat.le_of_ble_eq_true rfl⟩ rfl hl.1 rfl (lv_room (Nat.le_of_ble_eq_true rfl)) dX12_beginText_33 (fun  g10 H10 k10 hp10 L10 => ?_)
    obtain ⟨v11, ev11⟩ : ∃ y : Int32, y = g10 91 0 := ⟨_, rfl⟩
    have rv11 : rg (3) (3) v11 := rg_rel (mm_fr ev5 hF7 rfl) ev11 rv5 hp10.2 rfl
    refine lv_aload_n hx hb dX12_beginText_36 rfl (lv_at hl 0 rfl) ?_
    refine lv_iload_n hx hb dX12_beginText_37 rfl (lv_at hl 1 rfl) ?_
    refine lv_bipush (v := 8) hx hb dX12_beginText_38 (by decide) ?_
    refine lv_ishr hx hb dX12_beginText_40 ?_
    refine lv_topi (fun v12 ev12 => ?_)
    have rv12 : rg (-2147483648) (2147483647) v12 := rg_any v12
    refine lv_sipush (v := 255) hx hb dX12_beginText_41 (by decide) ?_
    refine lv_iand hx hb dX12_beginText_44 ?_
    refine lv_topi (fun v13 ev13 => ?_)
    have rv13 : rg (0) (255) v13 := rg_and ev13 8 255 (by decide) rfl
    refine m_cv (As := [.int v13]) (rest := []) x hml L10 (c_textByte l nn X g10 v13 hnn hX (rg_eqv ev11 (rg_w rv11 rfl))) (wm_V uc_textByte ul_472 ui_textByte us_textByte u_init) rfl ⟨rfl, rfl⟩ hd_textByte ⟨Nat.le_of_ble_eq_true rfl, Nat.le_of_ble_eq_true rfl⟩ rfl hl.1 rfl (lv_room (Nat.le_of_ble_eq_true rfl)) dX12_beginText_45 (fun  g14 H14 k14 hp14 L14 => ?_)
    obtain ⟨v15, ev15⟩ : ∃ y : Int32, y = g14 91 0 := ⟨_, rfl⟩
    have rv15 : rg (4) (4) v15 := rg_rel ev11 ev15 rv11 hp14.2 rfl
    refine lv_aload_n hx hb dX12_beginText_48 rfl (lv_at hl 0 rfl) ?_
    refine lv_iload_n hx hb dX12_beginText_49 rfl (lv_at hl 1 rfl) ?_
    refine lv_sipush (v := 255) hx hb dX12_beginText_50 (by decide) ?_
    refine lv_iand hx hb dX12_beginText_53 ?_
    refine lv_topi (fun v16 ev16 => ?_)
    have rv16 : rg (0) (255) v16 := rg_and ev16 8 255 (by decide) rfl
    refine m_cv (As := [.int v16]) (rest := []) x hml L14 (c_textByte l nn X g14 v16 hnn hX (rg_eqv ev15 (rg_w rv15 rfl))) (wm_V uc_textByte ul_472 ui_textByte us_textByte u_init) rfl ⟨rfl, rfl⟩ hd_textByte ⟨Nat.le_of_ble_eq_true rfl, Nat.le_of_ble_eq_true rfl⟩ rfl hl.1 rfl (lv_room (Nat.le_of_ble_eq_true rfl)) dX12_beginText_54 (fun  g17 H17 k17 hp17 L17 => ?_)
    obtain ⟨v18, ev18⟩ : ∃ y : Int32, y = g17 91 0 := ⟨_, rfl⟩
    have rv18 : rg (5) (5) v18 := rg_rel ev15 ev18 rv15 hp17.2 rfl
    refine lv_aload_n hx hb dX12_beginText_57 rfl (lv_at hl 0 rfl) ?_
    refine lv_iload_n hx hb dX12_beginText_58 rfl (lv_at hl 2 rfl) ?_
    refine m_cv (As := [.int p3]) (rest := []) x hml L17 (c_textByte l nn X g17 p3 hnn hX (rg_eqv ev18 (rg_w rv18 rfl))) (wm_V uc_textByte ul_472 ui_textByte us_textByte u_init) rfl ⟨rfl, rfl⟩ hd_textByte ⟨Nat.le_of_ble_eq_true rfl, Nat.le_of_ble_eq_true rfl⟩ rfl hl.1 rfl (lv_room (Nat.le_of_ble_eq_true rfl)) dX12_beginText_59 (fun  g19 H19 k19 hp19 L19 => ?_)
    obtain ⟨v20, ev20⟩ : ∃ y : Int32, y = g19 91 0 := ⟨_, rfl⟩
    have rv20 : rg (6) (6) v20 := rg_rel ev18 ev20 rv18 hp19.2 rfl
    refine lv_aload_n hx hb dX12_beginText_62 rfl (lv_at hl 0 rfl) ?_
    refine lv_sipush (v := 128) hx hb dX12_beginText_63 (by decide) ?_
    refine m_cv (As := [.int (128 : Int32)]) (rest := []) x hml L19 (c_textByte l nn X g19 (128 : Int32) hnn hX (rg_eqv ev20 (rg_w rv20 rfl))) (wm_V uc_textByte ul_472 ui_textByte us_textByte u_init) rfl ⟨rfl, rfl⟩ hd_textByte ⟨Nat.le_of_ble_eq_true rfl, Nat.le_of_ble_eq_true rfl⟩ rfl hl.1 rfl (lv_room (Nat.le_of_ble_eq_true rfl)) dX12_beginText_66 (fun  g21 H21 k21 hp21 L21 => ?_)
    obtain ⟨v22, ev22⟩ : ∃ y : Int32, y = g21 91 0 := ⟨_, rfl⟩
    have rv22 : rg (7) (7) v22 := rg_rel ev20 ev22 rv20 hp21.2 rfl
    refine lv_aload_n hx hb dX12_beginText_69 rfl (lv_at hl 0 rfl) ?_
    refine lv_iload hx hb dX12_beginText_70 (lv_at hl 3 rfl) ?_
    refine lv_bipush (v := 8) hx hb dX12_beginText_72 (by decide) ?_
    refine lv_ishr hx hb dX12_beginText_74 ?_
    refine lv_topi (fun v23 ev23 => ?_)
    have rv23 : rg (-2147483648) (2147483647) v23 := rg_any v23
    refine m_cv (As := [.int v23]) (rest := []) x hml L21 (c_textByte l nn X g21 v23 hnn hX (rg_eqv ev22 (rg_w rv22 rfl))) (wm_V uc_textByte ul_472 ui_textByte us_textByte u_init) rfl ⟨rfl, rfl⟩ hd_textByte ⟨Nat.le_of_ble_eq_true rfl, Nat.le_of_ble_eq_true rfl⟩ rfl hl.1 rfl (lv_room (Nat.le_of_ble_eq_true rfl)) dX12_beginText_75 (fun  g24 H24 k24 hp24 L24 => ?_)
    obtain ⟨v25, ev25⟩ : ∃ y : Int32, y = g24 91 0 := ⟨_, rfl⟩
    have rv25 : rg (8) (8) v25 := rg_rel ev22 ev25 rv22 hp24.2 rfl
    refine lv_aload_n hx hb dX12_beginText_78 rfl (lv_at hl 0 rfl) ?_
    refine lv_iload hx hb dX12_beginText_79 (lv_at hl 3 rfl) ?_
    refine lv_sipush (v := 255) hx hb dX12_beginText_81 (by decide) ?_
    refine lv_iand hx hb dX12_beginText_84 ?_
    refine lv_topi (fun v26 ev26 => ?_)
    have rv26 : rg (0) (255) v26 := rg_and ev26 8 255 (by decide) rfl
    refine m_cv (As := [.int v26]) (rest := []) x hml L24 (c_textByte l nn X g24 v26 hnn hX (rg_eqv ev25 (rg_w rv25 rfl))) (wm_V uc_textByte ul_472 ui_textByte us_textByte u_init) rfl ⟨rfl, rfl⟩ hd_textByte ⟨Nat.le_of_ble_eq_true rfl, Nat.le_of_ble_eq_true rfl⟩ rfl hl.1 rfl (lv_room (Nat.le_of_ble_eq_true rfl)) dX12_beginText_85 (fun  g27 H27 k27 hp27 L27 => ?_)
    obtain ⟨v28, ev28⟩ : ∃ y : Int32, y = g27 91 0 := ⟨_, rfl⟩
    have rv28 : rg (9) (9) v28 := rg_rel ev25 ev28 rv25 hp27.2 rfl
    exact hQ _ _ _ _ _ dX12_beginText_88 L27 ⟨(mFr.tr (mFr.tr (mFr.tr (mFr.tr (mFr.tr (mFr.tr (mFr.tr (mFr.tr (mFr.tr (mFr.tr (mFr.upE mFr.rf eg1 rfl) hp2.1 rfl) hp4.1 rfl) hF7 rfl) hp10.1 rfl) hp14.1 rfl) hp17.1 rfl) hp19.1 rfl) hp21.1 rfl) hp24.1 rfl) hp27.1 rfl), rg_eqv ev28 (rg_w rv28 rfl)⟩
  refine lv_if_eq (tgt := 25) hx hb dX12_beginText_18 (by decide) (fun c18_29 => ?_) (fun c18_29 => ?_)
  · skip
    have q30 : rg (0) (0) p1 := (rg_eq c18_29 rp1 kc_0).1
    refine lv_sipush (v := 128) hx hb dX12_beginText_25 (by decide) ?_
    exact j28_7 (128 : Int32) g4 _ _ ls mFr.rf L4 (rg_w kc_128 rfl) (lv_sub hl [0, 2, 3, 4] rfl)
  · skip
    have q31 : rg (1) (1) p1 := rg_neL c18_29 rp1 kc_0
    refine lv_iconst (v := 0) hx hb dX12_beginText_21 (by decide) ?_
    refine lv_goto (tgt := 28) hx hb dX12_beginText_22 (by decide) ?_
    exact j28_7 (0 : Int32) g4 _ _ ls mFr.rf L4 (rg_w kc_0 rfl) (lv_sub hl [0, 2, 3, 4] rfl)
theorem c_beginText (l : Launch) {G : mG} {h0 : Nat} {ad : Nat → Nat} (nn X : Int) (g : mSt) (p1 : Int32) (p2 : Int32) (p3 : Int32) (p4 : Int32) (hnn : 2 ≤ nn ∧ nn ≤ 4) (hX : 0 ≤ X ∧ X ≤ 2000000000) (rp1 : rg (0) (1) p1) : Met l yX12_beginText (wm (Cond.code yX12_beginText cX12_beginText 5 none)) rm_beginText (va_Pc [.ref h0, .int p1, .int p2, .int p3, .int p4] (mPre G h0 ad nn X g)) (mQv G h0 ad nn X (fun g1 => mFr [90, 91] g g1 ∧ rg (9) (9) (g1 91 0))) 0 0 (mA h0 ad) := by
  refine Met.ofW (cc := cX12_beginText) (maxL := 5) (ret := none) (by decide) rfl ?_
  intro p e s m args below meth c s₁ B hml hv
  obtain ⟨rfl, hv⟩ := hv
  have hr := B.returns
  have hlocks := B.notSynchronized
  obtain ⟨x, L⟩ := m_start B rfl wm_X hv
  have hl := lv_entry ([.ref h0, .int p1, .int p2, .int p3, .int p4]) (n := 5) (Nat.le_of_ble_eq_true rfl)
  rw [lg_entry_eq]
  generalize (lg_sl ([.ref h0, .int p1, .int p2, .int p3, .int p4]) ++ List.replicate (5 - (lg_sl ([.ref h0, .int p1, .int p2, .int p3, .int p4])).length) Slot.unset).toArray = ls at hl ⊢
  exact w_beginText x hml L hnn hX p1 p2 p3 p4 rp1 hl (fun pc' ls' g1 H1 locs1 hdg L hp => m_vret x L hr hlocks (Int.le_refl _) hp hdg)

def rm_element : Room := { frames := 1, cells := 0, slots := 0, locals := 21 }
theorem hd_element : yX12_element.cls = RX12 ∧ yX12_element.cls ≠ "java/lang/invoke/MethodHandle" ∧ yX12_element.cls ≠ "java/lang/invoke/VarHandle" ∧ (parseMethodDescriptor yX12_element.desc).map (fun d => d.parameters.length) = some 3 := by decide +kernel
set_option maxHeartbeats 4000000 in
set_option maxRecDepth 100000 in
theorem w_element {p : Program} {l : Launch} {e : Env} {s : State} {m : MethodId} {args : Array Value} {below : List Frame} {meth : Method} {c : Code} {H : Heap} {locs : List Loc} {Q : State → Prop} {ls : Array Slot} {G : mG} {h0 : Nat} {ad : Nat → Nat} {g : mSt} {H0 : Heap} {nn X : Int} (x : mX p c cX12_element s args (wm (Cond.code yX12_element cX12_element 4 none)) m G h0 ad) (hml : c.maxLocals = 4) (L : mL G h0 ad H0 nn X g H locs) (hnn : 2 ≤ nn ∧ nn ≤ 4) (hX : 0 ≤ X ∧ X ≤ 2000000000) (p1 : Int32) (p2 : Int32) (p3 : Int32) (rp2 : rg (1) (2) p2) (hpre0 : rg (0) (54) (g 91 0)) (hl : lv_has ls 4 [(0, .ref h0), (1, .int p1), (2, .int p2), (3, .int p3)]) (hQ : ∀ (pc' : Nat) (ls' : Array Slot) (g1 : mSt) (H1 : Heap) (locs1 : List Loc), decode cX12_element pc' = .ok (.return_, 1) → mL G h0 ad H0 nn X g1 H1 locs1 → (mFr [90, 91] g g1 ∧ ((g 91 0).toInt + 5 ≤ (g1 91 0).toInt ∧ (g1 91 0).toInt ≤ (g 91 0).toInt + 6)) → W p l e rm_element s m args below meth c H1 locs1 0 0 Q (F0 m pc' ls' [])) : W p l e rm_element s m args below meth c H locs 0 0 Q (F0 m 0 ls []) := by
  have hx := x.1
  have hb := x.2.1
  obtain ⟨z0, ez0⟩ : ∃ y : Int32, y = g 91 0 := ⟨_, rfl⟩
  have rz0 : rg (0) (54) z0 := rg_eqv ez0.symm hpre0
  have sz0 := congrArg Int32.toInt ez0
  have up1 : (-2147483648 : Int) ≤ p1.toInt ∧ p1.toInt ≤ 2147483647 := (rg_any p1)
  have up2 : (1 : Int) ≤ p2.toInt ∧ p2.toInt ≤ 2 := rp2
  have up3 : (-2147483648 : Int) ≤ p3.toInt ∧ p3.toInt ≤ 2147483647 := (rg_any p3)
  refine lv_aload_n hx hb dX12_element_0 rfl (lv_at hl 0 rfl) ?_
  refine lv_iload_n hx hb dX12_element_1 rfl (lv_at hl 1 rfl) ?_
  refine m_cv (As := [.int p1]) (rest := []) x hml L (c_textByte l nn X g p1 hnn hX (rg_eqv ez0 (rg_w rz0 rfl))) (wm_V uc_textByte ul_472 ui_textByte us_textByte u_init) rfl ⟨rfl, rfl⟩ hd_textByte ⟨Nat.le_of_ble_eq_true rfl, Nat.le_of_ble_eq_true rfl⟩ rfl hl.1 rfl (lv_room (Nat.le_of_ble_eq_true rfl)) dX12_element_2 (fun  g1 H1 k1 hp1 L1 => ?_)
  obtain ⟨v2, ev2⟩ : ∃ y : Int32, y = g1 91 0 := ⟨_, rfl⟩
  have rv2 : rg (1) (55) v2 := rg_rel ez0 ev2 rz0 hp1.2 rfl
  have hv2 := rel_conv ez0 ev2 hp1.2
  have uv2 : (1 : Int) ≤ v2.toInt ∧ v2.toInt ≤ 55 := rv2
  refine lv_aload_n hx hb dX12_element_5 rfl (lv_at hl 0 rfl) ?_
  refine lv_sipush (v := 128) hx hb dX12_element_6 (by decide) ?_
  refine m_cv (As := [.int (128 : Int32)]) (rest := []) x hml L1 (c_textByte l nn X g1 (128 : Int32) hnn hX (rg_eqv ev2 (rg_w rv2 rfl))) (wm_V uc_textByte ul_472 ui_textByte us_textByte u_init) rfl ⟨rfl, rfl⟩ hd_textByte ⟨Nat.le_of_ble_eq_true rfl, Nat.le_of_ble_eq_true rfl⟩ rfl hl.1 rfl (lv_room (Nat.le_of_ble_eq_true rfl)) dX12_element_9 (fun  g3 H3 k3 hp3 L3 => ?_)
  obtain ⟨v4, ev4⟩ : ∃ y : Int32, y = g3 91 0 := ⟨_, rfl⟩
  have rv4 : rg (2) (56) v4 := rg_rel ev2 ev4 rv2 hp3.2 rfl
  have hv4 := rel_conv ev2 ev4 hp3.2
  have uv4 : (2 : Int) ≤ v4.toInt ∧ v4.toInt ≤ 56 := rv4
  refine lv_aload_n hx hb dX12_element_12 rfl (lv_at hl 0 rfl) ?_
  refine lv_iconst (v := 0) hx hb dX12_element_13 (by decide) ?_
  refine m_cv (As := [.int (0 : Int32)]) (rest := []) x hml L3 (c_textByte l nn X g3 (0 : Int32) hnn hX (rg_eqv ev4 (rg_w rv4 rfl))) (wm_V uc_textByte ul_472 ui_textByte us_textByte u_init) rfl ⟨rfl, rfl⟩ hd_textByte ⟨Nat.le_of_ble_eq_true rfl, Nat.le_of_ble_eq_true rfl⟩ rfl hl.1 rfl (lv_room (Nat.le_of_ble_eq_true rfl)) dX12_element_14 (fun  g5 H5 k5 hp5 L5 => ?_)
  obtain ⟨v6, ev6⟩ : ∃ y : Int32, y = g5 91 0 := ⟨_, rfl⟩
  have rv6 : rg (3) (57) v6 := rg_rel ev4 ev6 rv4 hp5.2 rfl
  have hv6 := rel_conv ev4 ev6 hp5.2
  have uv6 : (3 : Int) ≤ v6.toInt ∧ v6.toInt ≤ 57 := rv6
  refine lv_aload_n hx hb dX12_element_17 rfl (lv_at hl 0 rfl) ?_
  refine lv_iload_n hx hb dX12_element_18 rfl (lv_at hl 2 rfl) ?_
  refine m_cv (As := [.int p2]) (rest := []) x hml L5 (c_textByte l nn X g5 p2 hnn hX (rg_eqv ev6 (rg_w rv6 rfl))) (wm_V uc_textByte ul_472 ui_textByte us_textByte u_init) rfl ⟨rfl, rfl⟩ hd_textByte ⟨Nat.le_of_ble_eq_true rfl, Nat.le_of_ble_eq_true rfl⟩ rfl hl.1 rfl (lv_room (Nat.le_of_ble_eq_true rfl)) dX12_element_19 (fun  g7 H7 k7 hp7 L7 => ?_)
  obtain ⟨v8, ev8⟩ : ∃ y : Int32, y = g7 91 0 := ⟨_, rfl⟩
  have rv8 : rg (4) (58) v8 := rg_rel ev6 ev8 rv6 hp7.2 rfl
  have hv8 := rel_conv ev6 ev8 hp7.2
  have uv8 : (4 : Int) ≤ v8.toInt ∧ v8.toInt ≤ 58 := rv8
  refine lv_iload_n hx hb dX12_element_22 rfl (lv_at hl 2 rfl) ?_
  refine lv_iconst (v := 2) hx hb dX12_element_23 (by decide) ?_
  refine lv_icmp_ne (tgt := 39) hx hb dX12_element_24 (by decide) (fun c24_9 => ?_) (fun c24_9 => ?_)
  · skip
    have ic24_9 : p2.toInt ≠ (2 : Int32).toInt := fun z => c24_9 (Int32.toInt_inj.mp z)
    have y10 : (2 : Int32).toInt = 2 := by decide
    have q11 : rg (1) (1) p2 := rg_neH c24_9 rp2 kc_2
    have uq11 : (1 : Int) ≤ p2.toInt ∧ p2.toInt ≤ 1 := q11
    refine lv_aload_n hx hb dX12_element_39 rfl (lv_at hl 0 rfl) ?_
    refine lv_iload_n hx hb dX12_element_40 rfl (lv_at hl 3 rfl) ?_
    refine lv_sipush (v := 255) hx hb dX12_element_41 (by decide) ?_
    refine lv_iand hx hb dX12_element_44 ?_
    refine lv_topi (fun v12 ev12 => ?_)
    have rv12 : rg (0) (255) v12 := rg_and ev12 8 255 (by decide) rfl
    have uv12 : (0 : Int) ≤ v12.toInt ∧ v12.toInt ≤ 255 := rv12
    refine m_cv (As := [.int v12]) (rest := []) x hml L7 (c_textByte l nn X g7 v12 hnn hX (rg_eqv ev8 (rg_w rv8 rfl))) (wm_V uc_textByte ul_472 ui_textByte us_textByte u_init) rfl ⟨rfl, rfl⟩ hd_textByte ⟨Nat.le_of_ble_eq_true rfl, Nat.le_of_ble_eq_true rfl⟩ rfl hl.1 rfl (lv_room (Nat.le_of_ble_eq_true rfl)) dX12_element_45 (fun  g13 H13 k13 hp13 L13 => ?_)
    obtain ⟨v14, ev14⟩ : ∃ y : Int32, y = g13 91 0 := ⟨_, rfl⟩
    have rv14 : rg (5) (59) v14 := rg_rel ev8 ev14 rv8 hp13.2 rfl
    have hv14 := rel_conv ev8 ev14 hp13.2
    have uv14 : (5 : Int) ≤ v14.toInt ∧ v14.toInt ≤ 59 := rv14
    exact hQ _ _ _ _ _ dX12_element_48 L13 ⟨(mFr.tr (mFr.tr (mFr.tr (mFr.tr (mFr.tr mFr.rf hp1.1 rfl) hp3.1 rfl) hp5.1 rfl) hp7.1 rfl) hp13.1 rfl), rel_of ev14 (by omega)⟩
  · skip
    have ic24_9 := congrArg Int32.toInt c24_9
    have y15 : (2 : Int32).toInt = 2 := by decide
    have q16 : rg (2) (2) p2 := (rg_eq c24_9 rp2 kc_2).1
    have uq16 : (2 : Int) ≤ p2.toInt ∧ p2.toInt ≤ 2 := q16
    refine lv_aload_n hx hb dX12_element_27 rfl (lv_at hl 0 rfl) ?_
    refine lv_iload_n hx hb dX12_element_28 rfl (lv_at hl 3 rfl) ?_
    refine lv_bipush (v := 8) hx hb dX12_element_29 (by decide) ?_
    refine lv_ishr hx hb dX12_element_31 ?_
    refine lv_topi (fun v17 ev17 => ?_)
    have rv17 : rg (-2147483648) (2147483647) v17 := rg_any v17
    have uv17 : (-2147483648 : Int) ≤ v17.toInt ∧ v17.toInt ≤ 2147483647 := rv17
    refine lv_sipush (v := 255) hx hb dX12_element_32 (by decide) ?_
    refine lv_iand hx hb dX12_element_35 ?_
    refine lv_topi (fun v18 ev18 => ?_)
    have rv18 : rg (0) (255) v18 := rg_and ev18 8 255 (by decide) rfl
    have uv18 : (0 : Int) ≤ v18.toInt ∧ v18.toInt ≤ 255 := rv18
    refine m_cv (As := [.int v18]) (rest := []) x hml L7 (c_textByte l nn X g7 v18 hnn hX (rg_eqv ev8 (rg_w rv8 rfl))) (wm_V uc_textByte ul_472 ui_textByte us_textByte u_init) rfl ⟨rfl, rfl⟩ hd_textByte ⟨Nat.le_of_ble_eq_true rfl, Nat.le_of_ble_eq_true rfl⟩ rfl hl.1 rfl (lv_room (Nat.le_of_ble_eq_true rfl)) dX12_element_36 (fun  g19 H19 k19 hp19 L19 => ?_)
    obtain ⟨v20, ev20⟩ : ∃ y : Int32, y = g19 91 0 := ⟨_, rfl⟩
    have rv20 : rg (5) (59) v20 := rg_rel ev8 ev20 rv8 hp19.2 rfl
    have hv20 := rel_conv ev8 ev20 hp19.2
    have uv20 : (5 : Int) ≤ v20.toInt ∧ v20.toInt ≤ 59 := rv20
    refine lv_aload_n hx hb dX12_element_39 rfl (lv_at hl 0 rfl) ?_
    refine lv_iload_n hx hb dX12_element_40 rfl (lv_at hl 3 rfl) ?_
    refine lv_sipush (v := 255) hx hb dX12_element_41 (by decide) ?_
    refine lv_iand hx hb dX12_element_44 ?_
    refine lv_topi (fun v21 ev21 => ?_)
    have rv21 : rg (0) (255) v21 := rg_and ev21 8 255 (by decide) rfl
    have uv21 : (0 : Int) ≤ v21.toInt ∧ v21.toInt ≤ 255 := rv21
    refine m_cv (As := [.int v21]) (rest := []) x hml L19 (c_textByte l nn X g19 v21 hnn hX (rg_eqv ev20 (rg_w rv20 rfl))) (wm_V uc_textByte ul_472 ui_textByte us_textByte u_init) rfl ⟨rfl, rfl⟩ hd_textByte ⟨Nat.le_of_ble_eq_true rfl, Nat.le_of_ble_eq_true rfl⟩ rfl hl.1 rfl (lv_room (Nat.le_of_ble_eq_true rfl)) dX12_element_45 (fun  g22 H22 k22 hp22 L22 => ?_)
    obtain ⟨v23, ev23⟩ : ∃ y : Int32, y = g22 91 0 := ⟨_, rfl⟩
    have rv23 : rg (6) (60) v23 := rg_rel ev20 ev23 rv20 hp22.2 rfl
    have hv23 := rel_conv ev20 ev23 hp22.2
    have uv23 : (6 : Int) ≤ v23.toInt ∧ v23.toInt ≤ 60 := rv23
    exact hQ _ _ _ _ _ dX12_element_48 L22 ⟨(mFr.tr (mFr.tr (mFr.tr (mFr.tr (mFr.tr (mFr.tr mFr.rf hp1.1 rfl) hp3.1 rfl) hp5.1 rfl) hp7.1 rfl) hp19.1 rfl) hp22.1 rfl), rel_of ev23 (by omega)⟩
theorem c_element (l : Launch) {G : mG} {h0 : Nat} {ad : Nat → Nat} (nn X : Int) (g : mSt) (p1 : Int32) (p2 : Int32) (p3 : Int32) (hnn : 2 ≤ nn ∧ nn ≤ 4) (hX : 0 ≤ X ∧ X ≤ 2000000000) (rp2 : rg (1) (2) p2) (hpre0 : rg (0) (54) (g 91 0)) : Met l yX12_element (wm (Cond.code yX12_element cX12_element 4 none)) rm_element (va_Pc [.ref h0, .int p1, .int p2, .int p3] (mPre G h0 ad nn X g)) (mQv G h0 ad nn X (fun g1 => mFr [90, 91] g g1 ∧ ((g 91 0).toInt + 5 ≤ (g1 91 0).toInt ∧ (g1 91 0).toInt ≤ (g 91 0).toInt + 6))) 0 0 (mA h0 ad) := by
  refine Met.ofW (cc := cX12_element) (maxL := 4) (ret := none) (by decide) rfl ?_
  intro p e s m args below meth c s₁ B hml hv
  obtain ⟨rfl, hv⟩ := hv
  have hr := B.returns
  have hlocks := B.notSynchronized
  obtain ⟨x, L⟩ := m_start B rfl wm_X hv
  have hl := lv_entry ([.ref h0, .int p1, .int p2, .int p3]) (n := 4) (Nat.le_of_ble_eq_true rfl)
  rw [lg_entry_eq]
  generalize (lg_sl ([.ref h0, .int p1, .int p2, .int p3]) ++ List.replicate (4 - (lg_sl ([.ref h0, .int p1, .int p2, .int p3])).length) Slot.unset).toArray = ls at hl ⊢
  exact w_element x hml L hnn hX p1 p2 p3 rp2 hpre0 hl (fun pc' ls' g1 H1 locs1 hdg L hp => m_vret x L hr hlocks (Int.le_refl _) hp hdg)

def rm_plain : Room := { frames := 2, cells := 0, slots := 0, locals := 45 }
theorem hd_plain : yX12_plain.cls = RX12 ∧ yX12_plain.cls ≠ "java/lang/invoke/MethodHandle" ∧ yX12_plain.cls ≠ "java/lang/invoke/VarHandle" ∧ (parseMethodDescriptor yX12_plain.desc).map (fun d => d.parameters.length) = some 2 := by decide +kernel
set_option maxHeartbeats 4000000 in
set_option maxRecDepth 100000 in
theorem w_plain {p : Program} {l : Launch} {e : Env} {s : State} {m : MethodId} {args : Array Value} {below : List Frame} {meth : Method} {c : Code} {H : Heap} {locs : List Loc} {Q : State → Prop} {ls : Array Slot} {G : mG} {h0 : Nat} {ad : Nat → Nat} {g : mSt} {H0 : Heap} {nn X : Int} (x : mX p c cX12_plain s args (wm (Cond.code yX12_plain cX12_plain 3 none)) m G h0 ad) (hml : c.maxLocals = 3) (L : mL G h0 ad H0 nn X g H locs) (hnn : 2 ≤ nn ∧ nn ≤ 4) (hX : 0 ≤ X ∧ X ≤ 2000000000) (p1 : Int32) (p2 : Int32) (rp1 : rg (0) (319) p1) (hl : lv_has ls 3 [(0, .ref h0), (1, .int p1), (2, .int p2)]) (hQ : ∀ (pc' : Nat) (ls' : Array Slot) (g1 : mSt) (H1 : Heap) (locs1 : List Loc), decode cX12_plain pc' = .ok (.return_, 1) → mL G h0 ad H0 nn X g1 H1 locs1 → (mFr [58, 59, 60, 90, 91] g g1 ∧ True) → W p l e rm_plain s m args below meth c H1 locs1 0 0 Q (F0 m pc' ls' [])) : W p l e rm_plain s m args below meth c H locs 0 0 Q (F0 m 0 ls []) := by
  have hx := x.1
  have hb := x.2.1
  refine lv_aload_n hx hb dX12_plain_0 rfl (lv_at hl 0 rfl) ?_
  refine lv_aload_n hx hb dX12_plain_1 rfl (lv_at hl 0 rfl) ?_
  refine m_geta x L 70 rfl rfl (wm_in uf_198) dX12_plain_2 ?_
  refine lv_iload_n hx hb dX12_plain_5 rfl (lv_at hl 1 rfl) ?_
  refine m_ldz x L 70 rfl rp1 rfl dX12_plain_6 (fun v1 ev1 wv1 => ?_)
  have rv1 : rg (0) (1) v1 := lj_70 wv1
  refine lv_aload_n hx hb dX12_plain_7 rfl (lv_at hl 0 rfl) ?_
  refine m_geta x L 69 rfl rfl (wm_in uf_195) dX12_plain_8 ?_
  refine lv_iload_n hx hb dX12_plain_11 rfl (lv_at hl 1 rfl) ?_
  refine m_ld x L 69 rfl rp1 rfl dX12_plain_12 (fun v2 ev2 wv2 => ?_)
  have rv2 : rg (-2147483648) (2147483647) v2 := lj_69 wv2
  refine lv_iload_n hx hb dX12_plain_13 rfl (lv_at hl 2 rfl) ?_
  refine lv_iconst (v := 0) hx hb dX12_plain_14 (by decide) ?_
  refine m_cv (As := [.int v1, .int v2, .int p2, .int (0 : Int32)]) (rest := []) x hml L (c_beginText l nn X g v1 v2 p2 (0 : Int32) hnn hX (rg_w rv1 rfl)) (wm_V uc_beginText ul_475 ui_beginText us_beginText u_init) rfl ⟨rfl, rfl⟩ hd_beginText ⟨Nat.le_of_ble_eq_true rfl, Nat.le_of_ble_eq_true rfl⟩ rfl hl.1 rfl (lv_room (Nat.le_of_ble_eq_true rfl)) dX12_plain_15 (fun  g3 H3 k3 hp3 L3 => ?_)
  obtain ⟨v4, ev4⟩ : ∃ y : Int32, y = g3 91 0 := ⟨_, rfl⟩
  have rv4 : rg (9) (9) v4 := rg_eqv ev4.symm hp3.2
  refine lv_aload_n hx hb dX12_plain_18 rfl (lv_at hl 0 rfl) ?_
  refine lv_iload_n hx hb dX12_plain_19 rfl (lv_at hl 1 rfl) ?_
  refine lv_bipush (v := 40) hx hb dX12_plain_20 (by decide) ?_
  refine lv_idiv hx hb dX12_plain_22 (by decide) ?_
  refine lv_topi (fun v5 ev5 => ?_)
  have rv5 : rg (0) (7) v5 := (rg_div ev5 rp1 kc_40 rfl).1
  refine m_cv (As := [.int v5]) (rest := []) x hml L3 (c_sendText l nn X g3 v5 hnn hX (rg_w rv5 rfl)) (wm_V uc_sendText ul_479 ui_sendText us_sendText u_init) rfl ⟨rfl, rfl⟩ hd_sendText ⟨Nat.le_of_ble_eq_true rfl, Nat.le_of_ble_eq_true rfl⟩ rfl hl.1 rfl (lv_room (Nat.le_of_ble_eq_true rfl)) dX12_plain_23 (fun  g6 H6 k6 hp6 L6 => ?_)
  exact hQ _ _ _ _ _ dX12_plain_26 L6 ⟨(mFr.tr (mFr.tr mFr.rf hp3.1 rfl) hp6.1 rfl), trivial⟩
theorem c_plain (l : Launch) {G : mG} {h0 : Nat} {ad : Nat → Nat} (nn X : Int) (g : mSt) (p1 : Int32) (p2 : Int32) (hnn : 2 ≤ nn ∧ nn ≤ 4) (hX : 0 ≤ X ∧ X ≤ 2000000000) (rp1 : rg (0) (319) p1) : Met l yX12_plain (wm (Cond.code yX12_plain cX12_plain 3 none)) rm_plain (va_Pc [.ref h0, .int p1, .int p2] (mPre G h0 ad nn X g)) (mQv G h0 ad nn X (fun g1 => mFr [58, 59, 60, 90, 91] g g1 ∧ True)) 0 0 (mA h0 ad) := by
  refine Met.ofW (cc := cX12_plain) (maxL := 3) (ret := none) (by decide) rfl ?_
  intro p e s m args below meth c s₁ B hml hv
  obtain ⟨rfl, hv⟩ := hv
  have hr := B.returns
  have hlocks := B.notSynchronized
  obtain ⟨x, L⟩ := m_start B rfl wm_X hv
  have hl := lv_entry ([.ref h0, .int p1, .int p2]) (n := 3) (Nat.le_of_ble_eq_true rfl)
  rw [lg_entry_eq]
  generalize (lg_sl ([.ref h0, .int p1, .int p2]) ++ List.replicate (3 - (lg_sl ([.ref h0, .int p1, .int p2])).length) Slot.unset).toArray = ls at hl ⊢
  exact w_plain x hml L hnn hX p1 p2 rp1 hl (fun pc' ls' g1 H1 locs1 hdg L hp => m_vret x L hr hlocks (Int.le_refl _) hp hdg)

def rm_withCause : Room := { frames := 2, cells := 0, slots := 0, locals := 45 }
theorem hd_withCause : yX12_withCause.cls = RX12 ∧ yX12_withCause.cls ≠ "java/lang/invoke/MethodHandle" ∧ yX12_withCause.cls ≠ "java/lang/invoke/VarHandle" ∧ (parseMethodDescriptor yX12_withCause.desc).map (fun d => d.parameters.length) = some 5 := by decide +kernel
set_option maxHeartbeats 4000000 in
set_option maxRecDepth 100000 in
theorem w_withCause {p : Program} {l : Launch} {e : Env} {s : State} {m : MethodId} {args : Array Value} {below : List Frame} {meth : Method} {c : Code} {H : Heap} {locs : List Loc} {Q : State → Prop} {ls : Array Slot} {G : mG} {h0 : Nat} {ad : Nat → Nat} {g : mSt} {H0 : Heap} {nn X : Int} (x : mX p c cX12_withCause s args (wm (Cond.code yX12_withCause cX12_withCause 6 none)) m G h0 ad) (hml : c.maxLocals = 6) (L : mL G h0 ad H0 nn X g H locs) (hnn : 2 ≤ nn ∧ nn ≤ 4) (hX : 0 ≤ X ∧ X ≤ 2000000000) (p1 : Int32) (p2 : Int32) (p3 : Int32) (p4 : Int32) (p5 : Int32) (rp1 : rg (0) (7) p1) (rp2 : rg (0) (1) p2) (hl : lv_has ls 6 [(0, .ref h0), (1, .int p1), (2, .int p2), (3, .int p3), (4, .int p4), (5, .int p5)]) (hQ : ∀ (pc' : Nat) (ls' : Array Slot) (g1 : mSt) (H1 : Heap) (locs1 : List Loc), decode cX12_withCause pc' = .ok (.return_, 1) → mL G h0 ad H0 nn X g1 H1 locs1 → (mFr [58, 59, 60, 90, 91] g g1 ∧ True) → W p l e rm_withCause s m args below meth c H1 locs1 0 0 Q (F0 m pc' ls' [])) : W p l e rm_withCause s m args below meth c H locs 0 0 Q (F0 m 0 ls []) := by
  have hx := x.1
  have hb := x.2.1
  refine lv_aload_n hx hb dX12_withCause_0 rfl (lv_at hl 0 rfl) ?_
  refine lv_iload_n hx hb dX12_withCause_1 rfl (lv_at hl 2 rfl) ?_
  refine lv_iload_n hx hb dX12_withCause_2 rfl (lv_at hl 3 rfl) ?_
  refine lv_iload hx hb dX12_withCause_3 (lv_at hl 4 rfl) ?_
  refine lv_iconst (v := 5) hx hb dX12_withCause_5 (by decide) ?_
  refine m_cv (As := [.int p2, .int p3, .int p4, .int (5 : Int32)]) (rest := []) x hml L (c_beginText l nn X g p2 p3 p4 (5 : Int32) hnn hX (rg_w rp2 rfl)) (wm_V uc_beginText ul_475 ui_beginText us_beginText u_init) rfl ⟨rfl, rfl⟩ hd_beginText ⟨Nat.le_of_ble_eq_true rfl, Nat.le_of_ble_eq_true rfl⟩ rfl hl.1 rfl (lv_room (Nat.le_of_ble_eq_true rfl)) dX12_withCause_6 (fun  g1 H1 k1 hp1 L1 => ?_)
  obtain ⟨v2, ev2⟩ : ∃ y : Int32, y = g1 91 0 := ⟨_, rfl⟩
  have rv2 : rg (9) (9) v2 := rg_eqv ev2.symm hp1.2
  refine lv_aload_n hx hb dX12_withCause_9 rfl (lv_at hl 0 rfl) ?_
  refine lv_bipush (v := 8) hx hb dX12_withCause_10 (by decide) ?_
  refine lv_iconst (v := 1) hx hb dX12_withCause_12 (by decide) ?_
  refine lv_iload hx hb dX12_withCause_13 (lv_at hl 5 rfl) ?_
  refine m_cv (As := [.int (8 : Int32), .int (1 : Int32), .int p5]) (rest := []) x hml L1 (c_element l nn X g1 (8 : Int32) (1 : Int32) p5 hnn hX (rg_w kc_1 rfl) (rg_eqv ev2 (rg_w rv2 rfl))) (wm_V uc_element ul_482 ui_element us_element u_init) rfl ⟨rfl, rfl⟩ hd_element ⟨Nat.le_of_ble_eq_true rfl, Nat.le_of_ble_eq_true rfl⟩ rfl hl.1 rfl (lv_room (Nat.le_of_ble_eq_true rfl)) dX12_withCause_15 (fun  g3 H3 k3 hp3 L3 => ?_)
  obtain ⟨v4, ev4⟩ : ∃ y : Int32, y = g3 91 0 := ⟨_, rfl⟩
  have rv4 : rg (14) (15) v4 := rg_rel ev2 ev4 rv2 hp3.2 rfl
  refine lv_aload_n hx hb dX12_withCause_18 rfl (lv_at hl 0 rfl) ?_
  refine lv_iload_n hx hb dX12_withCause_19 rfl (lv_at hl 1 rfl) ?_
  refine m_cv (As := [.int p1]) (rest := []) x hml L3 (c_sendText l nn X g3 p1 hnn hX (rg_w rp1 rfl)) (wm_V uc_sendText ul_479 ui_sendText us_sendText u_init) rfl ⟨rfl, rfl⟩ hd_sendText ⟨Nat.le_of_ble_eq_true rfl, Nat.le_of_ble_eq_true rfl⟩ rfl hl.1 rfl (lv_room (Nat.le_of_ble_eq_true rfl)) dX12_withCause_20 (fun  g5 H5 k5 hp5 L5 => ?_)
  exact hQ _ _ _ _ _ dX12_withCause_23 L5 ⟨(mFr.tr (mFr.tr (mFr.tr mFr.rf hp1.1 rfl) hp3.1 rfl) hp5.1 rfl), trivial⟩
theorem c_withCause (l : Launch) {G : mG} {h0 : Nat} {ad : Nat → Nat} (nn X : Int) (g : mSt) (p1 : Int32) (p2 : Int32) (p3 : Int32) (p4 : Int32) (p5 : Int32) (hnn : 2 ≤ nn ∧ nn ≤ 4) (hX : 0 ≤ X ∧ X ≤ 2000000000) (rp1 : rg (0) (7) p1) (rp2 : rg (0) (1) p2) : Met l yX12_withCause (wm (Cond.code yX12_withCause cX12_withCause 6 none)) rm_withCause (va_Pc [.ref h0, .int p1, .int p2, .int p3, .int p4, .int p5] (mPre G h0 ad nn X g)) (mQv G h0 ad nn X (fun g1 => mFr [58, 59, 60, 90, 91] g g1 ∧ True)) 0 0 (mA h0 ad) := by
  refine Met.ofW (cc := cX12_withCause) (maxL := 6) (ret := none) (by decide) rfl ?_
  intro p e s m args below meth c s₁ B hml hv
  obtain ⟨rfl, hv⟩ := hv
  have hr := B.returns
  have hlocks := B.notSynchronized
  obtain ⟨x, L⟩ := m_start B rfl wm_X hv
  have hl := lv_entry ([.ref h0, .int p1, .int p2, .int p3, .int p4, .int p5]) (n := 6) (Nat.le_of_ble_eq_true rfl)
  rw [lg_entry_eq]
  generalize (lg_sl ([.ref h0, .int p1, .int p2, .int p3, .int p4, .int p5]) ++ List.replicate (6 - (lg_sl ([.ref h0, .int p1, .int p2, .int p3, .int p4, .int p5])).length) Slot.unset).toArray = ls at hl ⊢
  exact w_withCause x hml L hnn hX p1 p2 p3 p4 p5 rp1 rp2 hl (fun pc' ls' g1 H1 locs1 hdg L hp => m_vret x L hr hlocks (Int.le_refl _) hp hdg)

def rm_sendSetup : Room := { frames := 2, cells := 0, slots := 0, locals := 45 }
theorem hd_sendSetup : yX12_sendSetup.cls = RX12 ∧ yX12_sendSetup.cls ≠ "java/lang/invoke/MethodHandle" ∧ yX12_sendSetup.cls ≠ "java/lang/invoke/VarHandle" ∧ (parseMethodDescriptor yX12_sendSetup.desc).map (fun d => d.parameters.length) = some 1 := by decide +kernel
set_option maxHeartbeats 4000000 in
set_option maxRecDepth 100000 in
theorem w_sendSetup {p : Program} {l : Launch} {e : Env} {s : State} {m : MethodId} {args : Array Value} {below : List Frame} {meth : Method} {c : Code} {H : Heap} {locs : List Loc} {Q : State → Prop} {ls : Array Slot} {G : mG} {h0 : Nat} {ad : Nat → Nat} {g : mSt} {H0 : Heap} {nn X : Int} (x : mX p c cX12_sendSetup s args (wm (Cond.code yX12_sendSetup cX12_sendSetup 4 none)) m G h0 ad) (hml : c.maxLocals = 4) (L : mL G h0 ad H0 nn X g H locs) (hnn : 2 ≤ nn ∧ nn ≤ 4) (hX : 0 ≤ X ∧ X ≤ 2000000000) (p1 : Int32) (rp1 : rg (0) (319) p1) (hl : lv_has ls 4 [(0, .ref h0), (1, .int p1)]) (hQ : ∀ (pc' : Nat) (ls' : Array Slot) (g1 : mSt) (H1 : Heap) (locs1 : List Loc), decode cX12_sendSetup pc' = .ok (.return_, 1) → mL G h0 ad H0 nn X g1 H1 locs1 → (mFr [58, 59, 60, 90, 91] g g1 ∧ True) → W p l e rm_sendSetup s m args below meth c H1 locs1 0 0 Q (F0 m pc' ls' [])) : W p l e rm_sendSetup s m args below meth c H locs 0 0 Q (F0 m 0 ls []) := by
  have hx := x.1
  have hb := x.2.1
  refine lv_iload_n hx hb dX12_sendSetup_0 rfl (lv_at hl 1 rfl) ?_
  refine lv_bipush (v := 40) hx hb dX12_sendSetup_1 (by decide) ?_
  refine lv_idiv hx hb dX12_sendSetup_3 (by decide) ?_
  refine lv_topi (fun v1 ev1 => ?_)
  have rv1 : rg (0) (7) v1 := (rg_div ev1 rp1 kc_40 rfl).1
  refine lv_istore_n (lv' := [(2, .int v1), (0, .ref h0), (1, .int p1)]) hx hb dX12_sendSetup_4 rfl hl (by decide) rfl (fun ls hl => ?_)
  refine lv_iload_n hx hb dX12_sendSetup_5 rfl (lv_at hl 0 rfl) ?_
  refine lv_aload_n hx hb dX12_sendSetup_6 rfl (lv_at hl 1 rfl) ?_
  refine m_geti x L 0 rfl rfl (wm_in uf_260) dX12_sendSetup_7 (fun v2 ev2 wv2 => ?_)
  have rv2 : rg 2 4 v2 := rg_nn hnn wv2
  have tv2 : v2.toInt = nn := rg_n0 wv2
  have lv2 : v2.toInt = 1 * nn + 0 := by omega
  have j18_4 : ∀ (b18_0_3 : Int32) (g4 : mSt) (H4 : Heap) (k4 : List Loc) (ls : Array Slot), mFr [] g g4 → mL G h0 ad H0 nn X g4 H4 k4 → rg (0) (1) b18_0_3 → lv_has ls 4 [(0, .ref h0), (1, .int p1), (2, .int v1)] → W p l e rm_sendSetup s m args below meth c H4 k4 0 0 Q (F0 m 18 ls [.int b18_0_3]) := by
    intro b18_0_3 g4 H4 k4 ls hF4 L4 rb18_0_3 hl
    refine lv_istore_n (lv' := [(3, .int b18_0_3), (0, .ref h0), (1, .int p1), (2, .int v1)]) hx hb dX12_sendSetup_18 rfl hl (by decide) rfl (fun ls hl => ?_)
    refine lv_aload_n hx hb dX12_sendSetup_19 rfl (lv_at hl 1 rfl) ?_
    refine lv_iconst (v := 1) hx hb dX12_sendSetup_20 (by decide) ?_
    refine lv_aload_n hx hb dX12_sendSetup_21 rfl (lv_at hl 1 rfl) ?_
    refine m_geta x L4 69 rfl rfl (wm_in uf_195) dX12_sendSetup_22 ?_
    refine lv_iload_n hx hb dX12_sendSetup_25 rfl (lv_at hl 2 rfl) ?_
    refine m_ld x L4 69 rfl rp1 rfl dX12_sendSetup_26 (fun v5 ev5 wv5 => ?_)
    have rv5 : rg (-2147483648) (2147483647) v5 := lj_69 wv5
    refine lv_iconst (v := 5) hx hb dX12_sendSetup_27 (by decide) ?_
    refine lv_iload_n hx hb dX12_sendSetup_28 rfl (lv_at hl 0 rfl) ?_
    have j39_7 : ∀ (b39_4_6 : Int32) (g7 : mSt) (H7 : Heap) (k7 : List Loc) (ls : Array Slot), mFr [] g4 g7 → mL G h0 ad H0 nn X g7 H7 k7 → rg (10) (21) b39_4_6 → lv_has ls 4 [(0, .ref h0), (1, .int p1), (2, .int v1), (3, .int b18_0_3)] → W p l e rm_sendSetup s m args below meth c H7 k7 0 0 Q (F0 m 39 ls [.int b39_4_6, .int (5 : Int32), .int v5, .int (1 : Int32), .ref h0]) := by
      intro b39_4_6 g7 H7 k7 ls hF7 L7 rb39_4_6 hl
      refine m_cv (As := [.int (1 : Int32), .int v5, .int (5 : Int32), .int b39_4_6]) (rest := []) x hml L7 (c_beginText l nn X g7 (1 : Int32) v5 (5 : Int32) b39_4_6 hnn hX (rg_w kc_1 rfl)) (wm_V uc_beginText ul_475 ui_beginText us_beginText u_init) rfl ⟨rfl, rfl⟩ hd_beginText ⟨Nat.le_of_ble_eq_true rfl, Nat.le_of_ble_eq_true rfl⟩ rfl hl.1 rfl (lv_room (Nat.le_of_ble_eq_true rfl)) dX12_sendSetup_39 (fun  g8 H8 k8 hp8 L8 => ?_)
      obtain ⟨v9, ev9⟩ : ∃ y : Int32, y = g8 91 0 := ⟨_, rfl⟩
      have rv9 : rg (9) (9) v9 := rg_eqv ev9.symm hp8.2
      refine lv_aload_n hx hb dX12_sendSetup_42 rfl (lv_at hl 0 rfl) ?_
      refine lv_bipush (v := 112) hx hb dX12_sendSetup_43 (by decide) ?_
      refine lv_iconst (v := 1) hx hb dX12_sendSetup_45 (by decide) ?_
      refine lv_iload_n hx hb dX12_sendSetup_46 rfl (lv_at hl 3 rfl) ?_
      have j65_11 : ∀ (b65_3_10 : Int32) (g11 : mSt) (H11 : Heap) (k11 : List Loc) (ls : Array Slot), mFr [] g8 g11 → mL G h0 ad H0 nn X g11 H11 k11 → rg (-2147483648) (2147483647) b65_3_10 → lv_has ls 4 [(0, .ref h0), (1, .int p1), (2, .int v1), (3, .int b18_0_3)] → W p l e rm_sendSetup s m args below meth c H11 k11 0 0 Q (F0 m 65 ls [.int b65_3_10, .int (1 : Int32), .int (112 : Int32), .ref h0]) := by
        intro b65_3_10 g11 H11 k11 ls hF11 L11 rb65_3_10 hl
        refine m_cv (As := [.int (112 : Int32), .int (1 : Int32), .int b65_3_10]) (rest := []) x hml L11 (c_element l nn X g11 (112 : Int32) (1 : Int32) b65_3_10 hnn hX (rg_w kc_1 rfl) (rg_eqv (mm_fr ev9 hF11 rfl) (rg_w rv9 rfl))) (wm_V uc_element ul_482 ui_element us_element u_init) rfl ⟨rfl, rfl⟩ hd_element ⟨Nat.le_of_ble_eq_true rfl, Nat.le_of_ble_eq_true rfl⟩ rfl hl.1 rfl (lv_room (Nat.le_of_ble_eq_true rfl)) dX12_sendSetup_65 (fun  g12 H12 k12 hp12 L12 => ?_)
        obtain ⟨v13, ev13⟩ : ∃ y : Int32, y = g12 91 0 := ⟨_, rfl⟩
        have rv13 : rg (14) (15) v13 := rg_rel (mm_fr ev9 hF11 rfl) ev13 rv9 hp12.2 rfl
        refine lv_aload_n hx hb dX12_sendSetup_68 rfl (lv_at hl 0 rfl) ?_
        refine lv_bipush (v := 89) hx hb dX12_sendSetup_69 (by decide) ?_
        refine lv_iconst (v := 1) hx hb dX12_sendSetup_71 (by decide) ?_
        refine lv_aload_n hx hb dX12_sendSetup_72 rfl (lv_at hl 0 rfl) ?_
        refine m_geta x L12 72 rfl rfl (wm_in uf_204) dX12_sendSetup_73 ?_
        refine lv_iload_n hx hb dX12_sendSetup_76 rfl (lv_at hl 1 rfl) ?_
        refine m_ld x L12 72 rfl rp1 rfl dX12_sendSetup_77 (fun v14 ev14 wv14 => ?_)
        have rv14 : rg (-2147483648) (2147483647) v14 := lj_72 wv14
        refine m_cv (As := [.int (89 : Int32), .int (1 : Int32), .int v14]) (rest := []) x hml L12 (c_element l nn X g12 (89 : Int32) (1 : Int32) v14 hnn hX (rg_w kc_1 rfl) (rg_eqv ev13 (rg_w rv13 rfl))) (wm_V uc_element ul_482 ui_element us_element u_init) rfl ⟨rfl, rfl⟩ hd_element ⟨Nat.le_of_ble_eq_true rfl, Nat.le_of_ble_eq_true rfl⟩ rfl hl.1 rfl (lv_room (Nat.le_of_ble_eq_true rfl)) dX12_sendSetup_78 (fun  g15 H15 k15 hp15 L15 => ?_)
        obtain ⟨v16, ev16⟩ : ∃ y : Int32, y = g15 91 0 := ⟨_, rfl⟩
        have rv16 : rg (19) (21) v16 := rg_rel ev13 ev16 rv13 hp15.2 rfl
        refine lv_iload_n hx hb dX12_sendSetup_81 rfl (lv_at hl 3 rfl) ?_
        have j111_17 : ∀ (g17 : mSt) (H17 : Heap) (k17 : List Loc) (ls : Array Slot), mFr [90, 91] g15 g17 → mL G h0 ad H0 nn X g17 H17 k17 → rg (19) (33) (g17 91 0) → lv_has ls 4 [(0, .ref h0), (2, .int v1)] → W p l e rm_sendSetup s m args below meth c H17 k17 0 0 Q (F0 m 111 ls []) := by
          intro  g17 H17 k17 ls hF17 L17  hm17_0 hl
          obtain ⟨z17_0, ez17_0⟩ : ∃ y : Int32, y = g17 91 0 := ⟨_, rfl⟩
          have rz17_0 : rg (19) (33) z17_0 := rg_eqv ez17_0.symm hm17_0
          refine lv_aload_n hx hb dX12_sendSetup_111 rfl (lv_at hl 0 rfl) ?_
          refine lv_iload_n hx hb dX12_sendSetup_112 rfl (lv_at hl 1 rfl) ?_
          refine m_cv (As := [.int v1]) (rest := []) x hml L17 (c_sendText l nn X g17 v1 hnn hX (rg_w rv1 rfl)) (wm_V uc_sendText ul_479 ui_sendText us_sendText u_init) rfl ⟨rfl, rfl⟩ hd_sendText ⟨Nat.le_of_ble_eq_true rfl, Nat.le_of_ble_eq_true rfl⟩ rfl hl.1 rfl (lv_room (Nat.le_of_ble_eq_true rfl)) dX12_sendSetup_113 (fun  g18 H18 k18 hp18 L18 => ?_)
          exact hQ _ _ _ _ _ dX12_sendSetup_116 L18 ⟨(mFr.tr (mFr.tr (mFr.tr (mFr.tr (mFr.tr (mFr.tr (mFr.tr (mFr.tr mFr.rf hF4 rfl) hF7 rfl) hp8.1 rfl) hF11 rfl) hp12.1 rfl) hp15.1 rfl) hF17 rfl) hp18.1 rfl), trivial⟩
        refine lv_if_eq (tgt := 111) hx hb dX12_sendSetup_82 (by decide) (fun c82_19 => ?_) (fun c82_19 => ?_)
        · skip
          have q20 : rg (0) (0) b18_0_3 := (rg_eq c82_19 rb18_0_3 kc_0).1
          exact j111_17  g15 _ _ ls mFr.rf L15 (rg_eqv ev16 (rg_w rv16 rfl)) (lv_sub hl [0, 2] rfl)
        · skip
          have q21 : rg (1) (1) b18_0_3 := rg_neL c82_19 rb18_0_3 kc_0
          refine lv_aload_n hx hb dX12_sendSetup_85 rfl (lv_at hl 0 rfl) ?_
          refine lv_bipush (v := 108) hx hb dX12_sendSetup_86 (by decide) ?_
          refine lv_iconst (v := 1) hx hb dX12_sendSetup_88 (by decide) ?_
          refine lv_aload_n hx hb dX12_sendSetup_89 rfl (lv_at hl 0 rfl) ?_
          refine m_geta x L15 73 rfl rfl (wm_in uf_207) dX12_sendSetup_90 ?_
          refine lv_iload_n hx hb dX12_sendSetup_93 rfl (lv_at hl 1 rfl) ?_
          refine m_ld x L15 73 rfl rp1 rfl dX12_sendSetup_94 (fun v22 ev22 wv22 => ?_)
          have rv22 : rg (-2147483648) (2147483647) v22 := lj_73 wv22
          refine m_cv (As := [.int (108 : Int32), .int (1 : Int32), .int v22]) (rest := []) x hml L15 (c_element l nn X g15 (108 : Int32) (1 : Int32) v22 hnn hX (rg_w kc_1 rfl) (rg_eqv ev16 (rg_w rv16 rfl))) (wm_V uc_element ul_482 ui_element us_element u_init) rfl ⟨rfl, rfl⟩ hd_element ⟨Nat.le_of_ble_eq_true rfl, Nat.le_of_ble_eq_true rfl⟩ rfl hl.1 rfl (lv_room (Nat.le_of_ble_eq_true rfl)) dX12_sendSetup_95 (fun  g23 H23 k23 hp23 L23 => ?_)
          obtain ⟨v24, ev24⟩ : ∃ y : Int32, y = g23 91 0 := ⟨_, rfl⟩
          have rv24 : rg (24) (27) v24 := rg_rel ev16 ev24 rv16 hp23.2 rfl
          refine lv_aload_n hx hb dX12_sendSetup_98 rfl (lv_at hl 0 rfl) ?_
          refine lv_bipush (v := 90) hx hb dX12_sendSetup_99 (by decide) ?_
          refine lv_iconst (v := 2) hx hb dX12_sendSetup_101 (by decide) ?_
          refine lv_aload_n hx hb dX12_sendSetup_102 rfl (lv_at hl 0 rfl) ?_
          refine m_geta x L23 71 rfl rfl (wm_in uf_201) dX12_sendSetup_103 ?_
          refine lv_iload_n hx hb dX12_sendSetup_106 rfl (lv_at hl 1 rfl) ?_
          refine m_ld x L23 71 rfl rp1 rfl dX12_sendSetup_107 (fun v25 ev25 wv25 => ?_)
          have rv25 : rg (-2147483648) (2147483647) v25 := lj_71 wv25
          refine m_cv (As := [.int (90 : Int32), .int (2 : Int32), .int v25]) (rest := []) x hml L23 (c_element l nn X g23 (90 : Int32) (2 : Int32) v25 hnn hX (rg_w kc_2 rfl) (rg_eqv ev24 (rg_w rv24 rfl))) (wm_V uc_element ul_482 ui_element us_element u_init) rfl ⟨rfl, rfl⟩ hd_element ⟨Nat.le_of_ble_eq_true rfl, Nat.le_of_ble_eq_true rfl⟩ rfl hl.1 rfl (lv_room (Nat.le_of_ble_eq_true rfl)) dX12_sendSetup_108 (fun  g26 H26 k26 hp26 L26 => ?_)
          obtain ⟨v27, ev27⟩ : ∃ y : Int32, y = g26 91 0 := ⟨_, rfl⟩
          have rv27 : rg (29) (33) v27 := rg_rel ev24 ev27 rv24 hp26.2 rfl
          exact j111_17  g26 _ _ ls (mFr.tr (mFr.tr mFr.rf hp23.1 rfl) hp26.1 rfl) L26 (rg_eqv ev27 (rg_w rv27 rfl)) (lv_sub hl [0, 2] rfl)
      refine lv_if_eq (tgt := 59) hx hb dX12_sendSetup_47 (by decide) (fun c47_28 => ?_) (fun c47_28 => ?_)
      · skip
        have q29 : rg (0) (0) b18_0_3 := (rg_eq c47_28 rb18_0_3 kc_0).1
        refine lv_aload_n hx hb dX12_sendSetup_59 rfl (lv_at hl 0 rfl) ?_
        refine m_geta x L8 73 rfl rfl (wm_in uf_207) dX12_sendSetup_60 ?_
        refine lv_iload_n hx hb dX12_sendSetup_63 rfl (lv_at hl 1 rfl) ?_
        refine m_ld x L8 73 rfl rp1 rfl dX12_sendSetup_64 (fun v30 ev30 wv30 => ?_)
        have rv30 : rg (-2147483648) (2147483647) v30 := lj_73 wv30
        exact j65_11 v30 g8 _ _ ls mFr.rf L8 (rg_w rv30 rfl) (lv_sub hl [0, 1, 2, 3] rfl)
      · skip
        have q31 : rg (1) (1) b18_0_3 := rg_neL c47_28 rb18_0_3 kc_0
        refine lv_iload_n hx hb dX12_sendSetup_50 rfl (lv_at hl 2 rfl) ?_
        refine lv_aload_n hx hb dX12_sendSetup_51 rfl (lv_at hl 0 rfl) ?_
        refine m_geti x L8 0 rfl rfl (wm_in uf_260) dX12_sendSetup_52 (fun v32 ev32 wv32 => ?_)
        refine m_top (((mm_fr (mm_fr (mm_fr ev2 hF4 rfl) hF7 rfl) hp8.1 rfl)).trans ev32.symm) ?_
        refine lv_isub hx hb dX12_sendSetup_55 ?_
        refine lv_topi (fun v33 ev33 => ?_)
        have rv33 : rg (-4) (5) v33 := (rg_sub ev33 rv1 rv2 rfl).1
        have tv33 := (rg_sub ev33 rv1 rv2 rfl).2
        refine lv_goto (tgt := 65) hx hb dX12_sendSetup_56 (by decide) ?_
        exact j65_11 v33 g8 _ _ ls mFr.rf L8 (rg_w rv33 rfl) (lv_sub hl [0, 1, 2, 3] rfl)
    refine lv_if_eq (tgt := 37) hx hb dX12_sendSetup_29 (by decide) (fun c29_34 => ?_) (fun c29_34 => ?_)
    · skip
      have q35 : rg (0) (0) b18_0_3 := (rg_eq c29_34 rb18_0_3 kc_0).1
      refine lv_bipush (v := 10) hx hb dX12_sendSetup_37 (by decide) ?_
      exact j39_7 (10 : Int32) g4 _ _ ls mFr.rf L4 (rg_w kc_10 rfl) (lv_sub hl [1, 2, 3, 0] rfl)
    · skip
      have q36 : rg (1) (1) b18_0_3 := rg_neL c29_34 rb18_0_3 kc_0
      refine lv_bipush (v := 21) hx hb dX12_sendSetup_32 (by decide) ?_
      refine lv_goto (tgt := 39) hx hb dX12_sendSetup_34 (by decide) ?_
      exact j39_7 (21 : Int32) g4 _ _ ls mFr.rf L4 (rg_w kc_21 rfl) (lv_sub hl [1, 2, 3, 0] rfl)
  refine lv_icmp_lt (tgt := 17) hx hb dX12_sendSetup_10 (by decide) (fun c10_37 => ?_) (fun c10_37 => ?_)
  · skip
    have b1v1_38 : v1.toInt < 1 * nn := by have := Int32.lt_iff_toInt_lt.mp c10_37; have := lv2; omega
    have q39 : rg (0) (3) v1 := (rg_lt c10_37 rv1 rv2).1
    refine lv_iconst (v := 0) hx hb dX12_sendSetup_17 (by decide) ?_
    exact j18_4 (0 : Int32) g _ _ ls mFr.rf L (rg_w kc_0 rfl) (lv_sub hl [1, 2, 0] rfl)
  · skip
    have q40 : rg (2) (7) v1 := (rg_le (rg_nlt c10_37) rv2 rv1).2
    refine lv_iconst (v := 1) hx hb dX12_sendSetup_13 (by decide) ?_
    refine lv_goto (tgt := 18) hx hb dX12_sendSetup_14 (by decide) ?_
    exact j18_4 (1 : Int32) g _ _ ls mFr.rf L (rg_w kc_1 rfl) (lv_sub hl [1, 2, 0] rfl)
theorem c_sendSetup (l : Launch) {G : mG} {h0 : Nat} {ad : Nat → Nat} (nn X : Int) (g : mSt) (p1 : Int32) (hnn : 2 ≤ nn ∧ nn ≤ 4) (hX : 0 ≤ X ∧ X ≤ 2000000000) (rp1 : rg (0) (319) p1) : Met l yX12_sendSetup (wm (Cond.code yX12_sendSetup cX12_sendSetup 4 none)) rm_sendSetup (va_Pc [.ref h0, .int p1] (mPre G h0 ad nn X g)) (mQv G h0 ad nn X (fun g1 => mFr [58, 59, 60, 90, 91] g g1 ∧ True)) 0 0 (mA h0 ad) := by
  refine Met.ofW (cc := cX12_sendSetup) (maxL := 4) (ret := none) (by decide) rfl ?_
  intro p e s m args below meth c s₁ B hml hv
  obtain ⟨rfl, hv⟩ := hv
  have hr := B.returns
  have hlocks := B.notSynchronized
  obtain ⟨x, L⟩ := m_start B rfl wm_X hv
  have hl := lv_entry ([.ref h0, .int p1]) (n := 4) (Nat.le_of_ble_eq_true rfl)
  rw [lg_entry_eq]
  generalize (lg_sl ([.ref h0, .int p1]) ++ List.replicate (4 - (lg_sl ([.ref h0, .int p1])).length) Slot.unset).toArray = ls at hl ⊢
  exact w_sendSetup x hml L hnn hX p1 rp1 hl (fun pc' ls' g1 H1 locs1 hdg L hp => m_vret x L hr hlocks (Int.le_refl _) hp hdg)

def rm_release : Room := { frames := 3, cells := 0, slots := 0, locals := 70 }
theorem hd_release : yX12_release.cls = RX12 ∧ yX12_release.cls ≠ "java/lang/invoke/MethodHandle" ∧ yX12_release.cls ≠ "java/lang/invoke/VarHandle" ∧ (parseMethodDescriptor yX12_release.desc).map (fun d => d.parameters.length) = some 2 := by decide +kernel
set_option maxHeartbeats 4000000 in
set_option maxRecDepth 100000 in
theorem w_release {p : Program} {l : Launch} {e : Env} {s : State} {m : MethodId} {args : Array Value} {below : List Frame} {meth : Method} {c : Code} {H : Heap} {locs : List Loc} {Q : State → Prop} {ls : Array Slot} {G : mG} {h0 : Nat} {ad : Nat → Nat} {g : mSt} {H0 : Heap} {nn X : Int} (x : mX p c cX12_release s args (wm (Cond.code yX12_release cX12_release 3 none)) m G h0 ad) (hml : c.maxLocals = 3) (L : mL G h0 ad H0 nn X g H locs) (hnn : 2 ≤ nn ∧ nn ≤ 4) (hX : 0 ≤ X ∧ X ≤ 2000000000) (hJ : mJ nn [] g) (p1 : Int32) (p2 : Int32) (rp1 : rg (0) (319) p1) (hpre0 : rg (1) (11) (g 68 p1.toNatClampNeg)) (hl : lv_has ls 3 [(0, .ref h0), (1, .int p1), (2, .int p2)]) (hQ : ∀ (pc' : Nat) (ls' : Array Slot) (g1 : mSt) (H1 : Heap) (locs1 : List Loc), decode cX12_release pc' = .ok (.return_, 1) → mL G h0 ad H0 nn X g1 H1 locs1 → (mFr [58, 59, 60, 68, 74, 75, 76, 86, 87, 89, 90, 91] g g1 ∧ mJ nn [] g1 ∧ True) → W p l e rm_release s m args below meth c H1 locs1 0 0 Q (F0 m pc' ls' [])) : W p l e rm_release s m args below meth c H locs 0 0 Q (F0 m 0 ls []) := by
  have hx := x.1
  have hb := x.2.1
  obtain ⟨z0, ez0⟩ : ∃ y : Int32, y = g 68 p1.toNatClampNeg := ⟨_, rfl⟩
  have rz0 : rg (1) (11) z0 := rg_eqv ez0.symm hpre0
  refine lv_aload_n hx hb dX12_release_0 rfl (lv_at hl 0 rfl) ?_
  refine m_geta x L 68 rfl rfl (wm_in uf_192) dX12_release_1 ?_
  refine lv_iload_n hx hb dX12_release_4 rfl (lv_at hl 1 rfl) ?_
  refine lv_bipush (v := 11) hx hb dX12_release_5 (by decide) ?_
  refine m_st x L 68 rfl rp1 rfl (rj_68 (rg_w kc_11 rfl)) dX12_release_7 (fun g1 H1 k1 eg1 L1 => ?_)
  have hJ2 := mJ_68n hJ eg1 ez0 rz0 rfl
  refine lv_aload_n hx hb dX12_release_8 rfl (lv_at hl 0 rfl) ?_
  refine m_geta x L1 74 rfl rfl (wm_in uf_210) dX12_release_9 ?_
  refine lv_iload_n hx hb dX12_release_12 rfl (lv_at hl 1 rfl) ?_
  refine lv_iload_n hx hb dX12_release_13 rfl (lv_at hl 2 rfl) ?_
  refine m_st x L1 74 rfl rp1 rfl (rj_74 (rg_any p2)) dX12_release_14 (fun g3 H3 k3 eg3 L3 => ?_)
  refine lv_aload_n hx hb dX12_release_15 rfl (lv_at hl 0 rfl) ?_
  refine m_geta x L3 75 rfl rfl (wm_in uf_213) dX12_release_16 ?_
  refine lv_iload_n hx hb dX12_release_19 rfl (lv_at hl 1 rfl) ?_
  refine lv_aload_n hx hb dX12_release_20 rfl (lv_at hl 0 rfl) ?_
  refine m_geti x L3 1 rfl rfl (wm_in uf_378) dX12_release_21 (fun v4 ev4 wv4 => ?_)
  have rv4 : rg (-2147483648) (2147483647) v4 := lj_1 wv4
  refine m_st x L3 75 rfl rp1 rfl (rj_75 (rg_any v4)) dX12_release_24 (fun g5 H5 k5 eg5 L5 => ?_)
  refine lv_aload_n hx hb dX12_release_25 rfl (lv_at hl 0 rfl) ?_
  refine m_geta x L5 76 rfl rfl (wm_in uf_216) dX12_release_26 ?_
  refine lv_iload_n hx hb dX12_release_29 rfl (lv_at hl 1 rfl) ?_
  refine lv_iconst (v := 0) hx hb dX12_release_30 (by decide) ?_
  refine m_stz x L5 76 rfl rp1 rfl (rg_w kc_0 rfl) (rj_76 (rg_w kc_0 rfl)) dX12_release_31 (fun g6 H6 k6 eg6 L6 => ?_)
  refine lv_aload_n hx hb dX12_release_32 rfl (lv_at hl 0 rfl) ?_
  refine lv_iload_n hx hb dX12_release_33 rfl (lv_at hl 1 rfl) ?_
  refine m_cv (As := [.int p1]) (rest := []) x hml L6 (c_dropFrames l nn X g6 p1 hnn hX (mJ_up (mJ_up (mJ_up hJ2 eg3 rfl) eg5 rfl) eg6 rfl) (rg_w rp1 rfl)) (wm_V uc_dropFrames ul_485 ui_dropFrames us_dropFrames u_init) rfl ⟨rfl, rfl⟩ hd_dropFrames ⟨Nat.le_of_ble_eq_true rfl, Nat.le_of_ble_eq_true rfl⟩ rfl hl.1 rfl (lv_room (Nat.le_of_ble_eq_true rfl)) dX12_release_34 (fun  g7 H7 k7 hp7 L7 => ?_)
  refine lv_aload_n hx hb dX12_release_37 rfl (lv_at hl 0 rfl) ?_
  refine lv_iload_n hx hb dX12_release_38 rfl (lv_at hl 1 rfl) ?_
  refine lv_bipush (v := 40) hx hb dX12_release_39 (by decide) ?_
  refine lv_idiv hx hb dX12_release_41 (by decide) ?_
  refine lv_topi (fun v8 ev8 => ?_)
  have rv8 : rg (0) (7) v8 := (rg_div ev8 rp1 kc_40 rfl).1
  refine lv_aload_n hx hb dX12_release_42 rfl (lv_at hl 0 rfl) ?_
  refine m_geta x L7 70 rfl rfl (wm_in uf_198) dX12_release_43 ?_
  refine lv_iload_n hx hb dX12_release_46 rfl (lv_at hl 1 rfl) ?_
  refine m_ldz x L7 70 rfl rp1 rfl dX12_release_47 (fun v9 ev9 wv9 => ?_)
  have rv9 : rg (0) (1) v9 := lj_70 wv9
  refine lv_aload_n hx hb dX12_release_48 rfl (lv_at hl 0 rfl) ?_
  refine m_geta x L7 69 rfl rfl (wm_in uf_195) dX12_release_49 ?_
  refine lv_iload_n hx hb dX12_release_52 rfl (lv_at hl 1 rfl) ?_
  refine m_ld x L7 69 rfl rp1 rfl dX12_release_53 (fun v10 ev10 wv10 => ?_)
  have rv10 : rg (-2147483648) (2147483647) v10 := lj_69 wv10
  refine lv_bipush (v := 77) hx hb dX12_release_54 (by decide) ?_
  refine lv_iload_n hx hb dX12_release_56 rfl (lv_at hl 2 rfl) ?_
  refine m_cv (As := [.int v8, .int v9, .int v10, .int (77 : Int32), .int p2]) (rest := []) x hml L7 (c_withCause l nn X g7 v8 v9 v10 (77 : Int32) p2 hnn hX (rg_w rv8 rfl) (rg_w rv9 rfl)) (wm_V uc_withCause ul_488 ui_withCause us_withCause u_init) rfl ⟨rfl, rfl⟩ hd_withCause ⟨Nat.le_of_ble_eq_true rfl, Nat.le_of_ble_eq_true rfl⟩ rfl hl.1 rfl (lv_room (Nat.le_of_ble_eq_true rfl)) dX12_release_57 (fun  g11 H11 k11 hp11 L11 => ?_)
  exact hQ _ _ _ _ _ dX12_release_60 L11 ⟨(mFr.tr (mFr.tr (mFr.upE (mFr.upE (mFr.upE (mFr.upE mFr.rf eg1 rfl) eg3 rfl) eg5 rfl) eg6 rfl) hp7.1 rfl) hp11.1 rfl), (mJ_fr hp7.2.1 hp11.1 rfl), trivial⟩
theorem c_release (l : Launch) {G : mG} {h0 : Nat} {ad : Nat → Nat} (nn X : Int) (g : mSt) (p1 : Int32) (p2 : Int32) (hnn : 2 ≤ nn ∧ nn ≤ 4) (hX : 0 ≤ X ∧ X ≤ 2000000000) (hJ : mJ nn [] g) (rp1 : rg (0) (319) p1) (hpre0 : rg (1) (11) (g 68 p1.toNatClampNeg)) : Met l yX12_release (wm (Cond.code yX12_release cX12_release 3 none)) rm_release (va_Pc [.ref h0, .int p1, .int p2] (mPre G h0 ad nn X g)) (mQv G h0 ad nn X (fun g1 => mFr [58, 59, 60, 68, 74, 75, 76, 86, 87, 89, 90, 91] g g1 ∧ mJ nn [] g1 ∧ True)) 0 0 (mA h0 ad) := by
  refine Met.ofW (cc := cX12_release) (maxL := 3) (ret := none) (by decide) rfl ?_
  intro p e s m args below meth c s₁ B hml hv
  obtain ⟨rfl, hv⟩ := hv
  have hr := B.returns
  have hlocks := B.notSynchronized
  obtain ⟨x, L⟩ := m_start B rfl wm_X hv
  have hl := lv_entry ([.ref h0, .int p1, .int p2]) (n := 3) (Nat.le_of_ble_eq_true rfl)
  rw [lg_entry_eq]
  generalize (lg_sl ([.ref h0, .int p1, .int p2]) ++ List.replicate (3 - (lg_sl ([.ref h0, .int p1, .int p2])).length) Slot.unset).toArray = ls at hl ⊢
  exact w_release x hml L hnn hX hJ p1 p2 rp1 hpre0 hl (fun pc' ls' g1 H1 locs1 hdg L hp => m_vret x L hr hlocks (Int.le_refl _) hp hdg)

def rm_releaseOther : Room := { frames := 4, cells := 0, slots := 0, locals := 92 }
theorem hd_releaseOther : yX12_releaseOther.cls = RX12 ∧ yX12_releaseOther.cls ≠ "java/lang/invoke/MethodHandle" ∧ yX12_releaseOther.cls ≠ "java/lang/invoke/VarHandle" ∧ (parseMethodDescriptor yX12_releaseOther.desc).map (fun d => d.parameters.length) = some 2 := by decide +kernel
set_option maxHeartbeats 4000000 in
set_option maxRecDepth 100000 in
theorem w_releaseOther {p : Program} {l : Launch} {e : Env} {s : State} {m : MethodId} {args : Array Value} {below : List Frame} {meth : Method} {c : Code} {H : Heap} {locs : List Loc} {Q : State → Prop} {ls : Array Slot} {G : mG} {h0 : Nat} {ad : Nat → Nat} {g : mSt} {H0 : Heap} {nn X : Int} (x : mX p c cX12_releaseOther s args (wm (Cond.code yX12_releaseOther cX12_releaseOther 4 none)) m G h0 ad) (hml : c.maxLocals = 4) (L : mL G h0 ad H0 nn X g H locs) (hnn : 2 ≤ nn ∧ nn ≤ 4) (hX : 0 ≤ X ∧ X ≤ 2000000000) (hJ : mJ nn [] g) (p1 : Int32) (p2 : Int32) (rp1 : rg (0) (319) p1) (hl : lv_has ls 4 [(0, .ref h0), (1, .int p1), (2, .int p2)]) (hQ : ∀ (pc' : Nat) (ls' : Array Slot) (g1 : mSt) (H1 : Heap) (locs1 : List Loc), decode cX12_releaseOther pc' = .ok (.return_, 1) → mL G h0 ad H0 nn X g1 H1 locs1 → (mFr [58, 59, 60, 68, 74, 75, 76, 77, 86, 87, 89, 90, 91] g g1 ∧ mJ nn [] g1 ∧ True) → W p l e rm_releaseOther s m args below meth c H1 locs1 0 0 Q (F0 m pc' ls' [])) : W p l e rm_releaseOther s m args below meth c H locs 0 0 Q (F0 m 0 ls []) := by
  have hx := x.1
  have hb := x.2.1
  refine lv_aload_n hx hb dX12_releaseOther_0 rfl (lv_at hl 0 rfl) ?_
  refine m_geta x L 77 rfl rfl (wm_in uf_219) dX12_releaseOther_1 ?_
  refine lv_iload_n hx hb dX12_releaseOther_4 rfl (lv_at hl 1 rfl) ?_
  refine m_ld x L 77 rfl rp1 rfl dX12_releaseOther_5 (fun v1 ev1 wv1 => ?_)
  have rv1 : rg (-2) 319 v1 := rg_pair hnn wv1
  have b80v1 : v1.toInt < 80 * nn := rg_p80 wv1
  refine lv_istore_n (lv' := [(3, .int v1), (0, .ref h0), (1, .int p1), (2, .int p2)]) hx hb dX12_releaseOther_6 rfl hl (by decide) rfl (fun ls hl => ?_)
  refine lv_iload_n hx hb dX12_releaseOther_7 rfl (lv_at hl 0 rfl) ?_
  refine lv_if_ge (tgt := 12) hx hb dX12_releaseOther_8 (by decide) (fun c8_2 => ?_) (fun c8_2 => ?_)
  · skip
    have q3 : rg (0) (319) v1 := (rg_le c8_2 kc_0 rv1).2
    refine lv_aload_n hx hb dX12_releaseOther_12 rfl (lv_at hl 1 rfl) ?_
    refine m_geta x L 77 rfl rfl (wm_in uf_219) dX12_releaseOther_13 ?_
    refine lv_iload_n hx hb dX12_releaseOther_16 rfl (lv_at hl 2 rfl) ?_
    refine lv_bipush (v := (-2)) hx hb dX12_releaseOther_17 (by decide) ?_
    refine m_st x L 77 rfl rp1 rfl (rj_77 (rg_w kc_m2 rfl) hnn) dX12_releaseOther_19 (fun g4 H4 k4 eg4 L4 => ?_)
    have hJ5 := mJ_77n hJ eg4 kc_m2 rfl
    refine lv_aload_n hx hb dX12_releaseOther_20 rfl (lv_at hl 1 rfl) ?_
    refine m_geta x L4 77 rfl rfl (wm_in uf_219) dX12_releaseOther_21 ?_
    refine lv_iload_n hx hb dX12_releaseOther_24 rfl (lv_at hl 0 rfl) ?_
    refine lv_bipush (v := (-2)) hx hb dX12_releaseOther_25 (by decide) ?_
    refine m_st x L4 77 rfl q3 rfl (rj_77 (rg_w kc_m2 rfl) hnn) dX12_releaseOther_27 (fun g6 H6 k6 eg6 L6 => ?_)
    have hJ7 := mJ_77n hJ5 eg6 kc_m2 rfl
    refine lv_aload_n hx hb dX12_releaseOther_28 rfl (lv_at hl 1 rfl) ?_
    refine m_geta x L6 68 rfl rfl (wm_in uf_192) dX12_releaseOther_29 ?_
    refine lv_iload_n hx hb dX12_releaseOther_32 rfl (lv_at hl 0 rfl) ?_
    refine m_ld x L6 68 rfl q3 rfl dX12_releaseOther_33 (fun v8 ev8 wv8 => ?_)
    have rv8 : rg (0) (11) v8 := lj_68 wv8
    have j54_9 : ∀ (g9 : mSt) (H9 : Heap) (k9 : List Loc) (ls : Array Slot), mFr [58, 59, 60, 68, 74, 75, 76, 86, 87, 89, 90, 91] g6 g9 → mL G h0 ad H0 nn X g9 H9 k9 → mJ nn [] g9 → lv_has ls 4 [(0, .ref h0)] → W p l e rm_releaseOther s m args below meth c H9 k9 0 0 Q (F0 m 54 ls []) := by
      intro  g9 H9 k9 ls hF9 L9 hJ9  hl
      exact hQ _ _ _ _ _ dX12_releaseOther_54 L9 ⟨(mFr.tr (mFr.upE (mFr.upE mFr.rf eg4 rfl) eg6 rfl) hF9 rfl), hJ9, trivial⟩
    refine lv_if_eq (tgt := 54) hx hb dX12_releaseOther_34 (by decide) (fun c34_10 => ?_) (fun c34_10 => ?_)
    · skip
      have q11 : rg (0) (0) v8 := (rg_eq c34_10 rv8 kc_0).1
      exact j54_9  g6 _ _ ls mFr.rf L6 hJ7 (lv_sub hl [1] rfl)
    · skip
      have q12 : rg (1) (11) v8 := rg_neL c34_10 rv8 kc_0
      refine lv_aload_n hx hb dX12_releaseOther_37 rfl (lv_at hl 1 rfl) ?_
      refine m_geta x L6 68 rfl rfl (wm_in uf_192) dX12_releaseOther_38 ?_
      refine lv_iload_n hx hb dX12_releaseOther_41 rfl (lv_at hl 0 rfl) ?_
      refine m_ld x L6 68 rfl q3 rfl dX12_releaseOther_42 (fun v13 ev13 wv13 => ?_)
      refine m_top ((ev8).trans ev13.symm) ?_
      refine lv_bipush (v := 11) hx hb dX12_releaseOther_43 (by decide) ?_
      refine lv_icmp_eq (tgt := 54) hx hb dX12_releaseOther_45 (by decide) (fun c45_14 => ?_) (fun c45_14 => ?_)
      · skip
        have q15 : rg (11) (11) v8 := (rg_eq c45_14 q12 kc_11).1
        exact j54_9  g6 _ _ ls mFr.rf L6 hJ7 (lv_sub hl [1] rfl)
      · skip
        have q16 : rg (1) (10) v8 := rg_neH c45_14 q12 kc_11
        refine lv_aload_n hx hb dX12_releaseOther_48 rfl (lv_at hl 1 rfl) ?_
        refine lv_iload_n hx hb dX12_releaseOther_49 rfl (lv_at hl 0 rfl) ?_
        refine lv_iload_n hx hb dX12_releaseOther_50 rfl (lv_at hl 3 rfl) ?_
        refine m_cv (As := [.int v1, .int p2]) (rest := []) x hml L6 (c_release l nn X g6 v1 p2 hnn hX hJ7 (rg_w q3 rfl) (rg_eqv ev8 (rg_w q16 rfl))) (wm_V uc_release ul_492 ui_release us_release u_init) rfl ⟨rfl, rfl⟩ hd_release ⟨Nat.le_of_ble_eq_true rfl, Nat.le_of_ble_eq_true rfl⟩ rfl hl.1 rfl (lv_room (Nat.le_of_ble_eq_true rfl)) dX12_releaseOther_51 (fun  g17 H17 k17 hp17 L17 => ?_)
        exact j54_9  g17 _ _ ls (mFr.tr mFr.rf hp17.1 rfl) L17 hp17.2.1 (lv_sub hl [1] rfl)
  · skip
    have q18 : rg (-2) (-1) v1 := (rg_lt (rg_nle c8_2) rv1 kc_0).1
    exact hQ _ _ _ _ _ dX12_releaseOther_11 L ⟨mFr.rf, hJ, trivial⟩
theorem c_releaseOther (l : Launch) {G : mG} {h0 : Nat} {ad : Nat → Nat} (nn X : Int) (g : mSt) (p1 : Int32) (p2 : Int32) (hnn : 2 ≤ nn ∧ nn ≤ 4) (hX : 0 ≤ X ∧ X ≤ 2000000000) (hJ : mJ nn [] g) (rp1 : rg (0) (319) p1) : Met l yX12_releaseOther (wm (Cond.code yX12_releaseOther cX12_releaseOther 4 none)) rm_releaseOther (va_Pc [.ref h0, .int p1, .int p2] (mPre G h0 ad nn X g)) (mQv G h0 ad nn X (fun g1 => mFr [58, 59, 60, 68, 74, 75, 76, 77, 86, 87, 89, 90, 91] g g1 ∧ mJ nn [] g1 ∧ True)) 0 0 (mA h0 ad) := by
  refine Met.ofW (cc := cX12_releaseOther) (maxL := 4) (ret := none) (by decide) rfl ?_
  intro p e s m args below meth c s₁ B hml hv
  obtain ⟨rfl, hv⟩ := hv
  have hr := B.returns
  have hlocks := B.notSynchronized
  obtain ⟨x, L⟩ := m_start B rfl wm_X hv
  have hl := lv_entry ([.ref h0, .int p1, .int p2]) (n := 4) (Nat.le_of_ble_eq_true rfl)
  rw [lg_entry_eq]
  generalize (lg_sl ([.ref h0, .int p1, .int p2]) ++ List.replicate (4 - (lg_sl ([.ref h0, .int p1, .int p2])).length) Slot.unset).toArray = ls at hl ⊢
  exact w_releaseOther x hml L hnn hX hJ p1 p2 rp1 hl (fun pc' ls' g1 H1 locs1 hdg L hp => m_vret x L hr hlocks (Int.le_refl _) hp hdg)

def rm_answer : Room := { frames := 3, cells := 0, slots := 0, locals := 67 }
theorem hd_answer : yX12_answer.cls = RX12 ∧ yX12_answer.cls ≠ "java/lang/invoke/MethodHandle" ∧ yX12_answer.cls ≠ "java/lang/invoke/VarHandle" ∧ (parseMethodDescriptor yX12_answer.desc).map (fun d => d.parameters.length) = some 1 := by decide +kernel
set_option maxHeartbeats 4000000 in
set_option maxRecDepth 100000 in
theorem w_answer {p : Program} {l : Launch} {e : Env} {s : State} {m : MethodId} {args : Array Value} {below : List Frame} {meth : Method} {c : Code} {H : Heap} {locs : List Loc} {Q : State → Prop} {ls : Array Slot} {G : mG} {h0 : Nat} {ad : Nat → Nat} {g : mSt} {H0 : Heap} {nn X : Int} (x : mX p c cX12_answer s args (wm (Cond.code yX12_answer cX12_answer 2 none)) m G h0 ad) (hml : c.maxLocals = 2) (L : mL G h0 ad H0 nn X g H locs) (hnn : 2 ≤ nn ∧ nn ≤ 4) (hX : 0 ≤ X ∧ X ≤ 2000000000) (hJ : mJ nn [] g) (p1 : Int32) (rp1 : rg (0) (319) p1) (hpre0 : rg (1) (11) (g 68 p1.toNatClampNeg)) (hl : lv_has ls 2 [(0, .ref h0), (1, .int p1)]) (hQ : ∀ (pc' : Nat) (ls' : Array Slot) (g1 : mSt) (H1 : Heap) (locs1 : List Loc), decode cX12_answer pc' = .ok (.return_, 1) → mL G h0 ad H0 nn X g1 H1 locs1 → (mFr [58, 59, 60, 68, 75, 90, 91] g g1 ∧ mJ nn [] g1 ∧ True) → W p l e rm_answer s m args below meth c H1 locs1 0 0 Q (F0 m pc' ls' [])) : W p l e rm_answer s m args below meth c H locs 0 0 Q (F0 m 0 ls []) := by
  have hx := x.1
  have hb := x.2.1
  obtain ⟨z0, ez0⟩ : ∃ y : Int32, y = g 68 p1.toNatClampNeg := ⟨_, rfl⟩
  have rz0 : rg (1) (11) z0 := rg_eqv ez0.symm hpre0
  refine lv_aload_n hx hb dX12_answer_0 rfl (lv_at hl 0 rfl) ?_
  refine m_geta x L 68 rfl rfl (wm_in uf_192) dX12_answer_1 ?_
  refine lv_iload_n hx hb dX12_answer_4 rfl (lv_at hl 1 rfl) ?_
  refine lv_bipush (v := 8) hx hb dX12_answer_5 (by decide) ?_
  refine m_st x L 68 rfl rp1 rfl (rj_68 (rg_w kc_8 rfl)) dX12_answer_7 (fun g1 H1 k1 eg1 L1 => ?_)
  have hJ2 := mJ_68n hJ eg1 ez0 rz0 rfl
  refine lv_aload_n hx hb dX12_answer_8 rfl (lv_at hl 0 rfl) ?_
  refine m_geta x L1 75 rfl rfl (wm_in uf_213) dX12_answer_9 ?_
  refine lv_iload_n hx hb dX12_answer_12 rfl (lv_at hl 1 rfl) ?_
  refine lv_aload_n hx hb dX12_answer_13 rfl (lv_at hl 0 rfl) ?_
  refine m_geti x L1 1 rfl rfl (wm_in uf_378) dX12_answer_14 (fun v3 ev3 wv3 => ?_)
  have rv3 : rg (-2147483648) (2147483647) v3 := lj_1 wv3
  refine m_st x L1 75 rfl rp1 rfl (rj_75 (rg_any v3)) dX12_answer_17 (fun g4 H4 k4 eg4 L4 => ?_)
  refine lv_aload_n hx hb dX12_answer_18 rfl (lv_at hl 0 rfl) ?_
  refine lv_iload_n hx hb dX12_answer_19 rfl (lv_at hl 1 rfl) ?_
  refine lv_bipush (v := 7) hx hb dX12_answer_20 (by decide) ?_
  refine m_cv (As := [.int p1, .int (7 : Int32)]) (rest := []) x hml L4 (c_plain l nn X g4 p1 (7 : Int32) hnn hX (rg_w rp1 rfl)) (wm_V uc_plain ul_516 ui_plain us_plain u_init) rfl ⟨rfl, rfl⟩ hd_plain ⟨Nat.le_of_ble_eq_true rfl, Nat.le_of_ble_eq_true rfl⟩ rfl hl.1 rfl (lv_room (Nat.le_of_ble_eq_true rfl)) dX12_answer_22 (fun  g5 H5 k5 hp5 L5 => ?_)
  exact hQ _ _ _ _ _ dX12_answer_25 L5 ⟨(mFr.tr (mFr.upE (mFr.upE mFr.rf eg1 rfl) eg4 rfl) hp5.1 rfl), (mJ_fr (mJ_up hJ2 eg4 rfl) hp5.1 rfl), trivial⟩
theorem c_answer (l : Launch) {G : mG} {h0 : Nat} {ad : Nat → Nat} (nn X : Int) (g : mSt) (p1 : Int32) (hnn : 2 ≤ nn ∧ nn ≤ 4) (hX : 0 ≤ X ∧ X ≤ 2000000000) (hJ : mJ nn [] g) (rp1 : rg (0) (319) p1) (hpre0 : rg (1) (11) (g 68 p1.toNatClampNeg)) : Met l yX12_answer (wm (Cond.code yX12_answer cX12_answer 2 none)) rm_answer (va_Pc [.ref h0, .int p1] (mPre G h0 ad nn X g)) (mQv G h0 ad nn X (fun g1 => mFr [58, 59, 60, 68, 75, 90, 91] g g1 ∧ mJ nn [] g1 ∧ True)) 0 0 (mA h0 ad) := by
  refine Met.ofW (cc := cX12_answer) (maxL := 2) (ret := none) (by decide) rfl ?_
  intro p e s m args below meth c s₁ B hml hv
  obtain ⟨rfl, hv⟩ := hv
  have hr := B.returns
  have hlocks := B.notSynchronized
  obtain ⟨x, L⟩ := m_start B rfl wm_X hv
  have hl := lv_entry ([.ref h0, .int p1]) (n := 2) (Nat.le_of_ble_eq_true rfl)
  rw [lg_entry_eq]
  generalize (lg_sl ([.ref h0, .int p1]) ++ List.replicate (2 - (lg_sl ([.ref h0, .int p1])).length) Slot.unset).toArray = ls at hl ⊢
  exact w_answer x hml L hnn hX hJ p1 rp1 hpre0 hl (fun pc' ls' g1 H1 locs1 hdg L hp => m_vret x L hr hlocks (Int.le_refl _) hp hdg)

def rm_isReceived : Room := { frames := 1, cells := 0, slots := 0, locals := 21 }
theorem hd_isReceived : yX12_isReceived.cls = RX12 ∧ yX12_isReceived.cls ≠ "java/lang/invoke/MethodHandle" ∧ yX12_isReceived.cls ≠ "java/lang/invoke/VarHandle" ∧ (parseMethodDescriptor yX12_isReceived.desc).map (fun d => d.parameters.length) = some 2 := by decide +kernel
set_option maxHeartbeats 4000000 in
set_option maxRecDepth 100000 in
theorem w_isReceived {p : Program} {l : Launch} {e : Env} {s : State} {m : MethodId} {args : Array Value} {below : List Frame} {meth : Method} {c : Code} {H : Heap} {locs : List Loc} {Q : State → Prop} {ls : Array Slot} {G : mG} {h0 : Nat} {ad : Nat → Nat} {g : mSt} {H0 : Heap} {nn X : Int} (x : mX p c cX12_isReceived s args (wm (Cond.code yX12_isReceived cX12_isReceived 3 (some .boolean))) m G h0 ad) (hml : c.maxLocals = 3) (L : mL G h0 ad H0 nn X g H locs) (hnn : 2 ≤ nn ∧ nn ≤ 4) (hX : 0 ≤ X ∧ X ≤ 2000000000) (p1 : Int32) (p2 : Int32) (hl : lv_has ls 3 [(0, .ref h0), (1, .int p1), (2, .int p2)]) (hQ : ∀ (pc' : Nat) (ls' : Array Slot) (r : Int32) (g1 : mSt) (H1 : Heap) (locs1 : List Loc), decode cX12_isReceived pc' = .ok (.ireturn, 1) → mL G h0 ad H0 nn X g1 H1 locs1 → (mFr [] g g1 ∧ rg (0) (1) r ∧ (¬ r = 0 → rg (0) (3) p1 ∧ p1.toInt < 1 * nn) ∧ (¬ r = 0 → rg (0) (19) p2 ∧ p2.toInt < 10 * nn) ∧ (1 ≤ r.toInt → p2.toInt < (g 39 p1.toNatClampNeg).toInt)) → W p l e rm_isReceived s m args below meth c H1 locs1 0 0 Q (F0 m pc' ls' [.int r])) : W p l e rm_isReceived s m args below meth c H locs 0 0 Q (F0 m 0 ls []) := by
  have hx := x.1
  have hb := x.2.1
  have up1 : (-2147483648 : Int) ≤ p1.toInt ∧ p1.toInt ≤ 2147483647 := (rg_any p1)
  have up2 : (-2147483648 : Int) ≤ p2.toInt ∧ p2.toInt ≤ 2147483647 := (rg_any p2)
  refine lv_aload_n hx hb dX12_isReceived_0 rfl (lv_at hl 0 rfl) ?_
  refine lv_iload_n hx hb dX12_isReceived_1 rfl (lv_at hl 1 rfl) ?_
  refine m_ci (As := [.int p1]) (rest := []) x hml L (c_isEnd l nn X g p1 hnn hX) (wm_V uc_isEnd ul_381 ui_isEnd us_isEnd u_init) rfl ⟨rfl, rfl⟩ hd_isEnd ⟨Nat.le_of_ble_eq_true rfl, Nat.le_of_ble_eq_true rfl⟩ rfl hl.1 rfl (lv_room (Nat.le_of_ble_eq_true rfl)) dX12_isReceived_2 (fun v2 g1 H1 k1 hp1 L1 => ?_)
  have rv2 : rg (0) (1) v2 := hp1.2.1
  have uv2 : (0 : Int) ≤ v2.toInt ∧ v2.toInt ≤ 1 := rv2
  have hw3 := hp1.2.2.2
  refine lv_if_eq (tgt := 44) hx hb dX12_isReceived_5 (by decide) (fun c5_4 => ?_) (fun c5_4 => ?_)
  · skip
    have ic5_4 := congrArg Int32.toInt c5_4
    have y5 : (0 : Int32).toInt = 0 := by decide
    have q6 : rg (0) (0) v2 := (rg_eq c5_4 rv2 kc_0).1
    have uq6 : (0 : Int) ≤ v2.toInt ∧ v2.toInt ≤ 0 := q6
    refine lv_iconst (v := 0) hx hb dX12_isReceived_44 (by decide) ?_
    exact hQ _ _ (0 : Int32) _ _ _ dX12_isReceived_45 L1 ⟨(mFr.tr mFr.rf hp1.1 rfl), rg_w kc_0 rfl, (fun h => absurd rfl h), (fun h => absurd rfl h), (by have : (0 : Int32).toInt = 0 := (by decide); omega)⟩
  · skip
    have ic5_4 : v2.toInt ≠ (0 : Int32).toInt := fun z => c5_4 (Int32.toInt_inj.mp z)
    have y7 : (0 : Int32).toInt = 0 := by decide
    have q8 : rg (0) (3) p1 ∧ p1.toInt < 1 * nn := hp1.2.2.1 c5_4
    have uq8 : (0 : Int) ≤ p1.toInt ∧ p1.toInt ≤ 3 := q8.1
    have wq8 := q8.2
    have q9 : rg (1) (1) v2 := rg_neL c5_4 rv2 kc_0
    have uq9 : (1 : Int) ≤ v2.toInt ∧ v2.toInt ≤ 1 := q9
    refine lv_iload_n hx hb dX12_isReceived_8 rfl (lv_at hl 2 rfl) ?_
    refine lv_if_lt (tgt := 44) hx hb dX12_isReceived_9 (by decide) (fun c9_10 => ?_) (fun c9_10 => ?_)
    · skip
      have ic9_10 := Int32.lt_iff_toInt_lt.mp c9_10
      have q11 : rg (-2147483648) (-1) p2 := (rg_lt c9_10 (rg_any p2) kc_0).1
      have uq11 : (-2147483648 : Int) ≤ p2.toInt ∧ p2.toInt ≤ -1 := q11
      refine lv_iconst (v := 0) hx hb dX12_isReceived_44 (by decide) ?_
      exact hQ _ _ (0 : Int32) _ _ _ dX12_isReceived_45 L1 ⟨(mFr.tr mFr.rf hp1.1 rfl), rg_w kc_0 rfl, (fun h => absurd rfl h), (fun h => absurd rfl h), (by have : (0 : Int32).toInt = 0 := (by decide); omega)⟩
    · skip
      have ic9_10 := Int32.le_iff_toInt_le.mp (rg_nlt c9_10)
      have q12 : rg (0) (2147483647) p2 := (rg_le (rg_nlt c9_10) kc_0 (rg_any p2)).2
      have uq12 : (0 : Int) ≤ p2.toInt ∧ p2.toInt ≤ 2147483647 := q12
      refine lv_iload_n hx hb dX12_isReceived_12 rfl (lv_at hl 2 rfl) ?_
      refine lv_bipush (v := 20) hx hb dX12_isReceived_13 (by decide) ?_
      refine lv_icmp_ge (tgt := 44) hx hb dX12_isReceived_15 (by decide) (fun c15_13 => ?_) (fun c15_13 => ?_)
      · skip
        have ic15_13 := Int32.le_iff_toInt_le.mp c15_13
        have q14 : rg (20) (2147483647) p2 := (rg_le c15_13 kc_20 q12).2
        have uq14 : (20 : Int) ≤ p2.toInt ∧ p2.toInt ≤ 2147483647 := q14
        refine lv_iconst (v := 0) hx hb dX12_isReceived_44 (by decide) ?_
        exact hQ _ _ (0 : Int32) _ _ _ dX12_isReceived_45 L1 ⟨(mFr.tr mFr.rf hp1.1 rfl), rg_w kc_0 rfl, (fun h => absurd rfl h), (fun h => absurd rfl h), (by have : (0 : Int32).toInt = 0 := (by decide); omega)⟩
      · skip
        have ic15_13 := Int32.lt_iff_toInt_lt.mp (rg_nle c15_13)
        have q15 : rg (0) (19) p2 := (rg_lt (rg_nle c15_13) q12 kc_20).1
        have uq15 : (0 : Int) ≤ p2.toInt ∧ p2.toInt ≤ 19 := q15
        refine lv_iload_n hx hb dX12_isReceived_18 rfl (lv_at hl 2 rfl) ?_
        refine lv_aload_n hx hb dX12_isReceived_19 rfl (lv_at hl 0 rfl) ?_
        refine m_geta x L1 39 rfl rfl (wm_in uf_104) dX12_isReceived_20 ?_
        refine lv_aload_n hx hb dX12_isReceived_23 rfl (lv_at hl 0 rfl) ?_
        refine lv_iload_n hx hb dX12_isReceived_24 rfl (lv_at hl 1 rfl) ?_
        refine m_ci (As := [.int p1]) (rest := [.ref (ad 39), .int p2]) x hml L1 (c_isEnd l nn X g1 p1 hnn hX) (wm_V uc_isEnd ul_381 ui_isEnd us_isEnd u_init) rfl ⟨rfl, rfl⟩ hd_isEnd ⟨Nat.le_of_ble_eq_true rfl, Nat.le_of_ble_eq_true rfl⟩ rfl hl.1 rfl (lv_room (Nat.le_of_ble_eq_true rfl)) dX12_isReceived_25 (fun v17 g16 H16 k16 hp16 L16 => ?_)
        have rv17 : rg (0) (1) v17 := hp16.2.1
        have uv17 : (0 : Int) ≤ v17.toInt ∧ v17.toInt ≤ 1 := rv17
        have hw18 := hp16.2.2.2
        refine lv_if_eq (tgt := 35) hx hb dX12_isReceived_28 (by decide) (fun c28_19 => ?_) (fun c28_19 => ?_)
        · skip
          have ic28_19 := congrArg Int32.toInt c28_19
          have y20 : (0 : Int32).toInt = 0 := by decide
          have q21 : rg (0) (0) v17 := (rg_eq c28_19 rv17 kc_0).1
          have uq21 : (0 : Int) ≤ v17.toInt ∧ v17.toInt ≤ 0 := q21
          refine lv_iconst (v := 0) hx hb dX12_isReceived_35 (by decide) ?_
          refine m_ld x L16 39 rfl kc_0 rfl dX12_isReceived_36 (fun v22 ev22 wv22 => ?_)
          have rv22 : rg 0 2000000000 v22 := rg_X hX (lj_39 wv22)
          have uv22 : (0 : Int) ≤ v22.toInt ∧ v22.toInt ≤ 2000000000 := rv22
          have sv22 : v22.toInt = (g 39 (0 : Int32).toNatClampNeg).toInt := congrArg Int32.toInt (ev22.trans (congrFun ((show mFr [] g g16 from (mFr.tr (mFr.tr mFr.rf hp1.1 rfl) hp16.1 rfl)).at 39 rfl) _))
          refine lv_icmp_ge (tgt := 44) hx hb dX12_isReceived_37 (by decide) (fun c37_23 => ?_) (fun c37_23 => ?_)
          · skip
            have ic37_23 := Int32.le_iff_toInt_le.mp c37_23
            have q24 : rg (0) (19) v22 := (rg_le c37_23 rv22 q15).1
            have uq24 : (0 : Int) ≤ v22.toInt ∧ v22.toInt ≤ 19 := q24
            refine lv_iconst (v := 0) hx hb dX12_isReceived_44 (by decide) ?_
            exact hQ _ _ (0 : Int32) _ _ _ dX12_isReceived_45 L16 ⟨(mFr.tr (mFr.tr mFr.rf hp1.1 rfl) hp16.1 rfl), rg_w kc_0 rfl, (fun h => absurd rfl h), (fun h => absurd rfl h), (by have : (0 : Int32).toInt = 0 := (by decide); omega)⟩
          · skip
            have ic37_23 := Int32.lt_iff_toInt_lt.mp (rg_nle c37_23)
            have q25 : rg (1) (2000000000) v22 := (rg_lt (rg_nle c37_23) q15 rv22).2
            have uq25 : (1 : Int) ≤ v22.toInt ∧ v22.toInt ≤ 2000000000 := q25
            refine lv_iconst (v := 1) hx hb dX12_isReceived_40 (by decide) ?_
            refine lv_goto (tgt := 45) hx hb dX12_isReceived_41 (by decide) ?_
            exact hQ _ _ (1 : Int32) _ _ _ dX12_isReceived_45 L16 ⟨(mFr.tr (mFr.tr mFr.rf hp1.1 rfl) hp16.1 rfl), rg_w kc_1 rfl, (fun _ => ⟨rg_w q8.1 rfl, q8.2⟩), (fun _ => ⟨rg_w q15 rfl, nb_of q15 rfl hnn⟩), (by have : (1 : Int32).toInt = 1 := (by decide); omega)⟩
        · skip
          have ic28_19 : v17.toInt ≠ (0 : Int32).toInt := fun z => c28_19 (Int32.toInt_inj.mp z)
          have y26 : (0 : Int32).toInt = 0 := by decide
          have q27 : rg (0) (3) p1 ∧ p1.toInt < 1 * nn := hp16.2.2.1 c28_19
          have uq27 : (0 : Int) ≤ p1.toInt ∧ p1.toInt ≤ 3 := q27.1
          have wq27 := q27.2
          have q28 : rg (1) (1) v17 := rg_neL c28_19 rv17 kc_0
          have uq28 : (1 : Int) ≤ v17.toInt ∧ v17.toInt ≤ 1 := q28
          refine lv_iload_n hx hb dX12_isReceived_31 rfl (lv_at hl 1 rfl) ?_
          refine lv_goto (tgt := 36) hx hb dX12_isReceived_32 (by decide) ?_
          refine m_ld x L16 39 rfl q27.1 rfl dX12_isReceived_36 (fun v29 ev29 wv29 => ?_)
          have rv29 : rg 0 2000000000 v29 := rg_X hX (lj_39 wv29)
          have uv29 : (0 : Int) ≤ v29.toInt ∧ v29.toInt ≤ 2000000000 := rv29
          have sv29 : v29.toInt = (g 39 p1.toNatClampNeg).toInt := congrArg Int32.toInt (ev29.trans (congrFun ((show mFr [] g g16 from (mFr.tr (mFr.tr mFr.rf hp1.1 rfl) hp16.1 rfl)).at 39 rfl) _))
          refine lv_icmp_ge (tgt := 44) hx hb dX12_isReceived_37 (by decide) (fun c37_30 => ?_) (fun c37_30 => ?_)
          · skip
            have ic37_30 := Int32.le_iff_toInt_le.mp c37_30
            have q31 : rg (0) (19) v29 := (rg_le c37_30 rv29 q15).1
            have uq31 : (0 : Int) ≤ v29.toInt ∧ v29.toInt ≤ 19 := q31
            refine lv_iconst (v := 0) hx hb dX12_isReceived_44 (by decide) ?_
            exact hQ _ _ (0 : Int32) _ _ _ dX12_isReceived_45 L16 ⟨(mFr.tr (mFr.tr mFr.rf hp1.1 rfl) hp16.1 rfl), rg_w kc_0 rfl, (fun h => absurd rfl h), (fun h => absurd rfl h), (by have : (0 : Int32).toInt = 0 := (by decide); omega)⟩
          · skip
            have ic37_30 := Int32.lt_iff_toInt_lt.mp (rg_nle c37_30)
            have q32 : rg (1) (2000000000) v29 := (rg_lt (rg_nle c37_30) q15 rv29).2
            have uq32 : (1 : Int) ≤ v29.toInt ∧ v29.toInt ≤ 2000000000 := q32
            refine lv_iconst (v := 1) hx hb dX12_isReceived_40 (by decide) ?_
            refine lv_goto (tgt := 45) hx hb dX12_isReceived_41 (by decide) ?_
            exact hQ _ _ (1 : Int32) _ _ _ dX12_isReceived_45 L16 ⟨(mFr.tr (mFr.tr mFr.rf hp1.1 rfl) hp16.1 rfl), rg_w kc_1 rfl, (fun _ => ⟨rg_w q27.1 rfl, q27.2⟩), (fun _ => ⟨rg_w q15 rfl, nb_of q15 rfl hnn⟩), (by have : (1 : Int32).toInt = 1 := (by decide); omega)⟩
theorem c_isReceived (l : Launch) {G : mG} {h0 : Nat} {ad : Nat → Nat} (nn X : Int) (g : mSt) (p1 : Int32) (p2 : Int32) (hnn : 2 ≤ nn ∧ nn ≤ 4) (hX : 0 ≤ X ∧ X ≤ 2000000000) : Met l yX12_isReceived (wm (Cond.code yX12_isReceived cX12_isReceived 3 (some .boolean))) rm_isReceived (va_Pc [.ref h0, .int p1, .int p2] (mPre G h0 ad nn X g)) (mQi G h0 ad nn X (fun r g1 => mFr [] g g1 ∧ rg (0) (1) r ∧ (¬ r = 0 → rg (0) (3) p1 ∧ p1.toInt < 1 * nn) ∧ (¬ r = 0 → rg (0) (19) p2 ∧ p2.toInt < 10 * nn) ∧ (1 ≤ r.toInt → p2.toInt < (g 39 p1.toNatClampNeg).toInt))) 0 0 (mA h0 ad) := by
  refine Met.ofW (cc := cX12_isReceived) (maxL := 3) (ret := (some .boolean)) (by decide) rfl ?_
  intro p e s m args below meth c s₁ B hml hv
  obtain ⟨rfl, hv⟩ := hv
  have hr := B.returns
  have hlocks := B.notSynchronized
  obtain ⟨x, L⟩ := m_start B rfl wm_X hv
  have hl := lv_entry ([.ref h0, .int p1, .int p2]) (n := 3) (Nat.le_of_ble_eq_true rfl)
  rw [lg_entry_eq]
  generalize (lg_sl ([.ref h0, .int p1, .int p2]) ++ List.replicate (3 - (lg_sl ([.ref h0, .int p1, .int p2])).length) Slot.unset).toArray = ls at hl ⊢
  exact w_isReceived x hml L hnn hX p1 p2 hl (fun pc' ls' r g1 H1 locs1 hdg L hp => m_zret x L hr hlocks (nar01 (rg_w hp.2.1 rfl)) (Int.le_refl _) hp hdg)

def rm_feed : Room := { frames := 0, cells := 0, slots := 0, locals := 0 }
theorem hd_feed : yX12_feed.cls = RX12 ∧ yX12_feed.cls ≠ "java/lang/invoke/MethodHandle" ∧ yX12_feed.cls ≠ "java/lang/invoke/VarHandle" ∧ (parseMethodDescriptor yX12_feed.desc).map (fun d => d.parameters.length) = some 5 := by decide +kernel
set_option maxHeartbeats 4000000 in
set_option maxRecDepth 100000 in
theorem w_feed {p : Program} {l : Launch} {e : Env} {s : State} {m : MethodId} {args : Array Value} {below : List Frame} {meth : Method} {c : Code} {H : Heap} {locs : List Loc} {Q : State → Prop} {ls : Array Slot} {G : mG} {h0 : Nat} {ad : Nat → Nat} {g : mSt} {H0 : Heap} {nn X : Int} (x : mX p c cX12_feed s args (wm (Cond.code yX12_feed cX12_feed 8 (some .int))) m G h0 ad) (hml : c.maxLocals = 8) (L : mL G h0 ad H0 nn X g H locs) (hnn : 2 ≤ nn ∧ nn ≤ 4) (hX : 0 ≤ X ∧ X ≤ 2000000000) (p1 : Int32) (p2 : Int32) (p3 : Int32) (p4 : Int32) (p5 : Int32) (hl : lv_has ls 8 [(0, .ref h0), (1, .int p1), (2, .int p2), (3, .int p3), (4, .int p4), (5, .int p5)]) (hQ : ∀ (pc' : Nat) (ls' : Array Slot) (r : Int32) (g1 : mSt) (H1 : Heap) (locs1 : List Loc), decode cX12_feed pc' = .ok (.ireturn, 1) → mL G h0 ad H0 nn X g1 H1 locs1 → (mFr [2, 3] g g1 ∧ rg (-3) (200) r ∧ True) → W p l e rm_feed s m args below meth c H1 locs1 0 0 Q (F0 m pc' ls' [.int r])) : W p l e rm_feed s m args below meth c H locs 0 0 Q (F0 m 0 ls []) := by
  have hx := x.1
  have hb := x.2.1
  refine lv_aload_n hx hb dX12_feed_0 rfl (lv_at hl 0 rfl) ?_
  refine m_geti x L 3 rfl rfl (wm_in uf_264) dX12_feed_1 (fun v1 ev1 wv1 => ?_)
  have rv1 : rg (0) (200) v1 := lj_3 wv1
  refine lv_bipush (v := 20) hx hb dX12_feed_4 (by decide) ?_
  refine lv_iadd hx hb dX12_feed_6 ?_
  refine lv_topi (fun v2 ev2 => ?_)
  have rv2 : rg (20) (220) v2 := (rg_add ev2 rv1 kc_20 rfl).1
  have dv2 := (rg_add ev2 rv1 kc_20 rfl).2
  refine lv_sipush (v := 200) hx hb dX12_feed_7 (by decide) ?_
  refine lv_icmp_le (tgt := 16) hx hb dX12_feed_10 (by decide) (fun c10_3 => ?_) (fun c10_3 => ?_)
  · skip
    have q4 : rg (20) (200) v2 := (rg_le c10_3 rv2 kc_200).1
    have q5 : rg (0) (180) v1 := rg_back dv2 kc_20 q4
    refine lv_iconst (v := 0) hx hb dX12_feed_16 (by decide) ?_
    refine lv_istore (lv' := [(6, .int (0 : Int32)), (0, .ref h0), (1, .int p1), (2, .int p2), (3, .int p3), (4, .int p4), (5, .int p5)]) hx hb dX12_feed_17 hl (by decide) rfl (fun ls hl => ?_)
    refine lv_iload hx hb dX12_feed_19 (lv_at hl 0 rfl) ?_
    refine lv_bipush (v := 20) hx hb dX12_feed_21 (by decide) ?_
    refine lv_icmp_ge (tgt := 116) hx hb dX12_feed_23 (by decide) (fun c23_6 => ?_) (fun c23_6 => ?_)
    · skip
      exact absurd c23_6 (by decide)
    · skip
      refine lv_iload hx hb dX12_feed_26 (lv_at hl 0 rfl) ?_
      refine lv_iconst (v := 4) hx hb dX12_feed_28 (by decide) ?_
      refine lv_icmp_ge (tgt := 36) hx hb dX12_feed_29 (by decide) (fun c29_7 => ?_) (fun c29_7 => ?_)
      · skip
        exact absurd c29_7 (by decide)
      · skip
        refine lv_iload_n hx hb dX12_feed_32 rfl (lv_at hl 2 rfl) ?_
        refine lv_goto (tgt := 72) hx hb dX12_feed_33 (by decide) ?_
        refine lv_istore (lv' := [(7, .int p1), (6, .int (0 : Int32)), (0, .ref h0), (1, .int p1), (2, .int p2), (3, .int p3), (4, .int p4), (5, .int p5)]) hx hb dX12_feed_72 hl (by decide) rfl (fun ls hl => ?_)
        refine lv_aload_n hx hb dX12_feed_74 rfl (lv_at hl 2 rfl) ?_
        refine m_geta x L 2 rfl rfl (wm_in uf_7) dX12_feed_75 ?_
        refine lv_aload_n hx hb dX12_feed_78 rfl (lv_at hl 2 rfl) ?_
        refine m_geti x L 3 rfl rfl (wm_in uf_264) dX12_feed_79 (fun v8 ev8 wv8 => ?_)
        refine m_top ((ev1).trans ev8.symm) ?_
        refine lv_iload hx hb dX12_feed_82 (lv_at hl 0 rfl) ?_
        refine lv_bipush (v := 24) hx hb dX12_feed_84 (by decide) ?_
        refine lv_bipush (v := 8) hx hb dX12_feed_86 (by decide) ?_
        refine lv_iload hx hb dX12_feed_88 (lv_at hl 1 rfl) ?_
        refine lv_iconst (v := 4) hx hb dX12_feed_90 (by decide) ?_
        refine lv_irem hx hb dX12_feed_91 (by decide) ?_
        refine lv_topi (fun v9 ev9 => ?_)
        have rv9 : rg (0) (3) v9 := (rg_rem ev9 kc_0 kc_4 rfl).1
        refine lv_imul hx hb dX12_feed_92 ?_
        refine lv_topi (fun v10 ev10 => ?_)
        have rv10 : rg (0) (24) v10 := (rg_mulL ev10 kc_8 rv9 rfl).1
        refine lv_isub hx hb dX12_feed_93 ?_
        refine lv_topi (fun v11 ev11 => ?_)
        have rv11 : rg (0) (24) v11 := (rg_sub ev11 kc_24 rv10 rfl).1
        refine lv_ishr hx hb dX12_feed_94 ?_
        refine lv_topi (fun v12 ev12 => ?_)
        have rv12 : rg (-2147483648) (2147483647) v12 := rg_any v12
        refine lv_sipush (v := 255) hx hb dX12_feed_95 (by decide) ?_
        refine lv_iand hx hb dX12_feed_98 ?_
        refine lv_topi (fun v13 ev13 => ?_)
        have rv13 : rg (0) (255) v13 := rg_and ev13 8 255 (by decide) rfl
        refine m_st x L 2 rfl q5 rfl (rj_2 (rg_any v13)) dX12_feed_99 (fun g14 H14 k14 eg14 L14 => ?_)
        refine lv_aload_n hx hb dX12_feed_100 rfl (lv_at hl 2 rfl) ?_
        refine lv_dup hx hb dX12_feed_101 rfl ?_
        refine m_geti x L14 3 rfl rfl (wm_in uf_264) dX12_feed_102 (fun v15 ev15 wv15 => ?_)
        refine m_top (((mm_up ev1 eg14 rfl)).trans ev15.symm) ?_
        refine lv_iconst (v := 1) hx hb dX12_feed_105 (by decide) ?_
        refine lv_iadd hx hb dX12_feed_106 ?_
        refine lv_topi (fun v16 ev16 => ?_)
        have rv16 : rg (1) (181) v16 := (rg_add ev16 q5 kc_1 rfl).1
        have dv16 := (rg_add ev16 q5 kc_1 rfl).2
        refine m_puti x L14 3 rfl fi_3 (wm_in uf_264) dX12_feed_107 (rj_3 (rg_w rv16 rfl)) (fun g17 H17 k17 eg17 L17 => ?_)
        refine lv_iinc (v := (1 : Int32)) (lv' := [(6, .int (1 : Int32)), (7, .int p1), (0, .ref h0), (1, .int p1), (2, .int p2), (3, .int p3), (4, .int p4), (5, .int p5)]) hx hb dX12_feed_110 hl (k := 1) rfl (by decide) (by decide) rfl (fun ls hl => ?_)
        refine lv_goto (tgt := 19) hx hb dX12_feed_113 (by decide) ?_
        refine lv_iload hx hb dX12_feed_19 (lv_at hl 0 rfl) ?_
        refine lv_bipush (v := 20) hx hb dX12_feed_21 (by decide) ?_
        refine lv_icmp_ge (tgt := 116) hx hb dX12_feed_23 (by decide) (fun c23_18 => ?_) (fun c23_18 => ?_)
        · skip
          exact absurd c23_18 (by decide)
        · skip
          refine lv_iload hx hb dX12_feed_26 (lv_at hl 0 rfl) ?_
          refine lv_iconst (v := 4) hx hb dX12_feed_28 (by decide) ?_
          refine lv_icmp_ge (tgt := 36) hx hb dX12_feed_29 (by decide) (fun c29_19 => ?_) (fun c29_19 => ?_)
          · skip
            exact absurd c29_19 (by decide)
          · skip
            refine lv_iload_n hx hb dX12_feed_32 rfl (lv_at hl 3 rfl) ?_
            refine lv_goto (tgt := 72) hx hb dX12_feed_33 (by decide) ?_
            refine lv_istore (lv' := [(7, .int p1), (6, .int (1 : Int32)), (0, .ref h0), (1, .int p1), (2, .int p2), (3, .int p3), (4, .int p4), (5, .int p5)]) hx hb dX12_feed_72 hl (by decide) rfl (fun ls hl => ?_)
            refine lv_aload_n hx hb dX12_feed_74 rfl (lv_at hl 2 rfl) ?_
            refine m_geta x L17 2 rfl rfl (wm_in uf_7) dX12_feed_75 ?_
            refine lv_aload_n hx hb dX12_feed_78 rfl (lv_at hl 2 rfl) ?_
            refine m_geti x L17 3 rfl rfl (wm_in uf_264) dX12_feed_79 (fun v20 ev20 wv20 => ?_)
            refine m_top (((mm_st eg17)).trans ev20.symm) ?_
            refine lv_iload hx hb dX12_feed_82 (lv_at hl 0 rfl) ?_
            refine lv_bipush (v := 24) hx hb dX12_feed_84 (by decide) ?_
            refine lv_bipush (v := 8) hx hb dX12_feed_86 (by decide) ?_
            refine lv_iload hx hb dX12_feed_88 (lv_at hl 1 rfl) ?_
            refine lv_iconst (v := 4) hx hb dX12_feed_90 (by decide) ?_
            refine lv_irem hx hb dX12_feed_91 (by decide) ?_
            refine lv_topi (fun v21 ev21 => ?_)
            have rv21 : rg (0) (3) v21 := (rg_rem ev21 kc_1 kc_4 rfl).1
            refine lv_imul hx hb dX12_feed_92 ?_
            refine lv_topi (fun v22 ev22 => ?_)
            have rv22 : rg (0) (24) v22 := (rg_mulL ev22 kc_8 rv21 rfl).1
            refine lv_isub hx hb dX12_feed_93 ?_
            refine lv_topi (fun v23 ev23 => ?_)
            have rv23 : rg (0) (24) v23 := (rg_sub ev23 kc_24 rv22 rfl).1
            refine lv_ishr hx hb dX12_feed_94 ?_
            refine lv_topi (fun v24 ev24 => ?_)
            have rv24 : rg (-2147483648) (2147483647) v24 := rg_any v24
            refine lv_sipush (v := 255) hx hb dX12_feed_95 (by decide) ?_
            refine lv_iand hx hb dX12_feed_98 ?_
            refine lv_topi (fun v25 ev25 => ?_)
            have rv25 : rg (0) (255) v25 := rg_and ev25 8 255 (by decide) rfl
            refine m_st x L17 2 rfl rv16 rfl (rj_2 (rg_any v25)) dX12_feed_99 (fun g26 H26 k26 eg26 L26 => ?_)
            refine lv_aload_n hx hb dX12_feed_100 rfl (lv_at hl 2 rfl) ?_
            refine lv_dup hx hb dX12_feed_101 rfl ?_
            refine m_geti x L26 3 rfl rfl (wm_in uf_264) dX12_feed_102 (fun v27 ev27 wv27 => ?_)
            refine m_top (((mm_up (mm_st eg17) eg26 rfl)).trans ev27.symm) ?_
            refine lv_iconst (v := 1) hx hb dX12_feed_105 (by decide) ?_
            refine lv_iadd hx hb dX12_feed_106 ?_
            refine lv_topi (fun v28 ev28 => ?_)
            have rv28 : rg (2) (182) v28 := (rg_add ev28 rv16 kc_1 rfl).1
            have dv28 := (rg_add ev28 rv16 kc_1 rfl).2
            refine m_puti x L26 3 rfl fi_3 (wm_in uf_264) dX12_feed_107 (rj_3 (rg_w rv28 rfl)) (fun g29 H29 k29 eg29 L29 => ?_)
            refine lv_iinc (v := (2 : Int32)) (lv' := [(6, .int (2 : Int32)), (7, .int p1), (0, .ref h0), (1, .int p1), (2, .int p2), (3, .int p3), (4, .int p4), (5, .int p5)]) hx hb dX12_feed_110 hl (k := 1) rfl (by decide) (by decide) rfl (fun ls hl => ?_)
            refine lv_goto (tgt := 19) hx hb dX12_feed_113 (by decide) ?_
            refine lv_iload hx hb dX12_feed_19 (lv_at hl 0 rfl) ?_
            refine lv_bipush (v := 20) hx hb dX12_feed_21 (by decide) ?_
            refine lv_icmp_ge (tgt := 116) hx hb dX12_feed_23 (by decide) (fun c23_30 => ?_) (fun c23_30 => ?_)
            · skip
              exact absurd c23_30 (by decide)
            · skip
              refine lv_iload hx hb dX12_feed_26 (lv_at hl 0 rfl) ?_
              refine lv_iconst (v := 4) hx hb dX12_feed_28 (by decide) ?_
              refine lv_icmp_ge (tgt := 36) hx hb dX12_feed_29 (by decide) (fun c29_31 => ?_) (fun c29_31 => ?_)
              · skip
                exact absurd c29_31 (by decide)
              · skip
                refine lv_iload_n hx hb dX12_feed_32 rfl (lv_at hl 3 rfl) ?_
                refine lv_goto (tgt := 72) hx hb dX12_feed_33 (by decide) ?_
                refine lv_istore (lv' := [(7, .int p1), (6, .int (2 : Int32)), (0, .ref h0), (1, .int p1), (2, .int p2), (3, .int p3), (4, .int p4), (5, .int p5)]) hx hb dX12_feed_72 hl (by decide) rfl (fun ls hl => ?_)
                refine lv_aload_n hx hb dX12_feed_74 rfl (lv_at hl 2 rfl) ?_
                refine m_geta x L29 2 rfl rfl (wm_in uf_7) dX12_feed_75 ?_
                refine lv_aload_n hx hb dX12_feed_78 rfl (lv_at hl 2 rfl) ?_
                refine m_geti x L29 3 rfl rfl (wm_in uf_264) dX12_feed_79 (fun v32 ev32 wv32 => ?_)
                refine m_top (((mm_st eg29)).trans ev32.symm) ?_
                refine lv_iload hx hb dX12_feed_82 (lv_at hl 0 rfl) ?_
                refine lv_bipush (v := 24) hx hb dX12_feed_84 (by decide) ?_
                refine lv_bipush (v := 8) hx hb dX12_feed_86 (by decide) ?_
                refine lv_iload hx hb dX12_feed_88 (lv_at hl 1 rfl) ?_
                refine lv_iconst (v := 4) hx hb dX12_feed_90 (by decide) ?_
                refine lv_irem hx hb dX12_feed_91 (by decide) ?_
                refine lv_topi (fun v33 ev33 => ?_)
                have rv33 : rg (0) (3) v33 := (rg_rem ev33 kc_2 kc_4 rfl).1
                refine lv_imul hx hb dX12_feed_92 ?_
                refine lv_topi (fun v34 ev34 => ?_)
                have rv34 : rg (0) (24) v34 := (rg_mulL ev34 kc_8 rv33 rfl).1
                refine lv_isub hx hb dX12_feed_93 ?_
                refine lv_topi (fun v35 ev35 => ?_)
                have rv35 : rg (0) (24) v35 := (rg_sub ev35 kc_24 rv34 rfl).1
                refine lv_ishr hx hb dX12_feed_94 ?_
                refine lv_topi (fun v36 ev36 => ?_)
                have rv36 : rg (-2147483648) (2147483647) v36 := rg_any v36
                refine lv_sipush (v := 255) hx hb dX12_feed_95 (by decide) ?_
                refine lv_iand hx hb dX12_feed_98 ?_
                refine lv_topi (fun v37 ev37 => ?_)
                have rv37 : rg (0) (255) v37 := rg_and ev37 8 255 (by decide) rfl
                refine m_st x L29 2 rfl rv28 rfl (rj_2 (rg_any v37)) dX12_feed_99 (fun g38 H38 k38 eg38 L38 => ?_)
                refine lv_aload_n hx hb dX12_feed_100 rfl (lv_at hl 2 rfl) ?_
                refine lv_dup hx hb dX12_feed_101 rfl ?_
                refine m_geti x L38 3 rfl rfl (wm_in uf_264) dX12_feed_102 (fun v39 ev39 wv39 => ?_)
                refine m_top (((mm_up (mm_st eg29) eg38 rfl)).trans ev39.symm) ?_
                refine lv_iconst (v := 1) hx hb dX12_feed_105 (by decide) ?_
                refine lv_iadd hx hb dX12_feed_106 ?_
                refine lv_topi (fun v40 ev40 => ?_)
                have rv40 : rg (3) (183) v40 := (rg_add ev40 rv28 kc_1 rfl).1
                have dv40 := (rg_add ev40 rv28 kc_1 rfl).2
                refine m_puti x L38 3 rfl fi_3 (wm_in uf_264) dX12_feed_107 (rj_3 (rg_w rv40 rfl)) (fun g41 H41 k41 eg41 L41 => ?_)
                refine lv_iinc (v := (3 : Int32)) (lv' := [(6, .int (3 : Int32)), (7, .int p1), (0, .ref h0), (1, .int p1), (2, .int p2), (3, .int p3), (4, .int p4), (5, .int p5)]) hx hb dX12_feed_110 hl (k := 1) rfl (by decide) (by decide) rfl (fun ls hl => ?_)
                refine lv_goto (tgt := 19) hx hb dX12_feed_113 (by decide) ?_
                refine lv_iload hx hb dX12_feed_19 (lv_at hl 0 rfl) ?_
                refine lv_bipush (v := 20) hx hb dX12_feed_21 (by decide) ?_
                refine lv_icmp_ge (tgt := 116) hx hb dX12_feed_23 (by decide) (fun c23_42 => ?_) (fun c23_42 => ?_)
                · skip
                  exact absurd c23_42 (by decide)
                · skip
                  refine lv_iload hx hb dX12_feed_26 (lv_at hl 0 rfl) ?_
                  refine lv_iconst (v := 4) hx hb dX12_feed_28 (by decide) ?_
                  refine lv_icmp_ge (tgt := 36) hx hb dX12_feed_29 (by decide) (fun c29_43 => ?_) (fun c29_43 => ?_)
                  · skip
                    exact absurd c29_43 (by decide)
                  · skip
                    refine lv_iload_n hx hb dX12_feed_32 rfl (lv_at hl 3 rfl) ?_
                    refine lv_goto (tgt := 72) hx hb dX12_feed_33 (by decide) ?_
                    refine lv_istore (lv' := [(7, .int p1), (6, .int (3 : Int32)), (0, .ref h0), (1, .int p1), (2, .int p2), (3, .int p3), (4, .int p4), (5, .int p5)]) hx hb dX12_feed_72 hl (by decide) rfl (fun ls hl => ?_)
                    refine lv_aload_n hx hb dX12_feed_74 rfl (lv_at hl 2 rfl) ?_
                    refine m_geta x L41 2 rfl rfl (wm_in uf_7) dX12_feed_75 ?_
                    refine lv_aload_n hx hb dX12_feed_78 rfl (lv_at hl 2 rfl) ?_
                    refine m_geti x L41 3 rfl rfl (wm_in uf_264) dX12_feed_79 (fun v44 ev44 wv44 => ?_)
                    refine m_top (((mm_st eg41)).trans ev44.symm) ?_
                    refine lv_iload hx hb dX12_feed_82 (lv_at hl 0 rfl) ?_
                    refine lv_bipush (v := 24) hx hb dX12_feed_84 (by decide) ?_
                    refine lv_bipush (v := 8) hx hb dX12_feed_86 (by decide) ?_
                    refine lv_iload hx hb dX12_feed_88 (lv_at hl 1 rfl) ?_
                    refine lv_iconst (v := 4) hx hb dX12_feed_90 (by decide) ?_
                    refine lv_irem hx hb dX12_feed_91 (by decide) ?_
                    refine lv_topi (fun v45 ev45 => ?_)
                    have rv45 : rg (0) (3) v45 := (rg_rem ev45 kc_3 kc_4 rfl).1
                    refine lv_imul hx hb dX12_feed_92 ?_
                    refine lv_topi (fun v46 ev46 => ?_)
                    have rv46 : rg (0) (24) v46 := (rg_mulL ev46 kc_8 rv45 rfl).1
                    refine lv_isub hx hb dX12_feed_93 ?_
                    refine lv_topi (fun v47 ev47 => ?_)
                    have rv47 : rg (0) (24) v47 := (rg_sub ev47 kc_24 rv46 rfl).1
                    refine lv_ishr hx hb dX12_feed_94 ?_
                    refine lv_topi (fun v48 ev48 => ?_)
                    have rv48 : rg (-2147483648) (2147483647) v48 := rg_any v48
                    refine lv_sipush (v := 255) hx hb dX12_feed_95 (by decide) ?_
                    refine lv_iand hx hb dX12_feed_98 ?_
                    refine lv_topi (fun v49 ev49 => ?_)
                    have rv49 : rg (0) (255) v49 := rg_and ev49 8 255 (by decide) rfl
                    refine m_st x L41 2 rfl rv40 rfl (rj_2 (rg_any v49)) dX12_feed_99 (fun g50 H50 k50 eg50 L50 => ?_)
                    refine lv_aload_n hx hb dX12_feed_100 rfl (lv_at hl 2 rfl) ?_
                    refine lv_dup hx hb dX12_feed_101 rfl ?_
                    refine m_geti x L50 3 rfl rfl (wm_in uf_264) dX12_feed_102 (fun v51 ev51 wv51 => ?_)
                    refine m_top (((mm_up (mm_st eg41) eg50 rfl)).trans ev51.symm) ?_
                    refine lv_iconst (v := 1) hx hb dX12_feed_105 (by decide) ?_
                    refine lv_iadd hx hb dX12_feed_106 ?_
                    refine lv_topi (fun v52 ev52 => ?_)
                    have rv52 : rg (4) (184) v52 := (rg_add ev52 rv40 kc_1 rfl).1
                    have dv52 := (rg_add ev52 rv40 kc_1 rfl).2
                    refine m_puti x L50 3 rfl fi_3 (wm_in uf_264) dX12_feed_107 (rj_3 (rg_w rv52 rfl)) (fun g53 H53 k53 eg53 L53 => ?_)
                    refine lv_iinc (v := (4 : Int32)) (lv' := [(6, .int (4 : Int32)), (7, .int p1), (0, .ref h0), (1, .int p1), (2, .int p2), (3, .int p3), (4, .int p4), (5, .int p5)]) hx hb dX12_feed_110 hl (k := 1) rfl (by decide) (by decide) rfl (fun ls hl => ?_)
                    refine lv_goto (tgt := 19) hx hb dX12_feed_113 (by decide) ?_
                    refine lv_iload hx hb dX12_feed_19 (lv_at hl 0 rfl) ?_
                    refine lv_bipush (v := 20) hx hb dX12_feed_21 (by decide) ?_
                    refine lv_icmp_ge (tgt := 116) hx hb dX12_feed_23 (by decide) (fun c23_54 => ?_) (fun c23_54 => ?_)
                    · skip
                      exact absurd c23_54 (by decide)
                    · skip
                      refine lv_iload hx hb dX12_feed_26 (lv_at hl 0 rfl) ?_
                      refine lv_iconst (v := 4) hx hb dX12_feed_28 (by decide) ?_
                      refine lv_icmp_ge (tgt := 36) hx hb dX12_feed_29 (by decide) (fun c29_55 => ?_) (fun c29_55 => ?_)
                      · skip
                        refine lv_iload hx hb dX12_feed_36 (lv_at hl 0 rfl) ?_
                        refine lv_bipush (v := 8) hx hb dX12_feed_38 (by decide) ?_
                        refine lv_icmp_ge (tgt := 47) hx hb dX12_feed_40 (by decide) (fun c40_56 => ?_) (fun c40_56 => ?_)
                        · skip
                          exact absurd c40_56 (by decide)
                        · skip
                          refine lv_iload_n hx hb dX12_feed_43 rfl (lv_at hl 4 rfl) ?_
                          refine lv_goto (tgt := 72) hx hb dX12_feed_44 (by decide) ?_
                          refine lv_istore (lv' := [(7, .int p2), (6, .int (4 : Int32)), (0, .ref h0), (1, .int p1), (2, .int p2), (3, .int p3), (4, .int p4), (5, .int p5)]) hx hb dX12_feed_72 hl (by decide) rfl (fun ls hl => ?_)
                          refine lv_aload_n hx hb dX12_feed_74 rfl (lv_at hl 2 rfl) ?_
                          refine m_geta x L53 2 rfl rfl (wm_in uf_7) dX12_feed_75 ?_
                          refine lv_aload_n hx hb dX12_feed_78 rfl (lv_at hl 2 rfl) ?_
                          refine m_geti x L53 3 rfl rfl (wm_in uf_264) dX12_feed_79 (fun v57 ev57 wv57 => ?_)
                          refine m_top (((mm_st eg53)).trans ev57.symm) ?_
                          refine lv_iload hx hb dX12_feed_82 (lv_at hl 0 rfl) ?_
                          refine lv_bipush (v := 24) hx hb dX12_feed_84 (by decide) ?_
                          refine lv_bipush (v := 8) hx hb dX12_feed_86 (by decide) ?_
                          refine lv_iload hx hb dX12_feed_88 (lv_at hl 1 rfl) ?_
                          refine lv_iconst (v := 4) hx hb dX12_feed_90 (by decide) ?_
                          refine lv_irem hx hb dX12_feed_91 (by decide) ?_
                          refine lv_topi (fun v58 ev58 => ?_)
                          have rv58 : rg (0) (3) v58 := (rg_rem ev58 kc_4 kc_4 rfl).1
                          refine lv_imul hx hb dX12_feed_92 ?_
                          refine lv_topi (fun v59 ev59 => ?_)
                          have rv59 : rg (0) (24) v59 := (rg_mulL ev59 kc_8 rv58 rfl).1
                          refine lv_isub hx hb dX12_feed_93 ?_
                          refine lv_topi (fun v60 ev60 => ?_)
                          have rv60 : rg (0) (24) v60 := (rg_sub ev60 kc_24 rv59 rfl).1
                          refine lv_ishr hx hb dX12_feed_94 ?_
                          refine lv_topi (fun v61 ev61 => ?_)
                          have rv61 : rg (-2147483648) (2147483647) v61 := rg_any v61
                          refine lv_sipush (v := 255) hx hb dX12_feed_95 (by decide) ?_
                          refine lv_iand hx hb dX12_feed_98 ?_
                          refine lv_topi (fun v62 ev62 => ?_)
                          have rv62 : rg (0) (255) v62 := rg_and ev62 8 255 (by decide) rfl
                          refine m_st x L53 2 rfl rv52 rfl (rj_2 (rg_any v62)) dX12_feed_99 (fun g63 H63 k63 eg63 L63 => ?_)
                          refine lv_aload_n hx hb dX12_feed_100 rfl (lv_at hl 2 rfl) ?_
                          refine lv_dup hx hb dX12_feed_101 rfl ?_
                          refine m_geti x L63 3 rfl rfl (wm_in uf_264) dX12_feed_102 (fun v64 ev64 wv64 => ?_)
                          refine m_top (((mm_up (mm_st eg53) eg63 rfl)).trans ev64.symm) ?_
                          refine lv_iconst (v := 1) hx hb dX12_feed_105 (by decide) ?_
                          refine lv_iadd hx hb dX12_feed_106 ?_
                          refine lv_topi (fun v65 ev65 => ?_)
                          have rv65 : rg (5) (185) v65 := (rg_add ev65 rv52 kc_1 rfl).1
                          have dv65 := (rg_add ev65 rv52 kc_1 rfl).2
                          refine m_puti x L63 3 rfl fi_3 (wm_in uf_264) dX12_feed_107 (rj_3 (rg_w rv65 rfl)) (fun g66 H66 k66 eg66 L66 => ?_)
                          refine lv_iinc (v := (5 : Int32)) (lv' := [(6, .int (5 : Int32)), (7, .int p2), (0, .ref h0), (1, .int p1), (2, .int p2), (3, .int p3), (4, .int p4), (5, .int p5)]) hx hb dX12_feed_110 hl (k := 1) rfl (by decide) (by decide) rfl (fun ls hl => ?_)
                          refine lv_goto (tgt := 19) hx hb dX12_feed_113 (by decide) ?_
                          refine lv_iload hx hb dX12_feed_19 (lv_at hl 0 rfl) ?_
                          refine lv_bipush (v := 20) hx hb dX12_feed_21 (by decide) ?_
                          refine lv_icmp_ge (tgt := 116) hx hb dX12_feed_23 (by decide) (fun c23_67 => ?_) (fun c23_67 => ?_)
                          · skip
                            exact absurd c23_67 (by decide)
                          · skip
                            refine lv_iload hx hb dX12_feed_26 (lv_at hl 0 rfl) ?_
                            refine lv_iconst (v := 4) hx hb dX12_feed_28 (by decide) ?_
                            refine lv_icmp_ge (tgt := 36) hx hb dX12_feed_29 (by decide) (fun c29_68 => ?_) (fun c29_68 => ?_)
                            · skip
                              refine lv_iload hx hb dX12_feed_36 (lv_at hl 0 rfl) ?_
                              refine lv_bipush (v := 8) hx hb dX12_feed_38 (by decide) ?_
                              refine lv_icmp_ge (tgt := 47) hx hb dX12_feed_40 (by decide) (fun c40_69 => ?_) (fun c40_69 => ?_)
                              · skip
                                exact absurd c40_69 (by decide)
                              · skip
                                refine lv_iload_n hx hb dX12_feed_43 rfl (lv_at hl 4 rfl) ?_
                                refine lv_goto (tgt := 72) hx hb dX12_feed_44 (by decide) ?_
                                refine lv_istore (lv' := [(7, .int p2), (6, .int (5 : Int32)), (0, .ref h0), (1, .int p1), (2, .int p2), (3, .int p3), (4, .int p4), (5, .int p5)]) hx hb dX12_feed_72 hl (by decide) rfl (fun ls hl => ?_)
                                refine lv_aload_n hx hb dX12_feed_74 rfl (lv_at hl 2 rfl) ?_
                                refine m_geta x L66 2 rfl rfl (wm_in uf_7) dX12_feed_75 ?_
                                refine lv_aload_n hx hb dX12_feed_78 rfl (lv_at hl 2 rfl) ?_
                                refine m_geti x L66 3 rfl rfl (wm_in uf_264) dX12_feed_79 (fun v70 ev70 wv70 => ?_)
                                refine m_top (((mm_st eg66)).trans ev70.symm) ?_
                                refine lv_iload hx hb dX12_feed_82 (lv_at hl 0 rfl) ?_
                                refine lv_bipush (v := 24) hx hb dX12_feed_84 (by decide) ?_
                                refine lv_bipush (v := 8) hx hb dX12_feed_86 (by decide) ?_
                                refine lv_iload hx hb dX12_feed_88 (lv_at hl 1 rfl) ?_
                                refine lv_iconst (v := 4) hx hb dX12_feed_90 (by decide) ?_
                                refine lv_irem hx hb dX12_feed_91 (by decide) ?_
                                refine lv_topi (fun v71 ev71 => ?_)
                                have rv71 : rg (0) (3) v71 := (rg_rem ev71 kc_5 kc_4 rfl).1
                                refine lv_imul hx hb dX12_feed_92 ?_
                                refine lv_topi (fun v72 ev72 => ?_)
                                have rv72 : rg (0) (24) v72 := (rg_mulL ev72 kc_8 rv71 rfl).1
                                refine lv_isub hx hb dX12_feed_93 ?_
                                refine lv_topi (fun v73 ev73 => ?_)
                                have rv73 : rg (0) (24) v73 := (rg_sub ev73 kc_24 rv72 rfl).1
                                refine lv_ishr hx hb dX12_feed_94 ?_
                                refine lv_topi (fun v74 ev74 => ?_)
                                have rv74 : rg (-2147483648) (2147483647) v74 := rg_any v74
                                refine lv_sipush (v := 255) hx hb dX12_feed_95 (by decide) ?_
                                refine lv_iand hx hb dX12_feed_98 ?_
                                refine lv_topi (fun v75 ev75 => ?_)
                                have rv75 : rg (0) (255) v75 := rg_and ev75 8 255 (by decide) rfl
                                refine m_st x L66 2 rfl rv65 rfl (rj_2 (rg_any v75)) dX12_feed_99 (fun g76 H76 k76 eg76 L76 => ?_)
                                refine lv_aload_n hx hb dX12_feed_100 rfl (lv_at hl 2 rfl) ?_
                                refine lv_dup hx hb dX12_feed_101 rfl ?_
                                refine m_geti x L76 3 rfl rfl (wm_in uf_264) dX12_feed_102 (fun v77 ev77 wv77 => ?_)
                                refine m_top (((mm_up (mm_st eg66) eg76 rfl)).trans ev77.symm) ?_
                                refine lv_iconst (v := 1) hx hb dX12_feed_105 (by decide) ?_
                                refine lv_iadd hx hb dX12_feed_106 ?_
                                refine lv_topi (fun v78 ev78 => ?_)
                                have rv78 : rg (6) (186) v78 := (rg_add ev78 rv65 kc_1 rfl).1
                                have dv78 := (rg_add ev78 rv65 kc_1 rfl).2
                                refine m_puti x L76 3 rfl fi_3 (wm_in uf_264) dX12_feed_107 (rj_3 (rg_w rv78 rfl)) (fun g79 H79 k79 eg79 L79 => ?_)
                                refine lv_iinc (v := (6 : Int32)) (lv' := [(6, .int (6 : Int32)), (7, .int p2), (0, .ref h0), (1, .int p1), (2, .int p2), (3, .int p3), (4, .int p4), (5, .int p5)]) hx hb dX12_feed_110 hl (k := 1) rfl (by decide) (by decide) rfl (fun ls hl => ?_)
                                refine lv_goto (tgt := 19) hx hb dX12_feed_113 (by decide) ?_
                                refine lv_iload hx hb dX12_feed_19 (lv_at hl 0 rfl) ?_
                                refine lv_bipush (v := 20) hx hb dX12_feed_21 (by decide) ?_
                                refine lv_icmp_ge (tgt := 116) hx hb dX12_feed_23 (by decide) (fun c23_80 => ?_) (fun c23_80 => ?_)
                                · skip
                                  exact absurd c23_80 (by decide)
                                · skip
                                  refine lv_iload hx hb dX12_feed_26 (lv_at hl 0 rfl) ?_
                                  refine lv_iconst (v := 4) hx hb dX12_feed_28 (by decide) ?_
                                  refine lv_icmp_ge (tgt := 36) hx hb dX12_feed_29 (by decide) (fun c29_81 => ?_) (fun c29_81 => ?_)
                                  · skip
                                    refine lv_iload hx hb dX12_feed_36 (lv_at hl 0 rfl) ?_
                                    refine lv_bipush (v := 8) hx hb dX12_feed_38 (by decide) ?_
                                    refine lv_icmp_ge (tgt := 47) hx hb dX12_feed_40 (by decide) (fun c40_82 => ?_) (fun c40_82 => ?_)
                                    · skip
                                      exact absurd c40_82 (by decide)
                                    · skip
                                      refine lv_iload_n hx hb dX12_feed_43 rfl (lv_at hl 4 rfl) ?_
                                      refine lv_goto (tgt := 72) hx hb dX12_feed_44 (by decide) ?_
                                      refine lv_istore (lv' := [(7, .int p2), (6, .int (6 : Int32)), (0, .ref h0), (1, .int p1), (2, .int p2), (3, .int p3), (4, .int p4), (5, .int p5)]) hx hb dX12_feed_72 hl (by decide) rfl (fun ls hl => ?_)
                                      refine lv_aload_n hx hb dX12_feed_74 rfl (lv_at hl 2 rfl) ?_
                                      refine m_geta x L79 2 rfl rfl (wm_in uf_7) dX12_feed_75 ?_
                                      refine lv_aload_n hx hb dX12_feed_78 rfl (lv_at hl 2 rfl) ?_
                                      refine m_geti x L79 3 rfl rfl (wm_in uf_264) dX12_feed_79 (fun v83 ev83 wv83 => ?_)
                                      refine m_top (((mm_st eg79)).trans ev83.symm) ?_
                                      refine lv_iload hx hb dX12_feed_82 (lv_at hl 0 rfl) ?_
                                      refine lv_bipush (v := 24) hx hb dX12_feed_84 (by decide) ?_
                                      refine lv_bipush (v := 8) hx hb dX12_feed_86 (by decide) ?_
                                      refine lv_iload hx hb dX12_feed_88 (lv_at hl 1 rfl) ?_
                                      refine lv_iconst (v := 4) hx hb dX12_feed_90 (by decide) ?_
                                      refine lv_irem hx hb dX12_feed_91 (by decide) ?_
                                      refine lv_topi (fun v84 ev84 => ?_)
                                      have rv84 : rg (0) (3) v84 := (rg_rem ev84 kc_6 kc_4 rfl).1
                                      refine lv_imul hx hb dX12_feed_92 ?_
                                      refine lv_topi (fun v85 ev85 => ?_)
                                      have rv85 : rg (0) (24) v85 := (rg_mulL ev85 kc_8 rv84 rfl).1
                                      refine lv_isub hx hb dX12_feed_93 ?_
                                      refine lv_topi (fun v86 ev86 => ?_)
                                      have rv86 : rg (0) (24) v86 := (rg_sub ev86 kc_24 rv85 rfl).1
                                      refine lv_ishr hx hb dX12_feed_94 ?_
                                      refine lv_topi (fun v87 ev87 => ?_)
                                      have rv87 : rg (-2147483648) (2147483647) v87 := rg_any v87
                                      refine lv_sipush (v := 255) hx hb dX12_feed_95 (by decide) ?_
                                      refine lv_iand hx hb dX12_feed_98 ?_
                                      refine lv_topi (fun v88 ev88 => ?_)
                                      have rv88 : rg (0) (255) v88 := rg_and ev88 8 255 (by decide) rfl
                                      refine m_st x L79 2 rfl rv78 rfl (rj_2 (rg_any v88)) dX12_feed_99 (fun g89 H89 k89 eg89 L89 => ?_)
                                      refine lv_aload_n hx hb dX12_feed_100 rfl (lv_at hl 2 rfl) ?_
                                      refine lv_dup hx hb dX12_feed_101 rfl ?_
                                      refine m_geti x L89 3 rfl rfl (wm_in uf_264) dX12_feed_102 (fun v90 ev90 wv90 => ?_)
                                      refine m_top (((mm_up (mm_st eg79) eg89 rfl)).trans ev90.symm) ?_
                                      refine lv_iconst (v := 1) hx hb dX12_feed_105 (by decide) ?_
                                      refine lv_iadd hx hb dX12_feed_106 ?_
                                      refine lv_topi (fun v91 ev91 => ?_)
                                      have rv91 : rg (7) (187) v91 := (rg_add ev91 rv78 kc_1 rfl).1
                                      have dv91 := (rg_add ev91 rv78 kc_1 rfl).2
                                      refine m_puti x L89 3 rfl fi_3 (wm_in uf_264) dX12_feed_107 (rj_3 (rg_w rv91 rfl)) (fun g92 H92 k92 eg92 L92 => ?_)
                                      refine lv_iinc (v := (7 : Int32)) (lv' := [(6, .int (7 : Int32)), (7, .int p2), (0, .ref h0), (1, .int p1), (2, .int p2), (3, .int p3), (4, .int p4), (5, .int p5)]) hx hb dX12_feed_110 hl (k := 1) rfl (by decide) (by decide) rfl (fun ls hl => ?_)
                                      refine lv_goto (tgt := 19) hx hb dX12_feed_113 (by decide) ?_
                                      refine lv_iload hx hb dX12_feed_19 (lv_at hl 0 rfl) ?_
                                      refine lv_bipush (v := 20) hx hb dX12_feed_21 (by decide) ?_
                                      refine lv_icmp_ge (tgt := 116) hx hb dX12_feed_23 (by decide) (fun c23_93 => ?_) (fun c23_93 => ?_)
                                      · skip
                                        exact absurd c23_93 (by decide)
                                      · skip
                                        refine lv_iload hx hb dX12_feed_26 (lv_at hl 0 rfl) ?_
                                        refine lv_iconst (v := 4) hx hb dX12_feed_28 (by decide) ?_
                                        refine lv_icmp_ge (tgt := 36) hx hb dX12_feed_29 (by decide) (fun c29_94 => ?_) (fun c29_94 => ?_)
                                        · skip
                                          refine lv_iload hx hb dX12_feed_36 (lv_at hl 0 rfl) ?_
                                          refine lv_bipush (v := 8) hx hb dX12_feed_38 (by decide) ?_
                                          refine lv_icmp_ge (tgt := 47) hx hb dX12_feed_40 (by decide) (fun c40_95 => ?_) (fun c40_95 => ?_)
                                          · skip
                                            exact absurd c40_95 (by decide)
                                          · skip
                                            refine lv_iload_n hx hb dX12_feed_43 rfl (lv_at hl 4 rfl) ?_
                                            refine lv_goto (tgt := 72) hx hb dX12_feed_44 (by decide) ?_
                                            refine lv_istore (lv' := [(7, .int p2), (6, .int (7 : Int32)), (0, .ref h0), (1, .int p1), (2, .int p2), (3, .int p3), (4, .int p4), (5, .int p5)]) hx hb dX12_feed_72 hl (by decide) rfl (fun ls hl => ?_)
                                            refine lv_aload_n hx hb dX12_feed_74 rfl (lv_at hl 2 rfl) ?_
                                            refine m_geta x L92 2 rfl rfl (wm_in uf_7) dX12_feed_75 ?_
                                            refine lv_aload_n hx hb dX12_feed_78 rfl (lv_at hl 2 rfl) ?_
                                            refine m_geti x L92 3 rfl rfl (wm_in uf_264) dX12_feed_79 (fun v96 ev96 wv96 => ?_)
                                            refine m_top (((mm_st eg92)).trans ev96.symm) ?_
                                            refine lv_iload hx hb dX12_feed_82 (lv_at hl 0 rfl) ?_
                                            refine lv_bipush (v := 24) hx hb dX12_feed_84 (by decide) ?_
                                            refine lv_bipush (v := 8) hx hb dX12_feed_86 (by decide) ?_
                                            refine lv_iload hx hb dX12_feed_88 (lv_at hl 1 rfl) ?_
                                            refine lv_iconst (v := 4) hx hb dX12_feed_90 (by decide) ?_
                                            refine lv_irem hx hb dX12_feed_91 (by decide) ?_
                                            refine lv_topi (fun v97 ev97 => ?_)
                                            have rv97 : rg (0) (3) v97 := (rg_rem ev97 kc_7 kc_4 rfl).1
                                            refine lv_imul hx hb dX12_feed_92 ?_
                                            refine lv_topi (fun v98 ev98 => ?_)
                                            have rv98 : rg (0) (24) v98 := (rg_mulL ev98 kc_8 rv97 rfl).1
                                            refine lv_isub hx hb dX12_feed_93 ?_
                                            refine lv_topi (fun v99 ev99 => ?_)
                                            have rv99 : rg (0) (24) v99 := (rg_sub ev99 kc_24 rv98 rfl).1
                                            refine lv_ishr hx hb dX12_feed_94 ?_
                                            refine lv_topi (fun v100 ev100 => ?_)
                                            have rv100 : rg (-2147483648) (2147483647) v100 := rg_any v100
                                            refine lv_sipush (v := 255) hx hb dX12_feed_95 (by decide) ?_
                                            refine lv_iand hx hb dX12_feed_98 ?_
                                            refine lv_topi (fun v101 ev101 => ?_)
                                            have rv101 : rg (0) (255) v101 := rg_and ev101 8 255 (by decide) rfl
                                            refine m_st x L92 2 rfl rv91 rfl (rj_2 (rg_any v101)) dX12_feed_99 (fun g102 H102 k102 eg102 L102 => ?_)
                                            refine lv_aload_n hx hb dX12_feed_100 rfl (lv_at hl 2 rfl) ?_
                                            refine lv_dup hx hb dX12_feed_101 rfl ?_
                                            refine m_geti x L102 3 rfl rfl (wm_in uf_264) dX12_feed_102 (fun v103 ev103 wv103 => ?_)
                                            refine m_top (((mm_up (mm_st eg92) eg102 rfl)).trans ev103.symm) ?_
                                            refine lv_iconst (v := 1) hx hb dX12_feed_105 (by decide) ?_
                                            refine lv_iadd hx hb dX12_feed_106 ?_
                                            refine lv_topi (fun v104 ev104 => ?_)
                                            have rv104 : rg (8) (188) v104 := (rg_add ev104 rv91 kc_1 rfl).1
                                            have dv104 := (rg_add ev104 rv91 kc_1 rfl).2
                                            refine m_puti x L102 3 rfl fi_3 (wm_in uf_264) dX12_feed_107 (rj_3 (rg_w rv104 rfl)) (fun g105 H105 k105 eg105 L105 => ?_)
                                            refine lv_iinc (v := (8 : Int32)) (lv' := [(6, .int (8 : Int32)), (7, .int p2), (0, .ref h0), (1, .int p1), (2, .int p2), (3, .int p3), (4, .int p4), (5, .int p5)]) hx hb dX12_feed_110 hl (k := 1) rfl (by decide) (by decide) rfl (fun ls hl => ?_)
                                            refine lv_goto (tgt := 19) hx hb dX12_feed_113 (by decide) ?_
                                            refine lv_iload hx hb dX12_feed_19 (lv_at hl 0 rfl) ?_
                                            refine lv_bipush (v := 20) hx hb dX12_feed_21 (by decide) ?_
                                            refine lv_icmp_ge (tgt := 116) hx hb dX12_feed_23 (by decide) (fun c23_106 => ?_) (fun c23_106 => ?_)
                                            · skip
                                              exact absurd c23_106 (by decide)
                                            · skip
                                              refine lv_iload hx hb dX12_feed_26 (lv_at hl 0 rfl) ?_
                                              refine lv_iconst (v := 4) hx hb dX12_feed_28 (by decide) ?_
                                              refine lv_icmp_ge (tgt := 36) hx hb dX12_feed_29 (by decide) (fun c29_107 => ?_) (fun c29_107 => ?_)
                                              · skip
                                                refine lv_iload hx hb dX12_feed_36 (lv_at hl 0 rfl) ?_
                                                refine lv_bipush (v := 8) hx hb dX12_feed_38 (by decide) ?_
                                                refine lv_icmp_ge (tgt := 47) hx hb dX12_feed_40 (by decide) (fun c40_108 => ?_) (fun c40_108 => ?_)
                                                · skip
                                                  refine lv_iload hx hb dX12_feed_47 (lv_at hl 0 rfl) ?_
                                                  refine lv_bipush (v := 12) hx hb dX12_feed_49 (by decide) ?_
                                                  refine lv_icmp_ge (tgt := 58) hx hb dX12_feed_51 (by decide) (fun c51_109 => ?_) (fun c51_109 => ?_)
                                                  · skip
                                                    exact absurd c51_109 (by decide)
                                                  · skip
                                                    refine lv_iload_n hx hb dX12_feed_54 rfl (lv_at hl 5 rfl) ?_
                                                    refine lv_goto (tgt := 72) hx hb dX12_feed_55 (by decide) ?_
                                                    refine lv_istore (lv' := [(7, .int p3), (6, .int (8 : Int32)), (0, .ref h0), (1, .int p1), (2, .int p2), (3, .int p3), (4, .int p4), (5, .int p5)]) hx hb dX12_feed_72 hl (by decide) rfl (fun ls hl => ?_)
                                                    refine lv_aload_n hx hb dX12_feed_74 rfl (lv_at hl 2 rfl) ?_
                                                    refine m_geta x L105 2 rfl rfl (wm_in uf_7) dX12_feed_75 ?_
                                                    refine lv_aload_n hx hb dX12_feed_78 rfl (lv_at hl 2 rfl) ?_
                                                    refine m_geti x L105 3 rfl rfl (wm_in uf_264) dX12_feed_79 (fun v110 ev110 wv110 => ?_)
                                                    refine m_top (((mm_st eg105)).trans ev110.symm) ?_
                                                    refine lv_iload hx hb dX12_feed_82 (lv_at hl 0 rfl) ?_
                                                    refine lv_bipush (v := 24) hx hb dX12_feed_84 (by decide) ?_
                                                    refine lv_bipush (v := 8) hx hb dX12_feed_86 (by decide) ?_
                                                    refine lv_iload hx hb dX12_feed_88 (lv_at hl 1 rfl) ?_
                                                    refine lv_iconst (v := 4) hx hb dX12_feed_90 (by decide) ?_
                                                    refine lv_irem hx hb dX12_feed_91 (by decide) ?_
                                                    refine lv_topi (fun v111 ev111 => ?_)
                                                    have rv111 : rg (0) (3) v111 := (rg_rem ev111 kc_8 kc_4 rfl).1
                                                    refine lv_imul hx hb dX12_feed_92 ?_
                                                    refine lv_topi (fun v112 ev112 => ?_)
                                                    have rv112 : rg (0) (24) v112 := (rg_mulL ev112 kc_8 rv111 rfl).1
                                                    refine lv_isub hx hb dX12_feed_93 ?_
                                                    refine lv_topi (fun v113 ev113 => ?_)
                                                    have rv113 : rg (0) (24) v113 := (rg_sub ev113 kc_24 rv112 rfl).1
                                                    refine lv_ishr hx hb dX12_feed_94 ?_
                                                    refine lv_topi (fun v114 ev114 => ?_)
                                                    have rv114 : rg (-2147483648) (2147483647) v114 := rg_any v114
                                                    refine lv_sipush (v := 255) hx hb dX12_feed_95 (by decide) ?_
                                                    refine lv_iand hx hb dX12_feed_98 ?_
                                                    refine lv_topi (fun v115 ev115 => ?_)
                                                    have rv115 : rg (0) (255) v115 := rg_and ev115 8 255 (by decide) rfl
                                                    refine m_st x L105 2 rfl rv104 rfl (rj_2 (rg_any v115)) dX12_feed_99 (fun g116 H116 k116 eg116 L116 => ?_)
                                                    refine lv_aload_n hx hb dX12_feed_100 rfl (lv_at hl 2 rfl) ?_
                                                    refine lv_dup hx hb dX12_feed_101 rfl ?_
                                                    refine m_geti x L116 3 rfl rfl (wm_in uf_264) dX12_feed_102 (fun v117 ev117 wv117 => ?_)
                                                    refine m_top (((mm_up (mm_st eg105) eg116 rfl)).trans ev117.symm) ?_
                                                    refine lv_iconst (v := 1) hx hb dX12_feed_105 (by decide) ?_
                                                    refine lv_iadd hx hb dX12_feed_106 ?_
                                                    refine lv_topi (fun v118 ev118 => ?_)
                                                    have rv118 : rg (9) (189) v118 := (rg_add ev118 rv104 kc_1 rfl).1
                                                    have dv118 := (rg_add ev118 rv104 kc_1 rfl).2
                                                    refine m_puti x L116 3 rfl fi_3 (wm_in uf_264) dX12_feed_107 (rj_3 (rg_w rv118 rfl)) (fun g119 H119 k119 eg119 L119 => ?_)
                                                    refine lv_iinc (v := (9 : Int32)) (lv' := [(6, .int (9 : Int32)), (7, .int p3), (0, .ref h0), (1, .int p1), (2, .int p2), (3, .int p3), (4, .int p4), (5, .int p5)]) hx hb dX12_feed_110 hl (k := 1) rfl (by decide) (by decide) rfl (fun ls hl => ?_)
                                                    refine lv_goto (tgt := 19) hx hb dX12_feed_113 (by decide) ?_
                                                    refine lv_iload hx hb dX12_feed_19 (lv_at hl 0 rfl) ?_
                                                    refine lv_bipush (v := 20) hx hb dX12_feed_21 (by decide) ?_
                                                    refine lv_icmp_ge (tgt := 116) hx hb dX12_feed_23 (by decide) (fun c23_120 => ?_) (fun c23_120 => ?_)
                                                    · skip
                                                      exact absurd c23_120 (by decide)
                                                    · skip
                                                      refine lv_iload hx hb dX12_feed_26 (lv_at hl 0 rfl) ?_
                                                      refine lv_iconst (v := 4) hx hb dX12_feed_28 (by decide) ?_
                                                      refine lv_icmp_ge (tgt := 36) hx hb dX12_feed_29 (by decide) (fun c29_121 => ?_) (fun c29_121 => ?_)
                                                      · skip
                                                        refine lv_iload hx hb dX12_feed_36 (lv_at hl 0 rfl) ?_
                                                        refine lv_bipush (v := 8) hx hb dX12_feed_38 (by decide) ?_
                                                        refine lv_icmp_ge (tgt := 47) hx hb dX12_feed_40 (by decide) (fun c40_122 => ?_) (fun c40_122 => ?_)
                                                        · skip
                                                          refine lv_iload hx hb dX12_feed_47 (lv_at hl 0 rfl) ?_
                                                          refine lv_bipush (v := 12) hx hb dX12_feed_49 (by decide) ?_
                                                          refine lv_icmp_ge (tgt := 58) hx hb dX12_feed_51 (by decide) (fun c51_123 => ?_) (fun c51_123 => ?_)
                                                          · skip
                                                            exact absurd c51_123 (by decide)
                                                          · skip
                                                            refine lv_iload_n hx hb dX12_feed_54 rfl (lv_at hl 5 rfl) ?_
                                                            refine lv_goto (tgt := 72) hx hb dX12_feed_55 (by decide) ?_
                                                            refine lv_istore (lv' := [(7, .int p3), (6, .int (9 : Int32)), (0, .ref h0), (1, .int p1), (2, .int p2), (3, .int p3), (4, .int p4), (5, .int p5)]) hx hb dX12_feed_72 hl (by decide) rfl (fun ls hl => ?_)
                                                            refine lv_aload_n hx hb dX12_feed_74 rfl (lv_at hl 2 rfl) ?_
                                                            refine m_geta x L119 2 rfl rfl (wm_in uf_7) dX12_feed_75 ?_
                                                            refine lv_aload_n hx hb dX12_feed_78 rfl (lv_at hl 2 rfl) ?_
                                                            refine m_geti x L119 3 rfl rfl (wm_in uf_264) dX12_feed_79 (fun v124 ev124 wv124 => ?_)
                                                            refine m_top (((mm_st eg119)).trans ev124.symm) ?_
                                                            refine lv_iload hx hb dX12_feed_82 (lv_at hl 0 rfl) ?_
                                                            refine lv_bipush (v := 24) hx hb dX12_feed_84 (by decide) ?_
                                                            refine lv_bipush (v := 8) hx hb dX12_feed_86 (by decide) ?_
                                                            refine lv_iload hx hb dX12_feed_88 (lv_at hl 1 rfl) ?_
                                                            refine lv_iconst (v := 4) hx hb dX12_feed_90 (by decide) ?_
                                                            refine lv_irem hx hb dX12_feed_91 (by decide) ?_
                                                            refine lv_topi (fun v125 ev125 => ?_)
                                                            have rv125 : rg (0) (3) v125 := (rg_rem ev125 kc_9 kc_4 rfl).1
                                                            refine lv_imul hx hb dX12_feed_92 ?_
                                                            refine lv_topi (fun v126 ev126 => ?_)
                                                            have rv126 : rg (0) (24) v126 := (rg_mulL ev126 kc_8 rv125 rfl).1
                                                            refine lv_isub hx hb dX12_feed_93 ?_
                                                            refine lv_topi (fun v127 ev127 => ?_)
                                                            have rv127 : rg (0) (24) v127 := (rg_sub ev127 kc_24 rv126 rfl).1
                                                            refine lv_ishr hx hb dX12_feed_94 ?_
                                                            refine lv_topi (fun v128 ev128 => ?_)
                                                            have rv128 : rg (-2147483648) (2147483647) v128 := rg_any v128
                                                            refine lv_sipush (v := 255) hx hb dX12_feed_95 (by decide) ?_
                                                            refine lv_iand hx hb dX12_feed_98 ?_
                                                            refine lv_topi (fun v129 ev129 => ?_)
                                                            have rv129 : rg (0) (255) v129 := rg_and ev129 8 255 (by decide) rfl
                                                            refine m_st x L119 2 rfl rv118 rfl (rj_2 (rg_any v129)) dX12_feed_99 (fun g130 H130 k130 eg130 L130 => ?_)
                                                            refine lv_aload_n hx hb dX12_feed_100 rfl (lv_at hl 2 rfl) ?_
                                                            refine lv_dup hx hb dX12_feed_101 rfl ?_
                                                            refine m_geti x L130 3 rfl rfl (wm_in uf_264) dX12_feed_102 (fun v131 ev131 wv131 => ?_)
                                                            refine m_top (((mm_up (mm_st eg119) eg130 rfl)).trans ev131.symm) ?_
                                                            refine lv_iconst (v := 1) hx hb dX12_feed_105 (by decide) ?_
                                                            refine lv_iadd hx hb dX12_feed_106 ?_
                                                            refine lv_topi (fun v132 ev132 => ?_)
                                                            have rv132 : rg (10) (190) v132 := (rg_add ev132 rv118 kc_1 rfl).1
                                                            have dv132 := (rg_add ev132 rv118 kc_1 rfl).2
                                                            refine m_puti x L130 3 rfl fi_3 (wm_in uf_264) dX12_feed_107 (rj_3 (rg_w rv132 rfl)) (fun g133 H133 k133 eg133 L133 => ?_)
                                                            refine lv_iinc (v := (10 : Int32)) (lv' := [(6, .int (10 : Int32)), (7, .int p3), (0, .ref h0), (1, .int p1), (2, .int p2), (3, .int p3), (4, .int p4), (5, .int p5)]) hx hb dX12_feed_110 hl (k := 1) rfl (by decide) (by decide) rfl (fun ls hl => ?_)
                                                            refine lv_goto (tgt := 19) hx hb dX12_feed_113 (by decide) ?_
                                                            refine lv_iload hx hb dX12_feed_19 (lv_at hl 0 rfl) ?_
                                                            refine lv_bipush (v := 20) hx hb dX12_feed_21 (by decide) ?_
                                                            refine lv_icmp_ge (tgt := 116) hx hb dX12_feed_23 (by decide) (fun c23_134 => ?_) (fun c23_134 => ?_)
                                                            · skip
                                                              exact absurd c23_134 (by decide)
                                                            · skip
                                                              refine lv_iload hx hb dX12_feed_26 (lv_at hl 0 rfl) ?_
                                                              refine lv_iconst (v := 4) hx hb dX12_feed_28 (by decide) ?_
                                                              refine lv_icmp_ge (tgt := 36) hx hb dX12_feed_29 (by decide) (fun c29_135 => ?_) (fun c29_135 => ?_)
                                                              · skip
                                                                refine lv_iload hx hb dX12_feed_36 (lv_at hl 0 rfl) ?_
                                                                refine lv_bipush (v := 8) hx hb dX12_feed_38 (by decide) ?_
                                                                refine lv_icmp_ge (tgt := 47) hx hb dX12_feed_40 (by decide) (fun c40_136 => ?_) (fun c40_136 => ?_)
                                                                · skip
                                                                  refine lv_iload hx hb dX12_feed_47 (lv_at hl 0 rfl) ?_
                                                                  refine lv_bipush (v := 12) hx hb dX12_feed_49 (by decide) ?_
                                                                  refine lv_icmp_ge (tgt := 58) hx hb dX12_feed_51 (by decide) (fun c51_137 => ?_) (fun c51_137 => ?_)
                                                                  · skip
                                                                    exact absurd c51_137 (by decide)
                                                                  · skip
                                                                    refine lv_iload_n hx hb dX12_feed_54 rfl (lv_at hl 5 rfl) ?_
                                                                    refine lv_goto (tgt := 72) hx hb dX12_feed_55 (by decide) ?_
                                                                    refine lv_istore (lv' := [(7, .int p3), (6, .int (10 : Int32)), (0, .ref h0), (1, .int p1), (2, .int p2), (3, .int p3), (4, .int p4), (5, .int p5)]) hx hb dX12_feed_72 hl (by decide) rfl (fun ls hl => ?_)
                                                                    refine lv_aload_n hx hb dX12_feed_74 rfl (lv_at hl 2 rfl) ?_
                                                                    refine m_geta x L133 2 rfl rfl (wm_in uf_7) dX12_feed_75 ?_
                                                                    refine lv_aload_n hx hb dX12_feed_78 rfl (lv_at hl 2 rfl) ?_
                                                                    refine m_geti x L133 3 rfl rfl (wm_in uf_264) dX12_feed_79 (fun v138 ev138 wv138 => ?_)
                                                                    refine m_top (((mm_st eg133)).trans ev138.symm) ?_
                                                                    refine lv_iload hx hb dX12_feed_82 (lv_at hl 0 rfl) ?_
                                                                    refine lv_bipush (v := 24) hx hb dX12_feed_84 (by decide) ?_
                                                                    refine lv_bipush (v := 8) hx hb dX12_feed_86 (by decide) ?_
                                                                    refine lv_iload hx hb dX12_feed_88 (lv_at hl 1 rfl) ?_
                                                                    refine lv_iconst (v := 4) hx hb dX12_feed_90 (by decide) ?_
                                                                    refine lv_irem hx hb dX12_feed_91 (by decide) ?_
                                                                    refine lv_topi (fun v139 ev139 => ?_)
                                                                    have rv139 : rg (0) (3) v139 := (rg_rem ev139 kc_10 kc_4 rfl).1
                                                                    refine lv_imul hx hb dX12_feed_92 ?_
                                                                    refine lv_topi (fun v140 ev140 => ?_)
                                                                    have rv140 : rg (0) (24) v140 := (rg_mulL ev140 kc_8 rv139 rfl).1
                                                                    refine lv_isub hx hb dX12_feed_93 ?_
                                                                    refine lv_topi (fun v141 ev141 => ?_)
                                                                    have rv141 : rg (0) (24) v141 := (rg_sub ev141 kc_24 rv140 rfl).1
                                                                    refine lv_ishr hx hb dX12_feed_94 ?_
                                                                    refine lv_topi (fun v142 ev142 => ?_)
                                                                    have rv142 : rg (-2147483648) (2147483647) v142 := rg_any v142
                                                                    refine lv_sipush (v := 255) hx hb dX12_feed_95 (by decide) ?_
                                                                    refine lv_iand hx hb dX12_feed_98 ?_
                                                                    refine lv_topi (fun v143 ev143 => ?_)
                                                                    have rv143 : rg (0) (255) v143 := rg_and ev143 8 255 (by decide) rfl
                                                                    refine m_st x L133 2 rfl rv132 rfl (rj_2 (rg_any v143)) dX12_feed_99 (fun g144 H144 k144 eg144 L144 => ?_)
                                                                    refine lv_aload_n hx hb dX12_feed_100 rfl (lv_at hl 2 rfl) ?_
                                                                    refine lv_dup hx hb dX12_feed_101 rfl ?_
                                                                    refine m_geti x L144 3 rfl rfl (wm_in uf_264) dX12_feed_102 (fun v145 ev145 wv145 => ?_)
                                                                    refine m_top (((mm_up (mm_st eg133) eg144 rfl)).trans ev145.symm) ?_
                                                                    refine lv_iconst (v := 1) hx hb dX12_feed_105 (by decide) ?_
                                                                    refine lv_iadd hx hb dX12_feed_106 ?_
                                                                    refine lv_topi (fun v146 ev146 => ?_)
                                                                    have rv146 : rg (11) (191) v146 := (rg_add ev146 rv132 kc_1 rfl).1
                                                                    have dv146 := (rg_add ev146 rv132 kc_1 rfl).2
                                                                    refine m_puti x L144 3 rfl fi_3 (wm_in uf_264) dX12_feed_107 (rj_3 (rg_w rv146 rfl)) (fun g147 H147 k147 eg147 L147 => ?_)
                                                                    refine lv_iinc (v := (11 : Int32)) (lv' := [(6, .int (11 : Int32)), (7, .int p3), (0, .ref h0), (1, .int p1), (2, .int p2), (3, .int p3), (4, .int p4), (5, .int p5)]) hx hb dX12_feed_110 hl (k := 1) rfl (by decide) (by decide) rfl (fun ls hl => ?_)
                                                                    refine lv_goto (tgt := 19) hx hb dX12_feed_113 (by decide) ?_
                                                                    refine lv_iload hx hb dX12_feed_19 (lv_at hl 0 rfl) ?_
                                                                    refine lv_bipush (v := 20) hx hb dX12_feed_21 (by decide) ?_
                                                                    refine lv_icmp_ge (tgt := 116) hx hb dX12_feed_23 (by decide) (fun c23_148 => ?_) (fun c23_148 => ?_)
                                                                    · skip
                                                                      exact absurd c23_148 (by decide)
                                                                    · skip
                                                                      refine lv_iload hx hb dX12_feed_26 (lv_at hl 0 rfl) ?_
                                                                      refine lv_iconst (v := 4) hx hb dX12_feed_28 (by decide) ?_
                                                                      refine lv_icmp_ge (tgt := 36) hx hb dX12_feed_29 (by decide) (fun c29_149 => ?_) (fun c29_149 => ?_)
                                                                      · skip
                                                                        refine lv_iload hx hb dX12_feed_36 (lv_at hl 0 rfl) ?_
                                                                        refine lv_bipush (v := 8) hx hb dX12_feed_38 (by decide) ?_
                                                                        refine lv_icmp_ge (tgt := 47) hx hb dX12_feed_40 (by decide) (fun c40_150 => ?_) (fun c40_150 => ?_)
                                                                        · skip
                                                                          refine lv_iload hx hb dX12_feed_47 (lv_at hl 0 rfl) ?_
                                                                          refine lv_bipush (v := 12) hx hb dX12_feed_49 (by decide) ?_
                                                                          refine lv_icmp_ge (tgt := 58) hx hb dX12_feed_51 (by decide) (fun c51_151 => ?_) (fun c51_151 => ?_)
                                                                          · skip
                                                                            exact absurd c51_151 (by decide)
                                                                          · skip
                                                                            refine lv_iload_n hx hb dX12_feed_54 rfl (lv_at hl 5 rfl) ?_
                                                                            refine lv_goto (tgt := 72) hx hb dX12_feed_55 (by decide) ?_
                                                                            refine lv_istore (lv' := [(7, .int p3), (6, .int (11 : Int32)), (0, .ref h0), (1, .int p1), (2, .int p2), (3, .int p3), (4, .int p4), (5, .int p5)]) hx hb dX12_feed_72 hl (by decide) rfl (fun ls hl => ?_)
                                                                            refine lv_aload_n hx hb dX12_feed_74 rfl (lv_at hl 2 rfl) ?_
                                                                            refine m_geta x L147 2 rfl rfl (wm_in uf_7) dX12_feed_75 ?_
                                                                            refine lv_aload_n hx hb dX12_feed_78 rfl (lv_at hl 2 rfl) ?_
                                                                            refine m_geti x L147 3 rfl rfl (wm_in uf_264) dX12_feed_79 (fun v152 ev152 wv152 => ?_)
                                                                            refine m_top (((mm_st eg147)).trans ev152.symm) ?_
                                                                            refine lv_iload hx hb dX12_feed_82 (lv_at hl 0 rfl) ?_
                                                                            refine lv_bipush (v := 24) hx hb dX12_feed_84 (by decide) ?_
                                                                            refine lv_bipush (v := 8) hx hb dX12_feed_86 (by decide) ?_
                                                                            refine lv_iload hx hb dX12_feed_88 (lv_at hl 1 rfl) ?_
                                                                            refine lv_iconst (v := 4) hx hb dX12_feed_90 (by decide) ?_
                                                                            refine lv_irem hx hb dX12_feed_91 (by decide) ?_
                                                                            refine lv_topi (fun v153 ev153 => ?_)
                                                                            have rv153 : rg (0) (3) v153 := (rg_rem ev153 kc_11 kc_4 rfl).1
                                                                            refine lv_imul hx hb dX12_feed_92 ?_
                                                                            refine lv_topi (fun v154 ev154 => ?_)
                                                                            have rv154 : rg (0) (24) v154 := (rg_mulL ev154 kc_8 rv153 rfl).1
                                                                            refine lv_isub hx hb dX12_feed_93 ?_
                                                                            refine lv_topi (fun v155 ev155 => ?_)
                                                                            have rv155 : rg (0) (24) v155 := (rg_sub ev155 kc_24 rv154 rfl).1
                                                                            refine lv_ishr hx hb dX12_feed_94 ?_
                                                                            refine lv_topi (fun v156 ev156 => ?_)
                                                                            have rv156 : rg (-2147483648) (2147483647) v156 := rg_any v156
                                                                            refine lv_sipush (v := 255) hx hb dX12_feed_95 (by decide) ?_
                                                                            refine lv_iand hx hb dX12_feed_98 ?_
                                                                            refine lv_topi (fun v157 ev157 => ?_)
                                                                            have rv157 : rg (0) (255) v157 := rg_and ev157 8 255 (by decide) rfl
                                                                            refine m_st x L147 2 rfl rv146 rfl (rj_2 (rg_any v157)) dX12_feed_99 (fun g158 H158 k158 eg158 L158 => ?_)
                                                                            refine lv_aload_n hx hb dX12_feed_100 rfl (lv_at hl 2 rfl) ?_
                                                                            refine lv_dup hx hb dX12_feed_101 rfl ?_
                                                                            refine m_geti x L158 3 rfl rfl (wm_in uf_264) dX12_feed_102 (fun v159 ev159 wv159 => ?_)
                                                                            refine m_top (((mm_up (mm_st eg147) eg158 rfl)).trans ev159.symm) ?_
                                                                            refine lv_iconst (v := 1) hx hb dX12_feed_105 (by decide) ?_
                                                                            refine lv_iadd hx hb dX12_feed_106 ?_
                                                                            refine lv_topi (fun v160 ev160 => ?_)
                                                                            have rv160 : rg (12) (192) v160 := (rg_add ev160 rv146 kc_1 rfl).1
                                                                            have dv160 := (rg_add ev160 rv146 kc_1 rfl).2
                                                                            refine m_puti x L158 3 rfl fi_3 (wm_in uf_264) dX12_feed_107 (rj_3 (rg_w rv160 rfl)) (fun g161 H161 k161 eg161 L161 => ?_)
                                                                            refine lv_iinc (v := (12 : Int32)) (lv' := [(6, .int (12 : Int32)), (7, .int p3), (0, .ref h0), (1, .int p1), (2, .int p2), (3, .int p3), (4, .int p4), (5, .int p5)]) hx hb dX12_feed_110 hl (k := 1) rfl (by decide) (by decide) rfl (fun ls hl => ?_)
                                                                            refine lv_goto (tgt := 19) hx hb dX12_feed_113 (by decide) ?_
                                                                            refine lv_iload hx hb dX12_feed_19 (lv_at hl 0 rfl) ?_
                                                                            refine lv_bipush (v := 20) hx hb dX12_feed_21 (by decide) ?_
                                                                            refine lv_icmp_ge (tgt := 116) hx hb dX12_feed_23 (by decide) (fun c23_162 => ?_) (fun c23_162 => ?_)
                                                                            · skip
                                                                              exact absurd c23_162 (by decide)
                                                                            · skip
                                                                              refine lv_iload hx hb dX12_feed_26 (lv_at hl 0 rfl) ?_
                                                                              refine lv_iconst (v := 4) hx hb dX12_feed_28 (by decide) ?_
                                                                              refine lv_icmp_ge (tgt := 36) hx hb dX12_feed_29 (by decide) (fun c29_163 => ?_) (fun c29_163 => ?_)
                                                                              · skip
                                                                                refine lv_iload hx hb dX12_feed_36 (lv_at hl 0 rfl) ?_
                                                                                refine lv_bipush (v := 8) hx hb dX12_feed_38 (by decide) ?_
                                                                                refine lv_icmp_ge (tgt := 47) hx hb dX12_feed_40 (by decide) (fun c40_164 => ?_) (fun c40_164 => ?_)
                                                                                · skip
                                                                                  refine lv_iload hx hb dX12_feed_47 (lv_at hl 0 rfl) ?_
                                                                                  refine lv_bipush (v := 12) hx hb dX12_feed_49 (by decide) ?_
                                                                                  refine lv_icmp_ge (tgt := 58) hx hb dX12_feed_51 (by decide) (fun c51_165 => ?_) (fun c51_165 => ?_)
                                                                                  · skip
                                                                                    refine lv_iload hx hb dX12_feed_58 (lv_at hl 0 rfl) ?_
                                                                                    refine lv_bipush (v := 16) hx hb dX12_feed_60 (by decide) ?_
                                                                                    refine lv_icmp_ge (tgt := 70) hx hb dX12_feed_62 (by decide) (fun c62_166 => ?_) (fun c62_166 => ?_)
                                                                                    · skip
                                                                                      exact absurd c62_166 (by decide)
                                                                                    · skip
                                                                                      refine lv_iload hx hb dX12_feed_65 (lv_at hl 6 rfl) ?_
                                                                                      refine lv_goto (tgt := 72) hx hb dX12_feed_67 (by decide) ?_
                                                                                      refine lv_istore (lv' := [(7, .int p4), (6, .int (12 : Int32)), (0, .ref h0), (1, .int p1), (2, .int p2), (3, .int p3), (4, .int p4), (5, .int p5)]) hx hb dX12_feed_72 hl (by decide) rfl (fun ls hl => ?_)
                                                                                      refine lv_aload_n hx hb dX12_feed_74 rfl (lv_at hl 2 rfl) ?_
                                                                                      refine m_geta x L161 2 rfl rfl (wm_in uf_7) dX12_feed_75 ?_
                                                                                      refine lv_aload_n hx hb dX12_feed_78 rfl (lv_at hl 2 rfl) ?_
                                                                                      refine m_geti x L161 3 rfl rfl (wm_in uf_264) dX12_feed_79 (fun v167 ev167 wv167 => ?_)
                                                                                      refine m_top (((mm_st eg161)).trans ev167.symm) ?_
                                                                                      refine lv_iload hx hb dX12_feed_82 (lv_at hl 0 rfl) ?_
                                                                                      refine lv_bipush (v := 24) hx hb dX12_feed_84 (by decide) ?_
                                                                                      refine lv_bipush (v := 8) hx hb dX12_feed_86 (by decide) ?_
                                                                                      refine lv_iload hx hb dX12_feed_88 (lv_at hl 1 rfl) ?_
                                                                                      refine lv_iconst (v := 4) hx hb dX12_feed_90 (by decide) ?_
                                                                                      refine lv_irem hx hb dX12_feed_91 (by decide) ?_
                                                                                      refine lv_topi (fun v168 ev168 => ?_)
                                                                                      have rv168 : rg (0) (3) v168 := (rg_rem ev168 kc_12 kc_4 rfl).1
                                                                                      refine lv_imul hx hb dX12_feed_92 ?_
                                                                                      refine lv_topi (fun v169 ev169 => ?_)
                                                                                      have rv169 : rg (0) (24) v169 := (rg_mulL ev169 kc_8 rv168 rfl).1
                                                                                      refine lv_isub hx hb dX12_feed_93 ?_
                                                                                      refine lv_topi (fun v170 ev170 => ?_)
                                                                                      have rv170 : rg (0) (24) v170 := (rg_sub ev170 kc_24 rv169 rfl).1
                                                                                      refine lv_ishr hx hb dX12_feed_94 ?_
                                                                                      refine lv_topi (fun v171 ev171 => ?_)
                                                                                      have rv171 : rg (-2147483648) (2147483647) v171 := rg_any v171
                                                                                      refine lv_sipush (v := 255) hx hb dX12_feed_95 (by decide) ?_
                                                                                      refine lv_iand hx hb dX12_feed_98 ?_
                                                                                      refine lv_topi (fun v172 ev172 => ?_)
                                                                                      have rv172 : rg (0) (255) v172 := rg_and ev172 8 255 (by decide) rfl
                                                                                      refine m_st x L161 2 rfl rv160 rfl (rj_2 (rg_any v172)) dX12_feed_99 (fun g173 H173 k173 eg173 L173 => ?_)
                                                                                      refine lv_aload_n hx hb dX12_feed_100 rfl (lv_at hl 2 rfl) ?_
                                                                                      refine lv_dup hx hb dX12_feed_101 rfl ?_
                                                                                      refine m_geti x L173 3 rfl rfl (wm_in uf_264) dX12_feed_102 (fun v174 ev174 wv174 => ?_)
                                                                                      refine m_top (((mm_up (mm_st eg161) eg173 rfl)).trans ev174.symm) ?_
                                                                                      refine lv_iconst (v := 1) hx hb dX12_feed_105 (by decide) ?_
                                                                                      refine lv_iadd hx hb dX12_feed_106 ?_
                                                                                      refine lv_topi (fun v175 ev175 => ?_)
                                                                                      have rv175 : rg (13) (193) v175 := (rg_add ev175 rv160 kc_1 rfl).1
                                                                                      have dv175 := (rg_add ev175 rv160 kc_1 rfl).2
                                                                                      refine m_puti x L173 3 rfl fi_3 (wm_in uf_264) dX12_feed_107 (rj_3 (rg_w rv175 rfl)) (fun g176 H176 k176 eg176 L176 => ?_)
                                                                                      refine lv_iinc (v := (13 : Int32)) (lv' := [(6, .int (13 : Int32)), (7, .int p4), (0, .ref h0), (1, .int p1), (2, .int p2), (3, .int p3), (4, .int p4), (5, .int p5)]) hx hb dX12_feed_110 hl (k := 1) rfl (by decide) (by decide) rfl (fun ls hl => ?_)
                                                                                      refine lv_goto (tgt := 19) hx hb dX12_feed_113 (by decide) ?_
                                                                                      refine lv_iload hx hb dX12_feed_19 (lv_at hl 0 rfl) ?_
                                                                                      refine lv_bipush (v := 20) hx hb dX12_feed_21 (by decide) ?_
                                                                                      refine lv_icmp_ge (tgt := 116) hx hb dX12_feed_23 (by decide) (fun c23_177 => ?_) (fun c23_177 => ?_)
                                                                                      · skip
                                                                                        exact absurd c23_177 (by decide)
                                                                                      · skip
                                                                                        refine lv_iload hx hb dX12_feed_26 (lv_at hl 0 rfl) ?_
                                                                                        refine lv_iconst (v := 4) hx hb dX12_feed_28 (by decide) ?_
                                                                                        refine lv_icmp_ge (tgt := 36) hx hb dX12_feed_29 (by decide) (fun c29_178 => ?_) (fun c29_178 => ?_)
                                                                                        · skip
                                                                                          refine lv_iload hx hb dX12_feed_36 (lv_at hl 0 rfl) ?_
                                                                                          refine lv_bipush (v := 8) hx hb dX12_feed_38 (by decide) ?_
                                                                                          refine lv_icmp_ge (tgt := 47) hx hb dX12_feed_40 (by decide) (fun c40_179 => ?_) (fun c40_179 => ?_)
                                                                                          · skip
                                                                                            refine lv_iload hx hb dX12_feed_47 (lv_at hl 0 rfl) ?_
                                                                                            refine lv_bipush (v := 12) hx hb dX12_feed_49 (by decide) ?_
                                                                                            refine lv_icmp_ge (tgt := 58) hx hb dX12_feed_51 (by decide) (fun c51_180 => ?_) (fun c51_180 => ?_)
                                                                                            · skip
                                                                                              refine lv_iload hx hb dX12_feed_58 (lv_at hl 0 rfl) ?_
                                                                                              refine lv_bipush (v := 16) hx hb dX12_feed_60 (by decide) ?_
                                                                                              refine lv_icmp_ge (tgt := 70) hx hb dX12_feed_62 (by decide) (fun c62_181 => ?_) (fun c62_181 => ?_)
                                                                                              · skip
                                                                                                exact absurd c62_181 (by decide)
                                                                                              · skip
                                                                                                refine lv_iload hx hb dX12_feed_65 (lv_at hl 6 rfl) ?_
                                                                                                refine lv_goto (tgt := 72) hx hb dX12_feed_67 (by decide) ?_
                                                                                                refine lv_istore (lv' := [(7, .int p4), (6, .int (13 : Int32)), (0, .ref h0), (1, .int p1), (2, .int p2), (3, .int p3), (4, .int p4), (5, .int p5)]) hx hb dX12_feed_72 hl (by decide) rfl (fun ls hl => ?_)
                                                                                                refine lv_aload_n hx hb dX12_feed_74 rfl (lv_at hl 2 rfl) ?_
                                                                                                refine m_geta x L176 2 rfl rfl (wm_in uf_7) dX12_feed_75 ?_
                                                                                                refine lv_aload_n hx hb dX12_feed_78 rfl (lv_at hl 2 rfl) ?_
                                                                                                refine m_geti x L176 3 rfl rfl (wm_in uf_264) dX12_feed_79 (fun v182 ev182 wv182 => ?_)
                                                                                                refine m_top (((mm_st eg176)).trans ev182.symm) ?_
                                                                                                refine lv_iload hx hb dX12_feed_82 (lv_at hl 0 rfl) ?_
                                                                                                refine lv_bipush (v := 24) hx hb dX12_feed_84 (by decide) ?_
                                                                                                refine lv_bipush (v := 8) hx hb dX12_feed_86 (by decide) ?_
                                                                                                refine lv_iload hx hb dX12_feed_88 (lv_at hl 1 rfl) ?_
                                                                                                refine lv_iconst (v := 4) hx hb dX12_feed_90 (by decide) ?_
                                                                                                refine lv_irem hx hb dX12_feed_91 (by decide) ?_
                                                                                                refine lv_topi (fun v183 ev183 => ?_)
                                                                                                have rv183 : rg (0) (3) v183 := (rg_rem ev183 kc_13 kc_4 rfl).1
                                                                                                refine lv_imul hx hb dX12_feed_92 ?_
                                                                                                refine lv_topi (fun v184 ev184 => ?_)
                                                                                                have rv184 : rg (0) (24) v184 := (rg_mulL ev184 kc_8 rv183 rfl).1
                                                                                                refine lv_isub hx hb dX12_feed_93 ?_
                                                                                                refine lv_topi (fun v185 ev185 => ?_)
                                                                                                have rv185 : rg (0) (24) v185 := (rg_sub ev185 kc_24 rv184 rfl).1
                                                                                                refine lv_ishr hx hb dX12_feed_94 ?_
                                                                                                refine lv_topi (fun v186 ev186 => ?_)
                                                                                                have rv186 : rg (-2147483648) (2147483647) v186 := rg_any v186
                                                                                                refine lv_sipush (v := 255) hx hb dX12_feed_95 (by decide) ?_
                                                                                                refine lv_iand hx hb dX12_feed_98 ?_
                                                                                                refine lv_topi (fun v187 ev187 => ?_)
                                                                                                have rv187 : rg (0) (255) v187 := rg_and ev187 8 255 (by decide) rfl
                                                                                                refine m_st x L176 2 rfl rv175 rfl (rj_2 (rg_any v187)) dX12_feed_99 (fun g188 H188 k188 eg188 L188 => ?_)
                                                                                                refine lv_aload_n hx hb dX12_feed_100 rfl (lv_at hl 2 rfl) ?_
                                                                                                refine lv_dup hx hb dX12_feed_101 rfl ?_
                                                                                                refine m_geti x L188 3 rfl rfl (wm_in uf_264) dX12_feed_102 (fun v189 ev189 wv189 => ?_)
                                                                                                refine m_top (((mm_up (mm_st eg176) eg188 rfl)).trans ev189.symm) ?_
                                                                                                refine lv_iconst (v := 1) hx hb dX12_feed_105 (by decide) ?_
                                                                                                refine lv_iadd hx hb dX12_feed_106 ?_
                                                                                                refine lv_topi (fun v190 ev190 => ?_)
                                                                                                have rv190 : rg (14) (194) v190 := (rg_add ev190 rv175 kc_1 rfl).1
                                                                                                have dv190 := (rg_add ev190 rv175 kc_1 rfl).2
                                                                                                refine m_puti x L188 3 rfl fi_3 (wm_in uf_264) dX12_feed_107 (rj_3 (rg_w rv190 rfl)) (fun g191 H191 k191 eg191 L191 => ?_)
                                                                                                refine lv_iinc (v := (14 : Int32)) (lv' := [(6, .int (14 : Int32)), (7, .int p4), (0, .ref h0), (1, .int p1), (2, .int p2), (3, .int p3), (4, .int p4), (5, .int p5)]) hx hb dX12_feed_110 hl (k := 1) rfl (by decide) (by decide) rfl (fun ls hl => ?_)
                                                                                                refine lv_goto (tgt := 19) hx hb dX12_feed_113 (by decide) ?_
                                                                                                refine lv_iload hx hb dX12_feed_19 (lv_at hl 0 rfl) ?_
                                                                                                refine lv_bipush (v := 20) hx hb dX12_feed_21 (by decide) ?_
                                                                                                refine lv_icmp_ge (tgt := 116) hx hb dX12_feed_23 (by decide) (fun c23_192 => ?_) (fun c23_192 => ?_)
                                                                                                · skip
                                                                                                  exact absurd c23_192 (by decide)
                                                                                                · skip
                                                                                                  refine lv_iload hx hb dX12_feed_26 (lv_at hl 0 rfl) ?_
                                                                                                  refine lv_iconst (v := 4) hx hb dX12_feed_28 (by decide) ?_
                                                                                                  refine lv_icmp_ge (tgt := 36) hx hb dX12_feed_29 (by decide) (fun c29_193 => ?_) (fun c29_193 => ?_)
                                                                                                  · skip
                                                                                                    refine lv_iload hx hb dX12_feed_36 (lv_at hl 0 rfl) ?_
                                                                                                    refine lv_bipush (v := 8) hx hb dX12_feed_38 (by decide) ?_
                                                                                                    refine lv_icmp_ge (tgt := 47) hx hb dX12_feed_40 (by decide) (fun c40_194 => ?_) (fun c40_194 => ?_)
                                                                                                    · skip
                                                                                                      refine lv_iload hx hb dX12_feed_47 (lv_at hl 0 rfl) ?_
                                                                                                      refine lv_bipush (v := 12) hx hb dX12_feed_49 (by decide) ?_
                                                                                                      refine lv_icmp_ge (tgt := 58) hx hb dX12_feed_51 (by decide) (fun c51_195 => ?_) (fun c51_195 => ?_)
                                                                                                      · skip
                                                                                                        refine lv_iload hx hb dX12_feed_58 (lv_at hl 0 rfl) ?_
                                                                                                        refine lv_bipush (v := 16) hx hb dX12_feed_60 (by decide) ?_
                                                                                                        refine lv_icmp_ge (tgt := 70) hx hb dX12_feed_62 (by decide) (fun c62_196 => ?_) (fun c62_196 => ?_)
                                                                                                        · skip
                                                                                                          exact absurd c62_196 (by decide)
                                                                                                        · skip
                                                                                                          refine lv_iload hx hb dX12_feed_65 (lv_at hl 6 rfl) ?_
                                                                                                          refine lv_goto (tgt := 72) hx hb dX12_feed_67 (by decide) ?_
                                                                                                          refine lv_istore (lv' := [(7, .int p4), (6, .int (14 : Int32)), (0, .ref h0), (1, .int p1), (2, .int p2), (3, .int p3), (4, .int p4), (5, .int p5)]) hx hb dX12_feed_72 hl (by decide) rfl (fun ls hl => ?_)
                                                                                                          refine lv_aload_n hx hb dX12_feed_74 rfl (lv_at hl 2 rfl) ?_
                                                                                                          refine m_geta x L191 2 rfl rfl (wm_in uf_7) dX12_feed_75 ?_
                                                                                                          refine lv_aload_n hx hb dX12_feed_78 rfl (lv_at hl 2 rfl) ?_
                                                                                                          refine m_geti x L191 3 rfl rfl (wm_in uf_264) dX12_feed_79 (fun v197 ev197 wv197 => ?_)
                                                                                                          refine m_top (((mm_st eg191)).trans ev197.symm) ?_
                                                                                                          refine lv_iload hx hb dX12_feed_82 (lv_at hl 0 rfl) ?_
                                                                                                          refine lv_bipush (v := 24) hx hb dX12_feed_84 (by decide) ?_
                                                                                                          refine lv_bipush (v := 8) hx hb dX12_feed_86 (by decide) ?_
                                                                                                          refine lv_iload hx hb dX12_feed_88 (lv_at hl 1 rfl) ?_
                                                                                                          refine lv_iconst (v := 4) hx hb dX12_feed_90 (by decide) ?_
                                                                                                          refine lv_irem hx hb dX12_feed_91 (by decide) ?_
                                                                                                          refine lv_topi (fun v198 ev198 => ?_)
                                                                                                          have rv198 : rg (0) (3) v198 := (rg_rem ev198 kc_14 kc_4 rfl).1
                                                                                                          refine lv_imul hx hb dX12_feed_92 ?_
                                                                                                          refine lv_topi (fun v199 ev199 => ?_)
                                                                                                          have rv199 : rg (0) (24) v199 := (rg_mulL ev199 kc_8 rv198 rfl).1
                                                                                                          refine lv_isub hx hb dX12_feed_93 ?_
                                                                                                          refine lv_topi (fun v200 ev200 => ?_)
                                                                                                          have rv200 : rg (0) (24) v200 := (rg_sub ev200 kc_24 rv199 rfl).1
                                                                                                          refine lv_ishr hx hb dX12_feed_94 ?_
                                                                                                          refine lv_topi (fun v201 ev201 => ?_)
                                                                                                          have rv201 : rg (-2147483648) (2147483647) v201 := rg_any v201
                                                                                                          refine lv_sipush (v := 255) hx hb dX12_feed_95 (by decide) ?_
                                                                                                          refine lv_iand hx hb dX12_feed_98 ?_
                                                                                                          refine lv_topi (fun v202 ev202 => ?_)
                                                                                                          have rv202 : rg (0) (255) v202 := rg_and ev202 8 255 (by decide) rfl
                                                                                                          refine m_st x L191 2 rfl rv190 rfl (rj_2 (rg_any v202)) dX12_feed_99 (fun g203 H203 k203 eg203 L203 => ?_)
                                                                                                          refine lv_aload_n hx hb dX12_feed_100 rfl (lv_at hl 2 rfl) ?_
                                                                                                          refine lv_dup hx hb dX12_feed_101 rfl ?_
                                                                                                          refine m_geti x L203 3 rfl rfl (wm_in uf_264) dX12_feed_102 (fun v204 ev204 wv204 => ?_)
                                                                                                          refine m_top (((mm_up (mm_st eg191) eg203 rfl)).trans ev204.symm) ?_
                                                                                                          refine lv_iconst (v := 1) hx hb dX12_feed_105 (by decide) ?_
                                                                                                          refine lv_iadd hx hb dX12_feed_106 ?_
                                                                                                          refine lv_topi (fun v205 ev205 => ?_)
                                                                                                          have rv205 : rg (15) (195) v205 := (rg_add ev205 rv190 kc_1 rfl).1
                                                                                                          have dv205 := (rg_add ev205 rv190 kc_1 rfl).2
                                                                                                          refine m_puti x L203 3 rfl fi_3 (wm_in uf_264) dX12_feed_107 (rj_3 (rg_w rv205 rfl)) (fun g206 H206 k206 eg206 L206 => ?_)
                                                                                                          refine lv_iinc (v := (15 : Int32)) (lv' := [(6, .int (15 : Int32)), (7, .int p4), (0, .ref h0), (1, .int p1), (2, .int p2), (3, .int p3), (4, .int p4), (5, .int p5)]) hx hb dX12_feed_110 hl (k := 1) rfl (by decide) (by decide) rfl (fun ls hl => ?_)
                                                                                                          refine lv_goto (tgt := 19) hx hb dX12_feed_113 (by decide) ?_
                                                                                                          refine lv_iload hx hb dX12_feed_19 (lv_at hl 0 rfl) ?_
                                                                                                          refine lv_bipush (v := 20) hx hb dX12_feed_21 (by decide) ?_
                                                                                                          refine lv_icmp_ge (tgt := 116) hx hb dX12_feed_23 (by decide) (fun c23_207 => ?_) (fun c23_207 => ?_)
                                                                                                          · skip
                                                                                                            exact absurd c23_207 (by decide)
                                                                                                          · skip
                                                                                                            refine lv_iload hx hb dX12_feed_26 (lv_at hl 0 rfl) ?_
                                                                                                            refine lv_iconst (v := 4) hx hb dX12_feed_28 (by decide) ?_
                                                                                                            refine lv_icmp_ge (tgt := 36) hx hb dX12_feed_29 (by decide) (fun c29_208 => ?_) (fun c29_208 => ?_)
                                                                                                            · skip
                                                                                                              refine lv_iload hx hb dX12_feed_36 (lv_at hl 0 rfl) ?_
                                                                                                              refine lv_bipush (v := 8) hx hb dX12_feed_38 (by decide) ?_
                                                                                                              refine lv_icmp_ge (tgt := 47) hx hb dX12_feed_40 (by decide) (fun c40_209 => ?_) (fun c40_209 => ?_)
                                                                                                              · skip
                                                                                                                refine lv_iload hx hb dX12_feed_47 (lv_at hl 0 rfl) ?_
                                                                                                                refine lv_bipush (v := 12) hx hb dX12_feed_49 (by decide) ?_
                                                                                                                refine lv_icmp_ge (tgt := 58) hx hb dX12_feed_51 (by decide) (fun c51_210 => ?_) (fun c51_210 => ?_)
                                                                                                                · skip
                                                                                                                  refine lv_iload hx hb dX12_feed_58 (lv_at hl 0 rfl) ?_
                                                                                                                  refine lv_bipush (v := 16) hx hb dX12_feed_60 (by decide) ?_
                                                                                                                  refine lv_icmp_ge (tgt := 70) hx hb dX12_feed_62 (by decide) (fun c62_211 => ?_) (fun c62_211 => ?_)
                                                                                                                  · skip
                                                                                                                    exact absurd c62_211 (by decide)
                                                                                                                  · skip
                                                                                                                    refine lv_iload hx hb dX12_feed_65 (lv_at hl 6 rfl) ?_
                                                                                                                    refine lv_goto (tgt := 72) hx hb dX12_feed_67 (by decide) ?_
                                                                                                                    refine lv_istore (lv' := [(7, .int p4), (6, .int (15 : Int32)), (0, .ref h0), (1, .int p1), (2, .int p2), (3, .int p3), (4, .int p4), (5, .int p5)]) hx hb dX12_feed_72 hl (by decide) rfl (fun ls hl => ?_)
                                                                                                                    refine lv_aload_n hx hb dX12_feed_74 rfl (lv_at hl 2 rfl) ?_
                                                                                                                    refine m_geta x L206 2 rfl rfl (wm_in uf_7) dX12_feed_75 ?_
                                                                                                                    refine lv_aload_n hx hb dX12_feed_78 rfl (lv_at hl 2 rfl) ?_
                                                                                                                    refine m_geti x L206 3 rfl rfl (wm_in uf_264) dX12_feed_79 (fun v212 ev212 wv212 => ?_)
                                                                                                                    refine m_top (((mm_st eg206)).trans ev212.symm) ?_
                                                                                                                    refine lv_iload hx hb dX12_feed_82 (lv_at hl 0 rfl) ?_
                                                                                                                    refine lv_bipush (v := 24) hx hb dX12_feed_84 (by decide) ?_
                                                                                                                    refine lv_bipush (v := 8) hx hb dX12_feed_86 (by decide) ?_
                                                                                                                    refine lv_iload hx hb dX12_feed_88 (lv_at hl 1 rfl) ?_
                                                                                                                    refine lv_iconst (v := 4) hx hb dX12_feed_90 (by decide) ?_
                                                                                                                    refine lv_irem hx hb dX12_feed_91 (by decide) ?_
                                                                                                                    refine lv_topi (fun v213 ev213 => ?_)
                                                                                                                    have rv213 : rg (0) (3) v213 := (rg_rem ev213 kc_15 kc_4 rfl).1
                                                                                                                    refine lv_imul hx hb dX12_feed_92 ?_
                                                                                                                    refine lv_topi (fun v214 ev214 => ?_)
                                                                                                                    have rv214 : rg (0) (24) v214 := (rg_mulL ev214 kc_8 rv213 rfl).1
                                                                                                                    refine lv_isub hx hb dX12_feed_93 ?_
                                                                                                                    refine lv_topi (fun v215 ev215 => ?_)
                                                                                                                    have rv215 : rg (0) (24) v215 := (rg_sub ev215 kc_24 rv214 rfl).1
                                                                                                                    refine lv_ishr hx hb dX12_feed_94 ?_
                                                                                                                    refine lv_topi (fun v216 ev216 => ?_)
                                                                                                                    have rv216 : rg (-2147483648) (2147483647) v216 := rg_any v216
                                                                                                                    refine lv_sipush (v := 255) hx hb dX12_feed_95 (by decide) ?_
                                                                                                                    refine lv_iand hx hb dX12_feed_98 ?_
                                                                                                                    refine lv_topi (fun v217 ev217 => ?_)
                                                                                                                    have rv217 : rg (0) (255) v217 := rg_and ev217 8 255 (by decide) rfl
                                                                                                                    refine m_st x L206 2 rfl rv205 rfl (rj_2 (rg_any v217)) dX12_feed_99 (fun g218 H218 k218 eg218 L218 => ?_)
                                                                                                                    refine lv_aload_n hx hb dX12_feed_100 rfl (lv_at hl 2 rfl) ?_
                                                                                                                    refine lv_dup hx hb dX12_feed_101 rfl ?_
                                                                                                                    refine m_geti x L218 3 rfl rfl (wm_in uf_264) dX12_feed_102 (fun v219 ev219 wv219 => ?_)
                                                                                                                    refine m_top (((mm_up (mm_st eg206) eg218 rfl)).trans ev219.symm) ?_
                                                                                                                    refine lv_iconst (v := 1) hx hb dX12_feed_105 (by decide) ?_
                                                                                                                    refine lv_iadd hx hb dX12_feed_106 ?_
                                                                                                                    refine lv_topi (fun v220 ev220 => ?_)
                                                                                                                    have rv220 : rg (16) (196) v220 := (rg_add ev220 rv205 kc_1 rfl).1
                                                                                                                    have dv220 := (rg_add ev220 rv205 kc_1 rfl).2
                                                                                                                    refine m_puti x L218 3 rfl fi_3 (wm_in uf_264) dX12_feed_107 (rj_3 (rg_w rv220 rfl)) (fun g221 H221 k221 eg221 L221 => ?_)
                                                                                                                    refine lv_iinc (v := (16 : Int32)) (lv' := [(6, .int (16 : Int32)), (7, .int p4), (0, .ref h0), (1, .int p1), (2, .int p2), (3, .int p3), (4, .int p4), (5, .int p5)]) hx hb dX12_feed_110 hl (k := 1) rfl (by decide) (by decide) rfl (fun ls hl => ?_)
                                                                                                                    refine lv_goto (tgt := 19) hx hb dX12_feed_113 (by decide) ?_
                                                                                                                    refine lv_iload hx hb dX12_feed_19 (lv_at hl 0 rfl) ?_
                                                                                                                    refine lv_bipush (v := 20) hx hb dX12_feed_21 (by decide) ?_
                                                                                                                    refine lv_icmp_ge (tgt := 116) hx hb dX12_feed_23 (by decide) (fun c23_222 => ?_) (fun c23_222 => ?_)
                                                                                                                    · skip
                                                                                                                      exact absurd c23_222 (by decide)
                                                                                                                    · skip
                                                                                                                      refine lv_iload hx hb dX12_feed_26 (lv_at hl 0 rfl) ?_
                                                                                                                      refine lv_iconst (v := 4) hx hb dX12_feed_28 (by decide) ?_
                                                                                                                      refine lv_icmp_ge (tgt := 36) hx hb dX12_feed_29 (by decide) (fun c29_223 => ?_) (fun c29_223 => ?_)
                                                                                                                      · skip
                                                                                                                        refine lv_iload hx hb dX12_feed_36 (lv_at hl 0 rfl) ?_
                                                                                                                        refine lv_bipush (v := 8) hx hb dX12_feed_38 (by decide) ?_
                                                                                                                        refine lv_icmp_ge (tgt := 47) hx hb dX12_feed_40 (by decide) (fun c40_224 => ?_) (fun c40_224 => ?_)
                                                                                                                        · skip
                                                                                                                          refine lv_iload hx hb dX12_feed_47 (lv_at hl 0 rfl) ?_
                                                                                                                          refine lv_bipush (v := 12) hx hb dX12_feed_49 (by decide) ?_
                                                                                                                          refine lv_icmp_ge (tgt := 58) hx hb dX12_feed_51 (by decide) (fun c51_225 => ?_) (fun c51_225 => ?_)
                                                                                                                          · skip
                                                                                                                            refine lv_iload hx hb dX12_feed_58 (lv_at hl 0 rfl) ?_
                                                                                                                            refine lv_bipush (v := 16) hx hb dX12_feed_60 (by decide) ?_
                                                                                                                            refine lv_icmp_ge (tgt := 70) hx hb dX12_feed_62 (by decide) (fun c62_226 => ?_) (fun c62_226 => ?_)
                                                                                                                            · skip
                                                                                                                              refine lv_iload hx hb dX12_feed_70 (lv_at hl 7 rfl) ?_
                                                                                                                              refine lv_istore (lv' := [(7, .int p5), (6, .int (16 : Int32)), (0, .ref h0), (1, .int p1), (2, .int p2), (3, .int p3), (4, .int p4), (5, .int p5)]) hx hb dX12_feed_72 hl (by decide) rfl (fun ls hl => ?_)
                                                                                                                              refine lv_aload_n hx hb dX12_feed_74 rfl (lv_at hl 2 rfl) ?_
                                                                                                                              refine m_geta x L221 2 rfl rfl (wm_in uf_7) dX12_feed_75 ?_
                                                                                                                              refine lv_aload_n hx hb dX12_feed_78 rfl (lv_at hl 2 rfl) ?_
                                                                                                                              refine m_geti x L221 3 rfl rfl (wm_in uf_264) dX12_feed_79 (fun v227 ev227 wv227 => ?_)
                                                                                                                              refine m_top (((mm_st eg221)).trans ev227.symm) ?_
                                                                                                                              refine lv_iload hx hb dX12_feed_82 (lv_at hl 0 rfl) ?_
                                                                                                                              refine lv_bipush (v := 24) hx hb dX12_feed_84 (by decide) ?_
                                                                                                                              refine lv_bipush (v := 8) hx hb dX12_feed_86 (by decide) ?_
                                                                                                                              refine lv_iload hx hb dX12_feed_88 (lv_at hl 1 rfl) ?_
                                                                                                                              refine lv_iconst (v := 4) hx hb dX12_feed_90 (by decide) ?_
                                                                                                                              refine lv_irem hx hb dX12_feed_91 (by decide) ?_
                                                                                                                              refine lv_topi (fun v228 ev228 => ?_)
                                                                                                                              have rv228 : rg (0) (3) v228 := (rg_rem ev228 kc_16 kc_4 rfl).1
                                                                                                                              refine lv_imul hx hb dX12_feed_92 ?_
                                                                                                                              refine lv_topi (fun v229 ev229 => ?_)
                                                                                                                              have rv229 : rg (0) (24) v229 := (rg_mulL ev229 kc_8 rv228 rfl).1
                                                                                                                              refine lv_isub hx hb dX12_feed_93 ?_
                                                                                                                              refine lv_topi (fun v230 ev230 => ?_)
                                                                                                                              have rv230 : rg (0) (24) v230 := (rg_sub ev230 kc_24 rv229 rfl).1
                                                                                                                              refine lv_ishr hx hb dX12_feed_94 ?_
                                                                                                                              refine lv_topi (fun v231 ev231 => ?_)
                                                                                                                              have rv231 : rg (-2147483648) (2147483647) v231 := rg_any v231
                                                                                                                              refine lv_sipush (v := 255) hx hb dX12_feed_95 (by decide) ?_
                                                                                                                              refine lv_iand hx hb dX12_feed_98 ?_
                                                                                                                              refine lv_topi (fun v232 ev232 => ?_)
                                                                                                                              have rv232 : rg (0) (255) v232 := rg_and ev232 8 255 (by decide) rfl
                                                                                                                              refine m_st x L221 2 rfl rv220 rfl (rj_2 (rg_any v232)) dX12_feed_99 (fun g233 H233 k233 eg233 L233 => ?_)
                                                                                                                              refine lv_aload_n hx hb dX12_feed_100 rfl (lv_at hl 2 rfl) ?_
                                                                                                                              refine lv_dup hx hb dX12_feed_101 rfl ?_
                                                                                                                              refine m_geti x L233 3 rfl rfl (wm_in uf_264) dX12_feed_102 (fun v234 ev234 wv234 => ?_)
                                                                                                                              refine m_top (((mm_up (mm_st eg221) eg233 rfl)).trans ev234.symm) ?_
                                                                                                                              refine lv_iconst (v := 1) hx hb dX12_feed_105 (by decide) ?_
                                                                                                                              refine lv_iadd hx hb dX12_feed_106 ?_
                                                                                                                              refine lv_topi (fun v235 ev235 => ?_)
                                                                                                                              have rv235 : rg (17) (197) v235 := (rg_add ev235 rv220 kc_1 rfl).1
                                                                                                                              have dv235 := (rg_add ev235 rv220 kc_1 rfl).2
                                                                                                                              refine m_puti x L233 3 rfl fi_3 (wm_in uf_264) dX12_feed_107 (rj_3 (rg_w rv235 rfl)) (fun g236 H236 k236 eg236 L236 => ?_)
                                                                                                                              refine lv_iinc (v := (17 : Int32)) (lv' := [(6, .int (17 : Int32)), (7, .int p5), (0, .ref h0), (1, .int p1), (2, .int p2), (3, .int p3), (4, .int p4), (5, .int p5)]) hx hb dX12_feed_110 hl (k := 1) rfl (by decide) (by decide) rfl (fun ls hl => ?_)
                                                                                                                              refine lv_goto (tgt := 19) hx hb dX12_feed_113 (by decide) ?_
                                                                                                                              refine lv_iload hx hb dX12_feed_19 (lv_at hl 0 rfl) ?_
                                                                                                                              refine lv_bipush (v := 20) hx hb dX12_feed_21 (by decide) ?_
                                                                                                                              refine lv_icmp_ge (tgt := 116) hx hb dX12_feed_23 (by decide) (fun c23_237 => ?_) (fun c23_237 => ?_)
                                                                                                                              · skip
                                                                                                                                exact absurd c23_237 (by decide)
                                                                                                                              · skip
                                                                                                                                refine lv_iload hx hb dX12_feed_26 (lv_at hl 0 rfl) ?_
                                                                                                                                refine lv_iconst (v := 4) hx hb dX12_feed_28 (by decide) ?_
                                                                                                                                refine lv_icmp_ge (tgt := 36) hx hb dX12_feed_29 (by decide) (fun c29_238 => ?_) (fun c29_238 => ?_)
                                                                                                                                · skip
                                                                                                                                  refine lv_iload hx hb dX12_feed_36 (lv_at hl 0 rfl) ?_
                                                                                                                                  refine lv_bipush (v := 8) hx hb dX12_feed_38 (by decide) ?_
                                                                                                                                  refine lv_icmp_ge (tgt := 47) hx hb dX12_feed_40 (by decide) (fun c40_239 => ?_) (fun c40_239 => ?_)
                                                                                                                                  · skip
                                                                                                                                    refine lv_iload hx hb dX12_feed_47 (lv_at hl 0 rfl) ?_
                                                                                                                                    refine lv_bipush (v := 12) hx hb dX12_feed_49 (by decide) ?_
                                                                                                                                    refine lv_icmp_ge (tgt := 58) hx hb dX12_feed_51 (by decide) (fun c51_240 => ?_) (fun c51_240 => ?_)
                                                                                                                                    · skip
                                                                                                                                      refine lv_iload hx hb dX12_feed_58 (lv_at hl 0 rfl) ?_
                                                                                                                                      refine lv_bipush (v := 16) hx hb dX12_feed_60 (by decide) ?_
                                                                                                                                      refine lv_icmp_ge (tgt := 70) hx hb dX12_feed_62 (by decide) (fun c62_241 => ?_) (fun c62_241 => ?_)
                                                                                                                                      · skip
                                                                                                                                        refine lv_iload hx hb dX12_feed_70 (lv_at hl 7 rfl) ?_
                                                                                                                                        refine lv_istore (lv' := [(7, .int p5), (6, .int (17 : Int32)), (0, .ref h0), (1, .int p1), (2, .int p2), (3, .int p3), (4, .int p4), (5, .int p5)]) hx hb dX12_feed_72 hl (by decide) rfl (fun ls hl => ?_)
                                                                                                                                        refine lv_aload_n hx hb dX12_feed_74 rfl (lv_at hl 2 rfl) ?_
                                                                                                                                        refine m_geta x L236 2 rfl rfl (wm_in uf_7) dX12_feed_75 ?_
                                                                                                                                        refine lv_aload_n hx hb dX12_feed_78 rfl (lv_at hl 2 rfl) ?_
                                                                                                                                        refine m_geti x L236 3 rfl rfl (wm_in uf_264) dX12_feed_79 (fun v242 ev242 wv242 => ?_)
                                                                                                                                        refine m_top (((mm_st eg236)).trans ev242.symm) ?_
                                                                                                                                        refine lv_iload hx hb dX12_feed_82 (lv_at hl 0 rfl) ?_
                                                                                                                                        refine lv_bipush (v := 24) hx hb dX12_feed_84 (by decide) ?_
                                                                                                                                        refine lv_bipush (v := 8) hx hb dX12_feed_86 (by decide) ?_
                                                                                                                                        refine lv_iload hx hb dX12_feed_88 (lv_at hl 1 rfl) ?_
                                                                                                                                        refine lv_iconst (v := 4) hx hb dX12_feed_90 (by decide) ?_
                                                                                                                                        refine lv_irem hx hb dX12_feed_91 (by decide) ?_
                                                                                                                                        refine lv_topi (fun v243 ev243 => ?_)
                                                                                                                                        have rv243 : rg (0) (3) v243 := (rg_rem ev243 kc_17 kc_4 rfl).1
                                                                                                                                        refine lv_imul hx hb dX12_feed_92 ?_
                                                                                                                                        refine lv_topi (fun v244 ev244 => ?_)
                                                                                                                                        have rv244 : rg (0) (24) v244 := (rg_mulL ev244 kc_8 rv243 rfl).1
                                                                                                                                        refine lv_isub hx hb dX12_feed_93 ?_
                                                                                                                                        refine lv_topi (fun v245 ev245 => ?_)
                                                                                                                                        have rv245 : rg (0) (24) v245 := (rg_sub ev245 kc_24 rv244 rfl).1
                                                                                                                                        refine lv_ishr hx hb dX12_feed_94 ?_
                                                                                                                                        refine lv_topi (fun v246 ev246 => ?_)
                                                                                                                                        have rv246 : rg (-2147483648) (2147483647) v246 := rg_any v246
                                                                                                                                        refine lv_sipush (v := 255) hx hb dX12_feed_95 (by decide) ?_
                                                                                                                                        refine lv_iand hx hb dX12_feed_98 ?_
                                                                                                                                        refine lv_topi (fun v247 ev247 => ?_)
                                                                                                                                        have rv247 : rg (0) (255) v247 := rg_and ev247 8 255 (by decide) rfl
                                                                                                                                        refine m_st x L236 2 rfl rv235 rfl (rj_2 (rg_any v247)) dX12_feed_99 (fun g248 H248 k248 eg248 L248 => ?_)
                                                                                                                                        refine lv_aload_n hx hb dX12_feed_100 rfl (lv_at hl 2 rfl) ?_
                                                                                                                                        refine lv_dup hx hb dX12_feed_101 rfl ?_
                                                                                                                                        refine m_geti x L248 3 rfl rfl (wm_in uf_264) dX12_feed_102 (fun v249 ev249 wv249 => ?_)
                                                                                                                                        refine m_top (((mm_up (mm_st eg236) eg248 rfl)).trans ev249.symm) ?_
                                                                                                                                        refine lv_iconst (v := 1) hx hb dX12_feed_105 (by decide) ?_
                                                                                                                                        refine lv_iadd hx hb dX12_feed_106 ?_
                                                                                                                                        refine lv_topi (fun v250 ev250 => ?_)
                                                                                                                                        have rv250 : rg (18) (198) v250 := (rg_add ev250 rv235 kc_1 rfl).1
                                                                                                                                        have dv250 := (rg_add ev250 rv235 kc_1 rfl).2
                                                                                                                                        refine m_puti x L248 3 rfl fi_3 (wm_in uf_264) dX12_feed_107 (rj_3 (rg_w rv250 rfl)) (fun g251 H251 k251 eg251 L251 => ?_)
                                                                                                                                        refine lv_iinc (v := (18 : Int32)) (lv' := [(6, .int (18 : Int32)), (7, .int p5), (0, .ref h0), (1, .int p1), (2, .int p2), (3, .int p3), (4, .int p4), (5, .int p5)]) hx hb dX12_feed_110 hl (k := 1) rfl (by decide) (by decide) rfl (fun ls hl => ?_)
                                                                                                                                        refine lv_goto (tgt := 19) hx hb dX12_feed_113 (by decide) ?_
                                                                                                                                        refine lv_iload hx hb dX12_feed_19 (lv_at hl 0 rfl) ?_
                                                                                                                                        refine lv_bipush (v := 20) hx hb dX12_feed_21 (by decide) ?_
                                                                                                                                        refine lv_icmp_ge (tgt := 116) hx hb dX12_feed_23 (by decide) (fun c23_252 => ?_) (fun c23_252 => ?_)
                                                                                                                                        · skip
                                                                                                                                          exact absurd c23_252 (by decide)
                                                                                                                                        · skip
                                                                                                                                          refine lv_iload hx hb dX12_feed_26 (lv_at hl 0 rfl) ?_
                                                                                                                                          refine lv_iconst (v := 4) hx hb dX12_feed_28 (by decide) ?_
                                                                                                                                          refine lv_icmp_ge (tgt := 36) hx hb dX12_feed_29 (by decide) (fun c29_253 => ?_) (fun c29_253 => ?_)
                                                                                                                                          · skip
                                                                                                                                            refine lv_iload hx hb dX12_feed_36 (lv_at hl 0 rfl) ?_
                                                                                                                                            refine lv_bipush (v := 8) hx hb dX12_feed_38 (by decide) ?_
                                                                                                                                            refine lv_icmp_ge (tgt := 47) hx hb dX12_feed_40 (by decide) (fun c40_254 => ?_) (fun c40_254 => ?_)
                                                                                                                                            · skip
                                                                                                                                              refine lv_iload hx hb dX12_feed_47 (lv_at hl 0 rfl) ?_
                                                                                                                                              refine lv_bipush (v := 12) hx hb dX12_feed_49 (by decide) ?_
                                                                                                                                              refine lv_icmp_ge (tgt := 58) hx hb dX12_feed_51 (by decide) (fun c51_255 => ?_) (fun c51_255 => ?_)
                                                                                                                                              · skip
                                                                                                                                                refine lv_iload hx hb dX12_feed_58 (lv_at hl 0 rfl) ?_
                                                                                                                                                refine lv_bipush (v := 16) hx hb dX12_feed_60 (by decide) ?_
                                                                                                                                                refine lv_icmp_ge (tgt := 70) hx hb dX12_feed_62 (by decide) (fun c62_256 => ?_) (fun c62_256 => ?_)
                                                                                                                                                · skip
                                                                                                                                                  refine lv_iload hx hb dX12_feed_70 (lv_at hl 7 rfl) ?_
                                                                                                                                                  refine lv_istore (lv' := [(7, .int p5), (6, .int (18 : Int32)), (0, .ref h0), (1, .int p1), (2, .int p2), (3, .int p3), (4, .int p4), (5, .int p5)]) hx hb dX12_feed_72 hl (by decide) rfl (fun ls hl => ?_)
                                                                                                                                                  refine lv_aload_n hx hb dX12_feed_74 rfl (lv_at hl 2 rfl) ?_
                                                                                                                                                  refine m_geta x L251 2 rfl rfl (wm_in uf_7) dX12_feed_75 ?_
                                                                                                                                                  refine lv_aload_n hx hb dX12_feed_78 rfl (lv_at hl 2 rfl) ?_
                                                                                                                                                  refine m_geti x L251 3 rfl rfl (wm_in uf_264) dX12_feed_79 (fun v257 ev257 wv257 => ?_)
                                                                                                                                                  refine m_top (((mm_st eg251)).trans ev257.symm) ?_
                                                                                                                                                  refine lv_iload hx hb dX12_feed_82 (lv_at hl 0 rfl) ?_
                                                                                                                                                  refine lv_bipush (v := 24) hx hb dX12_feed_84 (by decide) ?_
                                                                                                                                                  refine lv_bipush (v := 8) hx hb dX12_feed_86 (by decide) ?_
                                                                                                                                                  refine lv_iload hx hb dX12_feed_88 (lv_at hl 1 rfl) ?_
                                                                                                                                                  refine lv_iconst (v := 4) hx hb dX12_feed_90 (by decide) ?_
                                                                                                                                                  refine lv_irem hx hb dX12_feed_91 (by decide) ?_
                                                                                                                                                  refine lv_topi (fun v258 ev258 => ?_)
                                                                                                                                                  have rv258 : rg (0) (3) v258 := (rg_rem ev258 kc_18 kc_4 rfl).1
                                                                                                                                                  refine lv_imul hx hb dX12_feed_92 ?_
                                                                                                                                                  refine lv_topi (fun v259 ev259 => ?_)
                                                                                                                                                  have rv259 : rg (0) (24) v259 := (rg_mulL ev259 kc_8 rv258 rfl).1
                                                                                                                                                  refine lv_isub hx hb dX12_feed_93 ?_
                                                                                                                                                  refine lv_topi (fun v260 ev260 => ?_)
                                                                                                                                                  have rv260 : rg (0) (24) v260 := (rg_sub ev260 kc_24 rv259 rfl).1
                                                                                                                                                  refine lv_ishr hx hb dX12_feed_94 ?_
                                                                                                                                                  refine lv_topi (fun v261 ev261 => ?_)
                                                                                                                                                  have rv261 : rg (-2147483648) (2147483647) v261 := rg_any v261
                                                                                                                                                  refine lv_sipush (v := 255) hx hb dX12_feed_95 (by decide) ?_
                                                                                                                                                  refine lv_iand hx hb dX12_feed_98 ?_
                                                                                                                                                  refine lv_topi (fun v262 ev262 => ?_)
                                                                                                                                                  have rv262 : rg (0) (255) v262 := rg_and ev262 8 255 (by decide) rfl
                                                                                                                                                  refine m_st x L251 2 rfl rv250 rfl (rj_2 (rg_any v262)) dX12_feed_99 (fun g263 H263 k263 eg263 L263 => ?_)
                                                                                                                                                  refine lv_aload_n hx hb dX12_feed_100 rfl (lv_at hl 2 rfl) ?_
                                                                                                                                                  refine lv_dup hx hb dX12_feed_101 rfl ?_
                                                                                                                                                  refine m_geti x L263 3 rfl rfl (wm_in uf_264) dX12_feed_102 (fun v264 ev264 wv264 => ?_)
                                                                                                                                                  refine m_top (((mm_up (mm_st eg251) eg263 rfl)).trans ev264.symm) ?_
                                                                                                                                                  refine lv_iconst (v := 1) hx hb dX12_feed_105 (by decide) ?_
                                                                                                                                                  refine lv_iadd hx hb dX12_feed_106 ?_
                                                                                                                                                  refine lv_topi (fun v265 ev265 => ?_)
                                                                                                                                                  have rv265 : rg (19) (199) v265 := (rg_add ev265 rv250 kc_1 rfl).1
                                                                                                                                                  have dv265 := (rg_add ev265 rv250 kc_1 rfl).2
                                                                                                                                                  refine m_puti x L263 3 rfl fi_3 (wm_in uf_264) dX12_feed_107 (rj_3 (rg_w rv265 rfl)) (fun g266 H266 k266 eg266 L266 => ?_)
                                                                                                                                                  refine lv_iinc (v := (19 : Int32)) (lv' := [(6, .int (19 : Int32)), (7, .int p5), (0, .ref h0), (1, .int p1), (2, .int p2), (3, .int p3), (4, .int p4), (5, .int p5)]) hx hb dX12_feed_110 hl (k := 1) rfl (by decide) (by decide) rfl (fun ls hl => ?_)
                                                                                                                                                  refine lv_goto (tgt := 19) hx hb dX12_feed_113 (by decide) ?_
                                                                                                                                                  refine lv_iload hx hb dX12_feed_19 (lv_at hl 0 rfl) ?_
                                                                                                                                                  refine lv_bipush (v := 20) hx hb dX12_feed_21 (by decide) ?_
                                                                                                                                                  refine lv_icmp_ge (tgt := 116) hx hb dX12_feed_23 (by decide) (fun c23_267 => ?_) (fun c23_267 => ?_)
                                                                                                                                                  · skip
                                                                                                                                                    exact absurd c23_267 (by decide)
                                                                                                                                                  · skip
                                                                                                                                                    refine lv_iload hx hb dX12_feed_26 (lv_at hl 0 rfl) ?_
                                                                                                                                                    refine lv_iconst (v := 4) hx hb dX12_feed_28 (by decide) ?_
                                                                                                                                                    refine lv_icmp_ge (tgt := 36) hx hb dX12_feed_29 (by decide) (fun c29_268 => ?_) (fun c29_268 => ?_)
                                                                                                                                                    · skip
                                                                                                                                                      refine lv_iload hx hb dX12_feed_36 (lv_at hl 0 rfl) ?_
                                                                                                                                                      refine lv_bipush (v := 8) hx hb dX12_feed_38 (by decide) ?_
                                                                                                                                                      refine lv_icmp_ge (tgt := 47) hx hb dX12_feed_40 (by decide) (fun c40_269 => ?_) (fun c40_269 => ?_)
                                                                                                                                                      · skip
                                                                                                                                                        refine lv_iload hx hb dX12_feed_47 (lv_at hl 0 rfl) ?_
                                                                                                                                                        refine lv_bipush (v := 12) hx hb dX12_feed_49 (by decide) ?_
                                                                                                                                                        refine lv_icmp_ge (tgt := 58) hx hb dX12_feed_51 (by decide) (fun c51_270 => ?_) (fun c51_270 => ?_)
                                                                                                                                                        · skip
                                                                                                                                                          refine lv_iload hx hb dX12_feed_58 (lv_at hl 0 rfl) ?_
                                                                                                                                                          refine lv_bipush (v := 16) hx hb dX12_feed_60 (by decide) ?_
                                                                                                                                                          refine lv_icmp_ge (tgt := 70) hx hb dX12_feed_62 (by decide) (fun c62_271 => ?_) (fun c62_271 => ?_)
                                                                                                                                                          · skip
                                                                                                                                                            refine lv_iload hx hb dX12_feed_70 (lv_at hl 7 rfl) ?_
                                                                                                                                                            refine lv_istore (lv' := [(7, .int p5), (6, .int (19 : Int32)), (0, .ref h0), (1, .int p1), (2, .int p2), (3, .int p3), (4, .int p4), (5, .int p5)]) hx hb dX12_feed_72 hl (by decide) rfl (fun ls hl => ?_)
                                                                                                                                                            refine lv_aload_n hx hb dX12_feed_74 rfl (lv_at hl 2 rfl) ?_
                                                                                                                                                            refine m_geta x L266 2 rfl rfl (wm_in uf_7) dX12_feed_75 ?_
                                                                                                                                                            refine lv_aload_n hx hb dX12_feed_78 rfl (lv_at hl 2 rfl) ?_
                                                                                                                                                            refine m_geti x L266 3 rfl rfl (wm_in uf_264) dX12_feed_79 (fun v272 ev272 wv272 => ?_)
                                                                                                                                                            refine m_top (((mm_st eg266)).trans ev272.symm) ?_
                                                                                                                                                            refine lv_iload hx hb dX12_feed_82 (lv_at hl 0 rfl) ?_
                                                                                                                                                            refine lv_bipush (v := 24) hx hb dX12_feed_84 (by decide) ?_
                                                                                                                                                            refine lv_bipush (v := 8) hx hb dX12_feed_86 (by decide) ?_
                                                                                                                                                            refine lv_iload hx hb dX12_feed_88 (lv_at hl 1 rfl) ?_
                                                                                                                                                            refine lv_iconst (v := 4) hx hb dX12_feed_90 (by decide) ?_
                                                                                                                                                            refine lv_irem hx hb dX12_feed_91 (by decide) ?_
                                                                                                                                                            refine lv_topi (fun v273 ev273 => ?_)
                                                                                                                                                            have rv273 : rg (0) (3) v273 := (rg_rem ev273 kc_19 kc_4 rfl).1
                                                                                                                                                            refine lv_imul hx hb dX12_feed_92 ?_
                                                                                                                                                            refine lv_topi (fun v274 ev274 => ?_)
                                                                                                                                                            have rv274 : rg (0) (24) v274 := (rg_mulL ev274 kc_8 rv273 rfl).1
                                                                                                                                                            refine lv_isub hx hb dX12_feed_93 ?_
                                                                                                                                                            refine lv_topi (fun v275 ev275 => ?_)
                                                                                                                                                            have rv275 : rg (0) (24) v275 := (rg_sub ev275 kc_24 rv274 rfl).1
                                                                                                                                                            refine lv_ishr hx hb dX12_feed_94 ?_
                                                                                                                                                            refine lv_topi (fun v276 ev276 => ?_)
                                                                                                                                                            have rv276 : rg (-2147483648) (2147483647) v276 := rg_any v276
                                                                                                                                                            refine lv_sipush (v := 255) hx hb dX12_feed_95 (by decide) ?_
                                                                                                                                                            refine lv_iand hx hb dX12_feed_98 ?_
                                                                                                                                                            refine lv_topi (fun v277 ev277 => ?_)
                                                                                                                                                            have rv277 : rg (0) (255) v277 := rg_and ev277 8 255 (by decide) rfl
                                                                                                                                                            refine m_st x L266 2 rfl rv265 rfl (rj_2 (rg_any v277)) dX12_feed_99 (fun g278 H278 k278 eg278 L278 => ?_)
                                                                                                                                                            refine lv_aload_n hx hb dX12_feed_100 rfl (lv_at hl 2 rfl) ?_
                                                                                                                                                            refine lv_dup hx hb dX12_feed_101 rfl ?_
                                                                                                                                                            refine m_geti x L278 3 rfl rfl (wm_in uf_264) dX12_feed_102 (fun v279 ev279 wv279 => ?_)
                                                                                                                                                            refine m_top (((mm_up (mm_st eg266) eg278 rfl)).trans ev279.symm) ?_
                                                                                                                                                            refine lv_iconst (v := 1) hx hb dX12_feed_105 (by decide) ?_
                                                                                                                                                            refine lv_iadd hx hb dX12_feed_106 ?_
                                                                                                                                                            refine lv_topi (fun v280 ev280 => ?_)
                                                                                                                                                            have rv280 : rg (20) (200) v280 := (rg_add ev280 rv265 kc_1 rfl).1
                                                                                                                                                            have dv280 := (rg_add ev280 rv265 kc_1 rfl).2
                                                                                                                                                            refine m_puti x L278 3 rfl fi_3 (wm_in uf_264) dX12_feed_107 (rj_3 (rg_w rv280 rfl)) (fun g281 H281 k281 eg281 L281 => ?_)
                                                                                                                                                            refine lv_iinc (v := (20 : Int32)) (lv' := [(6, .int (20 : Int32)), (7, .int p5), (0, .ref h0), (1, .int p1), (2, .int p2), (3, .int p3), (4, .int p4), (5, .int p5)]) hx hb dX12_feed_110 hl (k := 1) rfl (by decide) (by decide) rfl (fun ls hl => ?_)
                                                                                                                                                            refine lv_goto (tgt := 19) hx hb dX12_feed_113 (by decide) ?_
                                                                                                                                                            refine lv_iload hx hb dX12_feed_19 (lv_at hl 0 rfl) ?_
                                                                                                                                                            refine lv_bipush (v := 20) hx hb dX12_feed_21 (by decide) ?_
                                                                                                                                                            refine lv_icmp_ge (tgt := 116) hx hb dX12_feed_23 (by decide) (fun c23_282 => ?_) (fun c23_282 => ?_)
                                                                                                                                                            · skip
                                                                                                                                                              refine lv_aload_n hx hb dX12_feed_116 rfl (lv_at hl 2 rfl) ?_
                                                                                                                                                              refine m_geti x L281 3 rfl rfl (wm_in uf_264) dX12_feed_117 (fun v283 ev283 wv283 => ?_)
                                                                                                                                                              refine m_top (((mm_st eg281)).trans ev283.symm) ?_
                                                                                                                                                              exact hQ _ _ v280 _ _ _ dX12_feed_120 L281 ⟨(mFr.upE (mFr.upE (mFr.upE (mFr.upE (mFr.upE (mFr.upE (mFr.upE (mFr.upE (mFr.upE (mFr.upE (mFr.upE (mFr.upE (mFr.upE (mFr.upE (mFr.upE (mFr.upE (mFr.upE (mFr.upE (mFr.upE (mFr.upE (mFr.upE (mFr.upE (mFr.upE (mFr.upE (mFr.upE (mFr.upE (mFr.upE (mFr.upE (mFr.upE (mFr.upE (mFr.upE (mFr.upE (mFr.upE (mFr.upE (mFr.upE (mFr.upE (mFr.upE (mFr.upE (mFr.upE (mFr.upE mFr.rf eg14 rfl) eg17 rfl) eg26 rfl) eg29 rfl) eg38 rfl) eg41 rfl) eg50 rfl) eg53 rfl) eg63 rfl) eg66 rfl) eg76 rfl) eg79 rfl) eg89 rfl) eg92 rfl) eg102 rfl) eg105 rfl) eg116 rfl) eg119 rfl) eg130 rfl) eg133 rfl) eg144 rfl) eg147 rfl) eg158 rfl) eg161 rfl) eg173 rfl) eg176 rfl) eg188 rfl) eg191 rfl) eg203 rfl) eg206 rfl) eg218 rfl) eg221 rfl) eg233 rfl) eg236 rfl) eg248 rfl) eg251 rfl) eg263 rfl) eg266 rfl) eg278 rfl) eg281 rfl), rg_w rv280 rfl, trivial⟩
                                                                                                                                                            · skip
                                                                                                                                                              exact absurd c23_282 (by decide)
                                                                                                                                                          · skip
                                                                                                                                                            exact absurd c62_271 (by decide)
                                                                                                                                                        · skip
                                                                                                                                                          exact absurd c51_270 (by decide)
                                                                                                                                                      · skip
                                                                                                                                                        exact absurd c40_269 (by decide)
                                                                                                                                                    · skip
                                                                                                                                                      exact absurd c29_268 (by decide)
                                                                                                                                                · skip
                                                                                                                                                  exact absurd c62_256 (by decide)
                                                                                                                                              · skip
                                                                                                                                                exact absurd c51_255 (by decide)
                                                                                                                                            · skip
                                                                                                                                              exact absurd c40_254 (by decide)
                                                                                                                                          · skip
                                                                                                                                            exact absurd c29_253 (by decide)
                                                                                                                                      · skip
                                                                                                                                        exact absurd c62_241 (by decide)
                                                                                                                                    · skip
                                                                                                                                      exact absurd c51_240 (by decide)
                                                                                                                                  · skip
                                                                                                                                    exact absurd c40_239 (by decide)
                                                                                                                                · skip
                                                                                                                                  exact absurd c29_238 (by decide)
                                                                                                                            · skip
                                                                                                                              exact absurd c62_226 (by decide)
                                                                                                                          · skip
                                                                                                                            exact absurd c51_225 (by decide)
                                                                                                                        · skip
                                                                                                                          exact absurd c40_224 (by decide)
                                                                                                                      · skip
                                                                                                                        exact absurd c29_223 (by decide)
                                                                                                                · skip
                                                                                                                  exact absurd c51_210 (by decide)
                                                                                                              · skip
                                                                                                                exact absurd c40_209 (by decide)
                                                                                                            · skip
                                                                                                              exact absurd c29_208 (by decide)
                                                                                                      · skip
                                                                                                        exact absurd c51_195 (by decide)
                                                                                                    · skip
                                                                                                      exact absurd c40_194 (by decide)
                                                                                                  · skip
                                                                                                    exact absurd c29_193 (by decide)
                                                                                            · skip
                                                                                              exact absurd c51_180 (by decide)
                                                                                          · skip
                                                                                            exact absurd c40_179 (by decide)
                                                                                        · skip
                                                                                          exact absurd c29_178 (by decide)
                                                                                  · skip
                                                                                    exact absurd c51_165 (by decide)
                                                                                · skip
                                                                                  exact absurd c40_164 (by decide)
                                                                              · skip
                                                                                exact absurd c29_163 (by decide)
                                                                        · skip
                                                                          exact absurd c40_150 (by decide)
                                                                      · skip
                                                                        exact absurd c29_149 (by decide)
                                                                · skip
                                                                  exact absurd c40_136 (by decide)
                                                              · skip
                                                                exact absurd c29_135 (by decide)
                                                        · skip
                                                          exact absurd c40_122 (by decide)
                                                      · skip
                                                        exact absurd c29_121 (by decide)
                                                · skip
                                                  exact absurd c40_108 (by decide)
                                              · skip
                                                exact absurd c29_107 (by decide)
                                        · skip
                                          exact absurd c29_94 (by decide)
                                  · skip
                                    exact absurd c29_81 (by decide)
                            · skip
                              exact absurd c29_68 (by decide)
                      · skip
                        exact absurd c29_55 (by decide)
  · skip
    have q284 : rg (201) (220) v2 := (rg_lt (rg_nle c10_3) kc_200 rv2).2
    have q285 : rg (181) (200) v1 := rg_back dv2 kc_20 q284
    refine lv_bipush (v := (-3)) hx hb dX12_feed_13 (by decide) ?_
    exact hQ _ _ (-3 : Int32) _ _ _ dX12_feed_15 L ⟨mFr.rf, rg_w kc_m3 rfl, trivial⟩
theorem c_feed (l : Launch) {G : mG} {h0 : Nat} {ad : Nat → Nat} (nn X : Int) (g : mSt) (p1 : Int32) (p2 : Int32) (p3 : Int32) (p4 : Int32) (p5 : Int32) (hnn : 2 ≤ nn ∧ nn ≤ 4) (hX : 0 ≤ X ∧ X ≤ 2000000000) : Met l yX12_feed (wm (Cond.code yX12_feed cX12_feed 8 (some .int))) rm_feed (va_Pc [.ref h0, .int p1, .int p2, .int p3, .int p4, .int p5] (mPre G h0 ad nn X g)) (mQi G h0 ad nn X (fun r g1 => mFr [2, 3] g g1 ∧ rg (-3) (200) r ∧ True)) 0 0 (mA h0 ad) := by
  refine Met.ofW (cc := cX12_feed) (maxL := 8) (ret := (some .int)) (by decide) rfl ?_
  intro p e s m args below meth c s₁ B hml hv
  obtain ⟨rfl, hv⟩ := hv
  have hr := B.returns
  have hlocks := B.notSynchronized
  obtain ⟨x, L⟩ := m_start B rfl wm_X hv
  have hl := lv_entry ([.ref h0, .int p1, .int p2, .int p3, .int p4, .int p5]) (n := 8) (Nat.le_of_ble_eq_true rfl)
  rw [lg_entry_eq]
  generalize (lg_sl ([.ref h0, .int p1, .int p2, .int p3, .int p4, .int p5]) ++ List.replicate (8 - (lg_sl ([.ref h0, .int p1, .int p2, .int p3, .int p4, .int p5])).length) Slot.unset).toArray = ls at hl ⊢
  exact w_feed x hml L hnn hX p1 p2 p3 p4 p5 hl (fun pc' ls' r g1 H1 locs1 hdg L hp => m_iret x L hr hlocks (Int.le_refl _) hp hdg)

def rm_elementAt : Room := { frames := 0, cells := 0, slots := 0, locals := 0 }
theorem hd_elementAt : yX12_elementAt.cls = RX12 ∧ yX12_elementAt.cls ≠ "java/lang/invoke/MethodHandle" ∧ yX12_elementAt.cls ≠ "java/lang/invoke/VarHandle" ∧ (parseMethodDescriptor yX12_elementAt.desc).map (fun d => d.parameters.length) = some 4 := by decide +kernel
set_option maxHeartbeats 4000000 in
set_option maxRecDepth 100000 in
theorem w_elementAt {p : Program} {l : Launch} {e : Env} {s : State} {m : MethodId} {args : Array Value} {below : List Frame} {meth : Method} {c : Code} {H : Heap} {locs : List Loc} {Q : State → Prop} {ls : Array Slot} {G : mG} {h0 : Nat} {ad : Nat → Nat} {g : mSt} {H0 : Heap} {nn X : Int} (x : mX p c cX12_elementAt s args (wm (Cond.code yX12_elementAt cX12_elementAt 6 (some .int))) m G h0 ad) (hml : c.maxLocals = 6) (L : mL G h0 ad H0 nn X g H locs) (hnn : 2 ≤ nn ∧ nn ≤ 4) (hX : 0 ≤ X ∧ X ≤ 2000000000) (p1 : Int32) (p2 : Int32) (p3 : Int32) (p4 : Int32) (rp1 : rg (0) (66) p1) (rp2 : rg (1) (60) p2) (rp4 : rg (1) (2) p4) (hl : lv_has ls 6 [(0, .ref h0), (1, .int p1), (2, .int p2), (3, .int p3), (4, .int p4)]) (hQ : ∀ (pc' : Nat) (ls' : Array Slot) (r : Int32) (g1 : mSt) (H1 : Heap) (locs1 : List Loc), decode cX12_elementAt pc' = .ok (.ireturn, 1) → mL G h0 ad H0 nn X g1 H1 locs1 → (mFr [] g g1 ∧ rg (0) (60) r ∧ (1 ≤ r.toInt → 1 ≤ p1.toInt ∧ r.toInt = p1.toInt + 4 + p4.toInt ∧ r.toInt ≤ p2.toInt ∧ wI g (p1.toInt + 2) = 0 ∧ wI g (p1.toInt + 3) = p4.toInt)) → W p l e rm_elementAt s m args below meth c H1 locs1 0 0 Q (F0 m pc' ls' [.int r])) : W p l e rm_elementAt s m args below meth c H locs 0 0 Q (F0 m 0 ls []) := by
  have hx := x.1
  have hb := x.2.1
  have up1 : (0 : Int) ≤ p1.toInt ∧ p1.toInt ≤ 66 := rp1
  have up2 : (1 : Int) ≤ p2.toInt ∧ p2.toInt ≤ 60 := rp2
  have up3 : (-2147483648 : Int) ≤ p3.toInt ∧ p3.toInt ≤ 2147483647 := (rg_any p3)
  have up4 : (1 : Int) ≤ p4.toInt ∧ p4.toInt ≤ 2 := rp4
  refine lv_iload_n hx hb dX12_elementAt_0 rfl (lv_at hl 1 rfl) ?_
  refine lv_if_le (tgt := 66) hx hb dX12_elementAt_1 (by decide) (fun c1_1 => ?_) (fun c1_1 => ?_)
  · skip
    have ic1_1 := Int32.le_iff_toInt_le.mp c1_1
    have q2 : rg (0) (0) p1 := (rg_le c1_1 rp1 kc_0).1
    have uq2 : (0 : Int) ≤ p1.toInt ∧ p1.toInt ≤ 0 := q2
    refine lv_iconst (v := 0) hx hb dX12_elementAt_66 (by decide) ?_
    refine lv_istore (lv' := [(5, .int (0 : Int32)), (0, .ref h0), (1, .int p1), (2, .int p2), (3, .int p3), (4, .int p4)]) hx hb dX12_elementAt_67 hl (by decide) rfl (fun ls hl => ?_)
    refine lv_iload hx hb dX12_elementAt_69 (lv_at hl 0 rfl) ?_
    refine lv_if_eq (tgt := 83) hx hb dX12_elementAt_71 (by decide) (fun c71_3 => ?_) (fun c71_3 => ?_)
    · skip
      refine lv_iconst (v := 0) hx hb dX12_elementAt_83 (by decide) ?_
      exact hQ _ _ (0 : Int32) _ _ _ dX12_elementAt_84 L ⟨mFr.rf, rg_w kc_0 rfl, (by have : (0 : Int32).toInt = 0 := (by decide); omega)⟩
    · skip
      exact absurd c71_3 (by decide)
  · skip
    have ic1_1 := Int32.lt_iff_toInt_lt.mp (rg_nle c1_1)
    have q4 : rg (1) (66) p1 := (rg_lt (rg_nle c1_1) kc_0 rp1).2
    have uq4 : (1 : Int) ≤ p1.toInt ∧ p1.toInt ≤ 66 := q4
    refine lv_iload_n hx hb dX12_elementAt_4 rfl (lv_at hl 1 rfl) ?_
    refine lv_iconst (v := 4) hx hb dX12_elementAt_5 (by decide) ?_
    refine lv_iadd hx hb dX12_elementAt_6 ?_
    refine lv_topi (fun v5 ev5 => ?_)
    have rv5 : rg (5) (70) v5 := (rg_add ev5 q4 kc_4 rfl).1
    have dv5 := (rg_add ev5 q4 kc_4 rfl).2
    have tv5 := (rg_add ev5 q4 kc_4 rfl).2
    have y6 : (4 : Int32).toInt = 4 := by decide
    have uv5 : (5 : Int) ≤ v5.toInt ∧ v5.toInt ≤ 70 := rv5
    refine lv_iload hx hb dX12_elementAt_7 (lv_at hl 4 rfl) ?_
    refine lv_iadd hx hb dX12_elementAt_9 ?_
    refine lv_topi (fun v7 ev7 => ?_)
    have rv7 : rg (6) (72) v7 := (rg_add ev7 rv5 rp4 rfl).1
    have tv7 := (rg_add ev7 rv5 rp4 rfl).2
    have uv7 : (6 : Int) ≤ v7.toInt ∧ v7.toInt ≤ 72 := rv7
    refine lv_iload_n hx hb dX12_elementAt_10 rfl (lv_at hl 2 rfl) ?_
    refine lv_icmp_gt (tgt := 66) hx hb dX12_elementAt_11 (by decide) (fun c11_8 => ?_) (fun c11_8 => ?_)
    · skip
      have ic11_8 := Int32.lt_iff_toInt_lt.mp c11_8
      refine lv_iconst (v := 0) hx hb dX12_elementAt_66 (by decide) ?_
      refine lv_istore (lv' := [(5, .int (0 : Int32)), (0, .ref h0), (1, .int p1), (2, .int p2), (3, .int p3), (4, .int p4)]) hx hb dX12_elementAt_67 hl (by decide) rfl (fun ls hl => ?_)
      refine lv_iload hx hb dX12_elementAt_69 (lv_at hl 0 rfl) ?_
      refine lv_if_eq (tgt := 83) hx hb dX12_elementAt_71 (by decide) (fun c71_9 => ?_) (fun c71_9 => ?_)
      · skip
        refine lv_iconst (v := 0) hx hb dX12_elementAt_83 (by decide) ?_
        exact hQ _ _ (0 : Int32) _ _ _ dX12_elementAt_84 L ⟨mFr.rf, rg_w kc_0 rfl, (by have : (0 : Int32).toInt = 0 := (by decide); omega)⟩
      · skip
        exact absurd c71_9 (by decide)
    · skip
      have ic11_8 := Int32.le_iff_toInt_le.mp (rg_nlt c11_8)
      have q10 : rg (6) (60) v7 := (rg_le (rg_nlt c11_8) rv7 rp2).1
      have uq10 : (6 : Int) ≤ v7.toInt ∧ v7.toInt ≤ 60 := q10
      have q11 : rg (6) (60) p2 := (rg_le (rg_nlt c11_8) rv7 rp2).2
      have uq11 : (6 : Int) ≤ p2.toInt ∧ p2.toInt ≤ 60 := q11
      refine lv_aload_n hx hb dX12_elementAt_14 rfl (lv_at hl 0 rfl) ?_
      refine m_geta x L 33 rfl rfl (wm_in uf_89) dX12_elementAt_15 ?_
      refine lv_iload_n hx hb dX12_elementAt_18 rfl (lv_at hl 1 rfl) ?_
      refine m_ld x L 33 rfl q4 rfl dX12_elementAt_19 (fun v12 ev12 wv12 => ?_)
      have rv12 : rg (-2147483648) (2147483647) v12 := lj_33 wv12
      have uv12 : (-2147483648 : Int) ≤ v12.toInt ∧ v12.toInt ≤ 2147483647 := rv12
      have xv12 : wI g (p1.toInt) = v12.toInt := wI_at (ev12.trans (congrFun ((show mFr [] g g from mFr.rf).at 33 rfl) _)) rfl
      have sv12 : v12.toInt = (g 33 p1.toNatClampNeg).toInt := congrArg Int32.toInt (ev12.trans (congrFun ((show mFr [] g g from mFr.rf).at 33 rfl) _))
      refine lv_iload_n hx hb dX12_elementAt_20 rfl (lv_at hl 3 rfl) ?_
      refine lv_icmp_ne (tgt := 66) hx hb dX12_elementAt_21 (by decide) (fun c21_13 => ?_) (fun c21_13 => ?_)
      · skip
        have ic21_13 : v12.toInt ≠ p3.toInt := fun z => c21_13 (Int32.toInt_inj.mp z)
        refine lv_iconst (v := 0) hx hb dX12_elementAt_66 (by decide) ?_
        refine lv_istore (lv' := [(5, .int (0 : Int32)), (0, .ref h0), (1, .int p1), (2, .int p2), (3, .int p3), (4, .int p4)]) hx hb dX12_elementAt_67 hl (by decide) rfl (fun ls hl => ?_)
        refine lv_iload hx hb dX12_elementAt_69 (lv_at hl 0 rfl) ?_
        refine lv_if_eq (tgt := 83) hx hb dX12_elementAt_71 (by decide) (fun c71_14 => ?_) (fun c71_14 => ?_)
        · skip
          refine lv_iconst (v := 0) hx hb dX12_elementAt_83 (by decide) ?_
          exact hQ _ _ (0 : Int32) _ _ _ dX12_elementAt_84 L ⟨mFr.rf, rg_w kc_0 rfl, (by have : (0 : Int32).toInt = 0 := (by decide); omega)⟩
        · skip
          exact absurd c71_14 (by decide)
      · skip
        have ic21_13 := congrArg Int32.toInt c21_13
        refine lv_aload_n hx hb dX12_elementAt_24 rfl (lv_at hl 0 rfl) ?_
        refine m_geta x L 33 rfl rfl (wm_in uf_89) dX12_elementAt_25 ?_
        refine lv_iload_n hx hb dX12_elementAt_28 rfl (lv_at hl 1 rfl) ?_
        refine lv_iconst (v := 1) hx hb dX12_elementAt_29 (by decide) ?_
        refine lv_iadd hx hb dX12_elementAt_30 ?_
        refine lv_topi (fun v15 ev15 => ?_)
        have rv15 : rg (2) (67) v15 := (rg_add ev15 q4 kc_1 rfl).1
        have dv15 := (rg_add ev15 q4 kc_1 rfl).2
        have tv15 := (rg_add ev15 q4 kc_1 rfl).2
        have y16 : (1 : Int32).toInt = 1 := by decide
        have uv15 : (2 : Int) ≤ v15.toInt ∧ v15.toInt ≤ 67 := rv15
        refine m_ld x L 33 rfl rv15 rfl dX12_elementAt_31 (fun v17 ev17 wv17 => ?_)
        have rv17 : rg (-2147483648) (2147483647) v17 := lj_33 wv17
        have uv17 : (-2147483648 : Int) ≤ v17.toInt ∧ v17.toInt ≤ 2147483647 := rv17
        have xv17 : wI g (p1.toInt + 1) = v17.toInt := wI_at (ev17.trans (congrFun ((show mFr [] g g from mFr.rf).at 33 rfl) _)) (by have := dv15; have : (1 : Int32).toInt = 1 := (by decide); omega)
        have sv17 : v17.toInt = (g 33 v15.toNatClampNeg).toInt := congrArg Int32.toInt (ev17.trans (congrFun ((show mFr [] g g from mFr.rf).at 33 rfl) _))
        refine lv_sipush (v := 128) hx hb dX12_elementAt_32 (by decide) ?_
        refine lv_icmp_ne (tgt := 66) hx hb dX12_elementAt_35 (by decide) (fun c35_18 => ?_) (fun c35_18 => ?_)
        · skip
          have ic35_18 : v17.toInt ≠ (128 : Int32).toInt := fun z => c35_18 (Int32.toInt_inj.mp z)
          have y19 : (128 : Int32).toInt = 128 := by decide
          refine lv_iconst (v := 0) hx hb dX12_elementAt_66 (by decide) ?_
          refine lv_istore (lv' := [(5, .int (0 : Int32)), (0, .ref h0), (1, .int p1), (2, .int p2), (3, .int p3), (4, .int p4)]) hx hb dX12_elementAt_67 hl (by decide) rfl (fun ls hl => ?_)
          refine lv_iload hx hb dX12_elementAt_69 (lv_at hl 0 rfl) ?_
          refine lv_if_eq (tgt := 83) hx hb dX12_elementAt_71 (by decide) (fun c71_20 => ?_) (fun c71_20 => ?_)
          · skip
            refine lv_iconst (v := 0) hx hb dX12_elementAt_83 (by decide) ?_
            exact hQ _ _ (0 : Int32) _ _ _ dX12_elementAt_84 L ⟨mFr.rf, rg_w kc_0 rfl, (by have : (0 : Int32).toInt = 0 := (by decide); omega)⟩
          · skip
            exact absurd c71_20 (by decide)
        · skip
          have ic35_18 := congrArg Int32.toInt c35_18
          have y21 : (128 : Int32).toInt = 128 := by decide
          have q22 : rg (128) (128) v17 := (rg_eq c35_18 rv17 kc_128).1
          have uq22 : (128 : Int) ≤ v17.toInt ∧ v17.toInt ≤ 128 := q22
          refine lv_aload_n hx hb dX12_elementAt_38 rfl (lv_at hl 0 rfl) ?_
          refine m_geta x L 33 rfl rfl (wm_in uf_89) dX12_elementAt_39 ?_
          refine lv_iload_n hx hb dX12_elementAt_42 rfl (lv_at hl 1 rfl) ?_
          refine lv_iconst (v := 2) hx hb dX12_elementAt_43 (by decide) ?_
          refine lv_iadd hx hb dX12_elementAt_44 ?_
          refine lv_topi (fun v23 ev23 => ?_)
          have rv23 : rg (3) (68) v23 := (rg_add ev23 q4 kc_2 rfl).1
          have dv23 := (rg_add ev23 q4 kc_2 rfl).2
          have tv23 := (rg_add ev23 q4 kc_2 rfl).2
          have y24 : (2 : Int32).toInt = 2 := by decide
          have uv23 : (3 : Int) ≤ v23.toInt ∧ v23.toInt ≤ 68 := rv23
          refine m_ld x L 33 rfl rv23 rfl dX12_elementAt_45 (fun v25 ev25 wv25 => ?_)
          have rv25 : rg (-2147483648) (2147483647) v25 := lj_33 wv25
          have uv25 : (-2147483648 : Int) ≤ v25.toInt ∧ v25.toInt ≤ 2147483647 := rv25
          have xv25 : wI g (p1.toInt + 2) = v25.toInt := wI_at (ev25.trans (congrFun ((show mFr [] g g from mFr.rf).at 33 rfl) _)) (by have := dv23; have : (2 : Int32).toInt = 2 := (by decide); omega)
          have sv25 : v25.toInt = (g 33 v23.toNatClampNeg).toInt := congrArg Int32.toInt (ev25.trans (congrFun ((show mFr [] g g from mFr.rf).at 33 rfl) _))
          refine lv_if_ne (tgt := 66) hx hb dX12_elementAt_46 (by decide) (fun c46_26 => ?_) (fun c46_26 => ?_)
          · skip
            have ic46_26 : v25.toInt ≠ (0 : Int32).toInt := fun z => c46_26 (Int32.toInt_inj.mp z)
            have y27 : (0 : Int32).toInt = 0 := by decide
            refine lv_iconst (v := 0) hx hb dX12_elementAt_66 (by decide) ?_
            refine lv_istore (lv' := [(5, .int (0 : Int32)), (0, .ref h0), (1, .int p1), (2, .int p2), (3, .int p3), (4, .int p4)]) hx hb dX12_elementAt_67 hl (by decide) rfl (fun ls hl => ?_)
            refine lv_iload hx hb dX12_elementAt_69 (lv_at hl 0 rfl) ?_
            refine lv_if_eq (tgt := 83) hx hb dX12_elementAt_71 (by decide) (fun c71_28 => ?_) (fun c71_28 => ?_)
            · skip
              refine lv_iconst (v := 0) hx hb dX12_elementAt_83 (by decide) ?_
              exact hQ _ _ (0 : Int32) _ _ _ dX12_elementAt_84 L ⟨mFr.rf, rg_w kc_0 rfl, (by have : (0 : Int32).toInt = 0 := (by decide); omega)⟩
            · skip
              exact absurd c71_28 (by decide)
          · skip
            have ic46_26 := congrArg Int32.toInt c46_26
            have y29 : (0 : Int32).toInt = 0 := by decide
            have q30 : rg (0) (0) v25 := (rg_eq c46_26 rv25 kc_0).1
            have uq30 : (0 : Int) ≤ v25.toInt ∧ v25.toInt ≤ 0 := q30
            refine lv_aload_n hx hb dX12_elementAt_49 rfl (lv_at hl 0 rfl) ?_
            refine m_geta x L 33 rfl rfl (wm_in uf_89) dX12_elementAt_50 ?_
            refine lv_iload_n hx hb dX12_elementAt_53 rfl (lv_at hl 1 rfl) ?_
            refine lv_iconst (v := 3) hx hb dX12_elementAt_54 (by decide) ?_
            refine lv_iadd hx hb dX12_elementAt_55 ?_
            refine lv_topi (fun v31 ev31 => ?_)
            have rv31 : rg (4) (69) v31 := (rg_add ev31 q4 kc_3 rfl).1
            have dv31 := (rg_add ev31 q4 kc_3 rfl).2
            have tv31 := (rg_add ev31 q4 kc_3 rfl).2
            have y32 : (3 : Int32).toInt = 3 := by decide
            have uv31 : (4 : Int) ≤ v31.toInt ∧ v31.toInt ≤ 69 := rv31
            refine m_ld x L 33 rfl rv31 rfl dX12_elementAt_56 (fun v33 ev33 wv33 => ?_)
            have rv33 : rg (-2147483648) (2147483647) v33 := lj_33 wv33
            have uv33 : (-2147483648 : Int) ≤ v33.toInt ∧ v33.toInt ≤ 2147483647 := rv33
            have xv33 : wI g (p1.toInt + 3) = v33.toInt := wI_at (ev33.trans (congrFun ((show mFr [] g g from mFr.rf).at 33 rfl) _)) (by have := dv31; have : (3 : Int32).toInt = 3 := (by decide); omega)
            have sv33 : v33.toInt = (g 33 v31.toNatClampNeg).toInt := congrArg Int32.toInt (ev33.trans (congrFun ((show mFr [] g g from mFr.rf).at 33 rfl) _))
            refine lv_iload hx hb dX12_elementAt_57 (lv_at hl 4 rfl) ?_
            refine lv_icmp_ne (tgt := 66) hx hb dX12_elementAt_59 (by decide) (fun c59_34 => ?_) (fun c59_34 => ?_)
            · skip
              have ic59_34 : v33.toInt ≠ p4.toInt := fun z => c59_34 (Int32.toInt_inj.mp z)
              refine lv_iconst (v := 0) hx hb dX12_elementAt_66 (by decide) ?_
              refine lv_istore (lv' := [(5, .int (0 : Int32)), (0, .ref h0), (1, .int p1), (2, .int p2), (3, .int p3), (4, .int p4)]) hx hb dX12_elementAt_67 hl (by decide) rfl (fun ls hl => ?_)
              refine lv_iload hx hb dX12_elementAt_69 (lv_at hl 0 rfl) ?_
              refine lv_if_eq (tgt := 83) hx hb dX12_elementAt_71 (by decide) (fun c71_35 => ?_) (fun c71_35 => ?_)
              · skip
                refine lv_iconst (v := 0) hx hb dX12_elementAt_83 (by decide) ?_
                exact hQ _ _ (0 : Int32) _ _ _ dX12_elementAt_84 L ⟨mFr.rf, rg_w kc_0 rfl, (by have : (0 : Int32).toInt = 0 := (by decide); omega)⟩
              · skip
                exact absurd c71_35 (by decide)
            · skip
              have ic59_34 := congrArg Int32.toInt c59_34
              have q36 : rg (1) (2) v33 := (rg_eq c59_34 rv33 rp4).1
              have uq36 : (1 : Int) ≤ v33.toInt ∧ v33.toInt ≤ 2 := q36
              refine lv_iconst (v := 1) hx hb dX12_elementAt_62 (by decide) ?_
              refine lv_goto (tgt := 67) hx hb dX12_elementAt_63 (by decide) ?_
              refine lv_istore (lv' := [(5, .int (1 : Int32)), (0, .ref h0), (1, .int p1), (2, .int p2), (3, .int p3), (4, .int p4)]) hx hb dX12_elementAt_67 hl (by decide) rfl (fun ls hl => ?_)
              refine lv_iload hx hb dX12_elementAt_69 (lv_at hl 0 rfl) ?_
              refine lv_if_eq (tgt := 83) hx hb dX12_elementAt_71 (by decide) (fun c71_37 => ?_) (fun c71_37 => ?_)
              · skip
                exact absurd c71_37 (by decide)
              · skip
                refine lv_iload_n hx hb dX12_elementAt_74 rfl (lv_at hl 2 rfl) ?_
                refine lv_iconst (v := 4) hx hb dX12_elementAt_75 (by decide) ?_
                refine lv_iadd hx hb dX12_elementAt_76 ?_
                refine m_top ev5 ?_
                refine lv_iload hx hb dX12_elementAt_77 (lv_at hl 5 rfl) ?_
                refine lv_iadd hx hb dX12_elementAt_79 ?_
                refine m_top ev7 ?_
                refine lv_goto (tgt := 84) hx hb dX12_elementAt_80 (by decide) ?_
                exact hQ _ _ v7 _ _ _ dX12_elementAt_84 L ⟨mFr.rf, rg_w q10 rfl, (by omega)⟩
theorem c_elementAt (l : Launch) {G : mG} {h0 : Nat} {ad : Nat → Nat} (nn X : Int) (g : mSt) (p1 : Int32) (p2 : Int32) (p3 : Int32) (p4 : Int32) (hnn : 2 ≤ nn ∧ nn ≤ 4) (hX : 0 ≤ X ∧ X ≤ 2000000000) (rp1 : rg (0) (66) p1) (rp2 : rg (1) (60) p2) (rp4 : rg (1) (2) p4) : Met l yX12_elementAt (wm (Cond.code yX12_elementAt cX12_elementAt 6 (some .int))) rm_elementAt (va_Pc [.ref h0, .int p1, .int p2, .int p3, .int p4] (mPre G h0 ad nn X g)) (mQi G h0 ad nn X (fun r g1 => mFr [] g g1 ∧ rg (0) (60) r ∧ (1 ≤ r.toInt → 1 ≤ p1.toInt ∧ r.toInt = p1.toInt + 4 + p4.toInt ∧ r.toInt ≤ p2.toInt ∧ wI g (p1.toInt + 2) = 0 ∧ wI g (p1.toInt + 3) = p4.toInt))) 0 0 (mA h0 ad) := by
  refine Met.ofW (cc := cX12_elementAt) (maxL := 6) (ret := (some .int)) (by decide) rfl ?_
  intro p e s m args below meth c s₁ B hml hv
  obtain ⟨rfl, hv⟩ := hv
  have hr := B.returns
  have hlocks := B.notSynchronized
  obtain ⟨x, L⟩ := m_start B rfl wm_X hv
  have hl := lv_entry ([.ref h0, .int p1, .int p2, .int p3, .int p4]) (n := 6) (Nat.le_of_ble_eq_true rfl)
  rw [lg_entry_eq]
  generalize (lg_sl ([.ref h0, .int p1, .int p2, .int p3, .int p4]) ++ List.replicate (6 - (lg_sl ([.ref h0, .int p1, .int p2, .int p3, .int p4])).length) Slot.unset).toArray = ls at hl ⊢
  exact w_elementAt x hml L hnn hX p1 p2 p3 p4 rp1 rp2 rp4 hl (fun pc' ls' r g1 H1 locs1 hdg L hp => m_iret x L hr hlocks (Int.le_refl _) hp hdg)

def rm_isCall : Room := { frames := 1, cells := 0, slots := 0, locals := 21 }
theorem hd_isCall : yX12_isCall.cls = RX12 ∧ yX12_isCall.cls ≠ "java/lang/invoke/MethodHandle" ∧ yX12_isCall.cls ≠ "java/lang/invoke/VarHandle" ∧ (parseMethodDescriptor yX12_isCall.desc).map (fun d => d.parameters.length) = some 2 := by decide +kernel
set_option maxHeartbeats 4000000 in
set_option maxRecDepth 100000 in
theorem w_isCall {p : Program} {l : Launch} {e : Env} {s : State} {m : MethodId} {args : Array Value} {below : List Frame} {meth : Method} {c : Code} {H : Heap} {locs : List Loc} {Q : State → Prop} {ls : Array Slot} {G : mG} {h0 : Nat} {ad : Nat → Nat} {g : mSt} {H0 : Heap} {nn X : Int} (x : mX p c cX12_isCall s args (wm (Cond.code yX12_isCall cX12_isCall 3 (some .boolean))) m G h0 ad) (hml : c.maxLocals = 3) (L : mL G h0 ad H0 nn X g H locs) (hnn : 2 ≤ nn ∧ nn ≤ 4) (hX : 0 ≤ X ∧ X ≤ 2000000000) (p1 : Int32) (p2 : Int32) (hl : lv_has ls 3 [(0, .ref h0), (1, .int p1), (2, .int p2)]) (hQ : ∀ (pc' : Nat) (ls' : Array Slot) (r : Int32) (g1 : mSt) (H1 : Heap) (locs1 : List Loc), decode cX12_isCall pc' = .ok (.ireturn, 1) → mL G h0 ad H0 nn X g1 H1 locs1 → (mFr [] g g1 ∧ rg (0) (1) r ∧ (¬ r = 0 → rg (0) (3) p1 ∧ p1.toInt < 1 * nn) ∧ (¬ r = 0 → rg (0) (39) p2 ∧ p2.toInt < 20 * nn)) → W p l e rm_isCall s m args below meth c H1 locs1 0 0 Q (F0 m pc' ls' [.int r])) : W p l e rm_isCall s m args below meth c H locs 0 0 Q (F0 m 0 ls []) := by
  have hx := x.1
  have hb := x.2.1
  refine lv_aload_n hx hb dX12_isCall_0 rfl (lv_at hl 0 rfl) ?_
  refine lv_iload_n hx hb dX12_isCall_1 rfl (lv_at hl 1 rfl) ?_
  refine m_ci (As := [.int p1]) (rest := []) x hml L (c_isEnd l nn X g p1 hnn hX) (wm_V uc_isEnd ul_381 ui_isEnd us_isEnd u_init) rfl ⟨rfl, rfl⟩ hd_isEnd ⟨Nat.le_of_ble_eq_true rfl, Nat.le_of_ble_eq_true rfl⟩ rfl hl.1 rfl (lv_room (Nat.le_of_ble_eq_true rfl)) dX12_isCall_2 (fun v2 g1 H1 k1 hp1 L1 => ?_)
  have rv2 : rg (0) (1) v2 := hp1.2.1
  refine lv_if_eq (tgt := 38) hx hb dX12_isCall_5 (by decide) (fun c5_3 => ?_) (fun c5_3 => ?_)
  · skip
    have q4 : rg (0) (0) v2 := (rg_eq c5_3 rv2 kc_0).1
    refine lv_iconst (v := 0) hx hb dX12_isCall_38 (by decide) ?_
    exact hQ _ _ (0 : Int32) _ _ _ dX12_isCall_39 L1 ⟨(mFr.tr mFr.rf hp1.1 rfl), rg_w kc_0 rfl, (fun h => absurd rfl h), (fun h => absurd rfl h)⟩
  · skip
    have q5 : rg (0) (3) p1 ∧ p1.toInt < 1 * nn := hp1.2.2.1 c5_3
    have q6 : rg (1) (1) v2 := rg_neL c5_3 rv2 kc_0
    refine lv_iload_n hx hb dX12_isCall_8 rfl (lv_at hl 2 rfl) ?_
    refine lv_if_lt (tgt := 38) hx hb dX12_isCall_9 (by decide) (fun c9_7 => ?_) (fun c9_7 => ?_)
    · skip
      have q8 : rg (-2147483648) (-1) p2 := (rg_lt c9_7 (rg_any p2) kc_0).1
      refine lv_iconst (v := 0) hx hb dX12_isCall_38 (by decide) ?_
      exact hQ _ _ (0 : Int32) _ _ _ dX12_isCall_39 L1 ⟨(mFr.tr mFr.rf hp1.1 rfl), rg_w kc_0 rfl, (fun h => absurd rfl h), (fun h => absurd rfl h)⟩
    · skip
      have q9 : rg (0) (2147483647) p2 := (rg_le (rg_nlt c9_7) kc_0 (rg_any p2)).2
      refine lv_iload_n hx hb dX12_isCall_12 rfl (lv_at hl 2 rfl) ?_
      refine lv_aload_n hx hb dX12_isCall_13 rfl (lv_at hl 0 rfl) ?_
      refine m_geta x L1 80 rfl rfl (wm_in uf_225) dX12_isCall_14 ?_
      refine lv_aload_n hx hb dX12_isCall_17 rfl (lv_at hl 0 rfl) ?_
      refine lv_iload_n hx hb dX12_isCall_18 rfl (lv_at hl 1 rfl) ?_
      refine m_ci (As := [.int p1]) (rest := [.ref (ad 80), .int p2]) x hml L1 (c_isEnd l nn X g1 p1 hnn hX) (wm_V uc_isEnd ul_381 ui_isEnd us_isEnd u_init) rfl ⟨rfl, rfl⟩ hd_isEnd ⟨Nat.le_of_ble_eq_true rfl, Nat.le_of_ble_eq_true rfl⟩ rfl hl.1 rfl (lv_room (Nat.le_of_ble_eq_true rfl)) dX12_isCall_19 (fun v11 g10 H10 k10 hp10 L10 => ?_)
      have rv11 : rg (0) (1) v11 := hp10.2.1
      refine lv_if_eq (tgt := 29) hx hb dX12_isCall_22 (by decide) (fun c22_12 => ?_) (fun c22_12 => ?_)
      · skip
        have q13 : rg (0) (0) v11 := (rg_eq c22_12 rv11 kc_0).1
        refine lv_iconst (v := 0) hx hb dX12_isCall_29 (by decide) ?_
        refine m_ld x L10 80 rfl kc_0 rfl dX12_isCall_30 (fun v14 ev14 wv14 => ?_)
        have rv14 : rg (0) (40) v14 := lj_80 wv14
        refine lv_icmp_ge (tgt := 38) hx hb dX12_isCall_31 (by decide) (fun c31_15 => ?_) (fun c31_15 => ?_)
        · skip
          refine lv_iconst (v := 0) hx hb dX12_isCall_38 (by decide) ?_
          exact hQ _ _ (0 : Int32) _ _ _ dX12_isCall_39 L10 ⟨(mFr.tr (mFr.tr mFr.rf hp1.1 rfl) hp10.1 rfl), rg_w kc_0 rfl, (fun h => absurd rfl h), (fun h => absurd rfl h)⟩
        · skip
          have q16 : rg (0) (39) p2 := (rg_lt (rg_nle c31_15) q9 rv14).1
          have q17 : rg (1) (40) v14 := (rg_lt (rg_nle c31_15) q9 rv14).2
          refine lv_iconst (v := 1) hx hb dX12_isCall_34 (by decide) ?_
          refine lv_goto (tgt := 39) hx hb dX12_isCall_35 (by decide) ?_
          exact hQ _ _ (1 : Int32) _ _ _ dX12_isCall_39 L10 ⟨(mFr.tr (mFr.tr mFr.rf hp1.1 rfl) hp10.1 rfl), rg_w kc_1 rfl, (fun _ => ⟨rg_w q5.1 rfl, q5.2⟩), (fun _ => ⟨rg_w q16 rfl, nb_of q16 rfl hnn⟩)⟩
      · skip
        have q18 : rg (0) (3) p1 ∧ p1.toInt < 1 * nn := hp10.2.2.1 c22_12
        have q19 : rg (1) (1) v11 := rg_neL c22_12 rv11 kc_0
        refine lv_iload_n hx hb dX12_isCall_25 rfl (lv_at hl 1 rfl) ?_
        refine lv_goto (tgt := 30) hx hb dX12_isCall_26 (by decide) ?_
        refine m_ld x L10 80 rfl q18.1 rfl dX12_isCall_30 (fun v20 ev20 wv20 => ?_)
        have rv20 : rg (0) (40) v20 := lj_80 wv20
        refine lv_icmp_ge (tgt := 38) hx hb dX12_isCall_31 (by decide) (fun c31_21 => ?_) (fun c31_21 => ?_)
        · skip
          refine lv_iconst (v := 0) hx hb dX12_isCall_38 (by decide) ?_
          exact hQ _ _ (0 : Int32) _ _ _ dX12_isCall_39 L10 ⟨(mFr.tr (mFr.tr mFr.rf hp1.1 rfl) hp10.1 rfl), rg_w kc_0 rfl, (fun h => absurd rfl h), (fun h => absurd rfl h)⟩
        · skip
          have q22 : rg (0) (39) p2 := (rg_lt (rg_nle c31_21) q9 rv20).1
          have q23 : rg (1) (40) v20 := (rg_lt (rg_nle c31_21) q9 rv20).2
          refine lv_iconst (v := 1) hx hb dX12_isCall_34 (by decide) ?_
          refine lv_goto (tgt := 39) hx hb dX12_isCall_35 (by decide) ?_
          exact hQ _ _ (1 : Int32) _ _ _ dX12_isCall_39 L10 ⟨(mFr.tr (mFr.tr mFr.rf hp1.1 rfl) hp10.1 rfl), rg_w kc_1 rfl, (fun _ => ⟨rg_w q18.1 rfl, q18.2⟩), (fun _ => ⟨rg_w q22 rfl, nb_of q22 rfl hnn⟩)⟩
theorem c_isCall (l : Launch) {G : mG} {h0 : Nat} {ad : Nat → Nat} (nn X : Int) (g : mSt) (p1 : Int32) (p2 : Int32) (hnn : 2 ≤ nn ∧ nn ≤ 4) (hX : 0 ≤ X ∧ X ≤ 2000000000) : Met l yX12_isCall (wm (Cond.code yX12_isCall cX12_isCall 3 (some .boolean))) rm_isCall (va_Pc [.ref h0, .int p1, .int p2] (mPre G h0 ad nn X g)) (mQi G h0 ad nn X (fun r g1 => mFr [] g g1 ∧ rg (0) (1) r ∧ (¬ r = 0 → rg (0) (3) p1 ∧ p1.toInt < 1 * nn) ∧ (¬ r = 0 → rg (0) (39) p2 ∧ p2.toInt < 20 * nn))) 0 0 (mA h0 ad) := by
  refine Met.ofW (cc := cX12_isCall) (maxL := 3) (ret := (some .boolean)) (by decide) rfl ?_
  intro p e s m args below meth c s₁ B hml hv
  obtain ⟨rfl, hv⟩ := hv
  have hr := B.returns
  have hlocks := B.notSynchronized
  obtain ⟨x, L⟩ := m_start B rfl wm_X hv
  have hl := lv_entry ([.ref h0, .int p1, .int p2]) (n := 3) (Nat.le_of_ble_eq_true rfl)
  rw [lg_entry_eq]
  generalize (lg_sl ([.ref h0, .int p1, .int p2]) ++ List.replicate (3 - (lg_sl ([.ref h0, .int p1, .int p2])).length) Slot.unset).toArray = ls at hl ⊢
  exact w_isCall x hml L hnn hX p1 p2 hl (fun pc' ls' r g1 H1 locs1 hdg L hp => m_zret x L hr hlocks (nar01 (rg_w hp.2.1 rfl)) (Int.le_refl _) hp hdg)

def rm_nextCall : Room := { frames := 0, cells := 0, slots := 0, locals := 0 }
theorem hd_nextCall : yX12_nextCall.cls = RX12 ∧ yX12_nextCall.cls ≠ "java/lang/invoke/MethodHandle" ∧ yX12_nextCall.cls ≠ "java/lang/invoke/VarHandle" ∧ (parseMethodDescriptor yX12_nextCall.desc).map (fun d => d.parameters.length) = some 2 := by decide +kernel
set_option maxHeartbeats 4000000 in
set_option maxRecDepth 100000 in
theorem w_nextCall {p : Program} {l : Launch} {e : Env} {s : State} {m : MethodId} {args : Array Value} {below : List Frame} {meth : Method} {c : Code} {H : Heap} {locs : List Loc} {Q : State → Prop} {ls : Array Slot} {G : mG} {h0 : Nat} {ad : Nat → Nat} {g : mSt} {H0 : Heap} {nn X : Int} (x : mX p c cX12_nextCall s args (wm (Cond.code yX12_nextCall cX12_nextCall 6 (some .int))) m G h0 ad) (hml : c.maxLocals = 6) (L : mL G h0 ad H0 nn X g H locs) (hnn : 2 ≤ nn ∧ nn ≤ 4) (hX : 0 ≤ X ∧ X ≤ 2000000000) (p1 : Int32) (p2 : Int32) (rp1 : rg (0) (7) p1) (hl : lv_has ls 6 [(0, .ref h0), (1, .int p1), (2, .int p2)]) (hQ : ∀ (pc' : Nat) (ls' : Array Slot) (r : Int32) (g1 : mSt) (H1 : Heap) (locs1 : List Loc), decode cX12_nextCall pc' = .ok (.ireturn, 1) → mL G h0 ad H0 nn X g1 H1 locs1 → (mFr [] g g1 ∧ rg (-2) (319) r ∧ (0 ≤ r.toInt → p2.toInt < (g 78 r.toNatClampNeg).toInt)) → W p l e rm_nextCall s m args below meth c H1 locs1 0 0 Q (F0 m pc' ls' [.int r])) : W p l e rm_nextCall s m args below meth c H locs 0 0 Q (F0 m 0 ls []) := by
  have hx := x.1
  have hb := x.2.1
  have up1 : (0 : Int) ≤ p1.toInt ∧ p1.toInt ≤ 7 := rp1
  have up2 : (-2147483648 : Int) ≤ p2.toInt ∧ p2.toInt ≤ 2147483647 := (rg_any p2)
  refine lv_bipush (v := (-2)) hx hb dX12_nextCall_0 (by decide) ?_
  refine lv_istore_n (lv' := [(3, .int (-2 : Int32)), (0, .ref h0), (1, .int p1), (2, .int p2)]) hx hb dX12_nextCall_2 rfl hl (by decide) rfl (fun ls hl => ?_)
  refine lv_bipush (v := 40) hx hb dX12_nextCall_3 (by decide) ?_
  refine lv_iload_n hx hb dX12_nextCall_5 rfl (lv_at hl 2 rfl) ?_
  refine lv_imul hx hb dX12_nextCall_6 ?_
  refine lv_topi (fun v1 ev1 => ?_)
  have rv1 : rg (0) (280) v1 := (rg_mulL ev1 kc_40 rp1 rfl).1
  have tv1 := (rg_mulL ev1 kc_40 rp1 rfl).2
  have y2 : (40 : Int32).toInt = 40 := by decide
  have uv1 : (0 : Int) ≤ v1.toInt ∧ v1.toInt ≤ 280 := rv1
  refine lv_istore (lv' := [(4, .int v1), (3, .int (-2 : Int32)), (0, .ref h0), (1, .int p1), (2, .int p2)]) hx hb dX12_nextCall_7 hl (by decide) rfl (fun ls hl => ?_)
  have j9_5 : ∀ (n : Nat) (a9_3_3 a9_4_4 : Int32) (g5 : mSt) (H5 : Heap) (k5 : List Loc) (ls : Array Slot), mFr [] g g5 → mL G h0 ad H0 nn X g5 H5 k5 → rg (-2) (319) a9_3_3 → rg (0) (320) a9_4_4 → (0 ≤ a9_3_3.toInt → p2.toInt < (g 78 a9_3_3.toNatClampNeg).toInt) → lv_has ls 6 [(0, .ref h0), (1, .int p1), (2, .int p2), (3, .int a9_3_3), (4, .int a9_4_4)] → ((320 : Int) - a9_4_4.toInt).toNat = n → W p l e rm_nextCall s m args below meth c H5 k5 0 0 Q (F0 m 9 ls []) := by
    intro n
    induction n using Nat.strongRecOn with
    | _ n ih5 =>
      intro a9_3_3 a9_4_4 g5 H5 k5 ls hF5 L5 ra9_3_3 ra9_4_4 hv5_0 hl hn5
      subst hn5
      have ua9_3_3 : (-2 : Int) ≤ a9_3_3.toInt ∧ a9_3_3.toInt ≤ 319 := ra9_3_3
      have ua9_4_4 : (0 : Int) ≤ a9_4_4.toInt ∧ a9_4_4.toInt ≤ 320 := ra9_4_4
      refine lv_iload hx hb dX12_nextCall_9 (lv_at hl 4 rfl) ?_
      refine lv_bipush (v := 40) hx hb dX12_nextCall_11 (by decide) ?_
      refine lv_iload_n hx hb dX12_nextCall_13 rfl (lv_at hl 1 rfl) ?_
      refine lv_imul hx hb dX12_nextCall_14 ?_
      refine m_top ev1 ?_
      refine lv_bipush (v := 40) hx hb dX12_nextCall_15 (by decide) ?_
      refine lv_iadd hx hb dX12_nextCall_17 ?_
      refine lv_topi (fun v6 ev6 => ?_)
      have rv6 : rg (40) (320) v6 := (rg_add ev6 rv1 kc_40 rfl).1
      have tv6 := (rg_add ev6 rv1 kc_40 rfl).2
      have y7 : (40 : Int32).toInt = 40 := by decide
      have uv6 : (40 : Int) ≤ v6.toInt ∧ v6.toInt ≤ 320 := rv6
      refine lv_icmp_ge (tgt := 87) hx hb dX12_nextCall_18 (by decide) (fun c18_8 => ?_) (fun c18_8 => ?_)
      · skip
        have ic18_8 := Int32.le_iff_toInt_le.mp c18_8
        have q9 : rg (40) (320) a9_4_4 := (rg_le c18_8 rv6 ra9_4_4).2
        have uq9 : (40 : Int) ≤ a9_4_4.toInt ∧ a9_4_4.toInt ≤ 320 := q9
        refine lv_iload_n hx hb dX12_nextCall_87 rfl (lv_at hl 3 rfl) ?_
        exact hQ _ _ a9_3_3 _ _ _ dX12_nextCall_88 L5 ⟨(mFr.tr mFr.rf hF5 rfl), rg_w ra9_3_3 rfl, (by omega)⟩
      · skip
        have ic18_8 := Int32.lt_iff_toInt_lt.mp (rg_nle c18_8)
        have q10 : rg (0) (319) a9_4_4 := (rg_lt (rg_nle c18_8) ra9_4_4 rv6).1
        have uq10 : (0 : Int) ≤ a9_4_4.toInt ∧ a9_4_4.toInt ≤ 319 := q10
        refine lv_aload_n hx hb dX12_nextCall_21 rfl (lv_at hl 0 rfl) ?_
        refine m_geta x L5 68 rfl rfl (wm_in uf_192) dX12_nextCall_22 ?_
        refine lv_iload hx hb dX12_nextCall_25 (lv_at hl 4 rfl) ?_
        refine m_ld x L5 68 rfl q10 rfl dX12_nextCall_27 (fun v11 ev11 wv11 => ?_)
        have rv11 : rg (0) (11) v11 := lj_68 wv11
        have uv11 : (0 : Int) ≤ v11.toInt ∧ v11.toInt ≤ 11 := rv11
        have sv11 : v11.toInt = (g 68 a9_4_4.toNatClampNeg).toInt := congrArg Int32.toInt (ev11.trans (congrFun ((show mFr [] g g5 from (mFr.tr mFr.rf hF5 rfl)).at 68 rfl) _))
        refine lv_if_eq (tgt := 46) hx hb dX12_nextCall_28 (by decide) (fun c28_12 => ?_) (fun c28_12 => ?_)
        · skip
          have ic28_12 := congrArg Int32.toInt c28_12
          have y13 : (0 : Int32).toInt = 0 := by decide
          have q14 : rg (0) (0) v11 := (rg_eq c28_12 rv11 kc_0).1
          have uq14 : (0 : Int) ≤ v11.toInt ∧ v11.toInt ≤ 0 := q14
          refine lv_iconst (v := 0) hx hb dX12_nextCall_46 (by decide) ?_
          refine lv_istore (lv' := [(5, .int (0 : Int32)), (0, .ref h0), (1, .int p1), (2, .int p2), (3, .int a9_3_3), (4, .int a9_4_4)]) hx hb dX12_nextCall_47 hl (by decide) rfl (fun ls hl => ?_)
          refine lv_iload hx hb dX12_nextCall_49 (lv_at hl 0 rfl) ?_
          refine lv_if_eq (tgt := 79) hx hb dX12_nextCall_51 (by decide) (fun c51_15 => ?_) (fun c51_15 => ?_)
          · skip
            refine lv_iload_n hx hb dX12_nextCall_79 rfl (lv_at hl 4 rfl) ?_
            refine lv_istore_n (lv' := [(3, .int a9_3_3), (5, .int (0 : Int32)), (0, .ref h0), (1, .int p1), (2, .int p2), (4, .int a9_4_4)]) hx hb dX12_nextCall_80 rfl hl (by decide) rfl (fun ls hl => ?_)
            obtain ⟨v16, ev16, fv16⟩ := inc_ex a9_4_4 (1) (1 : Int32) (by decide)
            have rv16 : rg (1) (320) v16 := (rg_add ev16 q10 kc_1 rfl).1
            have tv16 := (rg_add ev16 q10 kc_1 rfl).2
            have yv16 : (1 : Int32).toInt = 1 := by decide
            refine lv_iinc (v := v16) (lv' := [(4, .int v16), (3, .int a9_3_3), (5, .int (0 : Int32)), (0, .ref h0), (1, .int p1), (2, .int p2)]) hx hb dX12_nextCall_81 hl (k := 5) rfl fv16 (by decide) rfl (fun ls hl => ?_)
            refine lv_goto (tgt := 9) hx hb dX12_nextCall_84 (by decide) ?_
            exact ih5 _ (ms_up tv16 kc_1 q10 rfl rfl) a9_3_3 v16 g5 _ _ ls hF5 L5 (rg_w ra9_3_3 rfl) (rg_w rv16 rfl) (by omega) (lv_sub hl [3, 4, 5, 1, 0] rfl) rfl
          · skip
            exact absurd c51_15 (by decide)
        · skip
          have ic28_12 : v11.toInt ≠ (0 : Int32).toInt := fun z => c28_12 (Int32.toInt_inj.mp z)
          have y17 : (0 : Int32).toInt = 0 := by decide
          have q18 : rg (1) (11) v11 := rg_neL c28_12 rv11 kc_0
          have uq18 : (1 : Int) ≤ v11.toInt ∧ v11.toInt ≤ 11 := q18
          refine lv_aload_n hx hb dX12_nextCall_31 rfl (lv_at hl 0 rfl) ?_
          refine m_geta x L5 78 rfl rfl (wm_in uf_222) dX12_nextCall_32 ?_
          refine lv_iload hx hb dX12_nextCall_35 (lv_at hl 4 rfl) ?_
          refine m_ld x L5 78 rfl q10 rfl dX12_nextCall_37 (fun v19 ev19 wv19 => ?_)
          have rv19 : rg (-2147483648) (2147483647) v19 := lj_78 wv19
          have uv19 : (-2147483648 : Int) ≤ v19.toInt ∧ v19.toInt ≤ 2147483647 := rv19
          have sv19 : v19.toInt = (g 78 a9_4_4.toNatClampNeg).toInt := congrArg Int32.toInt (ev19.trans (congrFun ((show mFr [] g g5 from (mFr.tr mFr.rf hF5 rfl)).at 78 rfl) _))
          refine lv_iload_n hx hb dX12_nextCall_38 rfl (lv_at hl 2 rfl) ?_
          refine lv_icmp_le (tgt := 46) hx hb dX12_nextCall_39 (by decide) (fun c39_20 => ?_) (fun c39_20 => ?_)
          · skip
            have ic39_20 := Int32.le_iff_toInt_le.mp c39_20
            refine lv_iconst (v := 0) hx hb dX12_nextCall_46 (by decide) ?_
            refine lv_istore (lv' := [(5, .int (0 : Int32)), (0, .ref h0), (1, .int p1), (2, .int p2), (3, .int a9_3_3), (4, .int a9_4_4)]) hx hb dX12_nextCall_47 hl (by decide) rfl (fun ls hl => ?_)
            refine lv_iload hx hb dX12_nextCall_49 (lv_at hl 0 rfl) ?_
            refine lv_if_eq (tgt := 79) hx hb dX12_nextCall_51 (by decide) (fun c51_21 => ?_) (fun c51_21 => ?_)
            · skip
              refine lv_iload_n hx hb dX12_nextCall_79 rfl (lv_at hl 4 rfl) ?_
              refine lv_istore_n (lv' := [(3, .int a9_3_3), (5, .int (0 : Int32)), (0, .ref h0), (1, .int p1), (2, .int p2), (4, .int a9_4_4)]) hx hb dX12_nextCall_80 rfl hl (by decide) rfl (fun ls hl => ?_)
              obtain ⟨v22, ev22, fv22⟩ := inc_ex a9_4_4 (1) (1 : Int32) (by decide)
              have rv22 : rg (1) (320) v22 := (rg_add ev22 q10 kc_1 rfl).1
              have tv22 := (rg_add ev22 q10 kc_1 rfl).2
              have yv22 : (1 : Int32).toInt = 1 := by decide
              refine lv_iinc (v := v22) (lv' := [(4, .int v22), (3, .int a9_3_3), (5, .int (0 : Int32)), (0, .ref h0), (1, .int p1), (2, .int p2)]) hx hb dX12_nextCall_81 hl (k := 5) rfl fv22 (by decide) rfl (fun ls hl => ?_)
              refine lv_goto (tgt := 9) hx hb dX12_nextCall_84 (by decide) ?_
              exact ih5 _ (ms_up tv22 kc_1 q10 rfl rfl) a9_3_3 v22 g5 _ _ ls hF5 L5 (rg_w ra9_3_3 rfl) (rg_w rv22 rfl) (by omega) (lv_sub hl [3, 4, 5, 1, 0] rfl) rfl
            · skip
              exact absurd c51_21 (by decide)
          · skip
            have ic39_20 := Int32.lt_iff_toInt_lt.mp (rg_nle c39_20)
            have q23 : rg (-2147483648) (2147483646) p2 := (rg_lt (rg_nle c39_20) (rg_any p2) rv19).1
            have uq23 : (-2147483648 : Int) ≤ p2.toInt ∧ p2.toInt ≤ 2147483646 := q23
            have q24 : rg (-2147483647) (2147483647) v19 := (rg_lt (rg_nle c39_20) (rg_any p2) rv19).2
            have uq24 : (-2147483647 : Int) ≤ v19.toInt ∧ v19.toInt ≤ 2147483647 := q24
            refine lv_iconst (v := 1) hx hb dX12_nextCall_42 (by decide) ?_
            refine lv_goto (tgt := 47) hx hb dX12_nextCall_43 (by decide) ?_
            refine lv_istore (lv' := [(5, .int (1 : Int32)), (0, .ref h0), (1, .int p1), (2, .int p2), (3, .int a9_3_3), (4, .int a9_4_4)]) hx hb dX12_nextCall_47 hl (by decide) rfl (fun ls hl => ?_)
            refine lv_iload hx hb dX12_nextCall_49 (lv_at hl 0 rfl) ?_
            refine lv_if_eq (tgt := 79) hx hb dX12_nextCall_51 (by decide) (fun c51_25 => ?_) (fun c51_25 => ?_)
            · skip
              exact absurd c51_25 (by decide)
            · skip
              refine lv_iload_n hx hb dX12_nextCall_54 rfl (lv_at hl 4 rfl) ?_
              refine lv_if_lt (tgt := 74) hx hb dX12_nextCall_55 (by decide) (fun c55_26 => ?_) (fun c55_26 => ?_)
              · skip
                have ic55_26 := Int32.lt_iff_toInt_lt.mp c55_26
                have q27 : rg (-2) (-1) a9_3_3 := (rg_lt c55_26 ra9_3_3 kc_0).1
                have uq27 : (-2 : Int) ≤ a9_3_3.toInt ∧ a9_3_3.toInt ≤ -1 := q27
                refine lv_iload hx hb dX12_nextCall_74 (lv_at hl 5 rfl) ?_
                refine lv_goto (tgt := 80) hx hb dX12_nextCall_76 (by decide) ?_
                refine lv_istore_n (lv' := [(3, .int a9_4_4), (5, .int (1 : Int32)), (0, .ref h0), (1, .int p1), (2, .int p2), (4, .int a9_4_4)]) hx hb dX12_nextCall_80 rfl hl (by decide) rfl (fun ls hl => ?_)
                obtain ⟨v28, ev28, fv28⟩ := inc_ex a9_4_4 (1) (1 : Int32) (by decide)
                have rv28 : rg (1) (320) v28 := (rg_add ev28 q10 kc_1 rfl).1
                have tv28 := (rg_add ev28 q10 kc_1 rfl).2
                have yv28 : (1 : Int32).toInt = 1 := by decide
                refine lv_iinc (v := v28) (lv' := [(4, .int v28), (3, .int a9_4_4), (5, .int (1 : Int32)), (0, .ref h0), (1, .int p1), (2, .int p2)]) hx hb dX12_nextCall_81 hl (k := 5) rfl fv28 (by decide) rfl (fun ls hl => ?_)
                refine lv_goto (tgt := 9) hx hb dX12_nextCall_84 (by decide) ?_
                exact ih5 _ (ms_up tv28 kc_1 q10 rfl rfl) a9_4_4 v28 g5 _ _ ls hF5 L5 (rg_w q10 rfl) (rg_w rv28 rfl) (by omega) (lv_sub hl [3, 4, 5, 1, 0] rfl) rfl
              · skip
                have ic55_26 := Int32.le_iff_toInt_le.mp (rg_nlt c55_26)
                have q29 : rg (0) (319) a9_3_3 := (rg_le (rg_nlt c55_26) kc_0 ra9_3_3).2
                have uq29 : (0 : Int) ≤ a9_3_3.toInt ∧ a9_3_3.toInt ≤ 319 := q29
                refine lv_aload_n hx hb dX12_nextCall_58 rfl (lv_at hl 1 rfl) ?_
                refine m_geta x L5 78 rfl rfl (wm_in uf_222) dX12_nextCall_59 ?_
                refine lv_iload hx hb dX12_nextCall_62 (lv_at hl 5 rfl) ?_
                refine m_ld x L5 78 rfl q10 rfl dX12_nextCall_64 (fun v30 ev30 wv30 => ?_)
                refine m_top ((ev19).trans ev30.symm) ?_
                refine lv_aload_n hx hb dX12_nextCall_65 rfl (lv_at hl 1 rfl) ?_
                refine m_geta x L5 78 rfl rfl (wm_in uf_222) dX12_nextCall_66 ?_
                refine lv_iload_n hx hb dX12_nextCall_69 rfl (lv_at hl 4 rfl) ?_
                refine m_ld x L5 78 rfl q29 rfl dX12_nextCall_70 (fun v31 ev31 wv31 => ?_)
                have rv31 : rg (-2147483648) (2147483647) v31 := lj_78 wv31
                have uv31 : (-2147483648 : Int) ≤ v31.toInt ∧ v31.toInt ≤ 2147483647 := rv31
                have sv31 : v31.toInt = (g 78 a9_3_3.toNatClampNeg).toInt := congrArg Int32.toInt (ev31.trans (congrFun ((show mFr [] g g5 from (mFr.tr mFr.rf hF5 rfl)).at 78 rfl) _))
                refine lv_icmp_ge (tgt := 79) hx hb dX12_nextCall_71 (by decide) (fun c71_32 => ?_) (fun c71_32 => ?_)
                · skip
                  have ic71_32 := Int32.le_iff_toInt_le.mp c71_32
                  refine lv_iload_n hx hb dX12_nextCall_79 rfl (lv_at hl 4 rfl) ?_
                  refine lv_istore_n (lv' := [(3, .int a9_3_3), (5, .int (1 : Int32)), (0, .ref h0), (1, .int p1), (2, .int p2), (4, .int a9_4_4)]) hx hb dX12_nextCall_80 rfl hl (by decide) rfl (fun ls hl => ?_)
                  obtain ⟨v33, ev33, fv33⟩ := inc_ex a9_4_4 (1) (1 : Int32) (by decide)
                  have rv33 : rg (1) (320) v33 := (rg_add ev33 q10 kc_1 rfl).1
                  have tv33 := (rg_add ev33 q10 kc_1 rfl).2
                  have yv33 : (1 : Int32).toInt = 1 := by decide
                  refine lv_iinc (v := v33) (lv' := [(4, .int v33), (3, .int a9_3_3), (5, .int (1 : Int32)), (0, .ref h0), (1, .int p1), (2, .int p2)]) hx hb dX12_nextCall_81 hl (k := 5) rfl fv33 (by decide) rfl (fun ls hl => ?_)
                  refine lv_goto (tgt := 9) hx hb dX12_nextCall_84 (by decide) ?_
                  exact ih5 _ (ms_up tv33 kc_1 q10 rfl rfl) a9_3_3 v33 g5 _ _ ls hF5 L5 (rg_w q29 rfl) (rg_w rv33 rfl) (by omega) (lv_sub hl [3, 4, 5, 1, 0] rfl) rfl
                · skip
                  have ic71_32 := Int32.lt_iff_toInt_lt.mp (rg_nle c71_32)
                  have q34 : rg (-2147483647) (2147483646) v19 := (rg_lt (rg_nle c71_32) q24 rv31).1
                  have uq34 : (-2147483647 : Int) ≤ v19.toInt ∧ v19.toInt ≤ 2147483646 := q34
                  have q35 : rg (-2147483646) (2147483647) v31 := (rg_lt (rg_nle c71_32) q24 rv31).2
                  have uq35 : (-2147483646 : Int) ≤ v31.toInt ∧ v31.toInt ≤ 2147483647 := q35
                  refine lv_iload hx hb dX12_nextCall_74 (lv_at hl 5 rfl) ?_
                  refine lv_goto (tgt := 80) hx hb dX12_nextCall_76 (by decide) ?_
                  refine lv_istore_n (lv' := [(3, .int a9_4_4), (5, .int (1 : Int32)), (0, .ref h0), (1, .int p1), (2, .int p2), (4, .int a9_4_4)]) hx hb dX12_nextCall_80 rfl hl (by decide) rfl (fun ls hl => ?_)
                  obtain ⟨v36, ev36, fv36⟩ := inc_ex a9_4_4 (1) (1 : Int32) (by decide)
                  have rv36 : rg (1) (320) v36 := (rg_add ev36 q10 kc_1 rfl).1
                  have tv36 := (rg_add ev36 q10 kc_1 rfl).2
                  have yv36 : (1 : Int32).toInt = 1 := by decide
                  refine lv_iinc (v := v36) (lv' := [(4, .int v36), (3, .int a9_4_4), (5, .int (1 : Int32)), (0, .ref h0), (1, .int p1), (2, .int p2)]) hx hb dX12_nextCall_81 hl (k := 5) rfl fv36 (by decide) rfl (fun ls hl => ?_)
                  refine lv_goto (tgt := 9) hx hb dX12_nextCall_84 (by decide) ?_
                  exact ih5 _ (ms_up tv36 kc_1 q10 rfl rfl) a9_4_4 v36 g5 _ _ ls hF5 L5 (rg_w q10 rfl) (rg_w rv36 rfl) (by omega) (lv_sub hl [3, 4, 5, 1, 0] rfl) rfl
  have y37 : (-2 : Int32).toInt = -2 := by decide
  exact j9_5 _ (-2 : Int32) v1 g _ _ ls mFr.rf L (rg_w kc_m2 rfl) (rg_w rv1 rfl) (by omega) (lv_sub hl [2, 3, 4, 1, 0] rfl) rfl
theorem c_nextCall (l : Launch) {G : mG} {h0 : Nat} {ad : Nat → Nat} (nn X : Int) (g : mSt) (p1 : Int32) (p2 : Int32) (hnn : 2 ≤ nn ∧ nn ≤ 4) (hX : 0 ≤ X ∧ X ≤ 2000000000) (rp1 : rg (0) (7) p1) : Met l yX12_nextCall (wm (Cond.code yX12_nextCall cX12_nextCall 6 (some .int))) rm_nextCall (va_Pc [.ref h0, .int p1, .int p2] (mPre G h0 ad nn X g)) (mQi G h0 ad nn X (fun r g1 => mFr [] g g1 ∧ rg (-2) (319) r ∧ (0 ≤ r.toInt → p2.toInt < (g 78 r.toNatClampNeg).toInt))) 0 0 (mA h0 ad) := by
  refine Met.ofW (cc := cX12_nextCall) (maxL := 6) (ret := (some .int)) (by decide) rfl ?_
  intro p e s m args below meth c s₁ B hml hv
  obtain ⟨rfl, hv⟩ := hv
  have hr := B.returns
  have hlocks := B.notSynchronized
  obtain ⟨x, L⟩ := m_start B rfl wm_X hv
  have hl := lv_entry ([.ref h0, .int p1, .int p2]) (n := 6) (Nat.le_of_ble_eq_true rfl)
  rw [lg_entry_eq]
  generalize (lg_sl ([.ref h0, .int p1, .int p2]) ++ List.replicate (6 - (lg_sl ([.ref h0, .int p1, .int p2])).length) Slot.unset).toArray = ls at hl ⊢
  exact w_nextCall x hml L hnn hX p1 p2 rp1 hl (fun pc' ls' r g1 H1 locs1 hdg L hp => m_iret x L hr hlocks (Int.le_refl _) hp hdg)

def rm_repeatSetup : Room := { frames := 5, cells := 0, slots := 0, locals := 115 }
theorem hd_repeatSetup : yX12_repeatSetup.cls = RX12 ∧ yX12_repeatSetup.cls ≠ "java/lang/invoke/MethodHandle" ∧ yX12_repeatSetup.cls ≠ "java/lang/invoke/VarHandle" ∧ (parseMethodDescriptor yX12_repeatSetup.desc).map (fun d => d.parameters.length) = some 2 := by decide +kernel
set_option maxHeartbeats 4000000 in
set_option maxRecDepth 100000 in
theorem w_repeatSetup {p : Program} {l : Launch} {e : Env} {s : State} {m : MethodId} {args : Array Value} {below : List Frame} {meth : Method} {c : Code} {H : Heap} {locs : List Loc} {Q : State → Prop} {ls : Array Slot} {G : mG} {h0 : Nat} {ad : Nat → Nat} {g : mSt} {H0 : Heap} {nn X : Int} (x : mX p c cX12_repeatSetup s args (wm (Cond.code yX12_repeatSetup cX12_repeatSetup 3 none)) m G h0 ad) (hml : c.maxLocals = 3) (L : mL G h0 ad H0 nn X g H locs) (hnn : 2 ≤ nn ∧ nn ≤ 4) (hX : 0 ≤ X ∧ X ≤ 2000000000) (hJ : mJ nn [] g) (p1 : Int32) (p2 : Int32) (rp1 : rg (0) (319) p1) (hl : lv_has ls 3 [(0, .ref h0), (1, .int p1), (2, .int p2)]) (hQ : ∀ (pc' : Nat) (ls' : Array Slot) (g1 : mSt) (H1 : Heap) (locs1 : List Loc), decode cX12_repeatSetup pc' = .ok (.return_, 1) → mL G h0 ad H0 nn X g1 H1 locs1 → (mFr [58, 59, 60, 68, 74, 75, 76, 77, 86, 87, 89, 90, 91] g g1 ∧ mJ nn [] g1 ∧ True) → W p l e rm_repeatSetup s m args below meth c H1 locs1 0 0 Q (F0 m pc' ls' [])) : W p l e rm_repeatSetup s m args below meth c H locs 0 0 Q (F0 m 0 ls []) := by
  have hx := x.1
  have hb := x.2.1
  refine lv_iload_n hx hb dX12_repeatSetup_0 rfl (lv_at hl 2 rfl) ?_
  refine lv_bipush (v := 8) hx hb dX12_repeatSetup_1 (by decide) ?_
  refine lv_icmp_ge (tgt := 7) hx hb dX12_repeatSetup_3 (by decide) (fun c3_1 => ?_) (fun c3_1 => ?_)
  · skip
    have q2 : rg (8) (2147483647) p2 := (rg_le c3_1 kc_8 (rg_any p2)).2
    refine lv_aload_n hx hb dX12_repeatSetup_7 rfl (lv_at hl 0 rfl) ?_
    refine m_geta x L 76 rfl rfl (wm_in uf_216) dX12_repeatSetup_8 ?_
    refine lv_iload_n hx hb dX12_repeatSetup_11 rfl (lv_at hl 1 rfl) ?_
    refine m_ldz x L 76 rfl rp1 rfl dX12_repeatSetup_12 (fun v3 ev3 wv3 => ?_)
    have rv3 : rg (0) (1) v3 := lj_76 wv3
    have j55_4 : ∀ (g4 : mSt) (H4 : Heap) (k4 : List Loc) (ls : Array Slot), mFr [58, 59, 60, 68, 74, 75, 76, 77, 86, 87, 89, 90, 91] g g4 → mL G h0 ad H0 nn X g4 H4 k4 → mJ nn [] g4 → lv_has ls 3 [(0, .ref h0)] → W p l e rm_repeatSetup s m args below meth c H4 k4 0 0 Q (F0 m 55 ls []) := by
      intro  g4 H4 k4 ls hF4 L4 hJ4  hl
      exact hQ _ _ _ _ _ dX12_repeatSetup_55 L4 ⟨(mFr.tr mFr.rf hF4 rfl), hJ4, trivial⟩
    refine lv_if_eq (tgt := 33) hx hb dX12_repeatSetup_13 (by decide) (fun c13_5 => ?_) (fun c13_5 => ?_)
    · skip
      have q6 : rg (0) (0) v3 := (rg_eq c13_5 rv3 kc_0).1
      refine lv_aload_n hx hb dX12_repeatSetup_33 rfl (lv_at hl 0 rfl) ?_
      refine m_geta x L 76 rfl rfl (wm_in uf_216) dX12_repeatSetup_34 ?_
      refine lv_iload_n hx hb dX12_repeatSetup_37 rfl (lv_at hl 1 rfl) ?_
      refine lv_iconst (v := 1) hx hb dX12_repeatSetup_38 (by decide) ?_
      refine m_stz x L 76 rfl rp1 rfl (rg_w kc_1 rfl) (rj_76 (rg_w kc_1 rfl)) dX12_repeatSetup_39 (fun g7 H7 k7 eg7 L7 => ?_)
      refine lv_aload_n hx hb dX12_repeatSetup_40 rfl (lv_at hl 0 rfl) ?_
      refine m_geta x L7 75 rfl rfl (wm_in uf_213) dX12_repeatSetup_41 ?_
      refine lv_iload_n hx hb dX12_repeatSetup_44 rfl (lv_at hl 1 rfl) ?_
      refine lv_aload_n hx hb dX12_repeatSetup_45 rfl (lv_at hl 0 rfl) ?_
      refine m_geti x L7 1 rfl rfl (wm_in uf_378) dX12_repeatSetup_46 (fun v8 ev8 wv8 => ?_)
      have rv8 : rg (-2147483648) (2147483647) v8 := lj_1 wv8
      refine m_st x L7 75 rfl rp1 rfl (rj_75 (rg_any v8)) dX12_repeatSetup_49 (fun g9 H9 k9 eg9 L9 => ?_)
      refine lv_aload_n hx hb dX12_repeatSetup_50 rfl (lv_at hl 0 rfl) ?_
      refine lv_iload_n hx hb dX12_repeatSetup_51 rfl (lv_at hl 1 rfl) ?_
      refine m_cv (As := [.int p1]) (rest := []) x hml L9 (c_sendSetup l nn X g9 p1 hnn hX (rg_w rp1 rfl)) (wm_V uc_sendSetup ul_513 ui_sendSetup us_sendSetup u_init) rfl ⟨rfl, rfl⟩ hd_sendSetup ⟨Nat.le_of_ble_eq_true rfl, Nat.le_of_ble_eq_true rfl⟩ rfl hl.1 rfl (lv_room (Nat.le_of_ble_eq_true rfl)) dX12_repeatSetup_52 (fun  g10 H10 k10 hp10 L10 => ?_)
      exact j55_4  g10 _ _ ls (mFr.tr (mFr.upE (mFr.upE mFr.rf eg7 rfl) eg9 rfl) hp10.1 rfl) L10 (mJ_fr (mJ_up (mJ_up hJ eg7 rfl) eg9 rfl) hp10.1 rfl) (lv_sub hl [0] rfl)
    · skip
      have q11 : rg (1) (1) v3 := rg_neL c13_5 rv3 kc_0
      refine lv_aload_n hx hb dX12_repeatSetup_16 rfl (lv_at hl 0 rfl) ?_
      refine lv_iload_n hx hb dX12_repeatSetup_17 rfl (lv_at hl 1 rfl) ?_
      refine lv_bipush (v := 102) hx hb dX12_repeatSetup_18 (by decide) ?_
      refine m_cv (As := [.int p1, .int (102 : Int32)]) (rest := []) x hml L (c_over l nn X g p1 (102 : Int32) hnn hX hJ (rg_w rp1 rfl)) (wm_V uc_over ul_498 ui_over us_over u_init) rfl ⟨rfl, rfl⟩ hd_over ⟨Nat.le_of_ble_eq_true rfl, Nat.le_of_ble_eq_true rfl⟩ rfl hl.1 rfl (lv_room (Nat.le_of_ble_eq_true rfl)) dX12_repeatSetup_20 (fun  g12 H12 k12 hp12 L12 => ?_)
      refine lv_aload_n hx hb dX12_repeatSetup_23 rfl (lv_at hl 0 rfl) ?_
      refine lv_iload_n hx hb dX12_repeatSetup_24 rfl (lv_at hl 1 rfl) ?_
      refine lv_bipush (v := 102) hx hb dX12_repeatSetup_25 (by decide) ?_
      refine m_cv (As := [.int p1, .int (102 : Int32)]) (rest := []) x hml L12 (c_releaseOther l nn X g12 p1 (102 : Int32) hnn hX hp12.2.1 (rg_w rp1 rfl)) (wm_V uc_releaseOther ul_501 ui_releaseOther us_releaseOther u_init) rfl ⟨rfl, rfl⟩ hd_releaseOther ⟨Nat.le_of_ble_eq_true rfl, Nat.le_of_ble_eq_true rfl⟩ rfl hl.1 rfl (lv_room (Nat.le_of_ble_eq_true rfl)) dX12_repeatSetup_27 (fun  g13 H13 k13 hp13 L13 => ?_)
      refine lv_goto (tgt := 55) hx hb dX12_repeatSetup_30 (by decide) ?_
      exact j55_4  g13 _ _ ls (mFr.tr (mFr.tr mFr.rf hp12.1 rfl) hp13.1 rfl) L13 hp13.2.1 (lv_sub hl [0] rfl)
  · skip
    have q14 : rg (-2147483648) (7) p2 := (rg_lt (rg_nle c3_1) (rg_any p2) kc_8).1
    exact hQ _ _ _ _ _ dX12_repeatSetup_6 L ⟨mFr.rf, hJ, trivial⟩
theorem c_repeatSetup (l : Launch) {G : mG} {h0 : Nat} {ad : Nat → Nat} (nn X : Int) (g : mSt) (p1 : Int32) (p2 : Int32) (hnn : 2 ≤ nn ∧ nn ≤ 4) (hX : 0 ≤ X ∧ X ≤ 2000000000) (hJ : mJ nn [] g) (rp1 : rg (0) (319) p1) : Met l yX12_repeatSetup (wm (Cond.code yX12_repeatSetup cX12_repeatSetup 3 none)) rm_repeatSetup (va_Pc [.ref h0, .int p1, .int p2] (mPre G h0 ad nn X g)) (mQv G h0 ad nn X (fun g1 => mFr [58, 59, 60, 68, 74, 75, 76, 77, 86, 87, 89, 90, 91] g g1 ∧ mJ nn [] g1 ∧ True)) 0 0 (mA h0 ad) := by
  refine Met.ofW (cc := cX12_repeatSetup) (maxL := 3) (ret := none) (by decide) rfl ?_
  intro p e s m args below meth c s₁ B hml hv
  obtain ⟨rfl, hv⟩ := hv
  have hr := B.returns
  have hlocks := B.notSynchronized
  obtain ⟨x, L⟩ := m_start B rfl wm_X hv
  have hl := lv_entry ([.ref h0, .int p1, .int p2]) (n := 3) (Nat.le_of_ble_eq_true rfl)
  rw [lg_entry_eq]
  generalize (lg_sl ([.ref h0, .int p1, .int p2]) ++ List.replicate (3 - (lg_sl ([.ref h0, .int p1, .int p2])).length) Slot.unset).toArray = ls at hl ⊢
  exact w_repeatSetup x hml L hnn hX hJ p1 p2 rp1 hl (fun pc' ls' g1 H1 locs1 hdg L hp => m_vret x L hr hlocks (Int.le_refl _) hp hdg)

def rm_endMessage : Room := { frames := 4, cells := 0, slots := 0, locals := 92 }
theorem hd_endMessage : yX12_endMessage.cls = RX12 ∧ yX12_endMessage.cls ≠ "java/lang/invoke/MethodHandle" ∧ yX12_endMessage.cls ≠ "java/lang/invoke/VarHandle" ∧ (parseMethodDescriptor yX12_endMessage.desc).map (fun d => d.parameters.length) = some 3 := by decide +kernel
set_option maxHeartbeats 4000000 in
set_option maxRecDepth 100000 in
theorem w_endMessage {p : Program} {l : Launch} {e : Env} {s : State} {m : MethodId} {args : Array Value} {below : List Frame} {meth : Method} {c : Code} {H : Heap} {locs : List Loc} {Q : State → Prop} {ls : Array Slot} {G : mG} {h0 : Nat} {ad : Nat → Nat} {g : mSt} {H0 : Heap} {nn X : Int} (x : mX p c cX12_endMessage s args (wm (Cond.code yX12_endMessage cX12_endMessage 5 none)) m G h0 ad) (hml : c.maxLocals = 5) (L : mL G h0 ad H0 nn X g H locs) (hnn : 2 ≤ nn ∧ nn ≤ 4) (hX : 0 ≤ X ∧ X ≤ 2000000000) (hJ : mJ nn [] g) (p1 : Int32) (p2 : Int32) (p3 : Int32) (rp1 : rg (0) (159) p1) (hpre0 : rg (1) (11) (g 68 p1.toNatClampNeg)) (hl : lv_has ls 5 [(0, .ref h0), (1, .int p1), (2, .int p2), (3, .int p3)]) (hQ : ∀ (pc' : Nat) (ls' : Array Slot) (g1 : mSt) (H1 : Heap) (locs1 : List Loc), decode cX12_endMessage pc' = .ok (.return_, 1) → mL G h0 ad H0 nn X g1 H1 locs1 → (mFr [58, 59, 60, 68, 71, 74, 75, 76, 86, 87, 89, 90, 91] g g1 ∧ mJ nn [] g1 ∧ True) → W p l e rm_endMessage s m args below meth c H1 locs1 0 0 Q (F0 m pc' ls' [])) : W p l e rm_endMessage s m args below meth c H locs 0 0 Q (F0 m 0 ls []) := by
  have hx := x.1
  have hb := x.2.1
  obtain ⟨z0, ez0⟩ : ∃ y : Int32, y = g 68 p1.toNatClampNeg := ⟨_, rfl⟩
  have rz0 : rg (1) (11) z0 := rg_eqv ez0.symm hpre0
  refine lv_aload_n hx hb dX12_endMessage_0 rfl (lv_at hl 0 rfl) ?_
  refine m_geta x L 68 rfl rfl (wm_in uf_192) dX12_endMessage_1 ?_
  refine lv_iload_n hx hb dX12_endMessage_4 rfl (lv_at hl 1 rfl) ?_
  refine m_ld x L 68 rfl rp1 rfl dX12_endMessage_5 (fun v1 ev1 wv1 => ?_)
  refine m_top ((ez0).trans ev1.symm) ?_
  refine lv_istore (lv' := [(4, .int z0), (0, .ref h0), (1, .int p1), (2, .int p2), (3, .int p3)]) hx hb dX12_endMessage_6 hl (by decide) rfl (fun ls hl => ?_)
  refine lv_iload_n hx hb dX12_endMessage_8 rfl (lv_at hl 3 rfl) ?_
  refine lv_iconst (v := 2) hx hb dX12_endMessage_9 (by decide) ?_
  have j119_2 : ∀ (g2 : mSt) (H2 : Heap) (k2 : List Loc) (ls : Array Slot), mFr [58, 59, 60, 68, 71, 74, 75, 76, 86, 87, 89, 90, 91] g g2 → mL G h0 ad H0 nn X g2 H2 k2 → mJ nn [] g2 → lv_has ls 5 [(0, .ref h0)] → W p l e rm_endMessage s m args below meth c H2 k2 0 0 Q (F0 m 119 ls []) := by
    intro  g2 H2 k2 ls hF2 L2 hJ2  hl
    exact hQ _ _ _ _ _ dX12_endMessage_119 L2 ⟨(mFr.tr mFr.rf hF2 rfl), hJ2, trivial⟩
  have j46_3 : ∀ (g3 : mSt) (H3 : Heap) (k3 : List Loc) (ls : Array Slot), mFr [] g g3 → mL G h0 ad H0 nn X g3 H3 k3 → mJ nn [] g3 → lv_has ls 5 [(0, .ref h0), (1, .int p1), (2, .int p2), (4, .int z0)] → W p l e rm_endMessage s m args below meth c H3 k3 0 0 Q (F0 m 46 ls []) := by
    intro  g3 H3 k3 ls hF3 L3 hJ3  hl
    refine lv_iload_n hx hb dX12_endMessage_46 rfl (lv_at hl 2 rfl) ?_
    refine lv_bipush (v := 7) hx hb dX12_endMessage_47 (by decide) ?_
    have j68_4 : ∀ (g4 : mSt) (H4 : Heap) (k4 : List Loc) (ls : Array Slot), mFr [] g3 g4 → mL G h0 ad H0 nn X g4 H4 k4 → mJ nn [] g4 → lv_has ls 5 [(0, .ref h0), (1, .int p1), (2, .int p2), (4, .int z0)] → W p l e rm_endMessage s m args below meth c H4 k4 0 0 Q (F0 m 68 ls []) := by
      intro  g4 H4 k4 ls hF4 L4 hJ4  hl
      refine lv_iload_n hx hb dX12_endMessage_68 rfl (lv_at hl 2 rfl) ?_
      refine lv_bipush (v := 7) hx hb dX12_endMessage_69 (by decide) ?_
      have j98_5 : ∀ (g5 : mSt) (H5 : Heap) (k5 : List Loc) (ls : Array Slot), mFr [] g4 g5 → mL G h0 ad H0 nn X g5 H5 k5 → mJ nn [] g5 → lv_has ls 5 [(0, .ref h0), (1, .int p1), (2, .int p2), (4, .int z0)] → W p l e rm_endMessage s m args below meth c H5 k5 0 0 Q (F0 m 98 ls []) := by
        intro  g5 H5 k5 ls hF5 L5 hJ5  hl
        refine lv_iload_n hx hb dX12_endMessage_98 rfl (lv_at hl 2 rfl) ?_
        refine lv_bipush (v := 15) hx hb dX12_endMessage_99 (by decide) ?_
        refine lv_icmp_ne (tgt := 119) hx hb dX12_endMessage_101 (by decide) (fun c101_6 => ?_) (fun c101_6 => ?_)
        · skip
          exact j119_2  g5 _ _ ls (mFr.tr (mFr.tr (mFr.tr mFr.rf hF3 rfl) hF4 rfl) hF5 rfl) L5 hJ5 (lv_sub hl [0] rfl)
        · skip
          have q7 : rg (15) (15) p2 := (rg_eq c101_6 (rg_any p2) kc_15).1
          refine lv_iload hx hb dX12_endMessage_104 (lv_at hl 3 rfl) ?_
          refine lv_bipush (v := 8) hx hb dX12_endMessage_106 (by decide) ?_
          refine lv_icmp_ne (tgt := 119) hx hb dX12_endMessage_108 (by decide) (fun c108_8 => ?_) (fun c108_8 => ?_)
          · skip
            exact j119_2  g5 _ _ ls (mFr.tr (mFr.tr (mFr.tr mFr.rf hF3 rfl) hF4 rfl) hF5 rfl) L5 hJ5 (lv_sub hl [0] rfl)
          · skip
            have q9 : rg (8) (8) z0 := (rg_eq c108_8 rz0 kc_8).1
            refine lv_aload_n hx hb dX12_endMessage_111 rfl (lv_at hl 0 rfl) ?_
            refine m_geta x L5 68 rfl rfl (wm_in uf_192) dX12_endMessage_112 ?_
            refine lv_iload_n hx hb dX12_endMessage_115 rfl (lv_at hl 1 rfl) ?_
            refine lv_bipush (v := 10) hx hb dX12_endMessage_116 (by decide) ?_
            refine m_st x L5 68 rfl rp1 rfl (rj_68 (rg_w kc_10 rfl)) dX12_endMessage_118 (fun g10 H10 k10 eg10 L10 => ?_)
            have hJ11 := mJ_68n hJ5 eg10 (mm_fr (mm_fr (mm_fr ez0 hF3 rfl) hF4 rfl) hF5 rfl) q9 rfl
            exact j119_2  g10 _ _ ls (mFr.upE (mFr.tr (mFr.tr (mFr.tr mFr.rf hF3 rfl) hF4 rfl) hF5 rfl) eg10 rfl) L10 hJ11 (lv_sub hl [0] rfl)
      refine lv_icmp_ne (tgt := 98) hx hb dX12_endMessage_71 (by decide) (fun c71_12 => ?_) (fun c71_12 => ?_)
      · skip
        exact j98_5  g4 _ _ ls mFr.rf L4 hJ4 (lv_sub hl [0, 1, 2, 3] rfl)
      · skip
        have q13 : rg (7) (7) p2 := (rg_eq c71_12 (rg_any p2) kc_7).1
        refine lv_iload hx hb dX12_endMessage_74 (lv_at hl 3 rfl) ?_
        refine lv_iconst (v := 3) hx hb dX12_endMessage_76 (by decide) ?_
        refine lv_icmp_ne (tgt := 98) hx hb dX12_endMessage_77 (by decide) (fun c77_14 => ?_) (fun c77_14 => ?_)
        · skip
          exact j98_5  g4 _ _ ls mFr.rf L4 hJ4 (lv_sub hl [0, 1, 2, 3] rfl)
        · skip
          have q15 : rg (3) (3) z0 := (rg_eq c77_14 rz0 kc_3).1
          refine lv_aload_n hx hb dX12_endMessage_80 rfl (lv_at hl 0 rfl) ?_
          refine m_geta x L4 68 rfl rfl (wm_in uf_192) dX12_endMessage_81 ?_
          refine lv_iload_n hx hb dX12_endMessage_84 rfl (lv_at hl 1 rfl) ?_
          refine lv_bipush (v := 10) hx hb dX12_endMessage_85 (by decide) ?_
          refine m_st x L4 68 rfl rp1 rfl (rj_68 (rg_w kc_10 rfl)) dX12_endMessage_87 (fun g16 H16 k16 eg16 L16 => ?_)
          have hJ17 := mJ_68n hJ4 eg16 (mm_fr (mm_fr ez0 hF3 rfl) hF4 rfl) q15 rfl
          refine lv_aload_n hx hb dX12_endMessage_88 rfl (lv_at hl 0 rfl) ?_
          refine lv_iload_n hx hb dX12_endMessage_89 rfl (lv_at hl 1 rfl) ?_
          refine lv_bipush (v := 15) hx hb dX12_endMessage_90 (by decide) ?_
          refine m_cv (As := [.int p1, .int (15 : Int32)]) (rest := []) x hml L16 (c_plain l nn X g16 p1 (15 : Int32) hnn hX (rg_w rp1 rfl)) (wm_V uc_plain ul_516 ui_plain us_plain u_init) rfl ⟨rfl, rfl⟩ hd_plain ⟨Nat.le_of_ble_eq_true rfl, Nat.le_of_ble_eq_true rfl⟩ rfl hl.1 rfl (lv_room (Nat.le_of_ble_eq_true rfl)) dX12_endMessage_92 (fun  g18 H18 k18 hp18 L18 => ?_)
          refine lv_goto (tgt := 119) hx hb dX12_endMessage_95 (by decide) ?_
          exact j119_2  g18 _ _ ls (mFr.tr (mFr.upE (mFr.tr (mFr.tr mFr.rf hF3 rfl) hF4 rfl) eg16 rfl) hp18.1 rfl) L18 (mJ_fr hJ17 hp18.1 rfl) (lv_sub hl [0] rfl)
    refine lv_icmp_ne (tgt := 68) hx hb dX12_endMessage_49 (by decide) (fun c49_19 => ?_) (fun c49_19 => ?_)
    · skip
      exact j68_4  g3 _ _ ls mFr.rf L3 hJ3 (lv_sub hl [0, 1, 2, 3] rfl)
    · skip
      have q20 : rg (7) (7) p2 := (rg_eq c49_19 (rg_any p2) kc_7).1
      refine lv_iload hx hb dX12_endMessage_52 (lv_at hl 3 rfl) ?_
      refine lv_iconst (v := 1) hx hb dX12_endMessage_54 (by decide) ?_
      refine lv_icmp_ne (tgt := 68) hx hb dX12_endMessage_55 (by decide) (fun c55_21 => ?_) (fun c55_21 => ?_)
      · skip
        have q22 : rg (2) (11) z0 := rg_neL c55_21 rz0 kc_1
        exact j68_4  g3 _ _ ls mFr.rf L3 hJ3 (lv_sub hl [0, 1, 2, 3] rfl)
      · skip
        have q23 : rg (1) (1) z0 := (rg_eq c55_21 rz0 kc_1).1
        refine lv_aload_n hx hb dX12_endMessage_58 rfl (lv_at hl 0 rfl) ?_
        refine lv_iload_n hx hb dX12_endMessage_59 rfl (lv_at hl 1 rfl) ?_
        refine lv_bipush (v := 96) hx hb dX12_endMessage_60 (by decide) ?_
        refine m_cv (As := [.int p1, .int (96 : Int32)]) (rest := []) x hml L3 (c_release l nn X g3 p1 (96 : Int32) hnn hX hJ3 (rg_w rp1 rfl) (rg_eqv (mm_fr ez0 hF3 rfl) (rg_w q23 rfl))) (wm_V uc_release ul_492 ui_release us_release u_init) rfl ⟨rfl, rfl⟩ hd_release ⟨Nat.le_of_ble_eq_true rfl, Nat.le_of_ble_eq_true rfl⟩ rfl hl.1 rfl (lv_room (Nat.le_of_ble_eq_true rfl)) dX12_endMessage_62 (fun  g24 H24 k24 hp24 L24 => ?_)
        refine lv_goto (tgt := 119) hx hb dX12_endMessage_65 (by decide) ?_
        exact j119_2  g24 _ _ ls (mFr.tr (mFr.tr mFr.rf hF3 rfl) hp24.1 rfl) L24 hp24.2.1 (lv_sub hl [0] rfl)
  refine lv_icmp_ne (tgt := 46) hx hb dX12_endMessage_10 (by decide) (fun c10_25 => ?_) (fun c10_25 => ?_)
  · skip
    exact j46_3  g _ _ ls mFr.rf L hJ (lv_sub hl [1, 2, 3, 0] rfl)
  · skip
    have q26 : rg (2) (2) p2 := (rg_eq c10_25 (rg_any p2) kc_2).1
    refine lv_iload hx hb dX12_endMessage_13 (lv_at hl 0 rfl) ?_
    refine lv_iconst (v := 1) hx hb dX12_endMessage_15 (by decide) ?_
    refine lv_icmp_ne (tgt := 46) hx hb dX12_endMessage_16 (by decide) (fun c16_27 => ?_) (fun c16_27 => ?_)
    · skip
      have q28 : rg (2) (11) z0 := rg_neL c16_27 rz0 kc_1
      exact j46_3  g _ _ ls mFr.rf L hJ (lv_sub hl [1, 2, 3, 0] rfl)
    · skip
      have q29 : rg (1) (1) z0 := (rg_eq c16_27 rz0 kc_1).1
      refine lv_aload_n hx hb dX12_endMessage_19 rfl (lv_at hl 1 rfl) ?_
      refine m_geta x L 68 rfl rfl (wm_in uf_192) dX12_endMessage_20 ?_
      refine lv_iload_n hx hb dX12_endMessage_23 rfl (lv_at hl 2 rfl) ?_
      refine lv_iconst (v := 3) hx hb dX12_endMessage_24 (by decide) ?_
      refine m_st x L 68 rfl rp1 rfl (rj_68 (rg_w kc_3 rfl)) dX12_endMessage_25 (fun g30 H30 k30 eg30 L30 => ?_)
      have hJ31 := mJ_68n hJ eg30 ez0 q29 rfl
      refine lv_aload_n hx hb dX12_endMessage_26 rfl (lv_at hl 1 rfl) ?_
      refine m_geta x L30 71 rfl rfl (wm_in uf_201) dX12_endMessage_27 ?_
      refine lv_iload_n hx hb dX12_endMessage_30 rfl (lv_at hl 2 rfl) ?_
      refine lv_iload_n hx hb dX12_endMessage_31 rfl (lv_at hl 4 rfl) ?_
      refine m_st x L30 71 rfl rp1 rfl (rj_71 (rg_any p3)) dX12_endMessage_32 (fun g32 H32 k32 eg32 L32 => ?_)
      refine lv_aload_n hx hb dX12_endMessage_33 rfl (lv_at hl 1 rfl) ?_
      refine m_geta x L32 75 rfl rfl (wm_in uf_213) dX12_endMessage_34 ?_
      refine lv_iload_n hx hb dX12_endMessage_37 rfl (lv_at hl 2 rfl) ?_
      refine lv_aload_n hx hb dX12_endMessage_38 rfl (lv_at hl 1 rfl) ?_
      refine m_geti x L32 1 rfl rfl (wm_in uf_378) dX12_endMessage_39 (fun v33 ev33 wv33 => ?_)
      have rv33 : rg (-2147483648) (2147483647) v33 := lj_1 wv33
      refine m_st x L32 75 rfl rp1 rfl (rj_75 (rg_any v33)) dX12_endMessage_42 (fun g34 H34 k34 eg34 L34 => ?_)
      refine lv_goto (tgt := 119) hx hb dX12_endMessage_43 (by decide) ?_
      exact j119_2  g34 _ _ ls (mFr.upE (mFr.upE (mFr.upE mFr.rf eg30 rfl) eg32 rfl) eg34 rfl) L34 (mJ_up (mJ_up hJ31 eg32 rfl) eg34 rfl) (lv_sub hl [1] rfl)
theorem c_endMessage (l : Launch) {G : mG} {h0 : Nat} {ad : Nat → Nat} (nn X : Int) (g : mSt) (p1 : Int32) (p2 : Int32) (p3 : Int32) (hnn : 2 ≤ nn ∧ nn ≤ 4) (hX : 0 ≤ X ∧ X ≤ 2000000000) (hJ : mJ nn [] g) (rp1 : rg (0) (159) p1) (hpre0 : rg (1) (11) (g 68 p1.toNatClampNeg)) : Met l yX12_endMessage (wm (Cond.code yX12_endMessage cX12_endMessage 5 none)) rm_endMessage (va_Pc [.ref h0, .int p1, .int p2, .int p3] (mPre G h0 ad nn X g)) (mQv G h0 ad nn X (fun g1 => mFr [58, 59, 60, 68, 71, 74, 75, 76, 86, 87, 89, 90, 91] g g1 ∧ mJ nn [] g1 ∧ True)) 0 0 (mA h0 ad) := by
  refine Met.ofW (cc := cX12_endMessage) (maxL := 5) (ret := none) (by decide) rfl ?_
  intro p e s m args below meth c s₁ B hml hv
  obtain ⟨rfl, hv⟩ := hv
  have hr := B.returns
  have hlocks := B.notSynchronized
  obtain ⟨x, L⟩ := m_start B rfl wm_X hv
  have hl := lv_entry ([.ref h0, .int p1, .int p2, .int p3]) (n := 5) (Nat.le_of_ble_eq_true rfl)
  rw [lg_entry_eq]
  generalize (lg_sl ([.ref h0, .int p1, .int p2, .int p3]) ++ List.replicate (5 - (lg_sl ([.ref h0, .int p1, .int p2, .int p3])).length) Slot.unset).toArray = ls at hl ⊢
  exact w_endMessage x hml L hnn hX hJ p1 p2 p3 rp1 hpre0 hl (fun pc' ls' g1 H1 locs1 hdg L hp => m_vret x L hr hlocks (Int.le_refl _) hp hdg)

def rm_callTimer : Room := { frames := 6, cells := 0, slots := 0, locals := 137 }
theorem hd_callTimer : yX12_callTimer.cls = RX12 ∧ yX12_callTimer.cls ≠ "java/lang/invoke/MethodHandle" ∧ yX12_callTimer.cls ≠ "java/lang/invoke/VarHandle" ∧ (parseMethodDescriptor yX12_callTimer.desc).map (fun d => d.parameters.length) = some 2 := by decide +kernel
set_option maxHeartbeats 4000000 in
set_option maxRecDepth 100000 in
theorem w_callTimer {p : Program} {l : Launch} {e : Env} {s : State} {m : MethodId} {args : Array Value} {below : List Frame} {meth : Method} {c : Code} {H : Heap} {locs : List Loc} {Q : State → Prop} {ls : Array Slot} {G : mG} {h0 : Nat} {ad : Nat → Nat} {g : mSt} {H0 : Heap} {nn X : Int} (x : mX p c cX12_callTimer s args (wm (Cond.code yX12_callTimer cX12_callTimer 4 none)) m G h0 ad) (hml : c.maxLocals = 4) (L : mL G h0 ad H0 nn X g H locs) (hnn : 2 ≤ nn ∧ nn ≤ 4) (hX : 0 ≤ X ∧ X ≤ 2000000000) (hJ : mJ nn [] g) (p1 : Int32) (p2 : Int32) (rp1 : rg (0) (319) p1) (hl : lv_has ls 4 [(0, .ref h0), (1, .int p1), (2, .int p2)]) (hQ : ∀ (pc' : Nat) (ls' : Array Slot) (g1 : mSt) (H1 : Heap) (locs1 : List Loc), decode cX12_callTimer pc' = .ok (.return_, 1) → mL G h0 ad H0 nn X g1 H1 locs1 → (mFr [58, 59, 60, 68, 74, 75, 76, 77, 86, 87, 89, 90, 91] g g1 ∧ mJ nn [] g1 ∧ True) → W p l e rm_callTimer s m args below meth c H1 locs1 0 0 Q (F0 m pc' ls' [])) : W p l e rm_callTimer s m args below meth c H locs 0 0 Q (F0 m 0 ls []) := by
  have hx := x.1
  have hb := x.2.1
  refine lv_iload_n hx hb dX12_callTimer_0 rfl (lv_at hl 1 rfl) ?_
  refine lv_bipush (v := 40) hx hb dX12_callTimer_1 (by decide) ?_
  refine lv_aload_n hx hb dX12_callTimer_3 rfl (lv_at hl 0 rfl) ?_
  refine m_geti x L 0 rfl rfl (wm_in uf_260) dX12_callTimer_4 (fun v1 ev1 wv1 => ?_)
  have rv1 : rg 2 4 v1 := rg_nn hnn wv1
  have tv1 : v1.toInt = nn := rg_n0 wv1
  have lv1 : v1.toInt = 1 * nn + 0 := by omega
  refine lv_imul hx hb dX12_callTimer_7 ?_
  refine lv_topi (fun v2 ev2 => ?_)
  have rv2 : rg (80) (160) v2 := (rg_mulL ev2 kc_40 rv1 rfl).1
  have tv2 := (rg_mulL ev2 kc_40 rv1 rfl).2
  have lv2 : v2.toInt = 40 * nn + 0 := by have := lv1; have : (40 : Int32).toInt = 40 := (by decide); omega
  have j16_4 : ∀ (b16_0_3 : Int32) (g4 : mSt) (H4 : Heap) (k4 : List Loc) (ls : Array Slot), mFr [] g g4 → mL G h0 ad H0 nn X g4 H4 k4 → mJ nn [] g4 → rg (0) (1) b16_0_3 → lv_has ls 4 [(0, .ref h0), (1, .int p1), (2, .int p2)] → W p l e rm_callTimer s m args below meth c H4 k4 0 0 Q (F0 m 16 ls [.int b16_0_3]) := by
    intro b16_0_3 g4 H4 k4 ls hF4 L4 hJ4 rb16_0_3 hl
    refine lv_istore_n (lv' := [(3, .int b16_0_3), (0, .ref h0), (1, .int p1), (2, .int p2)]) hx hb dX12_callTimer_16 rfl hl (by decide) rfl (fun ls hl => ?_)
    refine lv_aload_n hx hb dX12_callTimer_17 rfl (lv_at hl 1 rfl) ?_
    refine m_geta x L4 68 rfl rfl (wm_in uf_192) dX12_callTimer_18 ?_
    refine lv_iload_n hx hb dX12_callTimer_21 rfl (lv_at hl 2 rfl) ?_
    refine m_ld x L4 68 rfl rp1 rfl dX12_callTimer_22 (fun v5 ev5 wv5 => ?_)
    have rv5 : rg (0) (11) v5 := lj_68 wv5
    have j269_6 : ∀ (g6 : mSt) (H6 : Heap) (k6 : List Loc) (ls : Array Slot), mFr [58, 59, 60, 68, 74, 75, 76, 77, 86, 87, 89, 90, 91] g4 g6 → mL G h0 ad H0 nn X g6 H6 k6 → mJ nn [] g6 → lv_has ls 4 [(0, .ref h0)] → W p l e rm_callTimer s m args below meth c H6 k6 0 0 Q (F0 m 269 ls []) := by
      intro  g6 H6 k6 ls hF6 L6 hJ6  hl
      exact hQ _ _ _ _ _ dX12_callTimer_269 L6 ⟨(mFr.tr (mFr.tr mFr.rf hF4 rfl) hF6 rfl), hJ6, trivial⟩
    rcases (show v5.toInt < 1 ∨ 11 < v5.toInt ∨ v5.toInt = 1 ∨ v5.toInt = 2 ∨ v5.toInt = 3 ∨ v5.toInt = 4 ∨ v5.toInt = 5 ∨ v5.toInt = 6 ∨ v5.toInt = 7 ∨ v5.toInt = 8 ∨ v5.toInt = 9 ∨ v5.toInt = 10 ∨ v5.toInt = 11 by omega) with c23_7 | c23_7 | c23_7 | c23_7 | c23_7 | c23_7 | c23_7 | c23_7 | c23_7 | c23_7 | c23_7 | c23_7 | c23_7
    · skip
      refine lv_tableOut (tgt := 269) hx hb dX12_callTimer_23 (Or.inl c23_7) (by decide) ?_
      exact j269_6  g4 _ _ ls mFr.rf L4 hJ4 (lv_sub hl [1] rfl)
    · skip
      refine lv_tableOut (tgt := 269) hx hb dX12_callTimer_23 (Or.inr c23_7) (by decide) ?_
      exact j269_6  g4 _ _ ls mFr.rf L4 hJ4 (lv_sub hl [1] rfl)
    · skip
      have q8 : rg (1) (1) v5 := ⟨by omega, by omega⟩
      refine lv_tableIn (off := 57) (tgt := 80) hx hb dX12_callTimer_23 (by omega) (by omega) (by rw [c23_7]; rfl) (by decide) ?_
      refine lv_aload_n hx hb dX12_callTimer_80 rfl (lv_at hl 1 rfl) ?_
      refine lv_iload_n hx hb dX12_callTimer_81 rfl (lv_at hl 2 rfl) ?_
      refine lv_iload_n hx hb dX12_callTimer_82 rfl (lv_at hl 3 rfl) ?_
      refine m_cv (As := [.int p1, .int p2]) (rest := []) x hml L4 (c_repeatSetup l nn X g4 p1 p2 hnn hX hJ4 (rg_w rp1 rfl)) (wm_V uc_repeatSetup ul_507 ui_repeatSetup us_repeatSetup u_init) rfl ⟨rfl, rfl⟩ hd_repeatSetup ⟨Nat.le_of_ble_eq_true rfl, Nat.le_of_ble_eq_true rfl⟩ rfl hl.1 rfl (lv_room (Nat.le_of_ble_eq_true rfl)) dX12_callTimer_83 (fun  g9 H9 k9 hp9 L9 => ?_)
      refine lv_goto (tgt := 269) hx hb dX12_callTimer_86 (by decide) ?_
      exact j269_6  g9 _ _ ls (mFr.tr mFr.rf hp9.1 rfl) L9 hp9.2.1 (lv_sub hl [1] rfl)
    · skip
      have q10 : rg (2) (2) v5 := ⟨by omega, by omega⟩
      refine lv_tableIn (off := 246) (tgt := 269) hx hb dX12_callTimer_23 (by omega) (by omega) (by rw [c23_7]; rfl) (by decide) ?_
      exact j269_6  g4 _ _ ls mFr.rf L4 hJ4 (lv_sub hl [1] rfl)
    · skip
      have q11 : rg (3) (3) v5 := ⟨by omega, by omega⟩
      refine lv_tableIn (off := 66) (tgt := 89) hx hb dX12_callTimer_23 (by omega) (by omega) (by rw [c23_7]; rfl) (by decide) ?_
      refine lv_iload_n hx hb dX12_callTimer_89 rfl (lv_at hl 0 rfl) ?_
      refine lv_if_ne (tgt := 269) hx hb dX12_callTimer_90 (by decide) (fun c90_12 => ?_) (fun c90_12 => ?_)
      · skip
        have q13 : rg (1) (1) b16_0_3 := rg_neL c90_12 rb16_0_3 kc_0
        exact j269_6  g4 _ _ ls mFr.rf L4 hJ4 (lv_sub hl [1] rfl)
      · skip
        have q14 : rg (0) (0) b16_0_3 := (rg_eq c90_12 rb16_0_3 kc_0).1
        refine lv_iload_n hx hb dX12_callTimer_93 rfl (lv_at hl 3 rfl) ?_
        refine lv_bipush (v := 40) hx hb dX12_callTimer_94 (by decide) ?_
        refine lv_icmp_lt (tgt := 269) hx hb dX12_callTimer_96 (by decide) (fun c96_15 => ?_) (fun c96_15 => ?_)
        · skip
          have q16 : rg (-2147483648) (39) p2 := (rg_lt c96_15 (rg_any p2) kc_40).1
          exact j269_6  g4 _ _ ls mFr.rf L4 hJ4 (lv_sub hl [1] rfl)
        · skip
          have q17 : rg (40) (2147483647) p2 := (rg_le (rg_nlt c96_15) kc_40 (rg_any p2)).2
          refine lv_aload_n hx hb dX12_callTimer_99 rfl (lv_at hl 1 rfl) ?_
          refine lv_iload_n hx hb dX12_callTimer_100 rfl (lv_at hl 2 rfl) ?_
          refine lv_bipush (v := 102) hx hb dX12_callTimer_101 (by decide) ?_
          refine m_cv (As := [.int p1, .int (102 : Int32)]) (rest := []) x hml L4 (c_release l nn X g4 p1 (102 : Int32) hnn hX hJ4 (rg_w rp1 rfl) (rg_eqv ev5 (rg_w q11 rfl))) (wm_V uc_release ul_492 ui_release us_release u_init) rfl ⟨rfl, rfl⟩ hd_release ⟨Nat.le_of_ble_eq_true rfl, Nat.le_of_ble_eq_true rfl⟩ rfl hl.1 rfl (lv_room (Nat.le_of_ble_eq_true rfl)) dX12_callTimer_103 (fun  g18 H18 k18 hp18 L18 => ?_)
          refine lv_goto (tgt := 269) hx hb dX12_callTimer_106 (by decide) ?_
          exact j269_6  g18 _ _ ls (mFr.tr mFr.rf hp18.1 rfl) L18 hp18.2.1 (lv_sub hl [1] rfl)
    · skip
      have q19 : rg (4) (4) v5 := ⟨by omega, by omega⟩
      refine lv_tableIn (off := 246) (tgt := 269) hx hb dX12_callTimer_23 (by omega) (by omega) (by rw [c23_7]; rfl) (by decide) ?_
      exact j269_6  g4 _ _ ls mFr.rf L4 hJ4 (lv_sub hl [1] rfl)
    · skip
      have q20 : rg (5) (5) v5 := ⟨by omega, by omega⟩
      refine lv_tableIn (off := 246) (tgt := 269) hx hb dX12_callTimer_23 (by omega) (by omega) (by rw [c23_7]; rfl) (by decide) ?_
      exact j269_6  g4 _ _ ls mFr.rf L4 hJ4 (lv_sub hl [1] rfl)
    · skip
      have q21 : rg (6) (6) v5 := ⟨by omega, by omega⟩
      refine lv_tableIn (off := 86) (tgt := 109) hx hb dX12_callTimer_23 (by omega) (by omega) (by rw [c23_7]; rfl) (by decide) ?_
      refine lv_iload_n hx hb dX12_callTimer_109 rfl (lv_at hl 0 rfl) ?_
      refine lv_if_eq (tgt := 122) hx hb dX12_callTimer_110 (by decide) (fun c110_22 => ?_) (fun c110_22 => ?_)
      · skip
        have q23 : rg (0) (0) b16_0_3 := (rg_eq c110_22 rb16_0_3 kc_0).1
        refine lv_iload_n hx hb dX12_callTimer_122 rfl (lv_at hl 3 rfl) ?_
        refine lv_aload_n hx hb dX12_callTimer_123 rfl (lv_at hl 1 rfl) ?_
        refine m_geta x L4 74 rfl rfl (wm_in uf_210) dX12_callTimer_124 ?_
        refine lv_iload_n hx hb dX12_callTimer_127 rfl (lv_at hl 2 rfl) ?_
        refine m_ld x L4 74 rfl rp1 rfl dX12_callTimer_128 (fun v24 ev24 wv24 => ?_)
        have rv24 : rg (-2147483648) (2147483647) v24 := lj_74 wv24
        refine lv_icmp_lt (tgt := 269) hx hb dX12_callTimer_129 (by decide) (fun c129_25 => ?_) (fun c129_25 => ?_)
        · skip
          have q26 : rg (-2147483648) (2147483646) p2 := (rg_lt c129_25 (rg_any p2) rv24).1
          have q27 : rg (-2147483647) (2147483647) v24 := (rg_lt c129_25 (rg_any p2) rv24).2
          exact j269_6  g4 _ _ ls mFr.rf L4 hJ4 (lv_sub hl [1] rfl)
        · skip
          refine lv_aload_n hx hb dX12_callTimer_132 rfl (lv_at hl 1 rfl) ?_
          refine m_geta x L4 74 rfl rfl (wm_in uf_210) dX12_callTimer_133 ?_
          refine lv_iload_n hx hb dX12_callTimer_136 rfl (lv_at hl 2 rfl) ?_
          refine lv_iconst (v := 0) hx hb dX12_callTimer_137 (by decide) ?_
          refine m_st x L4 74 rfl rp1 rfl (rj_74 (rg_any (0 : Int32))) dX12_callTimer_138 (fun g28 H28 k28 eg28 L28 => ?_)
          refine lv_aload_n hx hb dX12_callTimer_139 rfl (lv_at hl 1 rfl) ?_
          refine lv_iload_n hx hb dX12_callTimer_140 rfl (lv_at hl 2 rfl) ?_
          refine m_cv (As := [.int p1]) (rest := []) x hml L28 (c_answer l nn X g28 p1 hnn hX (mJ_up hJ4 eg28 rfl) (rg_w rp1 rfl) (rg_eqv (mm_up ev5 eg28 rfl) (rg_w q21 rfl))) (wm_V uc_answer ul_510 ui_answer us_answer u_init) rfl ⟨rfl, rfl⟩ hd_answer ⟨Nat.le_of_ble_eq_true rfl, Nat.le_of_ble_eq_true rfl⟩ rfl hl.1 rfl (lv_room (Nat.le_of_ble_eq_true rfl)) dX12_callTimer_141 (fun  g29 H29 k29 hp29 L29 => ?_)
          refine lv_goto (tgt := 269) hx hb dX12_callTimer_144 (by decide) ?_
          exact j269_6  g29 _ _ ls (mFr.tr (mFr.upE mFr.rf eg28 rfl) hp29.1 rfl) L29 hp29.2.1 (lv_sub hl [1] rfl)
      · skip
        have q30 : rg (1) (1) b16_0_3 := rg_neL c110_22 rb16_0_3 kc_0
        refine lv_aload_n hx hb dX12_callTimer_113 rfl (lv_at hl 1 rfl) ?_
        refine lv_iload_n hx hb dX12_callTimer_114 rfl (lv_at hl 2 rfl) ?_
        refine lv_iload_n hx hb dX12_callTimer_115 rfl (lv_at hl 3 rfl) ?_
        refine m_cv (As := [.int p1, .int p2]) (rest := []) x hml L4 (c_repeatSetup l nn X g4 p1 p2 hnn hX hJ4 (rg_w rp1 rfl)) (wm_V uc_repeatSetup ul_507 ui_repeatSetup us_repeatSetup u_init) rfl ⟨rfl, rfl⟩ hd_repeatSetup ⟨Nat.le_of_ble_eq_true rfl, Nat.le_of_ble_eq_true rfl⟩ rfl hl.1 rfl (lv_room (Nat.le_of_ble_eq_true rfl)) dX12_callTimer_116 (fun  g31 H31 k31 hp31 L31 => ?_)
        refine lv_goto (tgt := 269) hx hb dX12_callTimer_119 (by decide) ?_
        exact j269_6  g31 _ _ ls (mFr.tr mFr.rf hp31.1 rfl) L31 hp31.2.1 (lv_sub hl [1] rfl)
    · skip
      have q32 : rg (7) (7) v5 := ⟨by omega, by omega⟩
      refine lv_tableIn (off := 246) (tgt := 269) hx hb dX12_callTimer_23 (by omega) (by omega) (by rw [c23_7]; rfl) (by decide) ?_
      exact j269_6  g4 _ _ ls mFr.rf L4 hJ4 (lv_sub hl [1] rfl)
    · skip
      have q33 : rg (8) (8) v5 := ⟨by omega, by omega⟩
      refine lv_tableIn (off := 124) (tgt := 147) hx hb dX12_callTimer_23 (by omega) (by omega) (by rw [c23_7]; rfl) (by decide) ?_
      refine lv_iload_n hx hb dX12_callTimer_147 rfl (lv_at hl 3 rfl) ?_
      refine lv_bipush (v := 10) hx hb dX12_callTimer_148 (by decide) ?_
      refine lv_icmp_lt (tgt := 269) hx hb dX12_callTimer_150 (by decide) (fun c150_34 => ?_) (fun c150_34 => ?_)
      · skip
        have q35 : rg (-2147483648) (9) p2 := (rg_lt c150_34 (rg_any p2) kc_10).1
        exact j269_6  g4 _ _ ls mFr.rf L4 hJ4 (lv_sub hl [1] rfl)
      · skip
        have q36 : rg (10) (2147483647) p2 := (rg_le (rg_nlt c150_34) kc_10 (rg_any p2)).2
        refine lv_aload_n hx hb dX12_callTimer_153 rfl (lv_at hl 1 rfl) ?_
        refine lv_iload_n hx hb dX12_callTimer_154 rfl (lv_at hl 2 rfl) ?_
        refine lv_bipush (v := 102) hx hb dX12_callTimer_155 (by decide) ?_
        refine m_cv (As := [.int p1, .int (102 : Int32)]) (rest := []) x hml L4 (c_release l nn X g4 p1 (102 : Int32) hnn hX hJ4 (rg_w rp1 rfl) (rg_eqv ev5 (rg_w q33 rfl))) (wm_V uc_release ul_492 ui_release us_release u_init) rfl ⟨rfl, rfl⟩ hd_release ⟨Nat.le_of_ble_eq_true rfl, Nat.le_of_ble_eq_true rfl⟩ rfl hl.1 rfl (lv_room (Nat.le_of_ble_eq_true rfl)) dX12_callTimer_157 (fun  g37 H37 k37 hp37 L37 => ?_)
        refine lv_goto (tgt := 269) hx hb dX12_callTimer_160 (by decide) ?_
        exact j269_6  g37 _ _ ls (mFr.tr mFr.rf hp37.1 rfl) L37 hp37.2.1 (lv_sub hl [1] rfl)
    · skip
      have q38 : rg (9) (9) v5 := ⟨by omega, by omega⟩
      refine lv_tableIn (off := 140) (tgt := 163) hx hb dX12_callTimer_23 (by omega) (by omega) (by rw [c23_7]; rfl) (by decide) ?_
      refine lv_iload_n hx hb dX12_callTimer_163 rfl (lv_at hl 3 rfl) ?_
      refine lv_bipush (v := 40) hx hb dX12_callTimer_164 (by decide) ?_
      refine lv_icmp_lt (tgt := 269) hx hb dX12_callTimer_166 (by decide) (fun c166_39 => ?_) (fun c166_39 => ?_)
      · skip
        have q40 : rg (-2147483648) (39) p2 := (rg_lt c166_39 (rg_any p2) kc_40).1
        exact j269_6  g4 _ _ ls mFr.rf L4 hJ4 (lv_sub hl [1] rfl)
      · skip
        have q41 : rg (40) (2147483647) p2 := (rg_le (rg_nlt c166_39) kc_40 (rg_any p2)).2
        refine lv_aload_n hx hb dX12_callTimer_169 rfl (lv_at hl 1 rfl) ?_
        refine lv_iload_n hx hb dX12_callTimer_170 rfl (lv_at hl 2 rfl) ?_
        refine lv_bipush (v := 102) hx hb dX12_callTimer_171 (by decide) ?_
        refine m_cv (As := [.int p1, .int (102 : Int32)]) (rest := []) x hml L4 (c_release l nn X g4 p1 (102 : Int32) hnn hX hJ4 (rg_w rp1 rfl) (rg_eqv ev5 (rg_w q38 rfl))) (wm_V uc_release ul_492 ui_release us_release u_init) rfl ⟨rfl, rfl⟩ hd_release ⟨Nat.le_of_ble_eq_true rfl, Nat.le_of_ble_eq_true rfl⟩ rfl hl.1 rfl (lv_room (Nat.le_of_ble_eq_true rfl)) dX12_callTimer_173 (fun  g42 H42 k42 hp42 L42 => ?_)
        refine lv_aload_n hx hb dX12_callTimer_176 rfl (lv_at hl 1 rfl) ?_
        refine lv_iload_n hx hb dX12_callTimer_177 rfl (lv_at hl 2 rfl) ?_
        refine lv_bipush (v := 102) hx hb dX12_callTimer_178 (by decide) ?_
        refine m_cv (As := [.int p1, .int (102 : Int32)]) (rest := []) x hml L42 (c_releaseOther l nn X g42 p1 (102 : Int32) hnn hX hp42.2.1 (rg_w rp1 rfl)) (wm_V uc_releaseOther ul_501 ui_releaseOther us_releaseOther u_init) rfl ⟨rfl, rfl⟩ hd_releaseOther ⟨Nat.le_of_ble_eq_true rfl, Nat.le_of_ble_eq_true rfl⟩ rfl hl.1 rfl (lv_room (Nat.le_of_ble_eq_true rfl)) dX12_callTimer_180 (fun  g43 H43 k43 hp43 L43 => ?_)
        refine lv_goto (tgt := 269) hx hb dX12_callTimer_183 (by decide) ?_
        exact j269_6  g43 _ _ ls (mFr.tr (mFr.tr mFr.rf hp42.1 rfl) hp43.1 rfl) L43 hp43.2.1 (lv_sub hl [1] rfl)
    · skip
      have q44 : rg (10) (10) v5 := ⟨by omega, by omega⟩
      refine lv_tableIn (off := 246) (tgt := 269) hx hb dX12_callTimer_23 (by omega) (by omega) (by rw [c23_7]; rfl) (by decide) ?_
      exact j269_6  g4 _ _ ls mFr.rf L4 hJ4 (lv_sub hl [1] rfl)
    · skip
      have q45 : rg (11) (11) v5 := ⟨by omega, by omega⟩
      refine lv_tableIn (off := 163) (tgt := 186) hx hb dX12_callTimer_23 (by omega) (by omega) (by rw [c23_7]; rfl) (by decide) ?_
      refine lv_iload_n hx hb dX12_callTimer_186 rfl (lv_at hl 3 rfl) ?_
      refine lv_bipush (v := 10) hx hb dX12_callTimer_187 (by decide) ?_
      have j215_46 : ∀ (g46 : mSt) (H46 : Heap) (k46 : List Loc) (ls : Array Slot), mFr [] g4 g46 → mL G h0 ad H0 nn X g46 H46 k46 → mJ nn [] g46 → lv_has ls 4 [(0, .ref h0), (1, .int p1), (2, .int p2)] → W p l e rm_callTimer s m args below meth c H46 k46 0 0 Q (F0 m 215 ls []) := by
        intro  g46 H46 k46 ls hF46 L46 hJ46  hl
        refine lv_iload_n hx hb dX12_callTimer_215 rfl (lv_at hl 2 rfl) ?_
        refine lv_bipush (v := 10) hx hb dX12_callTimer_216 (by decide) ?_
        refine lv_icmp_lt (tgt := 269) hx hb dX12_callTimer_218 (by decide) (fun c218_47 => ?_) (fun c218_47 => ?_)
        · skip
          have q48 : rg (-2147483648) (9) p2 := (rg_lt c218_47 (rg_any p2) kc_10).1
          exact j269_6  g46 _ _ ls (mFr.tr mFr.rf hF46 rfl) L46 hJ46 (lv_sub hl [0] rfl)
        · skip
          have q49 : rg (10) (2147483647) p2 := (rg_le (rg_nlt c218_47) kc_10 (rg_any p2)).2
          refine lv_aload_n hx hb dX12_callTimer_221 rfl (lv_at hl 0 rfl) ?_
          refine m_geta x L46 76 rfl rfl (wm_in uf_216) dX12_callTimer_222 ?_
          refine lv_iload_n hx hb dX12_callTimer_225 rfl (lv_at hl 1 rfl) ?_
          refine lv_iconst (v := 1) hx hb dX12_callTimer_226 (by decide) ?_
          refine m_stz x L46 76 rfl rp1 rfl (rg_w kc_1 rfl) (rj_76 (rg_w kc_1 rfl)) dX12_callTimer_227 (fun g50 H50 k50 eg50 L50 => ?_)
          refine lv_aload_n hx hb dX12_callTimer_228 rfl (lv_at hl 0 rfl) ?_
          refine m_geta x L50 75 rfl rfl (wm_in uf_213) dX12_callTimer_229 ?_
          refine lv_iload_n hx hb dX12_callTimer_232 rfl (lv_at hl 1 rfl) ?_
          refine lv_aload_n hx hb dX12_callTimer_233 rfl (lv_at hl 0 rfl) ?_
          refine m_geti x L50 1 rfl rfl (wm_in uf_378) dX12_callTimer_234 (fun v51 ev51 wv51 => ?_)
          have rv51 : rg (-2147483648) (2147483647) v51 := lj_1 wv51
          refine m_st x L50 75 rfl rp1 rfl (rj_75 (rg_any v51)) dX12_callTimer_237 (fun g52 H52 k52 eg52 L52 => ?_)
          refine lv_aload_n hx hb dX12_callTimer_238 rfl (lv_at hl 0 rfl) ?_
          refine lv_iload_n hx hb dX12_callTimer_239 rfl (lv_at hl 1 rfl) ?_
          refine lv_bipush (v := 40) hx hb dX12_callTimer_240 (by decide) ?_
          refine lv_idiv hx hb dX12_callTimer_242 (by decide) ?_
          refine lv_topi (fun v53 ev53 => ?_)
          have rv53 : rg (0) (7) v53 := (rg_div ev53 rp1 kc_40 rfl).1
          refine lv_aload_n hx hb dX12_callTimer_243 rfl (lv_at hl 0 rfl) ?_
          refine m_geta x L52 70 rfl rfl (wm_in uf_198) dX12_callTimer_244 ?_
          refine lv_iload_n hx hb dX12_callTimer_247 rfl (lv_at hl 1 rfl) ?_
          refine m_ldz x L52 70 rfl rp1 rfl dX12_callTimer_248 (fun v54 ev54 wv54 => ?_)
          have rv54 : rg (0) (1) v54 := lj_70 wv54
          refine lv_aload_n hx hb dX12_callTimer_249 rfl (lv_at hl 0 rfl) ?_
          refine m_geta x L52 69 rfl rfl (wm_in uf_195) dX12_callTimer_250 ?_
          refine lv_iload_n hx hb dX12_callTimer_253 rfl (lv_at hl 1 rfl) ?_
          refine m_ld x L52 69 rfl rp1 rfl dX12_callTimer_254 (fun v55 ev55 wv55 => ?_)
          have rv55 : rg (-2147483648) (2147483647) v55 := lj_69 wv55
          refine lv_bipush (v := 77) hx hb dX12_callTimer_255 (by decide) ?_
          refine lv_aload_n hx hb dX12_callTimer_257 rfl (lv_at hl 0 rfl) ?_
          refine m_geta x L52 74 rfl rfl (wm_in uf_210) dX12_callTimer_258 ?_
          refine lv_iload_n hx hb dX12_callTimer_261 rfl (lv_at hl 1 rfl) ?_
          refine m_ld x L52 74 rfl rp1 rfl dX12_callTimer_262 (fun v56 ev56 wv56 => ?_)
          have rv56 : rg (-2147483648) (2147483647) v56 := lj_74 wv56
          refine m_cv (As := [.int v53, .int v54, .int v55, .int (77 : Int32), .int v56]) (rest := []) x hml L52 (c_withCause l nn X g52 v53 v54 v55 (77 : Int32) v56 hnn hX (rg_w rv53 rfl) (rg_w rv54 rfl)) (wm_V uc_withCause ul_488 ui_withCause us_withCause u_init) rfl ⟨rfl, rfl⟩ hd_withCause ⟨Nat.le_of_ble_eq_true rfl, Nat.le_of_ble_eq_true rfl⟩ rfl hl.1 rfl (lv_room (Nat.le_of_ble_eq_true rfl)) dX12_callTimer_263 (fun  g57 H57 k57 hp57 L57 => ?_)
          refine lv_goto (tgt := 269) hx hb dX12_callTimer_266 (by decide) ?_
          exact j269_6  g57 _ _ ls (mFr.tr (mFr.upE (mFr.upE (mFr.tr mFr.rf hF46 rfl) eg50 rfl) eg52 rfl) hp57.1 rfl) L57 (mJ_fr (mJ_up (mJ_up hJ46 eg50 rfl) eg52 rfl) hp57.1 rfl) (lv_sub hl [0] rfl)
      refine lv_icmp_lt (tgt := 215) hx hb dX12_callTimer_189 (by decide) (fun c189_58 => ?_) (fun c189_58 => ?_)
      · skip
        have q59 : rg (-2147483648) (9) p2 := (rg_lt c189_58 (rg_any p2) kc_10).1
        exact j215_46  g4 _ _ ls mFr.rf L4 hJ4 (lv_sub hl [1, 2, 3] rfl)
      · skip
        have q60 : rg (10) (2147483647) p2 := (rg_le (rg_nlt c189_58) kc_10 (rg_any p2)).2
        refine lv_aload_n hx hb dX12_callTimer_192 rfl (lv_at hl 1 rfl) ?_
        refine m_geta x L4 76 rfl rfl (wm_in uf_216) dX12_callTimer_193 ?_
        refine lv_iload_n hx hb dX12_callTimer_196 rfl (lv_at hl 2 rfl) ?_
        refine m_ldz x L4 76 rfl rp1 rfl dX12_callTimer_197 (fun v61 ev61 wv61 => ?_)
        have rv61 : rg (0) (1) v61 := lj_76 wv61
        refine lv_if_eq (tgt := 215) hx hb dX12_callTimer_198 (by decide) (fun c198_62 => ?_) (fun c198_62 => ?_)
        · skip
          have q63 : rg (0) (0) v61 := (rg_eq c198_62 rv61 kc_0).1
          exact j215_46  g4 _ _ ls mFr.rf L4 hJ4 (lv_sub hl [1, 2, 3] rfl)
        · skip
          have q64 : rg (1) (1) v61 := rg_neL c198_62 rv61 kc_0
          refine lv_aload_n hx hb dX12_callTimer_201 rfl (lv_at hl 1 rfl) ?_
          refine lv_iload_n hx hb dX12_callTimer_202 rfl (lv_at hl 2 rfl) ?_
          refine lv_aload_n hx hb dX12_callTimer_203 rfl (lv_at hl 1 rfl) ?_
          refine m_geta x L4 74 rfl rfl (wm_in uf_210) dX12_callTimer_204 ?_
          refine lv_iload_n hx hb dX12_callTimer_207 rfl (lv_at hl 2 rfl) ?_
          refine m_ld x L4 74 rfl rp1 rfl dX12_callTimer_208 (fun v65 ev65 wv65 => ?_)
          have rv65 : rg (-2147483648) (2147483647) v65 := lj_74 wv65
          refine m_cv (As := [.int p1, .int v65]) (rest := []) x hml L4 (c_over l nn X g4 p1 v65 hnn hX hJ4 (rg_w rp1 rfl)) (wm_V uc_over ul_498 ui_over us_over u_init) rfl ⟨rfl, rfl⟩ hd_over ⟨Nat.le_of_ble_eq_true rfl, Nat.le_of_ble_eq_true rfl⟩ rfl hl.1 rfl (lv_room (Nat.le_of_ble_eq_true rfl)) dX12_callTimer_209 (fun  g66 H66 k66 hp66 L66 => ?_)
          refine lv_goto (tgt := 269) hx hb dX12_callTimer_212 (by decide) ?_
          exact j269_6  g66 _ _ ls (mFr.tr mFr.rf hp66.1 rfl) L66 hp66.2.1 (lv_sub hl [1] rfl)
  refine lv_icmp_lt (tgt := 15) hx hb dX12_callTimer_8 (by decide) (fun c8_67 => ?_) (fun c8_67 => ?_)
  · skip
    have b40p1_68 : p1.toInt < 40 * nn := by have := Int32.lt_iff_toInt_lt.mp c8_67; have := lv2; omega
    have q69 : rg (0) (159) p1 := (rg_lt c8_67 rp1 rv2).1
    refine lv_iconst (v := 0) hx hb dX12_callTimer_15 (by decide) ?_
    exact j16_4 (0 : Int32) g _ _ ls mFr.rf L hJ (rg_w kc_0 rfl) (lv_sub hl [0, 1, 2] rfl)
  · skip
    have q70 : rg (80) (319) p1 := (rg_le (rg_nlt c8_67) rv2 rp1).2
    refine lv_iconst (v := 1) hx hb dX12_callTimer_11 (by decide) ?_
    refine lv_goto (tgt := 16) hx hb dX12_callTimer_12 (by decide) ?_
    exact j16_4 (1 : Int32) g _ _ ls mFr.rf L hJ (rg_w kc_1 rfl) (lv_sub hl [0, 1, 2] rfl)
theorem c_callTimer (l : Launch) {G : mG} {h0 : Nat} {ad : Nat → Nat} (nn X : Int) (g : mSt) (p1 : Int32) (p2 : Int32) (hnn : 2 ≤ nn ∧ nn ≤ 4) (hX : 0 ≤ X ∧ X ≤ 2000000000) (hJ : mJ nn [] g) (rp1 : rg (0) (319) p1) : Met l yX12_callTimer (wm (Cond.code yX12_callTimer cX12_callTimer 4 none)) rm_callTimer (va_Pc [.ref h0, .int p1, .int p2] (mPre G h0 ad nn X g)) (mQv G h0 ad nn X (fun g1 => mFr [58, 59, 60, 68, 74, 75, 76, 77, 86, 87, 89, 90, 91] g g1 ∧ mJ nn [] g1 ∧ True)) 0 0 (mA h0 ad) := by
  refine Met.ofW (cc := cX12_callTimer) (maxL := 4) (ret := none) (by decide) rfl ?_
  intro p e s m args below meth c s₁ B hml hv
  obtain ⟨rfl, hv⟩ := hv
  have hr := B.returns
  have hlocks := B.notSynchronized
  obtain ⟨x, L⟩ := m_start B rfl wm_X hv
  have hl := lv_entry ([.ref h0, .int p1, .int p2]) (n := 4) (Nat.le_of_ble_eq_true rfl)
  rw [lg_entry_eq]
  generalize (lg_sl ([.ref h0, .int p1, .int p2]) ++ List.replicate (4 - (lg_sl ([.ref h0, .int p1, .int p2])).length) Slot.unset).toArray = ls at hl ⊢
  exact w_callTimer x hml L hnn hX hJ p1 p2 rp1 hl (fun pc' ls' g1 H1 locs1 hdg L hp => m_vret x L hr hlocks (Int.le_refl _) hp hdg)

def rm_line : Room := { frames := 1, cells := 0, slots := 0, locals := 23 }
theorem hd_line : yX12_line.cls = RX12 ∧ yX12_line.cls ≠ "java/lang/invoke/MethodHandle" ∧ yX12_line.cls ≠ "java/lang/invoke/VarHandle" ∧ (parseMethodDescriptor yX12_line.desc).map (fun d => d.parameters.length) = some 2 := by decide +kernel
set_option maxHeartbeats 4000000 in
set_option maxRecDepth 100000 in
theorem w_line {p : Program} {l : Launch} {e : Env} {s : State} {m : MethodId} {args : Array Value} {below : List Frame} {meth : Method} {c : Code} {H : Heap} {locs : List Loc} {Q : State → Prop} {ls : Array Slot} {G : mG} {h0 : Nat} {ad : Nat → Nat} {g : mSt} {H0 : Heap} {nn X : Int} (x : mX p c cX12_line s args (wm (Cond.code yX12_line cX12_line 3 (some .int))) m G h0 ad) (hml : c.maxLocals = 3) (L : mL G h0 ad H0 nn X g H locs) (hnn : 2 ≤ nn ∧ nn ≤ 4) (hX : 0 ≤ X ∧ X ≤ 2000000000) (p1 : Int32) (p2 : Int32) (hl : lv_has ls 3 [(0, .ref h0), (1, .int p1), (2, .int p2)]) (hQ : ∀ (pc' : Nat) (ls' : Array Slot) (r : Int32) (g1 : mSt) (H1 : Heap) (locs1 : List Loc), decode cX12_line pc' = .ok (.ireturn, 1) → mL G h0 ad H0 nn X g1 H1 locs1 → (mFr [] g g1 ∧ rg (-2147483648) (2147483647) r ∧ True) → W p l e rm_line s m args below meth c H1 locs1 0 0 Q (F0 m pc' ls' [.int r])) : W p l e rm_line s m args below meth c H locs 0 0 Q (F0 m 0 ls []) := by
  have hx := x.1
  have hb := x.2.1
  refine lv_aload_n hx hb dX12_line_0 rfl (lv_at hl 0 rfl) ?_
  refine lv_iload_n hx hb dX12_line_1 rfl (lv_at hl 1 rfl) ?_
  refine m_ci (As := [.int p1]) (rest := []) x hml L (c_isSide l nn X g p1 hnn hX) (wm_V uc_isSide ul_460 ui_isSide us_isSide u_init) rfl ⟨rfl, rfl⟩ hd_isSide ⟨Nat.le_of_ble_eq_true rfl, Nat.le_of_ble_eq_true rfl⟩ rfl hl.1 rfl (lv_room (Nat.le_of_ble_eq_true rfl)) dX12_line_2 (fun v2 g1 H1 k1 hp1 L1 => ?_)
  have rv2 : rg (0) (1) v2 := hp1.2.1
  refine lv_if_ne (tgt := 10) hx hb dX12_line_5 (by decide) (fun c5_3 => ?_) (fun c5_3 => ?_)
  · skip
    have q4 : rg (0) (7) p1 ∧ p1.toInt < 2 * nn := hp1.2.2 c5_3
    have q5 : rg (1) (1) v2 := rg_neL c5_3 rv2 kc_0
    refine lv_iload_n hx hb dX12_line_10 rfl (lv_at hl 2 rfl) ?_
    rcases (show p2.toInt < 0 ∨ 11 < p2.toInt ∨ p2.toInt = 0 ∨ p2.toInt = 1 ∨ p2.toInt = 2 ∨ p2.toInt = 3 ∨ p2.toInt = 4 ∨ p2.toInt = 5 ∨ p2.toInt = 6 ∨ p2.toInt = 7 ∨ p2.toInt = 8 ∨ p2.toInt = 9 ∨ p2.toInt = 10 ∨ p2.toInt = 11 by omega) with c11_6 | c11_6 | c11_6 | c11_6 | c11_6 | c11_6 | c11_6 | c11_6 | c11_6 | c11_6 | c11_6 | c11_6 | c11_6 | c11_6
    · skip
      refine lv_tableOut (tgt := 162) hx hb dX12_line_11 (Or.inl c11_6) (by decide) ?_
      refine lv_iconst (v := (-1)) hx hb dX12_line_162 (by decide) ?_
      exact hQ _ _ (-1 : Int32) _ _ _ dX12_line_163 L1 ⟨(mFr.tr mFr.rf hp1.1 rfl), rg_w kc_m1 rfl, trivial⟩
    · skip
      refine lv_tableOut (tgt := 162) hx hb dX12_line_11 (Or.inr c11_6) (by decide) ?_
      refine lv_iconst (v := (-1)) hx hb dX12_line_162 (by decide) ?_
      exact hQ _ _ (-1 : Int32) _ _ _ dX12_line_163 L1 ⟨(mFr.tr mFr.rf hp1.1 rfl), rg_w kc_m1 rfl, trivial⟩
    · skip
      have q7 : rg (0) (0) p2 := ⟨by omega, by omega⟩
      refine lv_tableIn (off := 61) (tgt := 72) hx hb dX12_line_11 (by omega) (by omega) (by rw [c11_6]; rfl) (by decide) ?_
      refine lv_aload_n hx hb dX12_line_72 rfl (lv_at hl 0 rfl) ?_
      refine m_geta x L1 40 rfl rfl (wm_in uf_107) dX12_line_73 ?_
      refine lv_iload_n hx hb dX12_line_76 rfl (lv_at hl 1 rfl) ?_
      refine m_ld x L1 40 rfl q4.1 rfl dX12_line_77 (fun v8 ev8 wv8 => ?_)
      have rv8 : rg (-2147483648) (2147483647) v8 := lj_40 wv8
      exact hQ _ _ v8 _ _ _ dX12_line_78 L1 ⟨(mFr.tr mFr.rf hp1.1 rfl), rg_w rv8 rfl, trivial⟩
    · skip
      have q9 : rg (1) (1) p2 := ⟨by omega, by omega⟩
      refine lv_tableIn (off := 68) (tgt := 79) hx hb dX12_line_11 (by omega) (by omega) (by rw [c11_6]; rfl) (by decide) ?_
      refine lv_aload_n hx hb dX12_line_79 rfl (lv_at hl 0 rfl) ?_
      refine m_geta x L1 41 rfl rfl (wm_in uf_110) dX12_line_80 ?_
      refine lv_iload_n hx hb dX12_line_83 rfl (lv_at hl 1 rfl) ?_
      refine m_ld x L1 41 rfl q4.1 rfl dX12_line_84 (fun v10 ev10 wv10 => ?_)
      have rv10 : rg (0) (2147483647) v10 := lj_41 wv10
      exact hQ _ _ v10 _ _ _ dX12_line_85 L1 ⟨(mFr.tr mFr.rf hp1.1 rfl), rg_w rv10 rfl, trivial⟩
    · skip
      have q11 : rg (2) (2) p2 := ⟨by omega, by omega⟩
      refine lv_tableIn (off := 75) (tgt := 86) hx hb dX12_line_11 (by omega) (by omega) (by rw [c11_6]; rfl) (by decide) ?_
      refine lv_aload_n hx hb dX12_line_86 rfl (lv_at hl 0 rfl) ?_
      refine m_geta x L1 42 rfl rfl (wm_in uf_113) dX12_line_87 ?_
      refine lv_iload_n hx hb dX12_line_90 rfl (lv_at hl 1 rfl) ?_
      refine m_ld x L1 42 rfl q4.1 rfl dX12_line_91 (fun v12 ev12 wv12 => ?_)
      have rv12 : rg (0) (2147483647) v12 := lj_42 wv12
      exact hQ _ _ v12 _ _ _ dX12_line_92 L1 ⟨(mFr.tr mFr.rf hp1.1 rfl), rg_w rv12 rfl, trivial⟩
    · skip
      have q13 : rg (3) (3) p2 := ⟨by omega, by omega⟩
      refine lv_tableIn (off := 82) (tgt := 93) hx hb dX12_line_11 (by omega) (by omega) (by rw [c11_6]; rfl) (by decide) ?_
      refine lv_aload_n hx hb dX12_line_93 rfl (lv_at hl 0 rfl) ?_
      refine m_geta x L1 43 rfl rfl (wm_in uf_116) dX12_line_94 ?_
      refine lv_iload_n hx hb dX12_line_97 rfl (lv_at hl 1 rfl) ?_
      refine m_ld x L1 43 rfl q4.1 rfl dX12_line_98 (fun v14 ev14 wv14 => ?_)
      have rv14 : rg (-2147483648) (2147483647) v14 := lj_43 wv14
      exact hQ _ _ v14 _ _ _ dX12_line_99 L1 ⟨(mFr.tr mFr.rf hp1.1 rfl), rg_w rv14 rfl, trivial⟩
    · skip
      have q15 : rg (4) (4) p2 := ⟨by omega, by omega⟩
      refine lv_tableIn (off := 89) (tgt := 100) hx hb dX12_line_11 (by omega) (by omega) (by rw [c11_6]; rfl) (by decide) ?_
      refine lv_aload_n hx hb dX12_line_100 rfl (lv_at hl 0 rfl) ?_
      refine m_geta x L1 44 rfl rfl (wm_in uf_119) dX12_line_101 ?_
      refine lv_iload_n hx hb dX12_line_104 rfl (lv_at hl 1 rfl) ?_
      refine m_ld x L1 44 rfl q4.1 rfl dX12_line_105 (fun v16 ev16 wv16 => ?_)
      have rv16 : rg (-2147483648) (2147483647) v16 := lj_44 wv16
      exact hQ _ _ v16 _ _ _ dX12_line_106 L1 ⟨(mFr.tr mFr.rf hp1.1 rfl), rg_w rv16 rfl, trivial⟩
    · skip
      have q17 : rg (5) (5) p2 := ⟨by omega, by omega⟩
      refine lv_tableIn (off := 96) (tgt := 107) hx hb dX12_line_11 (by omega) (by omega) (by rw [c11_6]; rfl) (by decide) ?_
      refine lv_aload_n hx hb dX12_line_107 rfl (lv_at hl 0 rfl) ?_
      refine m_geta x L1 45 rfl rfl (wm_in uf_122) dX12_line_108 ?_
      refine lv_iload_n hx hb dX12_line_111 rfl (lv_at hl 1 rfl) ?_
      refine m_ld x L1 45 rfl q4.1 rfl dX12_line_112 (fun v18 ev18 wv18 => ?_)
      have rv18 : rg (-2147483648) (2147483647) v18 := lj_45 wv18
      exact hQ _ _ v18 _ _ _ dX12_line_113 L1 ⟨(mFr.tr mFr.rf hp1.1 rfl), rg_w rv18 rfl, trivial⟩
    · skip
      have q19 : rg (6) (6) p2 := ⟨by omega, by omega⟩
      refine lv_tableIn (off := 103) (tgt := 114) hx hb dX12_line_11 (by omega) (by omega) (by rw [c11_6]; rfl) (by decide) ?_
      refine lv_aload_n hx hb dX12_line_114 rfl (lv_at hl 0 rfl) ?_
      refine m_geta x L1 46 rfl rfl (wm_in uf_125) dX12_line_115 ?_
      refine lv_iload_n hx hb dX12_line_118 rfl (lv_at hl 1 rfl) ?_
      refine m_ld x L1 46 rfl q4.1 rfl dX12_line_119 (fun v20 ev20 wv20 => ?_)
      have rv20 : rg (0) (16777224) v20 := lj_46 wv20
      exact hQ _ _ v20 _ _ _ dX12_line_120 L1 ⟨(mFr.tr mFr.rf hp1.1 rfl), rg_w rv20 rfl, trivial⟩
    · skip
      have q21 : rg (7) (7) p2 := ⟨by omega, by omega⟩
      refine lv_tableIn (off := 110) (tgt := 121) hx hb dX12_line_11 (by omega) (by omega) (by rw [c11_6]; rfl) (by decide) ?_
      refine lv_aload_n hx hb dX12_line_121 rfl (lv_at hl 0 rfl) ?_
      refine m_geta x L1 47 rfl rfl (wm_in uf_128) dX12_line_122 ?_
      refine lv_iload_n hx hb dX12_line_125 rfl (lv_at hl 1 rfl) ?_
      refine m_ld x L1 47 rfl q4.1 rfl dX12_line_126 (fun v22 ev22 wv22 => ?_)
      have rv22 : rg (-2147483648) (2147483647) v22 := lj_47 wv22
      exact hQ _ _ v22 _ _ _ dX12_line_127 L1 ⟨(mFr.tr mFr.rf hp1.1 rfl), rg_w rv22 rfl, trivial⟩
    · skip
      have q23 : rg (8) (8) p2 := ⟨by omega, by omega⟩
      refine lv_tableIn (off := 117) (tgt := 128) hx hb dX12_line_11 (by omega) (by omega) (by rw [c11_6]; rfl) (by decide) ?_
      refine lv_aload_n hx hb dX12_line_128 rfl (lv_at hl 0 rfl) ?_
      refine m_geta x L1 60 rfl rfl (wm_in uf_168) dX12_line_129 ?_
      refine lv_iload_n hx hb dX12_line_132 rfl (lv_at hl 1 rfl) ?_
      refine m_ld x L1 60 rfl q4.1 rfl dX12_line_133 (fun v24 ev24 wv24 => ?_)
      have rv24 : rg (0) (10) v24 := lj_60 wv24
      exact hQ _ _ v24 _ _ _ dX12_line_134 L1 ⟨(mFr.tr mFr.rf hp1.1 rfl), rg_w rv24 rfl, trivial⟩
    · skip
      have q25 : rg (9) (9) p2 := ⟨by omega, by omega⟩
      refine lv_tableIn (off := 124) (tgt := 135) hx hb dX12_line_11 (by omega) (by omega) (by rw [c11_6]; rfl) (by decide) ?_
      refine lv_aload_n hx hb dX12_line_135 rfl (lv_at hl 0 rfl) ?_
      refine m_geta x L1 41 rfl rfl (wm_in uf_110) dX12_line_136 ?_
      refine lv_iload_n hx hb dX12_line_139 rfl (lv_at hl 1 rfl) ?_
      refine m_ld x L1 41 rfl q4.1 rfl dX12_line_140 (fun v26 ev26 wv26 => ?_)
      have rv26 : rg (0) (2147483647) v26 := lj_41 wv26
      refine lv_aload_n hx hb dX12_line_141 rfl (lv_at hl 0 rfl) ?_
      refine m_geta x L1 42 rfl rfl (wm_in uf_113) dX12_line_142 ?_
      refine lv_iload_n hx hb dX12_line_145 rfl (lv_at hl 1 rfl) ?_
      refine m_ld x L1 42 rfl q4.1 rfl dX12_line_146 (fun v27 ev27 wv27 => ?_)
      have rv27 : rg (0) (2147483647) v27 := lj_42 wv27
      refine lv_isub hx hb dX12_line_147 ?_
      refine lv_topi (fun v28 ev28 => ?_)
      have rv28 : rg (-2147483647) (2147483647) v28 := (rg_sub ev28 rv26 rv27 rfl).1
      exact hQ _ _ v28 _ _ _ dX12_line_148 L1 ⟨(mFr.tr mFr.rf hp1.1 rfl), rg_w rv28 rfl, trivial⟩
    · skip
      have q29 : rg (10) (10) p2 := ⟨by omega, by omega⟩
      refine lv_tableIn (off := 138) (tgt := 149) hx hb dX12_line_11 (by omega) (by omega) (by rw [c11_6]; rfl) (by decide) ?_
      refine lv_aload_n hx hb dX12_line_149 rfl (lv_at hl 0 rfl) ?_
      refine lv_iload_n hx hb dX12_line_150 rfl (lv_at hl 1 rfl) ?_
      refine m_ci (As := [.int p1]) (rest := []) x hml L1 (c_aheadOf l nn X g1 p1 hnn hX (rg_w q4.1 rfl)) (wm_V uc_aheadOf ul_463 ui_aheadOf us_aheadOf u_init) rfl ⟨rfl, rfl⟩ hd_aheadOf ⟨Nat.le_of_ble_eq_true rfl, Nat.le_of_ble_eq_true rfl⟩ rfl hl.1 rfl (lv_room (Nat.le_of_ble_eq_true rfl)) dX12_line_151 (fun v31 g30 H30 k30 hp30 L30 => ?_)
      have rv31 : rg (-2147483648) (2147483647) v31 := hp30.2.1
      exact hQ _ _ v31 _ _ _ dX12_line_154 L30 ⟨(mFr.tr (mFr.tr mFr.rf hp1.1 rfl) hp30.1 rfl), rg_w rv31 rfl, trivial⟩
    · skip
      have q32 : rg (11) (11) p2 := ⟨by omega, by omega⟩
      refine lv_tableIn (off := 144) (tgt := 155) hx hb dX12_line_11 (by omega) (by omega) (by rw [c11_6]; rfl) (by decide) ?_
      refine lv_aload_n hx hb dX12_line_155 rfl (lv_at hl 0 rfl) ?_
      refine m_geta x L1 48 rfl rfl (wm_in uf_131) dX12_line_156 ?_
      refine lv_iload_n hx hb dX12_line_159 rfl (lv_at hl 1 rfl) ?_
      refine m_ld x L1 48 rfl q4.1 rfl dX12_line_160 (fun v33 ev33 wv33 => ?_)
      have rv33 : rg (-2147483648) (2147483647) v33 := lj_48 wv33
      exact hQ _ _ v33 _ _ _ dX12_line_161 L1 ⟨(mFr.tr mFr.rf hp1.1 rfl), rg_w rv33 rfl, trivial⟩
  · skip
    have q34 : rg (0) (0) v2 := (rg_eq c5_3 rv2 kc_0).1
    refine lv_iconst (v := (-1)) hx hb dX12_line_8 (by decide) ?_
    exact hQ _ _ (-1 : Int32) _ _ _ dX12_line_9 L1 ⟨(mFr.tr mFr.rf hp1.1 rfl), rg_w kc_m1 rfl, trivial⟩
theorem c_line (l : Launch) {G : mG} {h0 : Nat} {ad : Nat → Nat} (nn X : Int) (g : mSt) (p1 : Int32) (p2 : Int32) (hnn : 2 ≤ nn ∧ nn ≤ 4) (hX : 0 ≤ X ∧ X ≤ 2000000000) : Met l yX12_line (wm (Cond.code yX12_line cX12_line 3 (some .int))) rm_line (va_Pc [.ref h0, .int p1, .int p2] (mPre G h0 ad nn X g)) (mQi G h0 ad nn X (fun r g1 => mFr [] g g1 ∧ rg (-2147483648) (2147483647) r ∧ True)) 0 0 (mA h0 ad) := by
  refine Met.ofW (cc := cX12_line) (maxL := 3) (ret := (some .int)) (by decide) rfl ?_
  intro p e s m args below meth c s₁ B hml hv
  obtain ⟨rfl, hv⟩ := hv
  have hr := B.returns
  have hlocks := B.notSynchronized
  obtain ⟨x, L⟩ := m_start B rfl wm_X hv
  have hl := lv_entry ([.ref h0, .int p1, .int p2]) (n := 3) (Nat.le_of_ble_eq_true rfl)
  rw [lg_entry_eq]
  generalize (lg_sl ([.ref h0, .int p1, .int p2]) ++ List.replicate (3 - (lg_sl ([.ref h0, .int p1, .int p2])).length) Slot.unset).toArray = ls at hl ⊢
  exact w_line x hml L hnn hX p1 p2 hl (fun pc' ls' r g1 H1 locs1 hdg L hp => m_iret x L hr hlocks (Int.le_refl _) hp hdg)

def rm_direction : Room := { frames := 1, cells := 0, slots := 0, locals := 21 }
theorem hd_direction : yX12_direction.cls = RX12 ∧ yX12_direction.cls ≠ "java/lang/invoke/MethodHandle" ∧ yX12_direction.cls ≠ "java/lang/invoke/VarHandle" ∧ (parseMethodDescriptor yX12_direction.desc).map (fun d => d.parameters.length) = some 2 := by decide +kernel
set_option maxHeartbeats 4000000 in
set_option maxRecDepth 100000 in
theorem w_direction {p : Program} {l : Launch} {e : Env} {s : State} {m : MethodId} {args : Array Value} {below : List Frame} {meth : Method} {c : Code} {H : Heap} {locs : List Loc} {Q : State → Prop} {ls : Array Slot} {G : mG} {h0 : Nat} {ad : Nat → Nat} {g : mSt} {H0 : Heap} {nn X : Int} (x : mX p c cX12_direction s args (wm (Cond.code yX12_direction cX12_direction 3 (some .int))) m G h0 ad) (hml : c.maxLocals = 3) (L : mL G h0 ad H0 nn X g H locs) (hnn : 2 ≤ nn ∧ nn ≤ 4) (hX : 0 ≤ X ∧ X ≤ 2000000000) (p1 : Int32) (p2 : Int32) (hl : lv_has ls 3 [(0, .ref h0), (1, .int p1), (2, .int p2)]) (hQ : ∀ (pc' : Nat) (ls' : Array Slot) (r : Int32) (g1 : mSt) (H1 : Heap) (locs1 : List Loc), decode cX12_direction pc' = .ok (.ireturn, 1) → mL G h0 ad H0 nn X g1 H1 locs1 → (mFr [] g g1 ∧ rg (-2147483648) (2147483647) r ∧ True) → W p l e rm_direction s m args below meth c H1 locs1 0 0 Q (F0 m pc' ls' [.int r])) : W p l e rm_direction s m args below meth c H locs 0 0 Q (F0 m 0 ls []) := by
  have hx := x.1
  have hb := x.2.1
  refine lv_aload_n hx hb dX12_direction_0 rfl (lv_at hl 0 rfl) ?_
  refine lv_iload_n hx hb dX12_direction_1 rfl (lv_at hl 1 rfl) ?_
  refine m_ci (As := [.int p1]) (rest := []) x hml L (c_isDirection l nn X g p1 hnn hX) (wm_V uc_isDirection ul_319 ui_isDirection us_isDirection u_init) rfl ⟨rfl, rfl⟩ hd_isDirection ⟨Nat.le_of_ble_eq_true rfl, Nat.le_of_ble_eq_true rfl⟩ rfl hl.1 rfl (lv_room (Nat.le_of_ble_eq_true rfl)) dX12_direction_2 (fun v2 g1 H1 k1 hp1 L1 => ?_)
  have rv2 : rg (0) (1) v2 := hp1.2.1
  refine lv_if_ne (tgt := 10) hx hb dX12_direction_5 (by decide) (fun c5_3 => ?_) (fun c5_3 => ?_)
  · skip
    have q4 : rg (0) (7) p1 ∧ p1.toInt < 2 * nn := hp1.2.2 c5_3
    have q5 : rg (1) (1) v2 := rg_neL c5_3 rv2 kc_0
    refine lv_iload_n hx hb dX12_direction_10 rfl (lv_at hl 2 rfl) ?_
    rcases (show p2.toInt < 0 ∨ 9 < p2.toInt ∨ p2.toInt = 0 ∨ p2.toInt = 1 ∨ p2.toInt = 2 ∨ p2.toInt = 3 ∨ p2.toInt = 4 ∨ p2.toInt = 5 ∨ p2.toInt = 6 ∨ p2.toInt = 7 ∨ p2.toInt = 8 ∨ p2.toInt = 9 by omega) with c11_6 | c11_6 | c11_6 | c11_6 | c11_6 | c11_6 | c11_6 | c11_6 | c11_6 | c11_6 | c11_6 | c11_6
    · skip
      refine lv_tableOut (tgt := 140) hx hb dX12_direction_11 (Or.inl c11_6) (by decide) ?_
      refine lv_iconst (v := (-1)) hx hb dX12_direction_140 (by decide) ?_
      exact hQ _ _ (-1 : Int32) _ _ _ dX12_direction_141 L1 ⟨(mFr.tr mFr.rf hp1.1 rfl), rg_w kc_m1 rfl, trivial⟩
    · skip
      refine lv_tableOut (tgt := 140) hx hb dX12_direction_11 (Or.inr c11_6) (by decide) ?_
      refine lv_iconst (v := (-1)) hx hb dX12_direction_140 (by decide) ?_
      exact hQ _ _ (-1 : Int32) _ _ _ dX12_direction_141 L1 ⟨(mFr.tr mFr.rf hp1.1 rfl), rg_w kc_m1 rfl, trivial⟩
    · skip
      have q7 : rg (0) (0) p2 := ⟨by omega, by omega⟩
      refine lv_tableIn (off := 53) (tgt := 64) hx hb dX12_direction_11 (by omega) (by omega) (by rw [c11_6]; rfl) (by decide) ?_
      refine lv_aload_n hx hb dX12_direction_64 rfl (lv_at hl 0 rfl) ?_
      refine m_geta x L1 21 rfl rfl (wm_in uf_53) dX12_direction_65 ?_
      refine lv_iload_n hx hb dX12_direction_68 rfl (lv_at hl 1 rfl) ?_
      refine m_ld x L1 21 rfl q4.1 rfl dX12_direction_69 (fun v8 ev8 wv8 => ?_)
      have rv8 : rg (0) (2) v8 := lj_21 wv8
      exact hQ _ _ v8 _ _ _ dX12_direction_70 L1 ⟨(mFr.tr mFr.rf hp1.1 rfl), rg_w rv8 rfl, trivial⟩
    · skip
      have q9 : rg (1) (1) p2 := ⟨by omega, by omega⟩
      refine lv_tableIn (off := 60) (tgt := 71) hx hb dX12_direction_11 (by omega) (by omega) (by rw [c11_6]; rfl) (by decide) ?_
      refine lv_aload_n hx hb dX12_direction_71 rfl (lv_at hl 0 rfl) ?_
      refine m_geta x L1 24 rfl rfl (wm_in uf_62) dX12_direction_72 ?_
      refine lv_iload_n hx hb dX12_direction_75 rfl (lv_at hl 1 rfl) ?_
      refine m_ld x L1 24 rfl q4.1 rfl dX12_direction_76 (fun v10 ev10 wv10 => ?_)
      have rv10 : rg (-2147483648) (2147483647) v10 := lj_24 wv10
      exact hQ _ _ v10 _ _ _ dX12_direction_77 L1 ⟨(mFr.tr mFr.rf hp1.1 rfl), rg_w rv10 rfl, trivial⟩
    · skip
      have q11 : rg (2) (2) p2 := ⟨by omega, by omega⟩
      refine lv_tableIn (off := 67) (tgt := 78) hx hb dX12_direction_11 (by omega) (by omega) (by rw [c11_6]; rfl) (by decide) ?_
      refine lv_aload_n hx hb dX12_direction_78 rfl (lv_at hl 0 rfl) ?_
      refine m_geta x L1 23 rfl rfl (wm_in uf_59) dX12_direction_79 ?_
      refine lv_iload_n hx hb dX12_direction_82 rfl (lv_at hl 1 rfl) ?_
      refine m_ld x L1 23 rfl q4.1 rfl dX12_direction_83 (fun v12 ev12 wv12 => ?_)
      have rv12 : rg (-2147483648) (2147483647) v12 := lj_23 wv12
      exact hQ _ _ v12 _ _ _ dX12_direction_84 L1 ⟨(mFr.tr mFr.rf hp1.1 rfl), rg_w rv12 rfl, trivial⟩
    · skip
      have q13 : rg (3) (3) p2 := ⟨by omega, by omega⟩
      refine lv_tableIn (off := 74) (tgt := 85) hx hb dX12_direction_11 (by omega) (by omega) (by rw [c11_6]; rfl) (by decide) ?_
      refine lv_aload_n hx hb dX12_direction_85 rfl (lv_at hl 0 rfl) ?_
      refine m_geta x L1 27 rfl rfl (wm_in uf_71) dX12_direction_86 ?_
      refine lv_iload_n hx hb dX12_direction_89 rfl (lv_at hl 1 rfl) ?_
      refine m_ld x L1 27 rfl q4.1 rfl dX12_direction_90 (fun v14 ev14 wv14 => ?_)
      have rv14 : rg (-2147483648) (2147483647) v14 := lj_27 wv14
      exact hQ _ _ v14 _ _ _ dX12_direction_91 L1 ⟨(mFr.tr mFr.rf hp1.1 rfl), rg_w rv14 rfl, trivial⟩
    · skip
      have q15 : rg (4) (4) p2 := ⟨by omega, by omega⟩
      refine lv_tableIn (off := 81) (tgt := 92) hx hb dX12_direction_11 (by omega) (by omega) (by rw [c11_6]; rfl) (by decide) ?_
      refine lv_aload_n hx hb dX12_direction_92 rfl (lv_at hl 0 rfl) ?_
      refine m_geta x L1 28 rfl rfl (wm_in uf_74) dX12_direction_93 ?_
      refine lv_iload_n hx hb dX12_direction_96 rfl (lv_at hl 1 rfl) ?_
      refine m_ld x L1 28 rfl q4.1 rfl dX12_direction_97 (fun v16 ev16 wv16 => ?_)
      have rv16 : rg (-2147483648) (2147483647) v16 := lj_28 wv16
      exact hQ _ _ v16 _ _ _ dX12_direction_98 L1 ⟨(mFr.tr mFr.rf hp1.1 rfl), rg_w rv16 rfl, trivial⟩
    · skip
      have q17 : rg (5) (5) p2 := ⟨by omega, by omega⟩
      refine lv_tableIn (off := 88) (tgt := 99) hx hb dX12_direction_11 (by omega) (by omega) (by rw [c11_6]; rfl) (by decide) ?_
      refine lv_aload_n hx hb dX12_direction_99 rfl (lv_at hl 0 rfl) ?_
      refine m_geta x L1 29 rfl rfl (wm_in uf_77) dX12_direction_100 ?_
      refine lv_iload_n hx hb dX12_direction_103 rfl (lv_at hl 1 rfl) ?_
      refine m_ld x L1 29 rfl q4.1 rfl dX12_direction_104 (fun v18 ev18 wv18 => ?_)
      have rv18 : rg (-2147483648) (2147483647) v18 := lj_29 wv18
      exact hQ _ _ v18 _ _ _ dX12_direction_105 L1 ⟨(mFr.tr mFr.rf hp1.1 rfl), rg_w rv18 rfl, trivial⟩
    · skip
      have q19 : rg (6) (6) p2 := ⟨by omega, by omega⟩
      refine lv_tableIn (off := 95) (tgt := 106) hx hb dX12_direction_11 (by omega) (by omega) (by rw [c11_6]; rfl) (by decide) ?_
      refine lv_aload_n hx hb dX12_direction_106 rfl (lv_at hl 0 rfl) ?_
      refine m_geta x L1 30 rfl rfl (wm_in uf_80) dX12_direction_107 ?_
      refine lv_iload_n hx hb dX12_direction_110 rfl (lv_at hl 1 rfl) ?_
      refine m_ld x L1 30 rfl q4.1 rfl dX12_direction_111 (fun v20 ev20 wv20 => ?_)
      have rv20 : rg (-2147483648) (2147483647) v20 := lj_30 wv20
      exact hQ _ _ v20 _ _ _ dX12_direction_112 L1 ⟨(mFr.tr mFr.rf hp1.1 rfl), rg_w rv20 rfl, trivial⟩
    · skip
      have q21 : rg (7) (7) p2 := ⟨by omega, by omega⟩
      refine lv_tableIn (off := 102) (tgt := 113) hx hb dX12_direction_11 (by omega) (by omega) (by rw [c11_6]; rfl) (by decide) ?_
      refine lv_aload_n hx hb dX12_direction_113 rfl (lv_at hl 0 rfl) ?_
      refine m_geta x L1 8 rfl rfl (wm_in uf_23) dX12_direction_114 ?_
      refine lv_iload_n hx hb dX12_direction_117 rfl (lv_at hl 1 rfl) ?_
      refine m_ld x L1 8 rfl q4.1 rfl dX12_direction_118 (fun v22 ev22 wv22 => ?_)
      have rv22 : rg (-2147483648) (2147483647) v22 := lj_8 wv22
      exact hQ _ _ v22 _ _ _ dX12_direction_119 L1 ⟨(mFr.tr mFr.rf hp1.1 rfl), rg_w rv22 rfl, trivial⟩
    · skip
      have q23 : rg (8) (8) p2 := ⟨by omega, by omega⟩
      refine lv_tableIn (off := 109) (tgt := 120) hx hb dX12_direction_11 (by omega) (by omega) (by rw [c11_6]; rfl) (by decide) ?_
      refine lv_aload_n hx hb dX12_direction_120 rfl (lv_at hl 0 rfl) ?_
      refine m_geta x L1 7 rfl rfl (wm_in uf_20) dX12_direction_121 ?_
      refine lv_iconst (v := 2) hx hb dX12_direction_124 (by decide) ?_
      refine lv_iload_n hx hb dX12_direction_125 rfl (lv_at hl 1 rfl) ?_
      refine lv_imul hx hb dX12_direction_126 ?_
      refine lv_topi (fun v24 ev24 => ?_)
      have rv24 : rg (0) (14) v24 := (rg_mulL ev24 kc_2 q4.1 rfl).1
      have tv24 := (rg_mulL ev24 kc_2 q4.1 rfl).2
      have b4v24 : v24.toInt < 4 * nn := by have := q4.2; have : (2 : Int32).toInt = 2 := (by decide); omega
      refine m_ld x L1 7 rfl rv24 rfl dX12_direction_127 (fun v25 ev25 wv25 => ?_)
      have rv25 : rg (0) (40) v25 := lj_7 wv25
      exact hQ _ _ v25 _ _ _ dX12_direction_128 L1 ⟨(mFr.tr mFr.rf hp1.1 rfl), rg_w rv25 rfl, trivial⟩
    · skip
      have q26 : rg (9) (9) p2 := ⟨by omega, by omega⟩
      refine lv_tableIn (off := 118) (tgt := 129) hx hb dX12_direction_11 (by omega) (by omega) (by rw [c11_6]; rfl) (by decide) ?_
      refine lv_aload_n hx hb dX12_direction_129 rfl (lv_at hl 0 rfl) ?_
      refine m_geta x L1 7 rfl rfl (wm_in uf_20) dX12_direction_130 ?_
      refine lv_iconst (v := 2) hx hb dX12_direction_133 (by decide) ?_
      refine lv_iload_n hx hb dX12_direction_134 rfl (lv_at hl 1 rfl) ?_
      refine lv_imul hx hb dX12_direction_135 ?_
      refine lv_topi (fun v27 ev27 => ?_)
      have rv27 : rg (0) (14) v27 := (rg_mulL ev27 kc_2 q4.1 rfl).1
      have tv27 := (rg_mulL ev27 kc_2 q4.1 rfl).2
      have b4v27 : v27.toInt < 4 * nn := by have := q4.2; have : (2 : Int32).toInt = 2 := (by decide); omega
      refine lv_iconst (v := 1) hx hb dX12_direction_136 (by decide) ?_
      refine lv_iadd hx hb dX12_direction_137 ?_
      refine lv_topi (fun v28 ev28 => ?_)
      have rv28 : rg (1) (15) v28 := (rg_add ev28 rv27 kc_1 rfl).1
      have tv28 := (rg_add ev28 rv27 kc_1 rfl).2
      refine m_ld x L1 7 rfl rv28 rfl dX12_direction_138 (fun v29 ev29 wv29 => ?_)
      have rv29 : rg (0) (40) v29 := lj_7 wv29
      exact hQ _ _ v29 _ _ _ dX12_direction_139 L1 ⟨(mFr.tr mFr.rf hp1.1 rfl), rg_w rv29 rfl, trivial⟩
  · skip
    have q30 : rg (0) (0) v2 := (rg_eq c5_3 rv2 kc_0).1
    refine lv_iconst (v := (-1)) hx hb dX12_direction_8 (by decide) ?_
    exact hQ _ _ (-1 : Int32) _ _ _ dX12_direction_9 L1 ⟨(mFr.tr mFr.rf hp1.1 rfl), rg_w kc_m1 rfl, trivial⟩
theorem c_direction (l : Launch) {G : mG} {h0 : Nat} {ad : Nat → Nat} (nn X : Int) (g : mSt) (p1 : Int32) (p2 : Int32) (hnn : 2 ≤ nn ∧ nn ≤ 4) (hX : 0 ≤ X ∧ X ≤ 2000000000) : Met l yX12_direction (wm (Cond.code yX12_direction cX12_direction 3 (some .int))) rm_direction (va_Pc [.ref h0, .int p1, .int p2] (mPre G h0 ad nn X g)) (mQi G h0 ad nn X (fun r g1 => mFr [] g g1 ∧ rg (-2147483648) (2147483647) r ∧ True)) 0 0 (mA h0 ad) := by
  refine Met.ofW (cc := cX12_direction) (maxL := 3) (ret := (some .int)) (by decide) rfl ?_
  intro p e s m args below meth c s₁ B hml hv
  obtain ⟨rfl, hv⟩ := hv
  have hr := B.returns
  have hlocks := B.notSynchronized
  obtain ⟨x, L⟩ := m_start B rfl wm_X hv
  have hl := lv_entry ([.ref h0, .int p1, .int p2]) (n := 3) (Nat.le_of_ble_eq_true rfl)
  rw [lg_entry_eq]
  generalize (lg_sl ([.ref h0, .int p1, .int p2]) ++ List.replicate (3 - (lg_sl ([.ref h0, .int p1, .int p2])).length) Slot.unset).toArray = ls at hl ⊢
  exact w_direction x hml L hnn hX p1 p2 hl (fun pc' ls' r g1 H1 locs1 hdg L hp => m_iret x L hr hlocks (Int.le_refl _) hp hdg)

def rm_hang : Room := { frames := 4, cells := 0, slots := 0, locals := 92 }
theorem hd_hang : yX12_hang.cls = RX12 ∧ yX12_hang.cls ≠ "java/lang/invoke/MethodHandle" ∧ yX12_hang.cls ≠ "java/lang/invoke/VarHandle" ∧ (parseMethodDescriptor yX12_hang.desc).map (fun d => d.parameters.length) = some 2 := by decide +kernel
set_option maxHeartbeats 4000000 in
set_option maxRecDepth 100000 in
theorem w_hang {p : Program} {l : Launch} {e : Env} {s : State} {m : MethodId} {args : Array Value} {below : List Frame} {meth : Method} {c : Code} {H : Heap} {locs : List Loc} {Q : State → Prop} {ls : Array Slot} {G : mG} {h0 : Nat} {ad : Nat → Nat} {g : mSt} {H0 : Heap} {nn X : Int} (x : mX p c cX12_hang s args (wm (Cond.code yX12_hang cX12_hang 4 (some .int))) m G h0 ad) (hml : c.maxLocals = 4) (L : mL G h0 ad H0 nn X g H locs) (hnn : 2 ≤ nn ∧ nn ≤ 4) (hX : 0 ≤ X ∧ X ≤ 2000000000) (hJ : mJ nn [] g) (p1 : Int32) (p2 : Int32) (hl : lv_has ls 4 [(0, .ref h0), (1, .int p1), (2, .int p2)]) (hQ : ∀ (pc' : Nat) (ls' : Array Slot) (r : Int32) (g1 : mSt) (H1 : Heap) (locs1 : List Loc), decode cX12_hang pc' = .ok (.ireturn, 1) → mL G h0 ad H0 nn X g1 H1 locs1 → (mFr [58, 59, 60, 68, 74, 75, 76, 86, 87, 89, 90, 91] g g1 ∧ rg (-1) (1) r ∧ mJ nn [] g1 ∧ True) → W p l e rm_hang s m args below meth c H1 locs1 0 0 Q (F0 m pc' ls' [.int r])) : W p l e rm_hang s m args below meth c H locs 0 0 Q (F0 m 0 ls []) := by
  have hx := x.1
  have hb := x.2.1
  refine lv_aload_n hx hb dX12_hang_0 rfl (lv_at hl 0 rfl) ?_
  refine lv_iload_n hx hb dX12_hang_1 rfl (lv_at hl 1 rfl) ?_
  refine lv_iload_n hx hb dX12_hang_2 rfl (lv_at hl 2 rfl) ?_
  refine m_ci (As := [.int p1, .int p2]) (rest := []) x hml L (c_isCall l nn X g p1 p2 hnn hX) (wm_V uc_isCall ul_559 ui_isCall us_isCall u_init) rfl ⟨rfl, rfl⟩ hd_isCall ⟨Nat.le_of_ble_eq_true rfl, Nat.le_of_ble_eq_true rfl⟩ rfl hl.1 rfl (lv_room (Nat.le_of_ble_eq_true rfl)) dX12_hang_3 (fun v2 g1 H1 k1 hp1 L1 => ?_)
  have rv2 : rg (0) (1) v2 := hp1.2.1
  refine lv_if_ne (tgt := 11) hx hb dX12_hang_6 (by decide) (fun c6_3 => ?_) (fun c6_3 => ?_)
  · skip
    have q4 : rg (0) (3) p1 ∧ p1.toInt < 1 * nn := hp1.2.2.1 c6_3
    have q5 : rg (0) (39) p2 ∧ p2.toInt < 20 * nn := hp1.2.2.2 c6_3
    have q6 : rg (1) (1) v2 := rg_neL c6_3 rv2 kc_0
    refine lv_bipush (v := 40) hx hb dX12_hang_11 (by decide) ?_
    refine lv_iload_n hx hb dX12_hang_13 rfl (lv_at hl 1 rfl) ?_
    refine lv_imul hx hb dX12_hang_14 ?_
    refine lv_topi (fun v7 ev7 => ?_)
    have rv7 : rg (0) (120) v7 := (rg_mulL ev7 kc_40 q4.1 rfl).1
    have tv7 := (rg_mulL ev7 kc_40 q4.1 rfl).2
    have b40v7 : v7.toInt < 40 * nn := by have := q4.2; have : (40 : Int32).toInt = 40 := (by decide); omega
    refine lv_iload_n hx hb dX12_hang_15 rfl (lv_at hl 2 rfl) ?_
    refine lv_iadd hx hb dX12_hang_16 ?_
    refine lv_topi (fun v8 ev8 => ?_)
    have rv8 : rg (0) (159) v8 := (rg_add ev8 rv7 q5.1 rfl).1
    have tv8 := (rg_add ev8 rv7 q5.1 rfl).2
    refine lv_istore_n (lv' := [(3, .int v8), (0, .ref h0), (1, .int p1), (2, .int p2)]) hx hb dX12_hang_17 rfl hl (by decide) rfl (fun ls hl => ?_)
    refine lv_aload_n hx hb dX12_hang_18 rfl (lv_at hl 1 rfl) ?_
    refine m_geta x L1 68 rfl rfl (wm_in uf_192) dX12_hang_19 ?_
    refine lv_iload_n hx hb dX12_hang_22 rfl (lv_at hl 0 rfl) ?_
    refine m_ld x L1 68 rfl rv8 rfl dX12_hang_23 (fun v9 ev9 wv9 => ?_)
    have rv9 : rg (0) (11) v9 := lj_68 wv9
    have j38_10 : ∀ (g10 : mSt) (H10 : Heap) (k10 : List Loc) (ls : Array Slot), mFr [] g1 g10 → mL G h0 ad H0 nn X g10 H10 k10 → mJ nn [] g10 → lv_has ls 4 [(0, .ref h0)] → W p l e rm_hang s m args below meth c H10 k10 0 0 Q (F0 m 38 ls []) := by
      intro  g10 H10 k10 ls hF10 L10 hJ10  hl
      refine lv_iconst (v := 0) hx hb dX12_hang_38 (by decide) ?_
      exact hQ _ _ (0 : Int32) _ _ _ dX12_hang_39 L10 ⟨(mFr.tr (mFr.tr mFr.rf hp1.1 rfl) hF10 rfl), rg_w kc_0 rfl, hJ10, trivial⟩
    refine lv_if_eq (tgt := 38) hx hb dX12_hang_24 (by decide) (fun c24_11 => ?_) (fun c24_11 => ?_)
    · skip
      have q12 : rg (0) (0) v9 := (rg_eq c24_11 rv9 kc_0).1
      exact j38_10  g1 _ _ ls mFr.rf L1 (mJ_fr hJ hp1.1 rfl) (lv_sub hl [1] rfl)
    · skip
      have q13 : rg (1) (11) v9 := rg_neL c24_11 rv9 kc_0
      refine lv_aload_n hx hb dX12_hang_27 rfl (lv_at hl 1 rfl) ?_
      refine m_geta x L1 68 rfl rfl (wm_in uf_192) dX12_hang_28 ?_
      refine lv_iload_n hx hb dX12_hang_31 rfl (lv_at hl 0 rfl) ?_
      refine m_ld x L1 68 rfl rv8 rfl dX12_hang_32 (fun v14 ev14 wv14 => ?_)
      refine m_top ((ev9).trans ev14.symm) ?_
      refine lv_bipush (v := 11) hx hb dX12_hang_33 (by decide) ?_
      refine lv_icmp_ne (tgt := 40) hx hb dX12_hang_35 (by decide) (fun c35_15 => ?_) (fun c35_15 => ?_)
      · skip
        have q16 : rg (1) (10) v9 := rg_neH c35_15 q13 kc_11
        refine lv_aload_n hx hb dX12_hang_40 rfl (lv_at hl 1 rfl) ?_
        refine lv_iload_n hx hb dX12_hang_41 rfl (lv_at hl 0 rfl) ?_
        refine lv_bipush (v := 16) hx hb dX12_hang_42 (by decide) ?_
        refine m_cv (As := [.int v8, .int (16 : Int32)]) (rest := []) x hml L1 (c_release l nn X g1 v8 (16 : Int32) hnn hX (mJ_fr hJ hp1.1 rfl) (rg_w rv8 rfl) (rg_eqv ev9 (rg_w q16 rfl))) (wm_V uc_release ul_492 ui_release us_release u_init) rfl ⟨rfl, rfl⟩ hd_release ⟨Nat.le_of_ble_eq_true rfl, Nat.le_of_ble_eq_true rfl⟩ rfl hl.1 rfl (lv_room (Nat.le_of_ble_eq_true rfl)) dX12_hang_44 (fun  g17 H17 k17 hp17 L17 => ?_)
        refine lv_iconst (v := 1) hx hb dX12_hang_47 (by decide) ?_
        exact hQ _ _ (1 : Int32) _ _ _ dX12_hang_48 L17 ⟨(mFr.tr (mFr.tr mFr.rf hp1.1 rfl) hp17.1 rfl), rg_w kc_1 rfl, hp17.2.1, trivial⟩
      · skip
        have q18 : rg (11) (11) v9 := (rg_eq c35_15 q13 kc_11).1
        exact j38_10  g1 _ _ ls mFr.rf L1 (mJ_fr hJ hp1.1 rfl) (lv_sub hl [1] rfl)
  · skip
    have q19 : rg (0) (0) v2 := (rg_eq c6_3 rv2 kc_0).1
    refine lv_iconst (v := (-1)) hx hb dX12_hang_9 (by decide) ?_
    exact hQ _ _ (-1 : Int32) _ _ _ dX12_hang_10 L1 ⟨(mFr.tr mFr.rf hp1.1 rfl), rg_w kc_m1 rfl, (mJ_fr hJ hp1.1 rfl), trivial⟩
theorem c_hang (l : Launch) {G : mG} {h0 : Nat} {ad : Nat → Nat} (nn X : Int) (g : mSt) (p1 : Int32) (p2 : Int32) (hnn : 2 ≤ nn ∧ nn ≤ 4) (hX : 0 ≤ X ∧ X ≤ 2000000000) (hJ : mJ nn [] g) : Met l yX12_hang (wm (Cond.code yX12_hang cX12_hang 4 (some .int))) rm_hang (va_Pc [.ref h0, .int p1, .int p2] (mPre G h0 ad nn X g)) (mQi G h0 ad nn X (fun r g1 => mFr [58, 59, 60, 68, 74, 75, 76, 86, 87, 89, 90, 91] g g1 ∧ rg (-1) (1) r ∧ mJ nn [] g1 ∧ True)) 0 0 (mA h0 ad) := by
  refine Met.ofW (cc := cX12_hang) (maxL := 4) (ret := (some .int)) (by decide) rfl ?_
  intro p e s m args below meth c s₁ B hml hv
  obtain ⟨rfl, hv⟩ := hv
  have hr := B.returns
  have hlocks := B.notSynchronized
  obtain ⟨x, L⟩ := m_start B rfl wm_X hv
  have hl := lv_entry ([.ref h0, .int p1, .int p2]) (n := 4) (Nat.le_of_ble_eq_true rfl)
  rw [lg_entry_eq]
  generalize (lg_sl ([.ref h0, .int p1, .int p2]) ++ List.replicate (4 - (lg_sl ([.ref h0, .int p1, .int p2])).length) Slot.unset).toArray = ls at hl ⊢
  exact w_hang x hml L hnn hX hJ p1 p2 hl (fun pc' ls' r g1 H1 locs1 hdg L hp => m_iret x L hr hlocks (Int.le_refl _) hp hdg)

def rm_about : Room := { frames := 2, cells := 0, slots := 0, locals := 43 }
theorem hd_about : yX12_about.cls = RX12 ∧ yX12_about.cls ≠ "java/lang/invoke/MethodHandle" ∧ yX12_about.cls ≠ "java/lang/invoke/VarHandle" ∧ (parseMethodDescriptor yX12_about.desc).map (fun d => d.parameters.length) = some 3 := by decide +kernel
set_option maxHeartbeats 4000000 in
set_option maxRecDepth 100000 in
theorem w_about {p : Program} {l : Launch} {e : Env} {s : State} {m : MethodId} {args : Array Value} {below : List Frame} {meth : Method} {c : Code} {H : Heap} {locs : List Loc} {Q : State → Prop} {ls : Array Slot} {G : mG} {h0 : Nat} {ad : Nat → Nat} {g : mSt} {H0 : Heap} {nn X : Int} (x : mX p c cX12_about s args (wm (Cond.code yX12_about cX12_about 5 (some .int))) m G h0 ad) (hml : c.maxLocals = 5) (L : mL G h0 ad H0 nn X g H locs) (hnn : 2 ≤ nn ∧ nn ≤ 4) (hX : 0 ≤ X ∧ X ≤ 2000000000) (p1 : Int32) (p2 : Int32) (p3 : Int32) (hl : lv_has ls 5 [(0, .ref h0), (1, .int p1), (2, .int p2), (3, .int p3)]) (hQ : ∀ (pc' : Nat) (ls' : Array Slot) (r : Int32) (g1 : mSt) (H1 : Heap) (locs1 : List Loc), decode cX12_about pc' = .ok (.ireturn, 1) → mL G h0 ad H0 nn X g1 H1 locs1 → (mFr [] g g1 ∧ rg (-2147483648) (2147483647) r ∧ True) → W p l e rm_about s m args below meth c H1 locs1 0 0 Q (F0 m pc' ls' [.int r])) : W p l e rm_about s m args below meth c H locs 0 0 Q (F0 m 0 ls []) := by
  have hx := x.1
  have hb := x.2.1
  refine lv_aload_n hx hb dX12_about_0 rfl (lv_at hl 0 rfl) ?_
  refine lv_iload_n hx hb dX12_about_1 rfl (lv_at hl 1 rfl) ?_
  refine lv_iload_n hx hb dX12_about_2 rfl (lv_at hl 2 rfl) ?_
  refine m_ci (As := [.int p1, .int p2]) (rest := []) x hml L (c_isCall l nn X g p1 p2 hnn hX) (wm_V uc_isCall ul_559 ui_isCall us_isCall u_init) rfl ⟨rfl, rfl⟩ hd_isCall ⟨Nat.le_of_ble_eq_true rfl, Nat.le_of_ble_eq_true rfl⟩ rfl hl.1 rfl (lv_room (Nat.le_of_ble_eq_true rfl)) dX12_about_3 (fun v2 g1 H1 k1 hp1 L1 => ?_)
  have rv2 : rg (0) (1) v2 := hp1.2.1
  have j19_3 : ∀ (g3 : mSt) (H3 : Heap) (k3 : List Loc) (ls : Array Slot), mFr [] g1 g3 → mL G h0 ad H0 nn X g3 H3 k3 → lv_has ls 5 [(0, .ref h0)] → W p l e rm_about s m args below meth c H3 k3 0 0 Q (F0 m 19 ls []) := by
    intro  g3 H3 k3 ls hF3 L3  hl
    refine lv_iconst (v := (-1)) hx hb dX12_about_19 (by decide) ?_
    exact hQ _ _ (-1 : Int32) _ _ _ dX12_about_20 L3 ⟨(mFr.tr (mFr.tr mFr.rf hp1.1 rfl) hF3 rfl), rg_w kc_m1 rfl, trivial⟩
  refine lv_if_eq (tgt := 19) hx hb dX12_about_6 (by decide) (fun c6_4 => ?_) (fun c6_4 => ?_)
  · skip
    have q5 : rg (0) (0) v2 := (rg_eq c6_4 rv2 kc_0).1
    exact j19_3  g1 _ _ ls mFr.rf L1  (lv_sub hl [0] rfl)
  · skip
    have q6 : rg (0) (3) p1 ∧ p1.toInt < 1 * nn := hp1.2.2.1 c6_4
    have q7 : rg (0) (39) p2 ∧ p2.toInt < 20 * nn := hp1.2.2.2 c6_4
    have q8 : rg (1) (1) v2 := rg_neL c6_4 rv2 kc_0
    refine lv_iload_n hx hb dX12_about_9 rfl (lv_at hl 3 rfl) ?_
    refine lv_if_lt (tgt := 19) hx hb dX12_about_10 (by decide) (fun c10_9 => ?_) (fun c10_9 => ?_)
    · skip
      have q10 : rg (-2147483648) (-1) p3 := (rg_lt c10_9 (rg_any p3) kc_0).1
      exact j19_3  g1 _ _ ls mFr.rf L1  (lv_sub hl [0] rfl)
    · skip
      have q11 : rg (0) (2147483647) p3 := (rg_le (rg_nlt c10_9) kc_0 (rg_any p3)).2
      refine lv_iload_n hx hb dX12_about_13 rfl (lv_at hl 3 rfl) ?_
      refine lv_bipush (v := 6) hx hb dX12_about_14 (by decide) ?_
      refine lv_icmp_le (tgt := 21) hx hb dX12_about_16 (by decide) (fun c16_12 => ?_) (fun c16_12 => ?_)
      · skip
        have q13 : rg (0) (6) p3 := (rg_le c16_12 q11 kc_6).1
        refine lv_bipush (v := 40) hx hb dX12_about_21 (by decide) ?_
        refine lv_iload_n hx hb dX12_about_23 rfl (lv_at hl 1 rfl) ?_
        refine lv_imul hx hb dX12_about_24 ?_
        refine lv_topi (fun v14 ev14 => ?_)
        have rv14 : rg (0) (120) v14 := (rg_mulL ev14 kc_40 q6.1 rfl).1
        have tv14 := (rg_mulL ev14 kc_40 q6.1 rfl).2
        have b40v14 : v14.toInt < 40 * nn := by have := q6.2; have : (40 : Int32).toInt = 40 := (by decide); omega
        refine lv_iload_n hx hb dX12_about_25 rfl (lv_at hl 2 rfl) ?_
        refine lv_iadd hx hb dX12_about_26 ?_
        refine lv_topi (fun v15 ev15 => ?_)
        have rv15 : rg (0) (159) v15 := (rg_add ev15 rv14 q7.1 rfl).1
        have tv15 := (rg_add ev15 rv14 q7.1 rfl).2
        refine lv_istore (lv' := [(4, .int v15), (0, .ref h0), (1, .int p1), (2, .int p2), (3, .int p3)]) hx hb dX12_about_27 hl (by decide) rfl (fun ls hl => ?_)
        refine lv_iload_n hx hb dX12_about_29 rfl (lv_at hl 4 rfl) ?_
        rcases (show p3.toInt < 0 ∨ 5 < p3.toInt ∨ p3.toInt = 0 ∨ p3.toInt = 1 ∨ p3.toInt = 2 ∨ p3.toInt = 3 ∨ p3.toInt = 4 ∨ p3.toInt = 5 by omega) with c30_16 | c30_16 | c30_16 | c30_16 | c30_16 | c30_16 | c30_16 | c30_16
        · skip
          refine lv_tableOut (tgt := 150) hx hb dX12_about_30 (Or.inl c30_16) (by decide) ?_
          refine lv_aload_n hx hb dX12_about_150 rfl (lv_at hl 1 rfl) ?_
          refine m_geta x L1 86 rfl rfl (wm_in uf_244) dX12_about_151 ?_
          refine lv_iload hx hb dX12_about_154 (lv_at hl 0 rfl) ?_
          refine m_ld x L1 86 rfl rv15 rfl dX12_about_156 (fun v17 ev17 wv17 => ?_)
          have rv17 : rg (0) (4) v17 := lj_86 wv17
          exact hQ _ _ v17 _ _ _ dX12_about_157 L1 ⟨(mFr.tr mFr.rf hp1.1 rfl), rg_w rv17 rfl, trivial⟩
        · skip
          refine lv_tableOut (tgt := 150) hx hb dX12_about_30 (Or.inr c30_16) (by decide) ?_
          refine lv_aload_n hx hb dX12_about_150 rfl (lv_at hl 1 rfl) ?_
          refine m_geta x L1 86 rfl rfl (wm_in uf_244) dX12_about_151 ?_
          refine lv_iload hx hb dX12_about_154 (lv_at hl 0 rfl) ?_
          refine m_ld x L1 86 rfl rv15 rfl dX12_about_156 (fun v18 ev18 wv18 => ?_)
          have rv18 : rg (0) (4) v18 := lj_86 wv18
          exact hQ _ _ v18 _ _ _ dX12_about_157 L1 ⟨(mFr.tr mFr.rf hp1.1 rfl), rg_w rv18 rfl, trivial⟩
        · skip
          have q19 : rg (0) (0) p3 := ⟨by omega, by omega⟩
          refine lv_tableIn (off := 38) (tgt := 68) hx hb dX12_about_30 (by omega) (by omega) (by rw [c30_16]; rfl) (by decide) ?_
          refine lv_aload_n hx hb dX12_about_68 rfl (lv_at hl 1 rfl) ?_
          refine m_geta x L1 68 rfl rfl (wm_in uf_192) dX12_about_69 ?_
          refine lv_iload hx hb dX12_about_72 (lv_at hl 0 rfl) ?_
          refine m_ld x L1 68 rfl rv15 rfl dX12_about_74 (fun v20 ev20 wv20 => ?_)
          have rv20 : rg (0) (11) v20 := lj_68 wv20
          exact hQ _ _ v20 _ _ _ dX12_about_75 L1 ⟨(mFr.tr mFr.rf hp1.1 rfl), rg_w rv20 rfl, trivial⟩
        · skip
          have q21 : rg (1) (1) p3 := ⟨by omega, by omega⟩
          refine lv_tableIn (off := 46) (tgt := 76) hx hb dX12_about_30 (by omega) (by omega) (by rw [c30_16]; rfl) (by decide) ?_
          refine lv_aload_n hx hb dX12_about_76 rfl (lv_at hl 1 rfl) ?_
          refine m_geta x L1 69 rfl rfl (wm_in uf_195) dX12_about_77 ?_
          refine lv_iload hx hb dX12_about_80 (lv_at hl 0 rfl) ?_
          refine m_ld x L1 69 rfl rv15 rfl dX12_about_82 (fun v22 ev22 wv22 => ?_)
          have rv22 : rg (-2147483648) (2147483647) v22 := lj_69 wv22
          refine lv_aload_n hx hb dX12_about_83 rfl (lv_at hl 1 rfl) ?_
          refine m_geta x L1 70 rfl rfl (wm_in uf_198) dX12_about_84 ?_
          refine lv_iload hx hb dX12_about_87 (lv_at hl 0 rfl) ?_
          refine m_ldz x L1 70 rfl rv15 rfl dX12_about_89 (fun v23 ev23 wv23 => ?_)
          have rv23 : rg (0) (1) v23 := lj_70 wv23
          have j100_25 : ∀ (b100_1_24 : Int32) (g25 : mSt) (H25 : Heap) (k25 : List Loc) (ls : Array Slot), mFr [] g1 g25 → mL G h0 ad H0 nn X g25 H25 k25 → rg (0) (1000) b100_1_24 → lv_has ls 5 [(0, .ref h0)] → W p l e rm_about s m args below meth c H25 k25 0 0 Q (F0 m 100 ls [.int b100_1_24, .int v22]) := by
            intro b100_1_24 g25 H25 k25 ls hF25 L25 rb100_1_24 hl
            refine lv_iadd hx hb dX12_about_100 ?_
            refine lv_topi (fun v26 ev26 => ?_)
            have rv26 : rg (-2147483648) (2147483647) v26 := rg_any v26
            exact hQ _ _ v26 _ _ _ dX12_about_101 L25 ⟨(mFr.tr (mFr.tr mFr.rf hp1.1 rfl) hF25 rfl), rg_w rv26 rfl, trivial⟩
          refine lv_if_eq (tgt := 97) hx hb dX12_about_90 (by decide) (fun c90_27 => ?_) (fun c90_27 => ?_)
          · skip
            have q28 : rg (0) (0) v23 := (rg_eq c90_27 rv23 kc_0).1
            refine lv_sipush (v := 1000) hx hb dX12_about_97 (by decide) ?_
            exact j100_25 (1000 : Int32) g1 _ _ ls mFr.rf L1 (rg_w kc_1000 rfl) (lv_sub hl [1] rfl)
          · skip
            have q29 : rg (1) (1) v23 := rg_neL c90_27 rv23 kc_0
            refine lv_iconst (v := 0) hx hb dX12_about_93 (by decide) ?_
            refine lv_goto (tgt := 100) hx hb dX12_about_94 (by decide) ?_
            exact j100_25 (0 : Int32) g1 _ _ ls mFr.rf L1 (rg_w kc_0 rfl) (lv_sub hl [1] rfl)
        · skip
          have q30 : rg (2) (2) p3 := ⟨by omega, by omega⟩
          refine lv_tableIn (off := 72) (tgt := 102) hx hb dX12_about_30 (by omega) (by omega) (by rw [c30_16]; rfl) (by decide) ?_
          refine lv_aload_n hx hb dX12_about_102 rfl (lv_at hl 1 rfl) ?_
          refine m_geta x L1 71 rfl rfl (wm_in uf_201) dX12_about_103 ?_
          refine lv_iload hx hb dX12_about_106 (lv_at hl 0 rfl) ?_
          refine m_ld x L1 71 rfl rv15 rfl dX12_about_108 (fun v31 ev31 wv31 => ?_)
          have rv31 : rg (-2147483648) (2147483647) v31 := lj_71 wv31
          exact hQ _ _ v31 _ _ _ dX12_about_109 L1 ⟨(mFr.tr mFr.rf hp1.1 rfl), rg_w rv31 rfl, trivial⟩
        · skip
          have q32 : rg (3) (3) p3 := ⟨by omega, by omega⟩
          refine lv_tableIn (off := 80) (tgt := 110) hx hb dX12_about_30 (by omega) (by omega) (by rw [c30_16]; rfl) (by decide) ?_
          refine lv_aload_n hx hb dX12_about_110 rfl (lv_at hl 1 rfl) ?_
          refine m_geta x L1 72 rfl rfl (wm_in uf_204) dX12_about_111 ?_
          refine lv_iload hx hb dX12_about_114 (lv_at hl 0 rfl) ?_
          refine m_ld x L1 72 rfl rv15 rfl dX12_about_116 (fun v33 ev33 wv33 => ?_)
          have rv33 : rg (-2147483648) (2147483647) v33 := lj_72 wv33
          exact hQ _ _ v33 _ _ _ dX12_about_117 L1 ⟨(mFr.tr mFr.rf hp1.1 rfl), rg_w rv33 rfl, trivial⟩
        · skip
          have q34 : rg (4) (4) p3 := ⟨by omega, by omega⟩
          refine lv_tableIn (off := 88) (tgt := 118) hx hb dX12_about_30 (by omega) (by omega) (by rw [c30_16]; rfl) (by decide) ?_
          refine lv_aload_n hx hb dX12_about_118 rfl (lv_at hl 1 rfl) ?_
          refine m_geta x L1 73 rfl rfl (wm_in uf_207) dX12_about_119 ?_
          refine lv_iload hx hb dX12_about_122 (lv_at hl 0 rfl) ?_
          refine m_ld x L1 73 rfl rv15 rfl dX12_about_124 (fun v35 ev35 wv35 => ?_)
          have rv35 : rg (-2147483648) (2147483647) v35 := lj_73 wv35
          exact hQ _ _ v35 _ _ _ dX12_about_125 L1 ⟨(mFr.tr mFr.rf hp1.1 rfl), rg_w rv35 rfl, trivial⟩
        · skip
          have q36 : rg (5) (5) p3 := ⟨by omega, by omega⟩
          refine lv_tableIn (off := 96) (tgt := 126) hx hb dX12_about_30 (by omega) (by omega) (by rw [c30_16]; rfl) (by decide) ?_
          refine lv_aload_n hx hb dX12_about_126 rfl (lv_at hl 1 rfl) ?_
          refine m_geta x L1 68 rfl rfl (wm_in uf_192) dX12_about_127 ?_
          refine lv_iload hx hb dX12_about_130 (lv_at hl 0 rfl) ?_
          refine m_ld x L1 68 rfl rv15 rfl dX12_about_132 (fun v37 ev37 wv37 => ?_)
          have rv37 : rg (0) (11) v37 := lj_68 wv37
          refine lv_bipush (v := 6) hx hb dX12_about_133 (by decide) ?_
          have j149_39 : ∀ (b149_0_38 : Int32) (g39 : mSt) (H39 : Heap) (k39 : List Loc) (ls : Array Slot), mFr [] g1 g39 → mL G h0 ad H0 nn X g39 H39 k39 → rg (-2147483648) (2147483647) b149_0_38 → lv_has ls 5 [(0, .ref h0)] → W p l e rm_about s m args below meth c H39 k39 0 0 Q (F0 m 149 ls [.int b149_0_38]) := by
            intro b149_0_38 g39 H39 k39 ls hF39 L39 rb149_0_38 hl
            exact hQ _ _ b149_0_38 _ _ _ dX12_about_149 L39 ⟨(mFr.tr (mFr.tr mFr.rf hp1.1 rfl) hF39 rfl), rg_w rb149_0_38 rfl, trivial⟩
          refine lv_icmp_ne (tgt := 142) hx hb dX12_about_135 (by decide) (fun c135_40 => ?_) (fun c135_40 => ?_)
          · skip
            refine lv_aload_n hx hb dX12_about_142 rfl (lv_at hl 1 rfl) ?_
            refine m_geta x L1 74 rfl rfl (wm_in uf_210) dX12_about_143 ?_
            refine lv_iload hx hb dX12_about_146 (lv_at hl 0 rfl) ?_
            refine m_ld x L1 74 rfl rv15 rfl dX12_about_148 (fun v41 ev41 wv41 => ?_)
            have rv41 : rg (-2147483648) (2147483647) v41 := lj_74 wv41
            exact j149_39 v41 g1 _ _ ls mFr.rf L1 (rg_w rv41 rfl) (lv_sub hl [1] rfl)
          · skip
            have q42 : rg (6) (6) v37 := (rg_eq c135_40 rv37 kc_6).1
            refine lv_iconst (v := 0) hx hb dX12_about_138 (by decide) ?_
            refine lv_goto (tgt := 149) hx hb dX12_about_139 (by decide) ?_
            exact j149_39 (0 : Int32) g1 _ _ ls mFr.rf L1 (rg_w kc_0 rfl) (lv_sub hl [1] rfl)
      · skip
        have q43 : rg (7) (2147483647) p3 := (rg_lt (rg_nle c16_12) kc_6 q11).2
        exact j19_3  g1 _ _ ls mFr.rf L1  (lv_sub hl [0] rfl)
theorem c_about (l : Launch) {G : mG} {h0 : Nat} {ad : Nat → Nat} (nn X : Int) (g : mSt) (p1 : Int32) (p2 : Int32) (p3 : Int32) (hnn : 2 ≤ nn ∧ nn ≤ 4) (hX : 0 ≤ X ∧ X ≤ 2000000000) : Met l yX12_about (wm (Cond.code yX12_about cX12_about 5 (some .int))) rm_about (va_Pc [.ref h0, .int p1, .int p2, .int p3] (mPre G h0 ad nn X g)) (mQi G h0 ad nn X (fun r g1 => mFr [] g g1 ∧ rg (-2147483648) (2147483647) r ∧ True)) 0 0 (mA h0 ad) := by
  refine Met.ofW (cc := cX12_about) (maxL := 5) (ret := (some .int)) (by decide) rfl ?_
  intro p e s m args below meth c s₁ B hml hv
  obtain ⟨rfl, hv⟩ := hv
  have hr := B.returns
  have hlocks := B.notSynchronized
  obtain ⟨x, L⟩ := m_start B rfl wm_X hv
  have hl := lv_entry ([.ref h0, .int p1, .int p2, .int p3]) (n := 5) (Nat.le_of_ble_eq_true rfl)
  rw [lg_entry_eq]
  generalize (lg_sl ([.ref h0, .int p1, .int p2, .int p3]) ++ List.replicate (5 - (lg_sl ([.ref h0, .int p1, .int p2, .int p3])).length) Slot.unset).toArray = ls at hl ⊢
  exact w_about x hml L hnn hX p1 p2 p3 hl (fun pc' ls' r g1 H1 locs1 hdg L hp => m_iret x L hr hlocks (Int.le_refl _) hp hdg)

def rm_link : Room := { frames := 1, cells := 0, slots := 0, locals := 23 }
theorem hd_link : yX12_link.cls = RX12 ∧ yX12_link.cls ≠ "java/lang/invoke/MethodHandle" ∧ yX12_link.cls ≠ "java/lang/invoke/VarHandle" ∧ (parseMethodDescriptor yX12_link.desc).map (fun d => d.parameters.length) = some 3 := by decide +kernel
set_option maxHeartbeats 4000000 in
set_option maxRecDepth 100000 in
theorem w_link {p : Program} {l : Launch} {e : Env} {s : State} {m : MethodId} {args : Array Value} {below : List Frame} {meth : Method} {c : Code} {H : Heap} {locs : List Loc} {Q : State → Prop} {ls : Array Slot} {G : mG} {h0 : Nat} {ad : Nat → Nat} {g : mSt} {H0 : Heap} {nn X : Int} (x : mX p c cX12_link s args (wm (Cond.code yX12_link cX12_link 9 (some .int))) m G h0 ad) (hml : c.maxLocals = 9) (L : mL G h0 ad H0 nn X g H locs) (hnn : 2 ≤ nn ∧ nn ≤ 4) (hX : 0 ≤ X ∧ X ≤ 2000000000) (p1 : Int32) (p2 : Int32) (p3 : Int32) (hl : lv_has ls 9 [(0, .ref h0), (1, .int p1), (2, .int p2), (3, .int p3)]) (hQ : ∀ (pc' : Nat) (ls' : Array Slot) (r : Int32) (g1 : mSt) (H1 : Heap) (locs1 : List Loc), decode cX12_link pc' = .ok (.ireturn, 1) → mL G h0 ad H0 nn X g1 H1 locs1 → (mFr [] g g1 ∧ rg (-2147483648) (2147483647) r ∧ True) → W p l e rm_link s m args below meth c H1 locs1 0 0 Q (F0 m pc' ls' [.int r])) : W p l e rm_link s m args below meth c H locs 0 0 Q (F0 m 0 ls []) := by
  have hx := x.1
  have hb := x.2.1
  refine lv_aload_n hx hb dX12_link_0 rfl (lv_at hl 0 rfl) ?_
  refine lv_iload_n hx hb dX12_link_1 rfl (lv_at hl 1 rfl) ?_
  refine m_ci (As := [.int p1]) (rest := []) x hml L (c_isEnd l nn X g p1 hnn hX) (wm_V uc_isEnd ul_381 ui_isEnd us_isEnd u_init) rfl ⟨rfl, rfl⟩ hd_isEnd ⟨Nat.le_of_ble_eq_true rfl, Nat.le_of_ble_eq_true rfl⟩ rfl hl.1 rfl (lv_room (Nat.le_of_ble_eq_true rfl)) dX12_link_2 (fun v2 g1 H1 k1 hp1 L1 => ?_)
  have rv2 : rg (0) (1) v2 := hp1.2.1
  have j17_3 : ∀ (g3 : mSt) (H3 : Heap) (k3 : List Loc) (ls : Array Slot), mFr [] g1 g3 → mL G h0 ad H0 nn X g3 H3 k3 → lv_has ls 9 [(0, .ref h0)] → W p l e rm_link s m args below meth c H3 k3 0 0 Q (F0 m 17 ls []) := by
    intro  g3 H3 k3 ls hF3 L3  hl
    refine lv_iconst (v := (-1)) hx hb dX12_link_17 (by decide) ?_
    exact hQ _ _ (-1 : Int32) _ _ _ dX12_link_18 L3 ⟨(mFr.tr (mFr.tr mFr.rf hp1.1 rfl) hF3 rfl), rg_w kc_m1 rfl, trivial⟩
  refine lv_if_eq (tgt := 17) hx hb dX12_link_5 (by decide) (fun c5_4 => ?_) (fun c5_4 => ?_)
  · skip
    have q5 : rg (0) (0) v2 := (rg_eq c5_4 rv2 kc_0).1
    exact j17_3  g1 _ _ ls mFr.rf L1  (lv_sub hl [0] rfl)
  · skip
    have q6 : rg (0) (3) p1 ∧ p1.toInt < 1 * nn := hp1.2.2.1 c5_4
    have q7 : rg (1) (1) v2 := rg_neL c5_4 rv2 kc_0
    refine lv_iload_n hx hb dX12_link_8 rfl (lv_at hl 2 rfl) ?_
    refine lv_if_lt (tgt := 17) hx hb dX12_link_9 (by decide) (fun c9_8 => ?_) (fun c9_8 => ?_)
    · skip
      have q9 : rg (-2147483648) (-1) p2 := (rg_lt c9_8 (rg_any p2) kc_0).1
      exact j17_3  g1 _ _ ls mFr.rf L1  (lv_sub hl [0] rfl)
    · skip
      have q10 : rg (0) (2147483647) p2 := (rg_le (rg_nlt c9_8) kc_0 (rg_any p2)).2
      refine lv_iload_n hx hb dX12_link_12 rfl (lv_at hl 2 rfl) ?_
      refine lv_iconst (v := 3) hx hb dX12_link_13 (by decide) ?_
      refine lv_icmp_le (tgt := 19) hx hb dX12_link_14 (by decide) (fun c14_11 => ?_) (fun c14_11 => ?_)
      · skip
        have q12 : rg (0) (3) p2 := (rg_le c14_11 q10 kc_3).1
        refine lv_aload_n hx hb dX12_link_19 rfl (lv_at hl 0 rfl) ?_
        refine m_geti x L1 0 rfl rfl (wm_in uf_260) dX12_link_20 (fun v13 ev13 wv13 => ?_)
        have rv13 : rg 2 4 v13 := rg_nn hnn wv13
        have tv13 : v13.toInt = nn := rg_n0 wv13
        have lv13 : v13.toInt = 1 * nn + 0 := by omega
        refine lv_iload_n hx hb dX12_link_23 rfl (lv_at hl 1 rfl) ?_
        refine lv_iadd hx hb dX12_link_24 ?_
        refine lv_topi (fun v14 ev14 => ?_)
        have rv14 : rg (2) (7) v14 := (rg_add ev14 rv13 q6.1 rfl).1
        have tv14 := (rg_add ev14 rv13 q6.1 rfl).2
        have b2v14 : v14.toInt < 2 * nn := by have := lv13; have := q6.2; omega
        refine lv_istore (lv' := [(4, .int v14), (0, .ref h0), (1, .int p1), (2, .int p2), (3, .int p3)]) hx hb dX12_link_25 hl (by decide) rfl (fun ls hl => ?_)
        refine lv_iload_n hx hb dX12_link_27 rfl (lv_at hl 3 rfl) ?_
        refine lv_iconst (v := 2) hx hb dX12_link_28 (by decide) ?_
        refine lv_icmp_ge (tgt := 52) hx hb dX12_link_29 (by decide) (fun c29_15 => ?_) (fun c29_15 => ?_)
        · skip
          have q16 : rg (2) (3) p2 := (rg_le c29_15 kc_2 q12).2
          refine lv_iconst (v := 0) hx hb dX12_link_52 (by decide) ?_
          refine lv_istore (lv' := [(5, .int (0 : Int32)), (4, .int v14), (0, .ref h0), (1, .int p1), (2, .int p2), (3, .int p3)]) hx hb dX12_link_53 hl (by decide) rfl (fun ls hl => ?_)
          refine lv_bipush (v := (-2)) hx hb dX12_link_55 (by decide) ?_
          refine lv_istore (lv' := [(6, .int (-2 : Int32)), (5, .int (0 : Int32)), (4, .int v14), (0, .ref h0), (1, .int p1), (2, .int p2), (3, .int p3)]) hx hb dX12_link_57 hl (by decide) rfl (fun ls hl => ?_)
          refine lv_bipush (v := 40) hx hb dX12_link_59 (by decide) ?_
          refine lv_iload hx hb dX12_link_61 (lv_at hl 2 rfl) ?_
          refine lv_imul hx hb dX12_link_63 ?_
          refine lv_topi (fun v17 ev17 => ?_)
          have rv17 : rg (80) (280) v17 := (rg_mulL ev17 kc_40 rv14 rfl).1
          have tv17 := (rg_mulL ev17 kc_40 rv14 rfl).2
          have b80v17 : v17.toInt < 80 * nn := by have := b2v14; have : (40 : Int32).toInt = 40 := (by decide); omega
          refine lv_istore (lv' := [(7, .int v17), (6, .int (-2 : Int32)), (5, .int (0 : Int32)), (4, .int v14), (0, .ref h0), (1, .int p1), (2, .int p2), (3, .int p3)]) hx hb dX12_link_64 hl (by decide) rfl (fun ls hl => ?_)
          have j66_21 : ∀ (n : Nat) (a66_5_18 a66_6_19 a66_7_20 : Int32) (g21 : mSt) (H21 : Heap) (k21 : List Loc) (ls : Array Slot), mFr [] g1 g21 → mL G h0 ad H0 nn X g21 H21 k21 → rg (-2147483648) (2147483647) a66_5_18 → rg (-2147483648) (2147483647) a66_6_19 → rg (80) (320) a66_7_20 → lv_has ls 9 [(0, .ref h0), (2, .int p2), (3, .int p3), (4, .int v14), (5, .int a66_5_18), (6, .int a66_6_19), (7, .int a66_7_20)] → ((320 : Int) - a66_7_20.toInt).toNat = n → W p l e rm_link s m args below meth c H21 k21 0 0 Q (F0 m 66 ls []) := by
            intro n
            induction n using Nat.strongRecOn with
            | _ n ih21 =>
              intro a66_5_18 a66_6_19 a66_7_20 g21 H21 k21 ls hF21 L21 ra66_5_18 ra66_6_19 ra66_7_20 hl hn21
              subst hn21
              refine lv_iload hx hb dX12_link_66 (lv_at hl 6 rfl) ?_
              refine lv_bipush (v := 40) hx hb dX12_link_68 (by decide) ?_
              refine lv_iload hx hb dX12_link_70 (lv_at hl 3 rfl) ?_
              refine lv_imul hx hb dX12_link_72 ?_
              refine m_top ev17 ?_
              refine lv_bipush (v := 40) hx hb dX12_link_73 (by decide) ?_
              refine lv_iadd hx hb dX12_link_75 ?_
              refine lv_topi (fun v22 ev22 => ?_)
              have rv22 : rg (120) (320) v22 := (rg_add ev22 rv17 kc_40 rfl).1
              have tv22 := (rg_add ev22 rv17 kc_40 rfl).2
              refine lv_icmp_ge (tgt := 158) hx hb dX12_link_76 (by decide) (fun c76_23 => ?_) (fun c76_23 => ?_)
              · skip
                have q24 : rg (120) (320) a66_7_20 := (rg_le c76_23 rv22 ra66_7_20).2
                refine lv_iload_n hx hb dX12_link_158 rfl (lv_at hl 1 rfl) ?_
                refine lv_iconst (v := 2) hx hb dX12_link_159 (by decide) ?_
                have j170_26 : ∀ (b170_0_25 : Int32) (g26 : mSt) (H26 : Heap) (k26 : List Loc) (ls : Array Slot), mFr [] g21 g26 → mL G h0 ad H0 nn X g26 H26 k26 → rg (-2147483648) (2147483647) b170_0_25 → lv_has ls 9 [(0, .ref h0)] → W p l e rm_link s m args below meth c H26 k26 0 0 Q (F0 m 170 ls [.int b170_0_25]) := by
                  intro b170_0_25 g26 H26 k26 ls hF26 L26 rb170_0_25 hl
                  exact hQ _ _ b170_0_25 _ _ _ dX12_link_170 L26 ⟨(mFr.tr (mFr.tr (mFr.tr mFr.rf hp1.1 rfl) hF21 rfl) hF26 rfl), rg_w rb170_0_25 rfl, trivial⟩
                refine lv_icmp_ne (tgt := 168) hx hb dX12_link_160 (by decide) (fun c160_27 => ?_) (fun c160_27 => ?_)
                · skip
                  have q28 : rg (3) (3) p2 := rg_neL c160_27 q16 kc_2
                  refine lv_iload hx hb dX12_link_168 (lv_at hl 5 rfl) ?_
                  exact j170_26 a66_6_19 g21 _ _ ls mFr.rf L21 (rg_w ra66_6_19 rfl) (lv_sub hl [0] rfl)
                · skip
                  have q29 : rg (2) (2) p2 := (rg_eq c160_27 q16 kc_2).1
                  refine lv_iload hx hb dX12_link_163 (lv_at hl 4 rfl) ?_
                  refine lv_goto (tgt := 170) hx hb dX12_link_165 (by decide) ?_
                  exact j170_26 a66_5_18 g21 _ _ ls mFr.rf L21 (rg_w ra66_5_18 rfl) (lv_sub hl [0] rfl)
              · skip
                have q30 : rg (80) (319) a66_7_20 := (rg_lt (rg_nle c76_23) ra66_7_20 rv22).1
                refine lv_aload_n hx hb dX12_link_79 rfl (lv_at hl 0 rfl) ?_
                refine m_geta x L21 68 rfl rfl (wm_in uf_192) dX12_link_80 ?_
                refine lv_iload hx hb dX12_link_83 (lv_at hl 6 rfl) ?_
                refine m_ld x L21 68 rfl q30 rfl dX12_link_85 (fun v31 ev31 wv31 => ?_)
                have rv31 : rg (0) (11) v31 := lj_68 wv31
                refine lv_bipush (v := 10) hx hb dX12_link_86 (by decide) ?_
                have j102_33 : ∀ (b102_0_32 : Int32) (g33 : mSt) (H33 : Heap) (k33 : List Loc) (ls : Array Slot), mFr [] g21 g33 → mL G h0 ad H0 nn X g33 H33 k33 → rg (-2) (319) b102_0_32 → lv_has ls 9 [(0, .ref h0), (2, .int p2), (3, .int p3), (4, .int v14), (5, .int a66_5_18), (6, .int a66_6_19), (7, .int a66_7_20)] → W p l e rm_link s m args below meth c H33 k33 0 0 Q (F0 m 102 ls [.int b102_0_32]) := by
                  intro b102_0_32 g33 H33 k33 ls hF33 L33 rb102_0_32 hl
                  refine lv_istore (lv' := [(8, .int b102_0_32), (0, .ref h0), (2, .int p2), (3, .int p3), (4, .int v14), (5, .int a66_5_18), (6, .int a66_6_19), (7, .int a66_7_20)]) hx hb dX12_link_102 hl (by decide) rfl (fun ls hl => ?_)
                  refine lv_iload hx hb dX12_link_104 (lv_at hl 0 rfl) ?_
                  have j152_36 : ∀ (a152_5_34 a152_6_35 : Int32) (g36 : mSt) (H36 : Heap) (k36 : List Loc) (ls : Array Slot), mFr [] g33 g36 → mL G h0 ad H0 nn X g36 H36 k36 → rg (-2147483648) (2147483647) a152_5_34 → rg (-2147483648) (2147483647) a152_6_35 → lv_has ls 9 [(0, .ref h0), (2, .int p2), (3, .int p3), (4, .int v14), (5, .int a152_5_34), (6, .int a152_6_35), (7, .int a66_7_20)] → W p l e rm_link s m args below meth c H36 k36 0 0 Q (F0 m 152 ls []) := by
                    intro a152_5_34 a152_6_35 g36 H36 k36 ls hF36 L36 ra152_5_34 ra152_6_35 hl
                    obtain ⟨v37, ev37, fv37⟩ := inc_ex a66_7_20 (1) (1 : Int32) (by decide)
                    have rv37 : rg (81) (320) v37 := (rg_add ev37 q30 kc_1 rfl).1
                    have tv37 := (rg_add ev37 q30 kc_1 rfl).2
                    refine lv_iinc (v := v37) (lv' := [(7, .int v37), (0, .ref h0), (2, .int p2), (3, .int p3), (4, .int v14), (5, .int a152_5_34), (6, .int a152_6_35)]) hx hb dX12_link_152 hl (k := 6) rfl fv37 (by decide) rfl (fun ls hl => ?_)
                    refine lv_goto (tgt := 66) hx hb dX12_link_155 (by decide) ?_
                    exact ih21 _ (ms_up tv37 kc_1 q30 rfl rfl) a152_5_34 a152_6_35 v37 g36 _ _ ls (mFr.tr (mFr.tr hF21 hF33 rfl) hF36 rfl) L36 (rg_w ra152_5_34 rfl) (rg_w ra152_6_35 rfl) (rg_w rv37 rfl) (lv_sub hl [1, 2, 3, 4, 5, 6, 0] rfl) rfl
                  refine lv_if_lt (tgt := 152) hx hb dX12_link_106 (by decide) (fun c106_38 => ?_) (fun c106_38 => ?_)
                  · skip
                    have q39 : rg (-2) (-1) b102_0_32 := (rg_lt c106_38 rb102_0_32 kc_0).1
                    exact j152_36 a66_5_18 a66_6_19 g33 _ _ ls mFr.rf L33 (rg_w ra66_5_18 rfl) (rg_w ra66_6_19 rfl) (lv_sub hl [1, 2, 3, 4, 5, 6, 7] rfl)
                  · skip
                    have q40 : rg (0) (319) b102_0_32 := (rg_le (rg_nlt c106_38) kc_0 rb102_0_32).2
                    obtain ⟨v41, ev41, fv41⟩ := inc_ex a66_5_18 (1) (1 : Int32) (by decide)
                    have rv41 := rg_any v41
                    refine lv_iinc (v := v41) (lv' := [(5, .int v41), (8, .int b102_0_32), (0, .ref h0), (2, .int p2), (3, .int p3), (4, .int v14), (6, .int a66_6_19), (7, .int a66_7_20)]) hx hb dX12_link_109 hl (k := 5) rfl fv41 (by decide) rfl (fun ls hl => ?_)
                    refine lv_aload_n hx hb dX12_link_112 rfl (lv_at hl 2 rfl) ?_
                    refine m_geta x L33 71 rfl rfl (wm_in uf_201) dX12_link_113 ?_
                    refine lv_iload hx hb dX12_link_116 (lv_at hl 7 rfl) ?_
                    refine m_ld x L33 71 rfl q30 rfl dX12_link_118 (fun v42 ev42 wv42 => ?_)
                    have rv42 : rg (-2147483648) (2147483647) v42 := lj_71 wv42
                    refine lv_iload_n hx hb dX12_link_119 rfl (lv_at hl 4 rfl) ?_
                    have j150_44 : ∀ (b150_0_43 : Int32) (g44 : mSt) (H44 : Heap) (k44 : List Loc) (ls : Array Slot), mFr [] g33 g44 → mL G h0 ad H0 nn X g44 H44 k44 → rg (-2147483648) (2147483647) b150_0_43 → lv_has ls 9 [(0, .ref h0), (2, .int p2), (3, .int p3), (4, .int v14), (5, .int v41), (7, .int a66_7_20)] → W p l e rm_link s m args below meth c H44 k44 0 0 Q (F0 m 150 ls [.int b150_0_43]) := by
                      intro b150_0_43 g44 H44 k44 ls hF44 L44 rb150_0_43 hl
                      refine lv_istore (lv' := [(6, .int b150_0_43), (0, .ref h0), (2, .int p2), (3, .int p3), (4, .int v14), (5, .int v41), (7, .int a66_7_20)]) hx hb dX12_link_150 hl (by decide) rfl (fun ls hl => ?_)
                      exact j152_36 v41 b150_0_43 g44 _ _ ls (mFr.tr mFr.rf hF44 rfl) L44 (rg_w rv41 rfl) (rg_w rb150_0_43 rfl) (lv_sub hl [1, 2, 3, 4, 5, 0, 6] rfl)
                    refine lv_icmp_ne (tgt := 148) hx hb dX12_link_120 (by decide) (fun c120_45 => ?_) (fun c120_45 => ?_)
                    · skip
                      refine lv_iload hx hb dX12_link_148 (lv_at hl 6 rfl) ?_
                      exact j150_44 a66_6_19 g33 _ _ ls mFr.rf L33 (rg_w ra66_6_19 rfl) (lv_sub hl [2, 3, 4, 5, 0, 7] rfl)
                    · skip
                      refine lv_sipush (v := 1000) hx hb dX12_link_123 (by decide) ?_
                      refine lv_iload hx hb dX12_link_126 (lv_at hl 1 rfl) ?_
                      refine lv_bipush (v := 40) hx hb dX12_link_128 (by decide) ?_
                      refine lv_idiv hx hb dX12_link_130 (by decide) ?_
                      refine lv_topi (fun v46 ev46 => ?_)
                      have rv46 : rg (0) (7) v46 := (rg_div ev46 q40 kc_40 rfl).1
                      refine lv_aload_n hx hb dX12_link_131 rfl (lv_at hl 2 rfl) ?_
                      refine m_geti x L33 0 rfl rfl (wm_in uf_260) dX12_link_132 (fun v47 ev47 wv47 => ?_)
                      refine m_top (((mm_fr (mm_fr ev13 hF21 rfl) hF33 rfl)).trans ev47.symm) ?_
                      refine lv_isub hx hb dX12_link_135 ?_
                      refine lv_topi (fun v48 ev48 => ?_)
                      have rv48 : rg (-4) (5) v48 := (rg_sub ev48 rv46 rv13 rfl).1
                      have tv48 := (rg_sub ev48 rv46 rv13 rfl).2
                      refine lv_imul hx hb dX12_link_136 ?_
                      refine lv_topi (fun v49 ev49 => ?_)
                      have rv49 : rg (-4000) (5000) v49 := (rg_mulL ev49 kc_1000 rv48 rfl).1
                      refine lv_aload_n hx hb dX12_link_137 rfl (lv_at hl 2 rfl) ?_
                      refine m_geta x L33 71 rfl rfl (wm_in uf_201) dX12_link_138 ?_
                      refine lv_iload hx hb dX12_link_141 (lv_at hl 1 rfl) ?_
                      refine m_ld x L33 71 rfl q40 rfl dX12_link_143 (fun v50 ev50 wv50 => ?_)
                      have rv50 : rg (-2147483648) (2147483647) v50 := lj_71 wv50
                      refine lv_iadd hx hb dX12_link_144 ?_
                      refine lv_topi (fun v51 ev51 => ?_)
                      have rv51 : rg (-2147483648) (2147483647) v51 := rg_any v51
                      refine lv_goto (tgt := 150) hx hb dX12_link_145 (by decide) ?_
                      exact j150_44 v51 g33 _ _ ls mFr.rf L33 (rg_w rv51 rfl) (lv_sub hl [2, 3, 4, 5, 0, 7] rfl)
                refine lv_icmp_ne (tgt := 100) hx hb dX12_link_88 (by decide) (fun c88_52 => ?_) (fun c88_52 => ?_)
                · skip
                  refine lv_bipush (v := (-2)) hx hb dX12_link_100 (by decide) ?_
                  exact j102_33 (-2 : Int32) g21 _ _ ls mFr.rf L21 (rg_w kc_m2 rfl) (lv_sub hl [0, 1, 2, 3, 4, 5, 6] rfl)
                · skip
                  have q53 : rg (10) (10) v31 := (rg_eq c88_52 rv31 kc_10).1
                  refine lv_aload_n hx hb dX12_link_91 rfl (lv_at hl 0 rfl) ?_
                  refine lv_iload hx hb dX12_link_92 (lv_at hl 6 rfl) ?_
                  refine m_ci (As := [.int a66_7_20]) (rest := []) x hml L21 (c_joinedWith l nn X g21 a66_7_20 hnn hX (rg_w q30 rfl)) (wm_V uc_joinedWith ul_369 ui_joinedWith us_joinedWith u_init) rfl ⟨rfl, rfl⟩ hd_joinedWith ⟨Nat.le_of_ble_eq_true rfl, Nat.le_of_ble_eq_true rfl⟩ rfl hl.1 rfl (lv_room (Nat.le_of_ble_eq_true rfl)) dX12_link_94 (fun v55 g54 H54 k54 hp54 L54 => ?_)
                  have rv55 : rg (-2) (319) v55 := hp54.2.1
                  refine lv_goto (tgt := 102) hx hb dX12_link_97 (by decide) ?_
                  exact j102_33 v55 g54 _ _ ls (mFr.tr mFr.rf hp54.1 rfl) L54 (rg_w rv55 rfl) (lv_sub hl [0, 1, 2, 3, 4, 5, 6] rfl)
          exact j66_21 _ (0 : Int32) (-2 : Int32) v17 g1 _ _ ls mFr.rf L1 (rg_w kc_0 rfl) (rg_w kc_m2 rfl) (rg_w rv17 rfl) (lv_sub hl [4, 6, 7, 3, 2, 1, 0] rfl) rfl
        · skip
          have q56 : rg (0) (1) p2 := (rg_lt (rg_nle c29_15) q12 kc_2).1
          refine lv_iload_n hx hb dX12_link_32 rfl (lv_at hl 3 rfl) ?_
          have j51_58 : ∀ (b51_0_57 : Int32) (g58 : mSt) (H58 : Heap) (k58 : List Loc) (ls : Array Slot), mFr [] g1 g58 → mL G h0 ad H0 nn X g58 H58 k58 → rg (-2147483648) (2147483647) b51_0_57 → lv_has ls 9 [(0, .ref h0)] → W p l e rm_link s m args below meth c H58 k58 0 0 Q (F0 m 51 ls [.int b51_0_57]) := by
            intro b51_0_57 g58 H58 k58 ls hF58 L58 rb51_0_57 hl
            exact hQ _ _ b51_0_57 _ _ _ dX12_link_51 L58 ⟨(mFr.tr (mFr.tr mFr.rf hp1.1 rfl) hF58 rfl), rg_w rb51_0_57 rfl, trivial⟩
          refine lv_if_ne (tgt := 45) hx hb dX12_link_33 (by decide) (fun c33_59 => ?_) (fun c33_59 => ?_)
          · skip
            have q60 : rg (1) (1) p2 := rg_neL c33_59 q56 kc_0
            refine lv_aload_n hx hb dX12_link_45 rfl (lv_at hl 1 rfl) ?_
            refine lv_iload hx hb dX12_link_46 (lv_at hl 0 rfl) ?_
            refine m_ci (As := [.int v14]) (rest := []) x hml L1 (c_ratesOf l nn X g1 v14 hnn hX (rg_w rv14 rfl)) (wm_V uc_ratesOf ul_553 ui_ratesOf us_ratesOf u_init) rfl ⟨rfl, rfl⟩ hd_ratesOf ⟨Nat.le_of_ble_eq_true rfl, Nat.le_of_ble_eq_true rfl⟩ rfl hl.1 rfl (lv_room (Nat.le_of_ble_eq_true rfl)) dX12_link_48 (fun v62 g61 H61 k61 hp61 L61 => ?_)
            have rv62 : rg (-2147483648) (2147483647) v62 := hp61.2.1
            exact j51_58 v62 g61 _ _ ls (mFr.tr mFr.rf hp61.1 rfl) L61 (rg_w rv62 rfl) (lv_sub hl [1] rfl)
          · skip
            have q63 : rg (0) (0) p2 := (rg_eq c33_59 q56 kc_0).1
            refine lv_aload_n hx hb dX12_link_36 rfl (lv_at hl 1 rfl) ?_
            refine lv_iload hx hb dX12_link_37 (lv_at hl 0 rfl) ?_
            refine m_ci (As := [.int v14]) (rest := []) x hml L1 (c_openCalls l nn X g1 v14 hnn hX (rg_w rv14 rfl)) (wm_V uc_openCalls ul_546 ui_openCalls us_openCalls u_init) rfl ⟨rfl, rfl⟩ hd_openCalls ⟨Nat.le_of_ble_eq_true rfl, Nat.le_of_ble_eq_true rfl⟩ rfl hl.1 rfl (lv_room (Nat.le_of_ble_eq_true rfl)) dX12_link_39 (fun v65 g64 H64 k64 hp64 L64 => ?_)
            have rv65 : rg (-2147483648) (2147483647) v65 := hp64.2.1
            refine lv_goto (tgt := 51) hx hb dX12_link_42 (by decide) ?_
            exact j51_58 v65 g64 _ _ ls (mFr.tr mFr.rf hp64.1 rfl) L64 (rg_w rv65 rfl) (lv_sub hl [1] rfl)
      · skip
        have q66 : rg (4) (2147483647) p2 := (rg_lt (rg_nle c14_11) kc_3 q10).2
        exact j17_3  g1 _ _ ls mFr.rf L1  (lv_sub hl [0] rfl)
theorem c_link (l : Launch) {G : mG} {h0 : Nat} {ad : Nat → Nat} (nn X : Int) (g : mSt) (p1 : Int32) (p2 : Int32) (p3 : Int32) (hnn : 2 ≤ nn ∧ nn ≤ 4) (hX : 0 ≤ X ∧ X ≤ 2000000000) : Met l yX12_link (wm (Cond.code yX12_link cX12_link 9 (some .int))) rm_link (va_Pc [.ref h0, .int p1, .int p2, .int p3] (mPre G h0 ad nn X g)) (mQi G h0 ad nn X (fun r g1 => mFr [] g g1 ∧ rg (-2147483648) (2147483647) r ∧ True)) 0 0 (mA h0 ad) := by
  refine Met.ofW (cc := cX12_link) (maxL := 9) (ret := (some .int)) (by decide) rfl ?_
  intro p e s m args below meth c s₁ B hml hv
  obtain ⟨rfl, hv⟩ := hv
  have hr := B.returns
  have hlocks := B.notSynchronized
  obtain ⟨x, L⟩ := m_start B rfl wm_X hv
  have hl := lv_entry ([.ref h0, .int p1, .int p2, .int p3]) (n := 9) (Nat.le_of_ble_eq_true rfl)
  rw [lg_entry_eq]
  generalize (lg_sl ([.ref h0, .int p1, .int p2, .int p3]) ++ List.replicate (9 - (lg_sl ([.ref h0, .int p1, .int p2, .int p3])).length) Slot.unset).toArray = ls at hl ⊢
  exact w_link x hml L hnn hX p1 p2 p3 hl (fun pc' ls' r g1 H1 locs1 hdg L hp => m_iret x L hr hlocks (Int.le_refl _) hp hdg)

def rm_reset : Room := { frames := 8, cells := 0, slots := 0, locals := 185 }
theorem hd_reset : yX12_reset.cls = RX12 ∧ yX12_reset.cls ≠ "java/lang/invoke/MethodHandle" ∧ yX12_reset.cls ≠ "java/lang/invoke/VarHandle" ∧ (parseMethodDescriptor yX12_reset.desc).map (fun d => d.parameters.length) = some 1 := by decide +kernel
set_option maxHeartbeats 4000000 in
set_option maxRecDepth 100000 in
theorem w_reset {p : Program} {l : Launch} {e : Env} {s : State} {m : MethodId} {args : Array Value} {below : List Frame} {meth : Method} {c : Code} {H : Heap} {locs : List Loc} {Q : State → Prop} {ls : Array Slot} {G : mG} {h0 : Nat} {ad : Nat → Nat} {g : mSt} {H0 : Heap} {nn X : Int} (x : mX p c cX12_reset s args (wm (Cond.code yX12_reset cX12_reset 2 (some .int))) m G h0 ad) (hml : c.maxLocals = 2) (L : mL G h0 ad H0 nn X g H locs) (hnn : 2 ≤ nn ∧ nn ≤ 4) (hX : 0 ≤ X ∧ X ≤ 2000000000) (p1 : Int32) (hl : lv_has ls 2 [(0, .ref h0), (1, .int p1)]) (hQ : ∀ (pc' : Nat) (ls' : Array Slot) (r : Int32) (g1 : mSt) (H1 : Heap) (locs1 : List Loc), decode cX12_reset pc' = .ok (.ireturn, 1) → mL G h0 ad H0 nn X g1 H1 locs1 → (mFr [4, 5, 7, 8, 9, 10, 11, 40, 49, 52, 53, 54] g g1 ∧ rg (-1) (1) r ∧ True) → W p l e rm_reset s m args below meth c H1 locs1 0 0 Q (F0 m pc' ls' [.int r])) : W p l e rm_reset s m args below meth c H locs 0 0 Q (F0 m 0 ls []) := by
  have hx := x.1
  have hb := x.2.1
  refine lv_aload_n hx hb dX12_reset_0 rfl (lv_at hl 0 rfl) ?_
  refine lv_iload_n hx hb dX12_reset_1 rfl (lv_at hl 1 rfl) ?_
  refine m_ci (As := [.int p1]) (rest := []) x hml L (c_isSide l nn X g p1 hnn hX) (wm_V uc_isSide ul_460 ui_isSide us_isSide u_init) rfl ⟨rfl, rfl⟩ hd_isSide ⟨Nat.le_of_ble_eq_true rfl, Nat.le_of_ble_eq_true rfl⟩ rfl hl.1 rfl (lv_room (Nat.le_of_ble_eq_true rfl)) dX12_reset_2 (fun v2 g1 H1 k1 hp1 L1 => ?_)
  have rv2 : rg (0) (1) v2 := hp1.2.1
  refine lv_if_ne (tgt := 10) hx hb dX12_reset_5 (by decide) (fun c5_3 => ?_) (fun c5_3 => ?_)
  · skip
    have q4 : rg (0) (7) p1 ∧ p1.toInt < 2 * nn := hp1.2.2 c5_3
    have q5 : rg (1) (1) v2 := rg_neL c5_3 rv2 kc_0
    refine lv_aload_n hx hb dX12_reset_10 rfl (lv_at hl 0 rfl) ?_
    refine m_geta x L1 40 rfl rfl (wm_in uf_107) dX12_reset_11 ?_
    refine lv_iload_n hx hb dX12_reset_14 rfl (lv_at hl 1 rfl) ?_
    refine m_ld x L1 40 rfl q4.1 rfl dX12_reset_15 (fun v6 ev6 wv6 => ?_)
    have rv6 : rg (-2147483648) (2147483647) v6 := lj_40 wv6
    refine lv_iconst (v := 2) hx hb dX12_reset_16 (by decide) ?_
    refine lv_icmp_eq (tgt := 22) hx hb dX12_reset_17 (by decide) (fun c17_7 => ?_) (fun c17_7 => ?_)
    · skip
      have q8 : rg (2) (2) v6 := (rg_eq c17_7 rv6 kc_2).1
      refine lv_aload_n hx hb dX12_reset_22 rfl (lv_at hl 0 rfl) ?_
      refine lv_iload_n hx hb dX12_reset_23 rfl (lv_at hl 1 rfl) ?_
      refine lv_iconst (v := 0) hx hb dX12_reset_24 (by decide) ?_
      refine m_cv (As := [.int p1, .int (0 : Int32)]) (rest := []) x hml L1 (c_askReset l nn X g1 p1 (0 : Int32) hnn hX (rg_w q4.1 rfl) q4.2 (rg_w kc_0 rfl)) (wm_V uc_askReset ul_444 ui_askReset us_askReset u_init) rfl ⟨rfl, rfl⟩ hd_askReset ⟨Nat.le_of_ble_eq_true rfl, Nat.le_of_ble_eq_true rfl⟩ rfl hl.1 rfl (lv_room (Nat.le_of_ble_eq_true rfl)) dX12_reset_25 (fun  g9 H9 k9 hp9 L9 => ?_)
      refine lv_iconst (v := 1) hx hb dX12_reset_28 (by decide) ?_
      exact hQ _ _ (1 : Int32) _ _ _ dX12_reset_29 L9 ⟨(mFr.tr (mFr.tr mFr.rf hp1.1 rfl) hp9.1 rfl), rg_w kc_1 rfl, trivial⟩
    · skip
      refine lv_iconst (v := 0) hx hb dX12_reset_20 (by decide) ?_
      exact hQ _ _ (0 : Int32) _ _ _ dX12_reset_21 L1 ⟨(mFr.tr mFr.rf hp1.1 rfl), rg_w kc_0 rfl, trivial⟩
  · skip
    have q10 : rg (0) (0) v2 := (rg_eq c5_3 rv2 kc_0).1
    refine lv_iconst (v := (-1)) hx hb dX12_reset_8 (by decide) ?_
    exact hQ _ _ (-1 : Int32) _ _ _ dX12_reset_9 L1 ⟨(mFr.tr mFr.rf hp1.1 rfl), rg_w kc_m1 rfl, trivial⟩
theorem c_reset (l : Launch) {G : mG} {h0 : Nat} {ad : Nat → Nat} (nn X : Int) (g : mSt) (p1 : Int32) (hnn : 2 ≤ nn ∧ nn ≤ 4) (hX : 0 ≤ X ∧ X ≤ 2000000000) : Met l yX12_reset (wm (Cond.code yX12_reset cX12_reset 2 (some .int))) rm_reset (va_Pc [.ref h0, .int p1] (mPre G h0 ad nn X g)) (mQi G h0 ad nn X (fun r g1 => mFr [4, 5, 7, 8, 9, 10, 11, 40, 49, 52, 53, 54] g g1 ∧ rg (-1) (1) r ∧ True)) 0 0 (mA h0 ad) := by
  refine Met.ofW (cc := cX12_reset) (maxL := 2) (ret := (some .int)) (by decide) rfl ?_
  intro p e s m args below meth c s₁ B hml hv
  obtain ⟨rfl, hv⟩ := hv
  have hr := B.returns
  have hlocks := B.notSynchronized
  obtain ⟨x, L⟩ := m_start B rfl wm_X hv
  have hl := lv_entry ([.ref h0, .int p1]) (n := 2) (Nat.le_of_ble_eq_true rfl)
  rw [lg_entry_eq]
  generalize (lg_sl ([.ref h0, .int p1]) ++ List.replicate (2 - (lg_sl ([.ref h0, .int p1])).length) Slot.unset).toArray = ls at hl ⊢
  exact w_reset x hml L hnn hX p1 hl (fun pc' ls' r g1 H1 locs1 hdg L hp => m_iret x L hr hlocks (Int.le_refl _) hp hdg)

def rm_gap : Room := { frames := 8, cells := 0, slots := 0, locals := 185 }
theorem hd_gap : yX12_gap.cls = RX12 ∧ yX12_gap.cls ≠ "java/lang/invoke/MethodHandle" ∧ yX12_gap.cls ≠ "java/lang/invoke/VarHandle" ∧ (parseMethodDescriptor yX12_gap.desc).map (fun d => d.parameters.length) = some 3 := by decide +kernel
set_option maxHeartbeats 4000000 in
set_option maxRecDepth 100000 in
theorem w_gap {p : Program} {l : Launch} {e : Env} {s : State} {m : MethodId} {args : Array Value} {below : List Frame} {meth : Method} {c : Code} {H : Heap} {locs : List Loc} {Q : State → Prop} {ls : Array Slot} {G : mG} {h0 : Nat} {ad : Nat → Nat} {g : mSt} {H0 : Heap} {nn X : Int} (x : mX p c cX12_gap s args (wm (Cond.code yX12_gap cX12_gap 8 none)) m G h0 ad) (hml : c.maxLocals = 8) (L : mL G h0 ad H0 nn X g H locs) (hnn : 2 ≤ nn ∧ nn ≤ 4) (hX : 0 ≤ X ∧ X ≤ 2000000000) (p1 : Int32) (p2 : Int32) (p3 : Int32) (rp1 : rg (0) (7) p1) (np1 : p1.toInt < 2 * nn) (rp2 : rg (0) (16777215) p2) (hl : lv_has ls 8 [(0, .ref h0), (1, .int p1), (2, .int p2), (3, .int p3)]) (hQ : ∀ (pc' : Nat) (ls' : Array Slot) (g1 : mSt) (H1 : Heap) (locs1 : List Loc), decode cX12_gap pc' = .ok (.return_, 1) → mL G h0 ad H0 nn X g1 H1 locs1 → (mFr [4, 5, 7, 8, 9, 10, 11, 40, 42, 43, 49, 52, 53, 54, 64] g g1 ∧ True) → W p l e rm_gap s m args below meth c H1 locs1 0 0 Q (F0 m pc' ls' [])) : W p l e rm_gap s m args below meth c H locs 0 0 Q (F0 m 0 ls []) := by
  have hx := x.1
  have hb := x.2.1
  refine lv_aload_n hx hb dX12_gap_0 rfl (lv_at hl 0 rfl) ?_
  refine lv_iconst (v := 0) hx hb dX12_gap_1 (by decide) ?_
  refine m_ci (As := [.int (0 : Int32)]) (rest := []) x hml L (c_byteOfWord l nn X g (0 : Int32) hnn hX (rg_w kc_0 rfl)) (wm_V uc_byteOfWord ul_406 ui_byteOfWord us_byteOfWord u_init) rfl ⟨rfl, rfl⟩ hd_byteOfWord ⟨Nat.le_of_ble_eq_true rfl, Nat.le_of_ble_eq_true rfl⟩ rfl hl.1 rfl (lv_room (Nat.le_of_ble_eq_true rfl)) dX12_gap_2 (fun v2 g1 H1 k1 hp1 L1 => ?_)
  have rv2 : rg (-2147483648) (2147483647) v2 := hp1.2.1
  refine lv_istore (lv' := [(4, .int v2), (0, .ref h0), (1, .int p1), (2, .int p2), (3, .int p3)]) hx hb dX12_gap_5 hl (by decide) rfl (fun ls hl => ?_)
  refine lv_aload_n hx hb dX12_gap_7 rfl (lv_at hl 1 rfl) ?_
  refine lv_iconst (v := 4) hx hb dX12_gap_8 (by decide) ?_
  refine m_ci (As := [.int (4 : Int32)]) (rest := []) x hml L1 (c_byteOfWord l nn X g1 (4 : Int32) hnn hX (rg_w kc_4 rfl)) (wm_V uc_byteOfWord ul_406 ui_byteOfWord us_byteOfWord u_init) rfl ⟨rfl, rfl⟩ hd_byteOfWord ⟨Nat.le_of_ble_eq_true rfl, Nat.le_of_ble_eq_true rfl⟩ rfl hl.1 rfl (lv_room (Nat.le_of_ble_eq_true rfl)) dX12_gap_9 (fun v4 g3 H3 k3 hp3 L3 => ?_)
  have rv4 : rg (-2147483648) (2147483647) v4 := hp3.2.1
  refine lv_istore (lv' := [(5, .int v4), (4, .int v2), (0, .ref h0), (1, .int p1), (2, .int p2), (3, .int p3)]) hx hb dX12_gap_12 hl (by decide) rfl (fun ls hl => ?_)
  refine lv_aload_n hx hb dX12_gap_14 rfl (lv_at hl 2 rfl) ?_
  refine m_geta x L3 42 rfl rfl (wm_in uf_113) dX12_gap_15 ?_
  refine lv_iload_n hx hb dX12_gap_18 rfl (lv_at hl 3 rfl) ?_
  refine m_ld x L3 42 rfl rp1 rfl dX12_gap_19 (fun v5 ev5 wv5 => ?_)
  have rv5 : rg (0) (2147483647) v5 := lj_42 wv5
  refine lv_iload_n hx hb dX12_gap_20 rfl (lv_at hl 4 rfl) ?_
  refine lv_icmp_gt (tgt := 52) hx hb dX12_gap_21 (by decide) (fun c21_6 => ?_) (fun c21_6 => ?_)
  · skip
    have q7 : rg (1) (2147483647) v5 := (rg_lt c21_6 rp2 rv5).2
    refine lv_iconst (v := 0) hx hb dX12_gap_52 (by decide) ?_
    refine lv_istore (lv' := [(6, .int (0 : Int32)), (5, .int v4), (4, .int v2), (0, .ref h0), (1, .int p1), (2, .int p2), (3, .int p3)]) hx hb dX12_gap_53 hl (by decide) rfl (fun ls hl => ?_)
    refine lv_iload hx hb dX12_gap_55 (lv_at hl 0 rfl) ?_
    refine lv_if_ne (tgt := 67) hx hb dX12_gap_57 (by decide) (fun c57_8 => ?_) (fun c57_8 => ?_)
    · skip
      exact absurd c57_8 (by decide)
    · skip
      refine lv_aload_n hx hb dX12_gap_60 rfl (lv_at hl 3 rfl) ?_
      refine lv_iload_n hx hb dX12_gap_61 rfl (lv_at hl 4 rfl) ?_
      refine lv_iconst (v := 1) hx hb dX12_gap_62 (by decide) ?_
      refine m_cv (As := [.int p1, .int (1 : Int32)]) (rest := []) x hml L3 (c_askReset l nn X g3 p1 (1 : Int32) hnn hX (rg_w rp1 rfl) np1 (rg_w kc_1 rfl)) (wm_V uc_askReset ul_444 ui_askReset us_askReset u_init) rfl ⟨rfl, rfl⟩ hd_askReset ⟨Nat.le_of_ble_eq_true rfl, Nat.le_of_ble_eq_true rfl⟩ rfl hl.1 rfl (lv_room (Nat.le_of_ble_eq_true rfl)) dX12_gap_63 (fun  g9 H9 k9 hp9 L9 => ?_)
      exact hQ _ _ _ _ _ dX12_gap_66 L9 ⟨(mFr.tr (mFr.tr (mFr.tr mFr.rf hp1.1 rfl) hp3.1 rfl) hp9.1 rfl), trivial⟩
  · skip
    have q10 : rg (0) (16777215) v5 := (rg_le (rg_nlt c21_6) rv5 rp2).1
    refine lv_iload_n hx hb dX12_gap_24 rfl (lv_at hl 4 rfl) ?_
    refine lv_iload hx hb dX12_gap_25 (lv_at hl 1 rfl) ?_
    refine lv_icmp_gt (tgt := 52) hx hb dX12_gap_27 (by decide) (fun c27_11 => ?_) (fun c27_11 => ?_)
    · skip
      have q12 : rg (-2147483648) (16777214) v2 := (rg_lt c27_11 rv2 rp2).1
      refine lv_iconst (v := 0) hx hb dX12_gap_52 (by decide) ?_
      refine lv_istore (lv' := [(6, .int (0 : Int32)), (5, .int v4), (4, .int v2), (0, .ref h0), (1, .int p1), (2, .int p2), (3, .int p3)]) hx hb dX12_gap_53 hl (by decide) rfl (fun ls hl => ?_)
      refine lv_iload hx hb dX12_gap_55 (lv_at hl 0 rfl) ?_
      refine lv_if_ne (tgt := 67) hx hb dX12_gap_57 (by decide) (fun c57_13 => ?_) (fun c57_13 => ?_)
      · skip
        exact absurd c57_13 (by decide)
      · skip
        refine lv_aload_n hx hb dX12_gap_60 rfl (lv_at hl 3 rfl) ?_
        refine lv_iload_n hx hb dX12_gap_61 rfl (lv_at hl 4 rfl) ?_
        refine lv_iconst (v := 1) hx hb dX12_gap_62 (by decide) ?_
        refine m_cv (As := [.int p1, .int (1 : Int32)]) (rest := []) x hml L3 (c_askReset l nn X g3 p1 (1 : Int32) hnn hX (rg_w rp1 rfl) np1 (rg_w kc_1 rfl)) (wm_V uc_askReset ul_444 ui_askReset us_askReset u_init) rfl ⟨rfl, rfl⟩ hd_askReset ⟨Nat.le_of_ble_eq_true rfl, Nat.le_of_ble_eq_true rfl⟩ rfl hl.1 rfl (lv_room (Nat.le_of_ble_eq_true rfl)) dX12_gap_63 (fun  g14 H14 k14 hp14 L14 => ?_)
        exact hQ _ _ _ _ _ dX12_gap_66 L14 ⟨(mFr.tr (mFr.tr (mFr.tr mFr.rf hp1.1 rfl) hp3.1 rfl) hp14.1 rfl), trivial⟩
    · skip
      have q15 : rg (0) (2147483647) v2 := (rg_le (rg_nlt c27_11) rp2 rv2).2
      refine lv_iload hx hb dX12_gap_30 (lv_at hl 1 rfl) ?_
      refine lv_iload hx hb dX12_gap_32 (lv_at hl 0 rfl) ?_
      refine lv_icmp_ge (tgt := 52) hx hb dX12_gap_34 (by decide) (fun c34_16 => ?_) (fun c34_16 => ?_)
      · skip
        refine lv_iconst (v := 0) hx hb dX12_gap_52 (by decide) ?_
        refine lv_istore (lv' := [(6, .int (0 : Int32)), (5, .int v4), (4, .int v2), (0, .ref h0), (1, .int p1), (2, .int p2), (3, .int p3)]) hx hb dX12_gap_53 hl (by decide) rfl (fun ls hl => ?_)
        refine lv_iload hx hb dX12_gap_55 (lv_at hl 0 rfl) ?_
        refine lv_if_ne (tgt := 67) hx hb dX12_gap_57 (by decide) (fun c57_17 => ?_) (fun c57_17 => ?_)
        · skip
          exact absurd c57_17 (by decide)
        · skip
          refine lv_aload_n hx hb dX12_gap_60 rfl (lv_at hl 3 rfl) ?_
          refine lv_iload_n hx hb dX12_gap_61 rfl (lv_at hl 4 rfl) ?_
          refine lv_iconst (v := 1) hx hb dX12_gap_62 (by decide) ?_
          refine m_cv (As := [.int p1, .int (1 : Int32)]) (rest := []) x hml L3 (c_askReset l nn X g3 p1 (1 : Int32) hnn hX (rg_w rp1 rfl) np1 (rg_w kc_1 rfl)) (wm_V uc_askReset ul_444 ui_askReset us_askReset u_init) rfl ⟨rfl, rfl⟩ hd_askReset ⟨Nat.le_of_ble_eq_true rfl, Nat.le_of_ble_eq_true rfl⟩ rfl hl.1 rfl (lv_room (Nat.le_of_ble_eq_true rfl)) dX12_gap_63 (fun  g18 H18 k18 hp18 L18 => ?_)
          exact hQ _ _ _ _ _ dX12_gap_66 L18 ⟨(mFr.tr (mFr.tr (mFr.tr mFr.rf hp1.1 rfl) hp3.1 rfl) hp18.1 rfl), trivial⟩
      · skip
        have q19 : rg (0) (2147483646) v2 := (rg_lt (rg_nle c34_16) q15 rv4).1
        have q20 : rg (1) (2147483647) v4 := (rg_lt (rg_nle c34_16) q15 rv4).2
        refine lv_iload hx hb dX12_gap_37 (lv_at hl 0 rfl) ?_
        refine lv_aload_n hx hb dX12_gap_39 rfl (lv_at hl 2 rfl) ?_
        refine m_geta x L3 41 rfl rfl (wm_in uf_110) dX12_gap_40 ?_
        refine lv_iload_n hx hb dX12_gap_43 rfl (lv_at hl 3 rfl) ?_
        refine m_ld x L3 41 rfl rp1 rfl dX12_gap_44 (fun v21 ev21 wv21 => ?_)
        have rv21 : rg (0) (2147483647) v21 := lj_41 wv21
        refine lv_icmp_gt (tgt := 52) hx hb dX12_gap_45 (by decide) (fun c45_22 => ?_) (fun c45_22 => ?_)
        · skip
          have q23 : rg (0) (2147483646) v21 := (rg_lt c45_22 rv21 q20).1
          refine lv_iconst (v := 0) hx hb dX12_gap_52 (by decide) ?_
          refine lv_istore (lv' := [(6, .int (0 : Int32)), (5, .int v4), (4, .int v2), (0, .ref h0), (1, .int p1), (2, .int p2), (3, .int p3)]) hx hb dX12_gap_53 hl (by decide) rfl (fun ls hl => ?_)
          refine lv_iload hx hb dX12_gap_55 (lv_at hl 0 rfl) ?_
          refine lv_if_ne (tgt := 67) hx hb dX12_gap_57 (by decide) (fun c57_24 => ?_) (fun c57_24 => ?_)
          · skip
            exact absurd c57_24 (by decide)
          · skip
            refine lv_aload_n hx hb dX12_gap_60 rfl (lv_at hl 3 rfl) ?_
            refine lv_iload_n hx hb dX12_gap_61 rfl (lv_at hl 4 rfl) ?_
            refine lv_iconst (v := 1) hx hb dX12_gap_62 (by decide) ?_
            refine m_cv (As := [.int p1, .int (1 : Int32)]) (rest := []) x hml L3 (c_askReset l nn X g3 p1 (1 : Int32) hnn hX (rg_w rp1 rfl) np1 (rg_w kc_1 rfl)) (wm_V uc_askReset ul_444 ui_askReset us_askReset u_init) rfl ⟨rfl, rfl⟩ hd_askReset ⟨Nat.le_of_ble_eq_true rfl, Nat.le_of_ble_eq_true rfl⟩ rfl hl.1 rfl (lv_room (Nat.le_of_ble_eq_true rfl)) dX12_gap_63 (fun  g25 H25 k25 hp25 L25 => ?_)
            exact hQ _ _ _ _ _ dX12_gap_66 L25 ⟨(mFr.tr (mFr.tr (mFr.tr mFr.rf hp1.1 rfl) hp3.1 rfl) hp25.1 rfl), trivial⟩
        · skip
          have q26 : rg (1) (2147483647) v21 := (rg_le (rg_nlt c45_22) q20 rv21).2
          refine lv_iconst (v := 1) hx hb dX12_gap_48 (by decide) ?_
          refine lv_goto (tgt := 53) hx hb dX12_gap_49 (by decide) ?_
          refine lv_istore (lv' := [(6, .int (1 : Int32)), (5, .int v4), (4, .int v2), (0, .ref h0), (1, .int p1), (2, .int p2), (3, .int p3)]) hx hb dX12_gap_53 hl (by decide) rfl (fun ls hl => ?_)
          refine lv_iload hx hb dX12_gap_55 (lv_at hl 0 rfl) ?_
          refine lv_if_ne (tgt := 67) hx hb dX12_gap_57 (by decide) (fun c57_27 => ?_) (fun c57_27 => ?_)
          · skip
            refine lv_aload_n hx hb dX12_gap_67 rfl (lv_at hl 3 rfl) ?_
            refine lv_iload_n hx hb dX12_gap_68 rfl (lv_at hl 4 rfl) ?_
            refine lv_iload_n hx hb dX12_gap_69 rfl (lv_at hl 5 rfl) ?_
            refine m_cv (As := [.int p1, .int p2]) (rest := []) x hml L3 (c_acknowledge l nn X g3 p1 p2 hnn hX (rg_w rp1 rfl) (rg_w rp2 rfl)) (wm_V uc_acknowledge ul_448 ui_acknowledge us_acknowledge u_init) rfl ⟨rfl, rfl⟩ hd_acknowledge ⟨Nat.le_of_ble_eq_true rfl, Nat.le_of_ble_eq_true rfl⟩ rfl hl.1 rfl (lv_room (Nat.le_of_ble_eq_true rfl)) dX12_gap_70 (fun  g28 H28 k28 hp28 L28 => ?_)
            refine lv_aload_n hx hb dX12_gap_73 rfl (lv_at hl 3 rfl) ?_
            refine m_geta x L28 43 rfl rfl (wm_in uf_116) dX12_gap_74 ?_
            refine lv_iload_n hx hb dX12_gap_77 rfl (lv_at hl 4 rfl) ?_
            refine lv_iload_n hx hb dX12_gap_78 rfl (lv_at hl 6 rfl) ?_
            refine m_st x L28 43 rfl rp1 rfl (rj_43 (rg_any p3)) dX12_gap_79 (fun g29 H29 k29 eg29 L29 => ?_)
            refine lv_iload hx hb dX12_gap_80 (lv_at hl 2 rfl) ?_
            refine lv_istore (lv' := [(7, .int v2), (6, .int (1 : Int32)), (5, .int v4), (4, .int v2), (0, .ref h0), (1, .int p1), (2, .int p2), (3, .int p3)]) hx hb dX12_gap_82 hl (by decide) rfl (fun ls hl => ?_)
            have j84_31 : ∀ (n : Nat) (a84_7_30 : Int32) (g31 : mSt) (H31 : Heap) (k31 : List Loc) (ls : Array Slot), mFr [64] g29 g31 → mL G h0 ad H0 nn X g31 H31 k31 → rg (0) (2147483647) a84_7_30 → lv_has ls 8 [(0, .ref h0), (1, .int p1), (5, .int v4), (7, .int a84_7_30)] → ((2147483647 : Int) - a84_7_30.toInt).toNat = n → W p l e rm_gap s m args below meth c H31 k31 0 0 Q (F0 m 84 ls []) := by
              intro n
              induction n using Nat.strongRecOn with
              | _ n ih31 =>
                intro a84_7_30 g31 H31 k31 ls hF31 L31 ra84_7_30 hl hn31
                subst hn31
                refine lv_iload hx hb dX12_gap_84 (lv_at hl 3 rfl) ?_
                refine lv_iload hx hb dX12_gap_86 (lv_at hl 2 rfl) ?_
                refine lv_icmp_ge (tgt := 113) hx hb dX12_gap_88 (by decide) (fun c88_32 => ?_) (fun c88_32 => ?_)
                · skip
                  have q33 : rg (1) (2147483647) a84_7_30 := (rg_le c88_32 q20 ra84_7_30).2
                  exact hQ _ _ _ _ _ dX12_gap_113 L31 ⟨(mFr.tr (mFr.upE (mFr.tr (mFr.tr (mFr.tr mFr.rf hp1.1 rfl) hp3.1 rfl) hp28.1 rfl) eg29 rfl) hF31 rfl), trivial⟩
                · skip
                  have q34 : rg (0) (2147483646) a84_7_30 := (rg_lt (rg_nle c88_32) ra84_7_30 q20).1
                  refine lv_aload_n hx hb dX12_gap_91 rfl (lv_at hl 0 rfl) ?_
                  refine m_geta x L31 64 rfl rfl (wm_in uf_180) dX12_gap_92 ?_
                  refine lv_bipush (v := 8) hx hb dX12_gap_95 (by decide) ?_
                  refine lv_iload_n hx hb dX12_gap_97 rfl (lv_at hl 1 rfl) ?_
                  refine lv_imul hx hb dX12_gap_98 ?_
                  refine lv_topi (fun v35 ev35 => ?_)
                  have rv35 : rg (0) (56) v35 := (rg_mulL ev35 kc_8 rp1 rfl).1
                  have tv35 := (rg_mulL ev35 kc_8 rp1 rfl).2
                  have b16v35 : v35.toInt < 16 * nn := by have := np1; have : (8 : Int32).toInt = 8 := (by decide); omega
                  refine lv_iload hx hb dX12_gap_99 (lv_at hl 3 rfl) ?_
                  refine lv_bipush (v := 8) hx hb dX12_gap_101 (by decide) ?_
                  refine lv_irem hx hb dX12_gap_103 (by decide) ?_
                  refine lv_topi (fun v36 ev36 => ?_)
                  have rv36 : rg (0) (7) v36 := (rg_rem ev36 q34 kc_8 rfl).1
                  refine lv_iadd hx hb dX12_gap_104 ?_
                  refine lv_topi (fun v37 ev37 => ?_)
                  have rv37 : rg (0) (63) v37 := (rg_add ev37 rv35 rv36 rfl).1
                  have tv37 := (rg_add ev37 rv35 rv36 rfl).2
                  refine lv_iconst (v := 1) hx hb dX12_gap_105 (by decide) ?_
                  refine m_stz x L31 64 rfl rv37 rfl (rg_w kc_1 rfl) (rj_64 (rg_w kc_1 rfl)) dX12_gap_106 (fun g38 H38 k38 eg38 L38 => ?_)
                  obtain ⟨v39, ev39, fv39⟩ := inc_ex a84_7_30 (1) (1 : Int32) (by decide)
                  have rv39 : rg (1) (2147483647) v39 := (rg_add ev39 q34 kc_1 rfl).1
                  have tv39 := (rg_add ev39 q34 kc_1 rfl).2
                  refine lv_iinc (v := v39) (lv' := [(7, .int v39), (0, .ref h0), (1, .int p1), (5, .int v4)]) hx hb dX12_gap_107 hl (k := 3) rfl fv39 (by decide) rfl (fun ls hl => ?_)
                  refine lv_goto (tgt := 84) hx hb dX12_gap_110 (by decide) ?_
                  exact ih31 _ (ms_up tv39 kc_1 q34 rfl rfl) v39 g38 _ _ ls (mFr.upE hF31 eg38 rfl) L38 (rg_w rv39 rfl) (lv_sub hl [1, 2, 3, 0] rfl) rfl
            exact j84_31 _ v2 g29 _ _ ls mFr.rf L29 (rg_w q19 rfl) (lv_sub hl [4, 5, 2, 0] rfl) rfl
          · skip
            exact absurd c57_27 (by decide)
theorem c_gap (l : Launch) {G : mG} {h0 : Nat} {ad : Nat → Nat} (nn X : Int) (g : mSt) (p1 : Int32) (p2 : Int32) (p3 : Int32) (hnn : 2 ≤ nn ∧ nn ≤ 4) (hX : 0 ≤ X ∧ X ≤ 2000000000) (rp1 : rg (0) (7) p1) (np1 : p1.toInt < 2 * nn) (rp2 : rg (0) (16777215) p2) : Met l yX12_gap (wm (Cond.code yX12_gap cX12_gap 8 none)) rm_gap (va_Pc [.ref h0, .int p1, .int p2, .int p3] (mPre G h0 ad nn X g)) (mQv G h0 ad nn X (fun g1 => mFr [4, 5, 7, 8, 9, 10, 11, 40, 42, 43, 49, 52, 53, 54, 64] g g1 ∧ True)) 0 0 (mA h0 ad) := by
  refine Met.ofW (cc := cX12_gap) (maxL := 8) (ret := none) (by decide) rfl ?_
  intro p e s m args below meth c s₁ B hml hv
  obtain ⟨rfl, hv⟩ := hv
  have hr := B.returns
  have hlocks := B.notSynchronized
  obtain ⟨x, L⟩ := m_start B rfl wm_X hv
  have hl := lv_entry ([.ref h0, .int p1, .int p2, .int p3]) (n := 8) (Nat.le_of_ble_eq_true rfl)
  rw [lg_entry_eq]
  generalize (lg_sl ([.ref h0, .int p1, .int p2, .int p3]) ++ List.replicate (8 - (lg_sl ([.ref h0, .int p1, .int p2, .int p3])).length) Slot.unset).toArray = ls at hl ⊢
  exact w_gap x hml L hnn hX p1 p2 p3 rp1 np1 rp2 hl (fun pc' ls' g1 H1 locs1 hdg L hp => m_vret x L hr hlocks (Int.le_refl _) hp hdg)

def rm_lineTurn : Room := { frames := 7, cells := 0, slots := 0, locals := 163 }
theorem hd_lineTurn : yX12_lineTurn.cls = RX12 ∧ yX12_lineTurn.cls ≠ "java/lang/invoke/MethodHandle" ∧ yX12_lineTurn.cls ≠ "java/lang/invoke/VarHandle" ∧ (parseMethodDescriptor yX12_lineTurn.desc).map (fun d => d.parameters.length) = some 1 := by decide +kernel
set_option maxHeartbeats 4000000 in
set_option maxRecDepth 100000 in
theorem w_lineTurn {p : Program} {l : Launch} {e : Env} {s : State} {m : MethodId} {args : Array Value} {below : List Frame} {meth : Method} {c : Code} {H : Heap} {locs : List Loc} {Q : State → Prop} {ls : Array Slot} {G : mG} {h0 : Nat} {ad : Nat → Nat} {g : mSt} {H0 : Heap} {nn X : Int} (x : mX p c cX12_lineTurn s args (wm (Cond.code yX12_lineTurn cX12_lineTurn 4 none)) m G h0 ad) (hml : c.maxLocals = 4) (L : mL G h0 ad H0 nn X g H locs) (hnn : 2 ≤ nn ∧ nn ≤ 4) (hX : 0 ≤ X ∧ X ≤ 2000000000) (p1 : Int32) (rp1 : rg (0) (7) p1) (np1 : p1.toInt < 2 * nn) (hl : lv_has ls 4 [(0, .ref h0), (1, .int p1)]) (hQ : ∀ (pc' : Nat) (ls' : Array Slot) (g1 : mSt) (H1 : Heap) (locs1 : List Loc), decode cX12_lineTurn pc' = .ok (.return_, 1) → mL G h0 ad H0 nn X g1 H1 locs1 → (mFr [4, 5, 7, 8, 9, 10, 11, 40, 41, 44, 49, 52, 53, 56, 57, 58, 59, 60, 61, 62, 63, 64] g g1 ∧ True) → W p l e rm_lineTurn s m args below meth c H1 locs1 0 0 Q (F0 m pc' ls' [])) : W p l e rm_lineTurn s m args below meth c H locs 0 0 Q (F0 m 0 ls []) := by
  have hx := x.1
  have hb := x.2.1
  have up1 : (0 : Int) ≤ p1.toInt ∧ p1.toInt ≤ 7 := rp1
  refine lv_aload_n hx hb dX12_lineTurn_0 rfl (lv_at hl 0 rfl) ?_
  refine m_geta x L 40 rfl rfl (wm_in uf_107) dX12_lineTurn_1 ?_
  refine lv_iload_n hx hb dX12_lineTurn_4 rfl (lv_at hl 1 rfl) ?_
  refine m_ld x L 40 rfl rp1 rfl dX12_lineTurn_5 (fun v1 ev1 wv1 => ?_)
  have rv1 : rg (-2147483648) (2147483647) v1 := lj_40 wv1
  have uv1 : (-2147483648 : Int) ≤ v1.toInt ∧ v1.toInt ≤ 2147483647 := rv1
  have j34_2 : ∀ (g2 : mSt) (H2 : Heap) (k2 : List Loc) (ls : Array Slot), mFr [4, 5, 7, 8, 9, 10, 11, 40, 49, 52, 53] g g2 → mL G h0 ad H0 nn X g2 H2 k2 → lv_has ls 4 [(0, .ref h0), (1, .int p1)] → W p l e rm_lineTurn s m args below meth c H2 k2 0 0 Q (F0 m 34 ls []) := by
    intro  g2 H2 k2 ls hF2 L2  hl
    refine lv_aload_n hx hb dX12_lineTurn_34 rfl (lv_at hl 0 rfl) ?_
    refine m_geta x L2 40 rfl rfl (wm_in uf_107) dX12_lineTurn_35 ?_
    refine lv_iload_n hx hb dX12_lineTurn_38 rfl (lv_at hl 1 rfl) ?_
    refine m_ld x L2 40 rfl rp1 rfl dX12_lineTurn_39 (fun v3 ev3 wv3 => ?_)
    have rv3 : rg (-2147483648) (2147483647) v3 := lj_40 wv3
    have uv3 : (-2147483648 : Int) ≤ v3.toInt ∧ v3.toInt ≤ 2147483647 := rv3
    refine lv_iconst (v := 2) hx hb dX12_lineTurn_40 (by decide) ?_
    refine lv_icmp_eq (tgt := 45) hx hb dX12_lineTurn_41 (by decide) (fun c41_4 => ?_) (fun c41_4 => ?_)
    · skip
      have ic41_4 := congrArg Int32.toInt c41_4
      have y5 : (2 : Int32).toInt = 2 := by decide
      have q6 : rg (2) (2) v3 := (rg_eq c41_4 rv3 kc_2).1
      have uq6 : (2 : Int) ≤ v3.toInt ∧ v3.toInt ≤ 2 := q6
      refine lv_aload_n hx hb dX12_lineTurn_45 rfl (lv_at hl 0 rfl) ?_
      refine m_geta x L2 42 rfl rfl (wm_in uf_113) dX12_lineTurn_46 ?_
      refine lv_iload_n hx hb dX12_lineTurn_49 rfl (lv_at hl 1 rfl) ?_
      refine m_ld x L2 42 rfl rp1 rfl dX12_lineTurn_50 (fun v7 ev7 wv7 => ?_)
      have rv7 : rg (0) (2147483647) v7 := lj_42 wv7
      have uv7 : (0 : Int) ≤ v7.toInt ∧ v7.toInt ≤ 2147483647 := rv7
      have sv7 : v7.toInt = (g 42 p1.toNatClampNeg).toInt := congrArg Int32.toInt (ev7.trans (congrFun ((show mFr [4, 5, 7, 8, 9, 10, 11, 40, 41, 44, 49, 52, 53, 56, 57, 58, 59, 60, 61, 62, 63, 64] g g2 from (mFr.tr mFr.rf hF2 rfl)).at 42 rfl) _))
      refine lv_istore_n (lv' := [(2, .int v7), (0, .ref h0), (1, .int p1)]) hx hb dX12_lineTurn_51 rfl hl (by decide) rfl (fun ls hl => ?_)
      have j52_9 : ∀ (n : Nat) (a52_2_8 : Int32) (g9 : mSt) (H9 : Heap) (k9 : List Loc) (ls : Array Slot), mFr [4, 5, 7, 8, 9, 10, 11, 44, 56, 57, 63, 64] g2 g9 → mL G h0 ad H0 nn X g9 H9 k9 → rg (0) (2147483647) a52_2_8 → lv_has ls 4 [(0, .ref h0), (1, .int p1), (2, .int a52_2_8)] → ((2147483647 : Int) - a52_2_8.toInt).toNat = n → W p l e rm_lineTurn s m args below meth c H9 k9 0 0 Q (F0 m 52 ls []) := by
        intro n
        induction n using Nat.strongRecOn with
        | _ n ih9 =>
          intro a52_2_8 g9 H9 k9 ls hF9 L9 ra52_2_8 hl hn9
          subst hn9
          have ua52_2_8 : (0 : Int) ≤ a52_2_8.toInt ∧ a52_2_8.toInt ≤ 2147483647 := ra52_2_8
          refine lv_iload_n hx hb dX12_lineTurn_52 rfl (lv_at hl 2 rfl) ?_
          refine lv_aload_n hx hb dX12_lineTurn_53 rfl (lv_at hl 0 rfl) ?_
          refine m_geta x L9 41 rfl rfl (wm_in uf_110) dX12_lineTurn_54 ?_
          refine lv_iload_n hx hb dX12_lineTurn_57 rfl (lv_at hl 1 rfl) ?_
          refine m_ld x L9 41 rfl rp1 rfl dX12_lineTurn_58 (fun v10 ev10 wv10 => ?_)
          have rv10 : rg (0) (2147483647) v10 := lj_41 wv10
          have uv10 : (0 : Int) ≤ v10.toInt ∧ v10.toInt ≤ 2147483647 := rv10
          refine lv_icmp_ge (tgt := 91) hx hb dX12_lineTurn_59 (by decide) (fun c59_11 => ?_) (fun c59_11 => ?_)
          · skip
            have ic59_11 := Int32.le_iff_toInt_le.mp c59_11
            have j91_12 : ∀ (n : Nat) (g12 : mSt) (H12 : Heap) (k12 : List Loc) (ls : Array Slot), mFr [4, 5, 7, 8, 9, 10, 11, 41, 44, 56, 57, 58, 59, 60, 61, 62, 63, 64] g9 g12 → mL G h0 ad H0 nn X g12 H12 k12 → rg (0) (10) (g12 60 p1.toNatClampNeg) → lv_has ls 4 [(0, .ref h0), (1, .int p1)] → ((g12 60 p1.toNatClampNeg)).toInt.toNat = n → W p l e rm_lineTurn s m args below meth c H12 k12 0 0 Q (F0 m 91 ls []) := by
              intro n
              induction n using Nat.strongRecOn with
              | _ n ih12 =>
                intro  g12 H12 k12 ls hF12 L12  hm12_0 hl hn12
                subst hn12
                obtain ⟨z12_0, ez12_0⟩ : ∃ y : Int32, y = g12 60 p1.toNatClampNeg := ⟨_, rfl⟩
                have rz12_0 : rg (0) (10) z12_0 := rg_eqv ez12_0.symm hm12_0
                have uz12_0 : (0 : Int) ≤ z12_0.toInt ∧ z12_0.toInt ≤ 10 := rz12_0
                have sz12_0 := congrArg Int32.toInt ez12_0
                refine lv_aload_n hx hb dX12_lineTurn_91 rfl (lv_at hl 0 rfl) ?_
                refine m_geta x L12 41 rfl rfl (wm_in uf_110) dX12_lineTurn_92 ?_
                refine lv_iload_n hx hb dX12_lineTurn_95 rfl (lv_at hl 1 rfl) ?_
                refine m_ld x L12 41 rfl rp1 rfl dX12_lineTurn_96 (fun v13 ev13 wv13 => ?_)
                have rv13 : rg (0) (2147483647) v13 := lj_41 wv13
                have uv13 : (0 : Int) ≤ v13.toInt ∧ v13.toInt ≤ 2147483647 := rv13
                refine lv_aload_n hx hb dX12_lineTurn_97 rfl (lv_at hl 0 rfl) ?_
                refine m_geta x L12 43 rfl rfl (wm_in uf_116) dX12_lineTurn_98 ?_
                refine lv_iload_n hx hb dX12_lineTurn_101 rfl (lv_at hl 1 rfl) ?_
                refine m_ld x L12 43 rfl rp1 rfl dX12_lineTurn_102 (fun v14 ev14 wv14 => ?_)
                have rv14 : rg (-2147483648) (2147483647) v14 := lj_43 wv14
                have uv14 : (-2147483648 : Int) ≤ v14.toInt ∧ v14.toInt ≤ 2147483647 := rv14
                have sv14 : v14.toInt = (g 43 p1.toNatClampNeg).toInt := congrArg Int32.toInt (ev14.trans (congrFun ((show mFr [4, 5, 7, 8, 9, 10, 11, 40, 41, 44, 49, 52, 53, 56, 57, 58, 59, 60, 61, 62, 63, 64] g g12 from (mFr.tr (mFr.tr (mFr.tr mFr.rf hF2 rfl) hF9 rfl) hF12 rfl)).at 43 rfl) _))
                have j217_15 : ∀ (g15 : mSt) (H15 : Heap) (k15 : List Loc) (ls : Array Slot), mFr [] g12 g15 → mL G h0 ad H0 nn X g15 H15 k15 → lv_has ls 4 [(0, .ref h0)] → W p l e rm_lineTurn s m args below meth c H15 k15 0 0 Q (F0 m 217 ls []) := by
                  intro  g15 H15 k15 ls hF15 L15  hl
                  exact hQ _ _ _ _ _ dX12_lineTurn_217 L15 ⟨(mFr.tr (mFr.tr (mFr.tr (mFr.tr mFr.rf hF2 rfl) hF9 rfl) hF12 rfl) hF15 rfl), trivial⟩
                refine lv_icmp_ge (tgt := 217) hx hb dX12_lineTurn_103 (by decide) (fun c103_16 => ?_) (fun c103_16 => ?_)
                · skip
                  have ic103_16 := Int32.le_iff_toInt_le.mp c103_16
                  exact j217_15  g12 _ _ ls mFr.rf L12  (lv_sub hl [0] rfl)
                · skip
                  have ic103_16 := Int32.lt_iff_toInt_lt.mp (rg_nle c103_16)
                  have q17 : rg (0) (2147483646) v13 := (rg_lt (rg_nle c103_16) rv13 rv14).1
                  have uq17 : (0 : Int) ≤ v13.toInt ∧ v13.toInt ≤ 2147483646 := q17
                  have q18 : rg (1) (2147483647) v14 := (rg_lt (rg_nle c103_16) rv13 rv14).2
                  have uq18 : (1 : Int) ≤ v14.toInt ∧ v14.toInt ≤ 2147483647 := q18
                  refine lv_aload_n hx hb dX12_lineTurn_106 rfl (lv_at hl 0 rfl) ?_
                  refine m_geta x L12 60 rfl rfl (wm_in uf_168) dX12_lineTurn_107 ?_
                  refine lv_iload_n hx hb dX12_lineTurn_110 rfl (lv_at hl 1 rfl) ?_
                  refine m_ld x L12 60 rfl rp1 rfl dX12_lineTurn_111 (fun v19 ev19 wv19 => ?_)
                  refine m_top ((ez12_0).trans ev19.symm) ?_
                  refine lv_if_le (tgt := 217) hx hb dX12_lineTurn_112 (by decide) (fun c112_20 => ?_) (fun c112_20 => ?_)
                  · skip
                    have ic112_20 := Int32.le_iff_toInt_le.mp c112_20
                    have q21 : rg (0) (0) z12_0 := (rg_le c112_20 rz12_0 kc_0).1
                    have uq21 : (0 : Int) ≤ z12_0.toInt ∧ z12_0.toInt ≤ 0 := q21
                    exact j217_15  g12 _ _ ls mFr.rf L12  (lv_sub hl [0] rfl)
                  · skip
                    have ic112_20 := Int32.lt_iff_toInt_lt.mp (rg_nle c112_20)
                    have q22 : rg (1) (10) z12_0 := (rg_lt (rg_nle c112_20) kc_0 rz12_0).2
                    have uq22 : (1 : Int) ≤ z12_0.toInt ∧ z12_0.toInt ≤ 10 := q22
                    refine lv_bipush (v := 8) hx hb dX12_lineTurn_115 (by decide) ?_
                    refine lv_iload_n hx hb dX12_lineTurn_117 rfl (lv_at hl 1 rfl) ?_
                    refine lv_imul hx hb dX12_lineTurn_118 ?_
                    refine lv_topi (fun v23 ev23 => ?_)
                    have rv23 : rg (0) (56) v23 := (rg_mulL ev23 kc_8 rp1 rfl).1
                    have tv23 := (rg_mulL ev23 kc_8 rp1 rfl).2
                    have y24 : (8 : Int32).toInt = 8 := by decide
                    have b16v23 : v23.toInt < 16 * nn := by have := np1; have : (8 : Int32).toInt = 8 := (by decide); omega
                    have uv23 : (0 : Int) ≤ v23.toInt ∧ v23.toInt ≤ 56 := rv23
                    refine lv_aload_n hx hb dX12_lineTurn_119 rfl (lv_at hl 0 rfl) ?_
                    refine m_geta x L12 41 rfl rfl (wm_in uf_110) dX12_lineTurn_120 ?_
                    refine lv_iload_n hx hb dX12_lineTurn_123 rfl (lv_at hl 1 rfl) ?_
                    refine m_ld x L12 41 rfl rp1 rfl dX12_lineTurn_124 (fun v25 ev25 wv25 => ?_)
                    refine m_top ((ev13).trans ev25.symm) ?_
                    refine lv_bipush (v := 8) hx hb dX12_lineTurn_125 (by decide) ?_
                    refine lv_irem hx hb dX12_lineTurn_127 (by decide) ?_
                    refine lv_topi (fun v26 ev26 => ?_)
                    have rv26 : rg (0) (7) v26 := (rg_rem ev26 q17 kc_8 rfl).1
                    have tv26 := (rg_rem ev26 q17 kc_8 rfl).2
                    have y27 : (8 : Int32).toInt = 8 := by decide
                    have uv26 : (0 : Int) ≤ v26.toInt ∧ v26.toInt ≤ 7 := rv26
                    refine lv_iadd hx hb dX12_lineTurn_128 ?_
                    refine lv_topi (fun v28 ev28 => ?_)
                    have rv28 : rg (0) (63) v28 := (rg_add ev28 rv23 rv26 rfl).1
                    have tv28 := (rg_add ev28 rv23 rv26 rfl).2
                    have uv28 : (0 : Int) ≤ v28.toInt ∧ v28.toInt ≤ 63 := rv28
                    refine lv_istore_n (lv' := [(2, .int v28), (0, .ref h0), (1, .int p1)]) hx hb dX12_lineTurn_129 rfl hl (by decide) rfl (fun ls hl => ?_)
                    refine lv_aload_n hx hb dX12_lineTurn_130 rfl (lv_at hl 1 rfl) ?_
                    refine m_geta x L12 62 rfl rfl (wm_in uf_174) dX12_lineTurn_131 ?_
                    refine lv_iload_n hx hb dX12_lineTurn_134 rfl (lv_at hl 0 rfl) ?_
                    refine lv_aload_n hx hb dX12_lineTurn_135 rfl (lv_at hl 1 rfl) ?_
                    refine m_geta x L12 59 rfl rfl (wm_in uf_165) dX12_lineTurn_136 ?_
                    refine lv_bipush (v := 10) hx hb dX12_lineTurn_139 (by decide) ?_
                    refine lv_iload_n hx hb dX12_lineTurn_141 rfl (lv_at hl 2 rfl) ?_
                    refine lv_imul hx hb dX12_lineTurn_142 ?_
                    refine lv_topi (fun v29 ev29 => ?_)
                    have rv29 : rg (0) (70) v29 := (rg_mulL ev29 kc_10 rp1 rfl).1
                    have tv29 := (rg_mulL ev29 kc_10 rp1 rfl).2
                    have y30 : (10 : Int32).toInt = 10 := by decide
                    have b20v29 : v29.toInt < 20 * nn := by have := np1; have : (10 : Int32).toInt = 10 := (by decide); omega
                    have uv29 : (0 : Int) ≤ v29.toInt ∧ v29.toInt ≤ 70 := rv29
                    refine m_ld x L12 59 rfl rv29 rfl dX12_lineTurn_143 (fun v31 ev31 wv31 => ?_)
                    have rv31 : rg (0) (60) v31 := lj_59 wv31
                    have uv31 : (0 : Int) ≤ v31.toInt ∧ v31.toInt ≤ 60 := rv31
                    refine m_st x L12 62 rfl rv28 rfl (rj_62 (rg_w rv31 rfl)) dX12_lineTurn_144 (fun g32 H32 k32 eg32 L32 => ?_)
                    refine lv_iconst (v := 0) hx hb dX12_lineTurn_145 (by decide) ?_
                    refine lv_istore_n (lv' := [(3, .int (0 : Int32)), (2, .int v28), (0, .ref h0), (1, .int p1)]) hx hb dX12_lineTurn_146 rfl hl (by decide) rfl (fun ls hl => ?_)
                    have j147_34 : ∀ (n : Nat) (a147_3_33 : Int32) (g34 : mSt) (H34 : Heap) (k34 : List Loc) (ls : Array Slot), mFr [61] g32 g34 → mL G h0 ad H0 nn X g34 H34 k34 → rg (0) (60) a147_3_33 → lv_has ls 4 [(0, .ref h0), (1, .int p1), (2, .int v28), (3, .int a147_3_33)] → ((60 : Int) - a147_3_33.toInt).toNat = n → W p l e rm_lineTurn s m args below meth c H34 k34 0 0 Q (F0 m 147 ls []) := by
                      intro n
                      induction n using Nat.strongRecOn with
                      | _ n ih34 =>
                        intro a147_3_33 g34 H34 k34 ls hF34 L34 ra147_3_33 hl hn34
                        subst hn34
                        have ua147_3_33 : (0 : Int) ≤ a147_3_33.toInt ∧ a147_3_33.toInt ≤ 60 := ra147_3_33
                        refine lv_iload_n hx hb dX12_lineTurn_147 rfl (lv_at hl 3 rfl) ?_
                        refine lv_aload_n hx hb dX12_lineTurn_148 rfl (lv_at hl 0 rfl) ?_
                        refine m_geta x L34 62 rfl rfl (wm_in uf_174) dX12_lineTurn_149 ?_
                        refine lv_iload_n hx hb dX12_lineTurn_152 rfl (lv_at hl 2 rfl) ?_
                        refine m_ld x L34 62 rfl rv28 rfl dX12_lineTurn_153 (fun v35 ev35 wv35 => ?_)
                        refine m_top (((mm_fr (mm_st eg32) hF34 rfl)).trans ev35.symm) ?_
                        refine lv_icmp_ge (tgt := 186) hx hb dX12_lineTurn_154 (by decide) (fun c154_36 => ?_) (fun c154_36 => ?_)
                        · skip
                          have ic154_36 := Int32.le_iff_toInt_le.mp c154_36
                          refine lv_aload_n hx hb dX12_lineTurn_186 rfl (lv_at hl 0 rfl) ?_
                          refine lv_iload_n hx hb dX12_lineTurn_187 rfl (lv_at hl 1 rfl) ?_
                          refine m_cv (As := [.int p1]) (rest := []) x hml L34 (c_dropWaiting l nn X g34 p1 hnn hX (rg_w rp1 rfl) (rg_eqv (mm_fr (mm_up ez12_0 eg32 rfl) hF34 rfl) (rg_w q22 rfl))) (wm_V uc_dropWaiting ul_457 ui_dropWaiting us_dropWaiting u_init) rfl ⟨rfl, rfl⟩ hd_dropWaiting ⟨Nat.le_of_ble_eq_true rfl, Nat.le_of_ble_eq_true rfl⟩ rfl hl.1 rfl (lv_room (Nat.le_of_ble_eq_true rfl)) dX12_lineTurn_188 (fun  g37 H37 k37 hp37 L37 => ?_)
                          obtain ⟨v38, ev38⟩ : ∃ y : Int32, y = g37 60 p1.toNatClampNeg := ⟨_, rfl⟩
                          have rv38 : rg (0) (9) v38 := rg_rel (mm_fr (mm_up ez12_0 eg32 rfl) hF34 rfl) ev38 q22 hp37.2 rfl
                          have hv38 := rel_conv (mm_fr (mm_up ez12_0 eg32 rfl) hF34 rfl) ev38 hp37.2
                          have uv38 : (0 : Int) ≤ v38.toInt ∧ v38.toInt ≤ 9 := rv38
                          refine lv_aload_n hx hb dX12_lineTurn_191 rfl (lv_at hl 0 rfl) ?_
                          refine m_geta x L37 41 rfl rfl (wm_in uf_110) dX12_lineTurn_192 ?_
                          refine lv_iload_n hx hb dX12_lineTurn_195 rfl (lv_at hl 1 rfl) ?_
                          refine lv_dup2_11 hx hb dX12_lineTurn_196 rfl rfl ?_
                          refine m_ld x L37 41 rfl rp1 rfl dX12_lineTurn_197 (fun v39 ev39 wv39 => ?_)
                          refine m_top (((mm_fr (mm_fr (mm_up ev13 eg32 rfl) hF34 rfl) hp37.1 rfl)).trans ev39.symm) ?_
                          refine lv_iconst (v := 1) hx hb dX12_lineTurn_198 (by decide) ?_
                          refine lv_iadd hx hb dX12_lineTurn_199 ?_
                          refine lv_topi (fun v40 ev40 => ?_)
                          have rv40 : rg (1) (2147483647) v40 := (rg_add ev40 q17 kc_1 rfl).1
                          have tv40 := (rg_add ev40 q17 kc_1 rfl).2
                          have y41 : (1 : Int32).toInt = 1 := by decide
                          have uv40 : (1 : Int) ≤ v40.toInt ∧ v40.toInt ≤ 2147483647 := rv40
                          refine m_st x L37 41 rfl rp1 rfl (rj_41 (rg_w rv40 rfl)) dX12_lineTurn_200 (fun g42 H42 k42 eg42 L42 => ?_)
                          refine lv_aload_n hx hb dX12_lineTurn_201 rfl (lv_at hl 0 rfl) ?_
                          refine lv_iload_n hx hb dX12_lineTurn_202 rfl (lv_at hl 1 rfl) ?_
                          refine lv_aload_n hx hb dX12_lineTurn_203 rfl (lv_at hl 0 rfl) ?_
                          refine m_geta x L42 41 rfl rfl (wm_in uf_110) dX12_lineTurn_204 ?_
                          refine lv_iload_n hx hb dX12_lineTurn_207 rfl (lv_at hl 1 rfl) ?_
                          refine m_ld x L42 41 rfl rp1 rfl dX12_lineTurn_208 (fun v43 ev43 wv43 => ?_)
                          refine m_top (((mm_st eg42)).trans ev43.symm) ?_
                          refine lv_iconst (v := 1) hx hb dX12_lineTurn_209 (by decide) ?_
                          refine lv_isub hx hb dX12_lineTurn_210 ?_
                          refine lv_topi (fun v44 ev44 => ?_)
                          have rv44 : rg (0) (2147483646) v44 := (rg_sub ev44 rv40 kc_1 rfl).1
                          have tv44 := (rg_sub ev44 rv40 kc_1 rfl).2
                          have y45 : (1 : Int32).toInt = 1 := by decide
                          have uv44 : (0 : Int) ≤ v44.toInt ∧ v44.toInt ≤ 2147483646 := rv44
                          refine m_cv (As := [.int p1, .int v44]) (rest := []) x hml L42 (c_sendData l nn X g42 p1 v44 hnn hX (rg_w rp1 rfl) np1 (rg_w rv44 rfl)) (wm_V uc_sendData ul_454 ui_sendData us_sendData u_init) rfl ⟨rfl, rfl⟩ hd_sendData ⟨Nat.le_of_ble_eq_true rfl, Nat.le_of_ble_eq_true rfl⟩ rfl hl.1 rfl (lv_room (Nat.le_of_ble_eq_true rfl)) dX12_lineTurn_211 (fun  g46 H46 k46 hp46 L46 => ?_)
                          refine lv_goto (tgt := 91) hx hb dX12_lineTurn_214 (by decide) ?_
                          have y47 := congrArg Int32.toInt (mm_fr (mm_up ev38 eg42 rfl) hp46.1 rfl)
                          exact ih12 _ (by omega)  g46 _ _ ls (mFr.tr (mFr.upE (mFr.tr (mFr.tr (mFr.upE hF12 eg32 rfl) hF34 rfl) hp37.1 rfl) eg42 rfl) hp46.1 rfl) L46 (rg_eqv (mm_fr (mm_up ev38 eg42 rfl) hp46.1 rfl) (rg_w rv38 rfl)) (lv_sub hl [0, 1] rfl) rfl
                        · skip
                          have ic154_36 := Int32.lt_iff_toInt_lt.mp (rg_nle c154_36)
                          have q48 : rg (0) (59) a147_3_33 := (rg_lt (rg_nle c154_36) ra147_3_33 rv31).1
                          have uq48 : (0 : Int) ≤ a147_3_33.toInt ∧ a147_3_33.toInt ≤ 59 := q48
                          have q49 : rg (1) (60) v31 := (rg_lt (rg_nle c154_36) ra147_3_33 rv31).2
                          have uq49 : (1 : Int) ≤ v31.toInt ∧ v31.toInt ≤ 60 := q49
                          refine lv_aload_n hx hb dX12_lineTurn_157 rfl (lv_at hl 0 rfl) ?_
                          refine m_geta x L34 61 rfl rfl (wm_in uf_171) dX12_lineTurn_158 ?_
                          refine lv_bipush (v := 60) hx hb dX12_lineTurn_161 (by decide) ?_
                          refine lv_iload_n hx hb dX12_lineTurn_163 rfl (lv_at hl 2 rfl) ?_
                          refine lv_imul hx hb dX12_lineTurn_164 ?_
                          refine lv_topi (fun v50 ev50 => ?_)
                          have rv50 : rg (0) (3780) v50 := (rg_mulL ev50 kc_60 rv28 rfl).1
                          have tv50 := (rg_mulL ev50 kc_60 rv28 rfl).2
                          have y51 : (60 : Int32).toInt = 60 := by decide
                          have uv50 : (0 : Int) ≤ v50.toInt ∧ v50.toInt ≤ 3780 := rv50
                          refine lv_iload_n hx hb dX12_lineTurn_165 rfl (lv_at hl 3 rfl) ?_
                          refine lv_iadd hx hb dX12_lineTurn_166 ?_
                          refine lv_topi (fun v52 ev52 => ?_)
                          have rv52 : rg (0) (3839) v52 := (rg_add ev52 rv50 q48 rfl).1
                          have tv52 := (rg_add ev52 rv50 q48 rfl).2
                          have uv52 : (0 : Int) ≤ v52.toInt ∧ v52.toInt ≤ 3839 := rv52
                          refine lv_aload_n hx hb dX12_lineTurn_167 rfl (lv_at hl 0 rfl) ?_
                          refine m_geta x L34 58 rfl rfl (wm_in uf_162) dX12_lineTurn_168 ?_
                          refine lv_sipush (v := 600) hx hb dX12_lineTurn_171 (by decide) ?_
                          refine lv_iload_n hx hb dX12_lineTurn_174 rfl (lv_at hl 1 rfl) ?_
                          refine lv_imul hx hb dX12_lineTurn_175 ?_
                          refine lv_topi (fun v53 ev53 => ?_)
                          have rv53 : rg (0) (4200) v53 := (rg_mulL ev53 kc_600 rp1 rfl).1
                          have tv53 := (rg_mulL ev53 kc_600 rp1 rfl).2
                          have y54 : (600 : Int32).toInt = 600 := by decide
                          have b1200v53 : v53.toInt < 1200 * nn := by have := np1; have : (600 : Int32).toInt = 600 := (by decide); omega
                          have uv53 : (0 : Int) ≤ v53.toInt ∧ v53.toInt ≤ 4200 := rv53
                          refine lv_iload_n hx hb dX12_lineTurn_176 rfl (lv_at hl 3 rfl) ?_
                          refine lv_iadd hx hb dX12_lineTurn_177 ?_
                          refine lv_topi (fun v55 ev55 => ?_)
                          have rv55 : rg (0) (4259) v55 := (rg_add ev55 rv53 q48 rfl).1
                          have tv55 := (rg_add ev55 rv53 q48 rfl).2
                          have uv55 : (0 : Int) ≤ v55.toInt ∧ v55.toInt ≤ 4259 := rv55
                          refine m_ld x L34 58 rfl rv55 rfl dX12_lineTurn_178 (fun v56 ev56 wv56 => ?_)
                          have rv56 : rg (-2147483648) (2147483647) v56 := lj_58 wv56
                          have uv56 : (-2147483648 : Int) ≤ v56.toInt ∧ v56.toInt ≤ 2147483647 := rv56
                          refine m_st x L34 61 rfl rv52 rfl (rj_61 (rg_any v56)) dX12_lineTurn_179 (fun g57 H57 k57 eg57 L57 => ?_)
                          obtain ⟨v58, ev58, fv58⟩ := inc_ex a147_3_33 (1) (1 : Int32) (by decide)
                          have rv58 : rg (1) (60) v58 := (rg_add ev58 q48 kc_1 rfl).1
                          have tv58 := (rg_add ev58 q48 kc_1 rfl).2
                          have yv58 : (1 : Int32).toInt = 1 := by decide
                          refine lv_iinc (v := v58) (lv' := [(3, .int v58), (0, .ref h0), (1, .int p1), (2, .int v28)]) hx hb dX12_lineTurn_180 hl (k := 3) rfl fv58 (by decide) rfl (fun ls hl => ?_)
                          refine lv_goto (tgt := 147) hx hb dX12_lineTurn_183 (by decide) ?_
                          exact ih34 _ (ms_up tv58 kc_1 q48 rfl rfl) v58 g57 _ _ ls (mFr.upE hF34 eg57 rfl) L57 (rg_w rv58 rfl) (lv_sub hl [1, 2, 3, 0] rfl) rfl
                    have y59 : (0 : Int32).toInt = 0 := by decide
                    exact j147_34 _ (0 : Int32) g32 _ _ ls mFr.rf L32 (rg_w kc_0 rfl) (lv_sub hl [2, 3, 1, 0] rfl) rfl
            exact j91_12 _  g9 _ _ ls mFr.rf L9 (rg_w (lj_60 (L9.2.2 60 p1.toNatClampNeg)) rfl) (lv_sub hl [0, 1] rfl) rfl
          · skip
            have ic59_11 := Int32.lt_iff_toInt_lt.mp (rg_nle c59_11)
            have q60 : rg (0) (2147483646) a52_2_8 := (rg_lt (rg_nle c59_11) ra52_2_8 rv10).1
            have uq60 : (0 : Int) ≤ a52_2_8.toInt ∧ a52_2_8.toInt ≤ 2147483646 := q60
            have q61 : rg (1) (2147483647) v10 := (rg_lt (rg_nle c59_11) ra52_2_8 rv10).2
            have uq61 : (1 : Int) ≤ v10.toInt ∧ v10.toInt ≤ 2147483647 := q61
            refine lv_aload_n hx hb dX12_lineTurn_62 rfl (lv_at hl 0 rfl) ?_
            refine m_geta x L9 64 rfl rfl (wm_in uf_180) dX12_lineTurn_63 ?_
            refine lv_bipush (v := 8) hx hb dX12_lineTurn_66 (by decide) ?_
            refine lv_iload_n hx hb dX12_lineTurn_68 rfl (lv_at hl 1 rfl) ?_
            refine lv_imul hx hb dX12_lineTurn_69 ?_
            refine lv_topi (fun v62 ev62 => ?_)
            have rv62 : rg (0) (56) v62 := (rg_mulL ev62 kc_8 rp1 rfl).1
            have tv62 := (rg_mulL ev62 kc_8 rp1 rfl).2
            have y63 : (8 : Int32).toInt = 8 := by decide
            have b16v62 : v62.toInt < 16 * nn := by have := np1; have : (8 : Int32).toInt = 8 := (by decide); omega
            have uv62 : (0 : Int) ≤ v62.toInt ∧ v62.toInt ≤ 56 := rv62
            refine lv_iload_n hx hb dX12_lineTurn_70 rfl (lv_at hl 2 rfl) ?_
            refine lv_bipush (v := 8) hx hb dX12_lineTurn_71 (by decide) ?_
            refine lv_irem hx hb dX12_lineTurn_73 (by decide) ?_
            refine lv_topi (fun v64 ev64 => ?_)
            have rv64 : rg (0) (7) v64 := (rg_rem ev64 q60 kc_8 rfl).1
            have tv64 := (rg_rem ev64 q60 kc_8 rfl).2
            have y65 : (8 : Int32).toInt = 8 := by decide
            have uv64 : (0 : Int) ≤ v64.toInt ∧ v64.toInt ≤ 7 := rv64
            refine lv_iadd hx hb dX12_lineTurn_74 ?_
            refine lv_topi (fun v66 ev66 => ?_)
            have rv66 : rg (0) (63) v66 := (rg_add ev66 rv62 rv64 rfl).1
            have tv66 := (rg_add ev66 rv62 rv64 rfl).2
            have uv66 : (0 : Int) ≤ v66.toInt ∧ v66.toInt ≤ 63 := rv66
            refine m_ldz x L9 64 rfl rv66 rfl dX12_lineTurn_75 (fun v67 ev67 wv67 => ?_)
            have rv67 : rg (0) (1) v67 := lj_64 wv67
            have uv67 : (0 : Int) ≤ v67.toInt ∧ v67.toInt ≤ 1 := rv67
            have j85_68 : ∀ (g68 : mSt) (H68 : Heap) (k68 : List Loc) (ls : Array Slot), mFr [4, 5, 7, 8, 9, 10, 11, 44, 56, 57, 63, 64] g9 g68 → mL G h0 ad H0 nn X g68 H68 k68 → lv_has ls 4 [(0, .ref h0), (1, .int p1), (2, .int a52_2_8)] → W p l e rm_lineTurn s m args below meth c H68 k68 0 0 Q (F0 m 85 ls []) := by
              intro  g68 H68 k68 ls hF68 L68  hl
              obtain ⟨v69, ev69, fv69⟩ := inc_ex a52_2_8 (1) (1 : Int32) (by decide)
              have rv69 : rg (1) (2147483647) v69 := (rg_add ev69 q60 kc_1 rfl).1
              have tv69 := (rg_add ev69 q60 kc_1 rfl).2
              have yv69 : (1 : Int32).toInt = 1 := by decide
              refine lv_iinc (v := v69) (lv' := [(2, .int v69), (0, .ref h0), (1, .int p1)]) hx hb dX12_lineTurn_85 hl (k := 2) rfl fv69 (by decide) rfl (fun ls hl => ?_)
              refine lv_goto (tgt := 52) hx hb dX12_lineTurn_88 (by decide) ?_
              exact ih9 _ (ms_up tv69 kc_1 q60 rfl rfl) v69 g68 _ _ ls (mFr.tr hF9 hF68 rfl) L68 (rg_w rv69 rfl) (lv_sub hl [1, 2, 0] rfl) rfl
            refine lv_if_eq (tgt := 85) hx hb dX12_lineTurn_76 (by decide) (fun c76_70 => ?_) (fun c76_70 => ?_)
            · skip
              have ic76_70 := congrArg Int32.toInt c76_70
              have y71 : (0 : Int32).toInt = 0 := by decide
              have q72 : rg (0) (0) v67 := (rg_eq c76_70 rv67 kc_0).1
              have uq72 : (0 : Int) ≤ v67.toInt ∧ v67.toInt ≤ 0 := q72
              exact j85_68  g9 _ _ ls mFr.rf L9  (lv_sub hl [0, 1, 2] rfl)
            · skip
              have ic76_70 : v67.toInt ≠ (0 : Int32).toInt := fun z => c76_70 (Int32.toInt_inj.mp z)
              have y73 : (0 : Int32).toInt = 0 := by decide
              have q74 : rg (1) (1) v67 := rg_neL c76_70 rv67 kc_0
              have uq74 : (1 : Int) ≤ v67.toInt ∧ v67.toInt ≤ 1 := q74
              refine lv_aload_n hx hb dX12_lineTurn_79 rfl (lv_at hl 0 rfl) ?_
              refine lv_iload_n hx hb dX12_lineTurn_80 rfl (lv_at hl 1 rfl) ?_
              refine lv_iload_n hx hb dX12_lineTurn_81 rfl (lv_at hl 2 rfl) ?_
              refine m_cv (As := [.int p1, .int a52_2_8]) (rest := []) x hml L9 (c_sendData l nn X g9 p1 a52_2_8 hnn hX (rg_w rp1 rfl) np1 (rg_w q60 rfl)) (wm_V uc_sendData ul_454 ui_sendData us_sendData u_init) rfl ⟨rfl, rfl⟩ hd_sendData ⟨Nat.le_of_ble_eq_true rfl, Nat.le_of_ble_eq_true rfl⟩ rfl hl.1 rfl (lv_room (Nat.le_of_ble_eq_true rfl)) dX12_lineTurn_82 (fun  g75 H75 k75 hp75 L75 => ?_)
              exact j85_68  g75 _ _ ls (mFr.tr mFr.rf hp75.1 rfl) L75  (lv_sub hl [0, 1, 2] rfl)
      exact j52_9 _ v7 g2 _ _ ls mFr.rf L2 (rg_w rv7 rfl) (lv_sub hl [1, 2, 0] rfl) rfl
    · skip
      have ic41_4 : v3.toInt ≠ (2 : Int32).toInt := fun z => c41_4 (Int32.toInt_inj.mp z)
      have y76 : (2 : Int32).toInt = 2 := by decide
      exact hQ _ _ _ _ _ dX12_lineTurn_44 L2 ⟨(mFr.tr mFr.rf hF2 rfl), trivial⟩
  refine lv_if_ne (tgt := 34) hx hb dX12_lineTurn_6 (by decide) (fun c6_77 => ?_) (fun c6_77 => ?_)
  · skip
    have ic6_77 : v1.toInt ≠ (0 : Int32).toInt := fun z => c6_77 (Int32.toInt_inj.mp z)
    have y78 : (0 : Int32).toInt = 0 := by decide
    exact j34_2  g _ _ ls mFr.rf L  (lv_sub hl [0, 1] rfl)
  · skip
    have ic6_77 := congrArg Int32.toInt c6_77
    have y79 : (0 : Int32).toInt = 0 := by decide
    have q80 : rg (0) (0) v1 := (rg_eq c6_77 rv1 kc_0).1
    have uq80 : (0 : Int) ≤ v1.toInt ∧ v1.toInt ≤ 0 := q80
    refine lv_aload_n hx hb dX12_lineTurn_9 rfl (lv_at hl 0 rfl) ?_
    refine m_geta x L 60 rfl rfl (wm_in uf_168) dX12_lineTurn_10 ?_
    refine lv_iload_n hx hb dX12_lineTurn_13 rfl (lv_at hl 1 rfl) ?_
    refine m_ld x L 60 rfl rp1 rfl dX12_lineTurn_14 (fun v81 ev81 wv81 => ?_)
    have rv81 : rg (0) (10) v81 := lj_60 wv81
    have uv81 : (0 : Int) ≤ v81.toInt ∧ v81.toInt ≤ 10 := rv81
    refine lv_if_le (tgt := 34) hx hb dX12_lineTurn_15 (by decide) (fun c15_82 => ?_) (fun c15_82 => ?_)
    · skip
      have ic15_82 := Int32.le_iff_toInt_le.mp c15_82
      have q83 : rg (0) (0) v81 := (rg_le c15_82 rv81 kc_0).1
      have uq83 : (0 : Int) ≤ v81.toInt ∧ v81.toInt ≤ 0 := q83
      exact j34_2  g _ _ ls mFr.rf L  (lv_sub hl [0, 1] rfl)
    · skip
      have ic15_82 := Int32.lt_iff_toInt_lt.mp (rg_nle c15_82)
      have q84 : rg (1) (10) v81 := (rg_lt (rg_nle c15_82) kc_0 rv81).2
      have uq84 : (1 : Int) ≤ v81.toInt ∧ v81.toInt ≤ 10 := q84
      refine lv_aload_n hx hb dX12_lineTurn_18 rfl (lv_at hl 0 rfl) ?_
      refine m_geta x L 49 rfl rfl (wm_in uf_134) dX12_lineTurn_19 ?_
      refine lv_iload_n hx hb dX12_lineTurn_22 rfl (lv_at hl 1 rfl) ?_
      refine lv_dup2_11 hx hb dX12_lineTurn_23 rfl rfl ?_
      refine m_ld x L 49 rfl rp1 rfl dX12_lineTurn_24 (fun v85 ev85 wv85 => ?_)
      have rv85 : rg (-2147483648) (2147483647) v85 := lj_49 wv85
      have uv85 : (-2147483648 : Int) ≤ v85.toInt ∧ v85.toInt ≤ 2147483647 := rv85
      refine lv_iconst (v := 1) hx hb dX12_lineTurn_25 (by decide) ?_
      refine lv_iadd hx hb dX12_lineTurn_26 ?_
      refine lv_topi (fun v86 ev86 => ?_)
      have rv86 : rg (-2147483648) (2147483647) v86 := rg_any v86
      have uv86 : (-2147483648 : Int) ≤ v86.toInt ∧ v86.toInt ≤ 2147483647 := rv86
      refine m_st x L 49 rfl rp1 rfl (rj_49 (rg_any v86)) dX12_lineTurn_27 (fun g87 H87 k87 eg87 L87 => ?_)
      refine lv_aload_n hx hb dX12_lineTurn_28 rfl (lv_at hl 0 rfl) ?_
      refine lv_iload_n hx hb dX12_lineTurn_29 rfl (lv_at hl 1 rfl) ?_
      refine lv_iconst (v := 1) hx hb dX12_lineTurn_30 (by decide) ?_
      refine m_cv (As := [.int p1, .int (1 : Int32)]) (rest := []) x hml L87 (c_ask l nn X g87 p1 (1 : Int32) hnn hX (rg_w rp1 rfl) np1) (wm_V uc_ask ul_403 ui_ask us_ask u_init) rfl ⟨rfl, rfl⟩ hd_ask ⟨Nat.le_of_ble_eq_true rfl, Nat.le_of_ble_eq_true rfl⟩ rfl hl.1 rfl (lv_room (Nat.le_of_ble_eq_true rfl)) dX12_lineTurn_31 (fun  g88 H88 k88 hp88 L88 => ?_)
      exact j34_2  g88 _ _ ls (mFr.tr (mFr.upE mFr.rf eg87 rfl) hp88.1 rfl) L88  (lv_sub hl [0, 1] rfl)
theorem c_lineTurn (l : Launch) {G : mG} {h0 : Nat} {ad : Nat → Nat} (nn X : Int) (g : mSt) (p1 : Int32) (hnn : 2 ≤ nn ∧ nn ≤ 4) (hX : 0 ≤ X ∧ X ≤ 2000000000) (rp1 : rg (0) (7) p1) (np1 : p1.toInt < 2 * nn) : Met l yX12_lineTurn (wm (Cond.code yX12_lineTurn cX12_lineTurn 4 none)) rm_lineTurn (va_Pc [.ref h0, .int p1] (mPre G h0 ad nn X g)) (mQv G h0 ad nn X (fun g1 => mFr [4, 5, 7, 8, 9, 10, 11, 40, 41, 44, 49, 52, 53, 56, 57, 58, 59, 60, 61, 62, 63, 64] g g1 ∧ True)) 0 0 (mA h0 ad) := by
  refine Met.ofW (cc := cX12_lineTurn) (maxL := 4) (ret := none) (by decide) rfl ?_
  intro p e s m args below meth c s₁ B hml hv
  obtain ⟨rfl, hv⟩ := hv
  have hr := B.returns
  have hlocks := B.notSynchronized
  obtain ⟨x, L⟩ := m_start B rfl wm_X hv
  have hl := lv_entry ([.ref h0, .int p1]) (n := 4) (Nat.le_of_ble_eq_true rfl)
  rw [lg_entry_eq]
  generalize (lg_sl ([.ref h0, .int p1]) ++ List.replicate (4 - (lg_sl ([.ref h0, .int p1])).length) Slot.unset).toArray = ls at hl ⊢
  exact w_lineTurn x hml L hnn hX p1 rp1 np1 hl (fun pc' ls' g1 H1 locs1 hdg L hp => m_vret x L hr hlocks (Int.le_refl _) hp hdg)

def rm_switchCell : Room := { frames := 2, cells := 0, slots := 0, locals := 46 }
theorem hd_switchCell : yX12_switchCell.cls = RX12 ∧ yX12_switchCell.cls ≠ "java/lang/invoke/MethodHandle" ∧ yX12_switchCell.cls ≠ "java/lang/invoke/VarHandle" ∧ (parseMethodDescriptor yX12_switchCell.desc).map (fun d => d.parameters.length) = some 4 := by decide +kernel
set_option maxHeartbeats 4000000 in
set_option maxRecDepth 100000 in
theorem w_switchCell {p : Program} {l : Launch} {e : Env} {s : State} {m : MethodId} {args : Array Value} {below : List Frame} {meth : Method} {c : Code} {H : Heap} {locs : List Loc} {Q : State → Prop} {ls : Array Slot} {G : mG} {h0 : Nat} {ad : Nat → Nat} {g : mSt} {H0 : Heap} {nn X : Int} (x : mX p c cX12_switchCell s args (wm (Cond.code yX12_switchCell cX12_switchCell 8 none)) m G h0 ad) (hml : c.maxLocals = 8) (L : mL G h0 ad H0 nn X g H locs) (hnn : 2 ≤ nn ∧ nn ≤ 4) (hX : 0 ≤ X ∧ X ≤ 2000000000) (p1 : Int32) (p2 : Int32) (p3 : Int32) (p4 : Int32) (rp1 : rg (0) (7) p1) (rp2 : rg (0) (371) p2) (hl : lv_has ls 8 [(0, .ref h0), (1, .int p1), (2, .int p2), (3, .int p3), (4, .int p4)]) (hQ : ∀ (pc' : Nat) (ls' : Array Slot) (g1 : mSt) (H1 : Heap) (locs1 : List Loc), decode cX12_switchCell pc' = .ok (.return_, 1) → mL G h0 ad H0 nn X g1 H1 locs1 → (mFr [5, 7, 8, 9] g g1 ∧ True) → W p l e rm_switchCell s m args below meth c H1 locs1 0 0 Q (F0 m pc' ls' [])) : W p l e rm_switchCell s m args below meth c H locs 0 0 Q (F0 m 0 ls []) := by
  have hx := x.1
  have hb := x.2.1
  refine lv_aload_n hx hb dX12_switchCell_0 rfl (lv_at hl 0 rfl) ?_
  refine lv_aload_n hx hb dX12_switchCell_1 rfl (lv_at hl 0 rfl) ?_
  refine m_geti x L 0 rfl rfl (wm_in uf_260) dX12_switchCell_2 (fun v1 ev1 wv1 => ?_)
  have rv1 : rg 2 4 v1 := rg_nn hnn wv1
  have tv1 : v1.toInt = nn := rg_n0 wv1
  have lv1 : v1.toInt = 1 * nn + 0 := by omega
  refine lv_iload_n hx hb dX12_switchCell_5 rfl (lv_at hl 1 rfl) ?_
  refine lv_iconst (v := 2) hx hb dX12_switchCell_6 (by decide) ?_
  refine lv_idiv hx hb dX12_switchCell_7 (by decide) ?_
  refine lv_topi (fun v2 ev2 => ?_)
  have rv2 : rg (0) (3) v2 := (rg_div ev2 rp1 kc_2 rfl).1
  refine lv_iadd hx hb dX12_switchCell_8 ?_
  refine lv_topi (fun v3 ev3 => ?_)
  have rv3 : rg (2) (7) v3 := (rg_add ev3 rv1 rv2 rfl).1
  have tv3 := (rg_add ev3 rv1 rv2 rfl).2
  refine lv_iload_n hx hb dX12_switchCell_9 rfl (lv_at hl 3 rfl) ?_
  refine m_ci (As := [.int v3, .int p3]) (rest := []) x hml L (c_channelAt l nn X g v3 p3 hnn hX (rg_w rv3 rfl)) (wm_V uc_channelAt ul_366 ui_channelAt us_channelAt u_init) rfl ⟨rfl, rfl⟩ hd_channelAt ⟨Nat.le_of_ble_eq_true rfl, Nat.le_of_ble_eq_true rfl⟩ rfl hl.1 rfl (lv_room (Nat.le_of_ble_eq_true rfl)) dX12_switchCell_10 (fun v5 g4 H4 k4 hp4 L4 => ?_)
  have rv5 : rg (-2) (319) v5 := hp4.2.1
  refine lv_istore (lv' := [(5, .int v5), (0, .ref h0), (1, .int p1), (2, .int p2), (3, .int p3), (4, .int p4)]) hx hb dX12_switchCell_13 hl (by decide) rfl (fun ls hl => ?_)
  refine lv_iload hx hb dX12_switchCell_15 (lv_at hl 0 rfl) ?_
  refine lv_if_ge (tgt := 25) hx hb dX12_switchCell_17 (by decide) (fun c17_6 => ?_) (fun c17_6 => ?_)
  · skip
    have q7 : rg (0) (319) v5 := (rg_le c17_6 kc_0 rv5).2
    refine lv_aload_n hx hb dX12_switchCell_25 rfl (lv_at hl 1 rfl) ?_
    refine lv_iload hx hb dX12_switchCell_26 (lv_at hl 0 rfl) ?_
    refine m_ci (As := [.int v5]) (rest := []) x hml L4 (c_joinedWith l nn X g4 v5 hnn hX (rg_w q7 rfl)) (wm_V uc_joinedWith ul_369 ui_joinedWith us_joinedWith u_init) rfl ⟨rfl, rfl⟩ hd_joinedWith ⟨Nat.le_of_ble_eq_true rfl, Nat.le_of_ble_eq_true rfl⟩ rfl hl.1 rfl (lv_room (Nat.le_of_ble_eq_true rfl)) dX12_switchCell_28 (fun v9 g8 H8 k8 hp8 L8 => ?_)
    have rv9 : rg (-2) (319) v9 := hp8.2.1
    refine lv_istore (lv' := [(6, .int v9), (5, .int v5), (0, .ref h0), (1, .int p1), (2, .int p2), (3, .int p3), (4, .int p4)]) hx hb dX12_switchCell_31 hl (by decide) rfl (fun ls hl => ?_)
    refine lv_iload hx hb dX12_switchCell_33 (lv_at hl 0 rfl) ?_
    refine lv_if_ge (tgt := 49) hx hb dX12_switchCell_35 (by decide) (fun c35_10 => ?_) (fun c35_10 => ?_)
    · skip
      have q11 : rg (0) (319) v9 := (rg_le c35_10 kc_0 rv9).2
      refine lv_aload_n hx hb dX12_switchCell_49 rfl (lv_at hl 2 rfl) ?_
      refine lv_aload_n hx hb dX12_switchCell_50 rfl (lv_at hl 2 rfl) ?_
      refine m_geta x L8 71 rfl rfl (wm_in uf_201) dX12_switchCell_51 ?_
      refine lv_iload hx hb dX12_switchCell_54 (lv_at hl 0 rfl) ?_
      refine m_ld x L8 71 rfl q11 rfl dX12_switchCell_56 (fun v12 ev12 wv12 => ?_)
      have rv12 : rg (-2147483648) (2147483647) v12 := lj_71 wv12
      refine lv_iload hx hb dX12_switchCell_57 (lv_at hl 6 rfl) ?_
      refine lv_iconst (v := 0) hx hb dX12_switchCell_59 (by decide) ?_
      refine m_cv (As := [.int v12, .int p4, .int (0 : Int32)]) (rest := []) x hml L8 (c_layHeader l nn X g8 v12 p4 (0 : Int32) hnn hX) (wm_V uc_layHeader ul_295 ui_layHeader us_layHeader u_init) rfl ⟨rfl, rfl⟩ hd_layHeader ⟨Nat.le_of_ble_eq_true rfl, Nat.le_of_ble_eq_true rfl⟩ rfl hl.1 rfl (lv_room (Nat.le_of_ble_eq_true rfl)) dX12_switchCell_60 (fun  g13 H13 k13 hp13 L13 => ?_)
      refine lv_iconst (v := 5) hx hb dX12_switchCell_63 (by decide) ?_
      refine lv_istore (lv' := [(7, .int (5 : Int32)), (6, .int v9), (5, .int v5), (0, .ref h0), (1, .int p1), (2, .int p2), (3, .int p3), (4, .int p4)]) hx hb dX12_switchCell_64 hl (by decide) rfl (fun ls hl => ?_)
      have j66_15 : ∀ (n : Nat) (a66_7_14 : Int32) (g15 : mSt) (H15 : Heap) (k15 : List Loc) (ls : Array Slot), mFr [9] g13 g15 → mL G h0 ad H0 nn X g15 H15 k15 → rg (5) (53) a66_7_14 → lv_has ls 8 [(0, .ref h0), (2, .int p2), (6, .int v9), (7, .int a66_7_14)] → ((53 : Int) - a66_7_14.toInt).toNat = n → W p l e rm_switchCell s m args below meth c H15 k15 0 0 Q (F0 m 66 ls []) := by
        intro n
        induction n using Nat.strongRecOn with
        | _ n ih15 =>
          intro a66_7_14 g15 H15 k15 ls hF15 L15 ra66_7_14 hl hn15
          subst hn15
          refine lv_iload hx hb dX12_switchCell_66 (lv_at hl 3 rfl) ?_
          refine lv_bipush (v := 53) hx hb dX12_switchCell_68 (by decide) ?_
          refine lv_icmp_ge (tgt := 95) hx hb dX12_switchCell_70 (by decide) (fun c70_16 => ?_) (fun c70_16 => ?_)
          · skip
            have q17 : rg (53) (53) a66_7_14 := (rg_le c70_16 kc_53 ra66_7_14).2
            refine lv_aload_n hx hb dX12_switchCell_95 rfl (lv_at hl 0 rfl) ?_
            refine lv_aload_n hx hb dX12_switchCell_96 rfl (lv_at hl 0 rfl) ?_
            refine lv_iload hx hb dX12_switchCell_97 (lv_at hl 2 rfl) ?_
            refine lv_bipush (v := 40) hx hb dX12_switchCell_99 (by decide) ?_
            refine lv_idiv hx hb dX12_switchCell_101 (by decide) ?_
            refine lv_topi (fun v18 ev18 => ?_)
            have rv18 : rg (0) (7) v18 := (rg_div ev18 q11 kc_40 rfl).1
            have tv18 := (rg_div ev18 q11 kc_40 rfl).2
            have b2v18 : v18.toInt < 2 * nn := by have := hp8.2.2; have : (40 : Int32).toInt = 40 := (by decide); omega
            refine m_ci (As := [.int v18]) (rest := [.ref h0]) x hml L15 (c_outOf l nn X g15 v18 hnn hX (rg_w rv18 rfl) b2v18) (wm_V uc_outOf ul_302 ui_outOf us_outOf u_init) rfl ⟨rfl, rfl⟩ hd_outOf ⟨Nat.le_of_ble_eq_true rfl, Nat.le_of_ble_eq_true rfl⟩ rfl hl.1 rfl (lv_room (Nat.le_of_ble_eq_true rfl)) dX12_switchCell_102 (fun v20 g19 H19 k19 hp19 L19 => ?_)
            have rv20 : rg (0) (7) v20 := hp19.2.1
            refine lv_iconst (v := 1) hx hb dX12_switchCell_105 (by decide) ?_
            refine m_cv (As := [.int v20, .int (1 : Int32)]) (rest := []) x hml L19 (c_addCell l nn X g19 v20 (1 : Int32) hnn hX (rg_w rv20 rfl) (rg_w kc_1 rfl)) (wm_V uc_addCell ul_309 ui_addCell us_addCell u_init) rfl ⟨rfl, rfl⟩ hd_addCell ⟨Nat.le_of_ble_eq_true rfl, Nat.le_of_ble_eq_true rfl⟩ rfl hl.1 rfl (lv_room (Nat.le_of_ble_eq_true rfl)) dX12_switchCell_106 (fun  g21 H21 k21 hp21 L21 => ?_)
            exact hQ _ _ _ _ _ dX12_switchCell_109 L21 ⟨(mFr.tr (mFr.tr (mFr.tr (mFr.tr (mFr.tr (mFr.tr mFr.rf hp4.1 rfl) hp8.1 rfl) hp13.1 rfl) hF15 rfl) hp19.1 rfl) hp21.1 rfl), trivial⟩
          · skip
            have q22 : rg (5) (52) a66_7_14 := (rg_lt (rg_nle c70_16) ra66_7_14 kc_53).1
            refine lv_aload_n hx hb dX12_switchCell_73 rfl (lv_at hl 0 rfl) ?_
            refine m_geta x L15 9 rfl rfl (wm_in uf_26) dX12_switchCell_74 ?_
            refine lv_iload hx hb dX12_switchCell_77 (lv_at hl 3 rfl) ?_
            refine lv_aload_n hx hb dX12_switchCell_79 rfl (lv_at hl 0 rfl) ?_
            refine m_geta x L15 26 rfl rfl (wm_in uf_68) dX12_switchCell_80 ?_
            refine lv_iload_n hx hb dX12_switchCell_83 rfl (lv_at hl 1 rfl) ?_
            refine lv_iload hx hb dX12_switchCell_84 (lv_at hl 3 rfl) ?_
            refine lv_iadd hx hb dX12_switchCell_86 ?_
            refine lv_topi (fun v23 ev23 => ?_)
            have rv23 : rg (5) (423) v23 := (rg_add ev23 rp2 q22 rfl).1
            refine m_ld x L15 26 rfl rv23 rfl dX12_switchCell_87 (fun v24 ev24 wv24 => ?_)
            have rv24 : rg (-2147483648) (2147483647) v24 := lj_26 wv24
            refine m_st x L15 9 rfl q22 rfl (rj_9 (rg_any v24)) dX12_switchCell_88 (fun g25 H25 k25 eg25 L25 => ?_)
            obtain ⟨v26, ev26, fv26⟩ := inc_ex a66_7_14 (1) (1 : Int32) (by decide)
            have rv26 : rg (6) (53) v26 := (rg_add ev26 q22 kc_1 rfl).1
            have tv26 := (rg_add ev26 q22 kc_1 rfl).2
            refine lv_iinc (v := v26) (lv' := [(7, .int v26), (0, .ref h0), (2, .int p2), (6, .int v9)]) hx hb dX12_switchCell_89 hl (k := 3) rfl fv26 (by decide) rfl (fun ls hl => ?_)
            refine lv_goto (tgt := 66) hx hb dX12_switchCell_92 (by decide) ?_
            exact ih15 _ (ms_up tv26 kc_1 q22 rfl rfl) v26 g25 _ _ ls (mFr.upE hF15 eg25 rfl) L25 (rg_w rv26 rfl) (lv_sub hl [1, 2, 3, 0] rfl) rfl
      exact j66_15 _ (5 : Int32) g13 _ _ ls mFr.rf L13 (rg_w kc_5 rfl) (lv_sub hl [3, 5, 1, 0] rfl) rfl
    · skip
      have q27 : rg (-2) (-1) v9 := (rg_lt (rg_nle c35_10) rv9 kc_0).1
      refine lv_aload_n hx hb dX12_switchCell_38 rfl (lv_at hl 2 rfl) ?_
      refine m_geta x L8 8 rfl rfl (wm_in uf_23) dX12_switchCell_39 ?_
      refine lv_iload_n hx hb dX12_switchCell_42 rfl (lv_at hl 3 rfl) ?_
      refine lv_dup2_11 hx hb dX12_switchCell_43 rfl rfl ?_
      refine m_ld x L8 8 rfl rp1 rfl dX12_switchCell_44 (fun v28 ev28 wv28 => ?_)
      have rv28 : rg (-2147483648) (2147483647) v28 := lj_8 wv28
      refine lv_iconst (v := 1) hx hb dX12_switchCell_45 (by decide) ?_
      refine lv_iadd hx hb dX12_switchCell_46 ?_
      refine lv_topi (fun v29 ev29 => ?_)
      have rv29 : rg (-2147483648) (2147483647) v29 := rg_any v29
      refine m_st x L8 8 rfl rp1 rfl (rj_8 (rg_any v29)) dX12_switchCell_47 (fun g30 H30 k30 eg30 L30 => ?_)
      exact hQ _ _ _ _ _ dX12_switchCell_48 L30 ⟨(mFr.upE (mFr.tr (mFr.tr mFr.rf hp4.1 rfl) hp8.1 rfl) eg30 rfl), trivial⟩
  · skip
    have q31 : rg (-2) (-1) v5 := (rg_lt (rg_nle c17_6) rv5 kc_0).1
    refine lv_bipush (v := (-2)) hx hb dX12_switchCell_20 (by decide) ?_
    refine lv_goto (tgt := 31) hx hb dX12_switchCell_22 (by decide) ?_
    refine lv_istore (lv' := [(6, .int (-2 : Int32)), (5, .int v5), (0, .ref h0), (1, .int p1), (2, .int p2), (3, .int p3), (4, .int p4)]) hx hb dX12_switchCell_31 hl (by decide) rfl (fun ls hl => ?_)
    refine lv_iload hx hb dX12_switchCell_33 (lv_at hl 0 rfl) ?_
    refine lv_if_ge (tgt := 49) hx hb dX12_switchCell_35 (by decide) (fun c35_32 => ?_) (fun c35_32 => ?_)
    · skip
      exact absurd c35_32 (by decide)
    · skip
      refine lv_aload_n hx hb dX12_switchCell_38 rfl (lv_at hl 2 rfl) ?_
      refine m_geta x L4 8 rfl rfl (wm_in uf_23) dX12_switchCell_39 ?_
      refine lv_iload_n hx hb dX12_switchCell_42 rfl (lv_at hl 3 rfl) ?_
      refine lv_dup2_11 hx hb dX12_switchCell_43 rfl rfl ?_
      refine m_ld x L4 8 rfl rp1 rfl dX12_switchCell_44 (fun v33 ev33 wv33 => ?_)
      have rv33 : rg (-2147483648) (2147483647) v33 := lj_8 wv33
      refine lv_iconst (v := 1) hx hb dX12_switchCell_45 (by decide) ?_
      refine lv_iadd hx hb dX12_switchCell_46 ?_
      refine lv_topi (fun v34 ev34 => ?_)
      have rv34 : rg (-2147483648) (2147483647) v34 := rg_any v34
      refine m_st x L4 8 rfl rp1 rfl (rj_8 (rg_any v34)) dX12_switchCell_47 (fun g35 H35 k35 eg35 L35 => ?_)
      exact hQ _ _ _ _ _ dX12_switchCell_48 L35 ⟨(mFr.upE (mFr.tr mFr.rf hp4.1 rfl) eg35 rfl), trivial⟩
theorem c_switchCell (l : Launch) {G : mG} {h0 : Nat} {ad : Nat → Nat} (nn X : Int) (g : mSt) (p1 : Int32) (p2 : Int32) (p3 : Int32) (p4 : Int32) (hnn : 2 ≤ nn ∧ nn ≤ 4) (hX : 0 ≤ X ∧ X ≤ 2000000000) (rp1 : rg (0) (7) p1) (rp2 : rg (0) (371) p2) : Met l yX12_switchCell (wm (Cond.code yX12_switchCell cX12_switchCell 8 none)) rm_switchCell (va_Pc [.ref h0, .int p1, .int p2, .int p3, .int p4] (mPre G h0 ad nn X g)) (mQv G h0 ad nn X (fun g1 => mFr [5, 7, 8, 9] g g1 ∧ True)) 0 0 (mA h0 ad) := by
  refine Met.ofW (cc := cX12_switchCell) (maxL := 8) (ret := none) (by decide) rfl ?_
  intro p e s m args below meth c s₁ B hml hv
  obtain ⟨rfl, hv⟩ := hv
  have hr := B.returns
  have hlocks := B.notSynchronized
  obtain ⟨x, L⟩ := m_start B rfl wm_X hv
  have hl := lv_entry ([.ref h0, .int p1, .int p2, .int p3, .int p4]) (n := 8) (Nat.le_of_ble_eq_true rfl)
  rw [lg_entry_eq]
  generalize (lg_sl ([.ref h0, .int p1, .int p2, .int p3, .int p4]) ++ List.replicate (8 - (lg_sl ([.ref h0, .int p1, .int p2, .int p3, .int p4])).length) Slot.unset).toArray = ls at hl ⊢
  exact w_switchCell x hml L hnn hX p1 p2 p3 p4 rp1 rp2 hl (fun pc' ls' g1 H1 locs1 hdg L hp => m_vret x L hr hlocks (Int.le_refl _) hp hdg)

def rm_judge : Room := { frames := 2, cells := 0, slots := 0, locals := 47 }
theorem hd_judge : yX12_judge.cls = RX12 ∧ yX12_judge.cls ≠ "java/lang/invoke/MethodHandle" ∧ yX12_judge.cls ≠ "java/lang/invoke/VarHandle" ∧ (parseMethodDescriptor yX12_judge.desc).map (fun d => d.parameters.length) = some 2 := by decide +kernel
set_option maxHeartbeats 4000000 in
set_option maxRecDepth 100000 in
theorem w_judge {p : Program} {l : Launch} {e : Env} {s : State} {m : MethodId} {args : Array Value} {below : List Frame} {meth : Method} {c : Code} {H : Heap} {locs : List Loc} {Q : State → Prop} {ls : Array Slot} {G : mG} {h0 : Nat} {ad : Nat → Nat} {g : mSt} {H0 : Heap} {nn X : Int} (x : mX p c cX12_judge s args (wm (Cond.code yX12_judge cX12_judge 5 none)) m G h0 ad) (hml : c.maxLocals = 5) (L : mL G h0 ad H0 nn X g H locs) (hnn : 2 ≤ nn ∧ nn ≤ 4) (hX : 0 ≤ X ∧ X ≤ 2000000000) (hJ : mJ nn [] g) (p1 : Int32) (p2 : Int32) (rp1 : rg (0) (7) p1) (rp2 : rg (0) (371) p2) (hl : lv_has ls 5 [(0, .ref h0), (1, .int p1), (2, .int p2)]) (hQ : ∀ (pc' : Nat) (ls' : Array Slot) (g1 : mSt) (H1 : Heap) (locs1 : List Loc), decode cX12_judge pc' = .ok (.return_, 1) → mL G h0 ad H0 nn X g1 H1 locs1 → (mFr [21, 22, 23, 24, 25, 26, 28, 29] g g1 ∧ mJ nn [] g1 ∧ True) → W p l e rm_judge s m args below meth c H1 locs1 0 0 Q (F0 m pc' ls' [])) : W p l e rm_judge s m args below meth c H locs 0 0 Q (F0 m 0 ls []) := by
  have hx := x.1
  have hb := x.2.1
  refine lv_aload_n hx hb dX12_judge_0 rfl (lv_at hl 0 rfl) ?_
  refine lv_iload_n hx hb dX12_judge_1 rfl (lv_at hl 2 rfl) ?_
  refine m_ci (As := [.int p2]) (rest := []) x hml L (c_octetsOf l nn X g p2 hnn hX (rg_w rp2 rfl)) (wm_V uc_octetsOf ul_332 ui_octetsOf us_octetsOf u_init) rfl ⟨rfl, rfl⟩ hd_octetsOf ⟨Nat.le_of_ble_eq_true rfl, Nat.le_of_ble_eq_true rfl⟩ rfl hl.1 rfl (lv_room (Nat.le_of_ble_eq_true rfl)) dX12_judge_2 (fun v2 g1 H1 k1 hp1 L1 => ?_)
  have rv2 : rg (-2147483648) (2147483647) v2 := hp1.2.1
  refine lv_aload_n hx hb dX12_judge_5 rfl (lv_at hl 0 rfl) ?_
  refine m_geta x L1 26 rfl rfl (wm_in uf_68) dX12_judge_6 ?_
  refine lv_iload_n hx hb dX12_judge_9 rfl (lv_at hl 2 rfl) ?_
  refine lv_iconst (v := 4) hx hb dX12_judge_10 (by decide) ?_
  refine lv_iadd hx hb dX12_judge_11 ?_
  refine lv_topi (fun v3 ev3 => ?_)
  have rv3 : rg (4) (375) v3 := (rg_add ev3 rp2 kc_4 rfl).1
  refine m_ld x L1 26 rfl rv3 rfl dX12_judge_12 (fun v4 ev4 wv4 => ?_)
  have rv4 : rg (-2147483648) (2147483647) v4 := lj_26 wv4
  refine pf_call (va_runS (As := [.int v2, .int v4]) (rest := []) ⟨hx, hb, hml, x.2.2.2.2.1, x.2.2.1⟩ (c_rt l v2 v4) (va_cwS 2 x.2.2.1 (wm_T ut_rightness ul_275 u_init us_rt) rfl rfl rfl (by decide +kernel) ⟨Nat.le_of_ble_eq_true rfl, Nat.le_of_ble_eq_true rfl⟩) ⟨fun _ _ _ _ q => q, fun _ _ _ => ⟨rfl, trivial⟩⟩ rfl rfl hl.1 rfl (lv_room (Nat.le_of_ble_eq_true rfl)) dX12_judge_13 ⟨Nat.le_of_ble_eq_true rfl, Nat.le_of_ble_eq_true rfl⟩) ?_
  refine lv_topi (fun v5 ev5 => ?_)
  have rv5 : rg (0) (41) v5 := rg_rt ev5
  refine lv_istore_n (lv' := [(3, .int v5), (0, .ref h0), (1, .int p1), (2, .int p2)]) hx hb dX12_judge_16 rfl hl (by decide) rfl (fun ls hl => ?_)
  refine lv_aload_n hx hb dX12_judge_17 rfl (lv_at hl 1 rfl) ?_
  refine m_geta x L1 21 rfl rfl (wm_in uf_53) dX12_judge_18 ?_
  refine lv_iload_n hx hb dX12_judge_21 rfl (lv_at hl 2 rfl) ?_
  refine m_ld x L1 21 rfl rp1 rfl dX12_judge_22 (fun v6 ev6 wv6 => ?_)
  have rv6 : rg (0) (2) v6 := lj_21 wv6
  refine lv_iconst (v := 1) hx hb dX12_judge_23 (by decide) ?_
  refine lv_icmp_ne (tgt := 95) hx hb dX12_judge_24 (by decide) (fun c24_7 => ?_) (fun c24_7 => ?_)
  · skip
    refine lv_iload_n hx hb dX12_judge_95 rfl (lv_at hl 0 rfl) ?_
    refine lv_iconst (v := 1) hx hb dX12_judge_96 (by decide) ?_
    refine lv_icmp_ne (tgt := 122) hx hb dX12_judge_97 (by decide) (fun c97_8 => ?_) (fun c97_8 => ?_)
    · skip
      refine lv_aload_n hx hb dX12_judge_122 rfl (lv_at hl 1 rfl) ?_
      refine m_geta x L1 23 rfl rfl (wm_in uf_59) dX12_judge_123 ?_
      refine lv_iload_n hx hb dX12_judge_126 rfl (lv_at hl 2 rfl) ?_
      refine lv_dup2_11 hx hb dX12_judge_127 rfl rfl ?_
      refine m_ld x L1 23 rfl rp1 rfl dX12_judge_128 (fun v9 ev9 wv9 => ?_)
      have rv9 : rg (-2147483648) (2147483647) v9 := lj_23 wv9
      refine lv_iconst (v := 1) hx hb dX12_judge_129 (by decide) ?_
      refine lv_iadd hx hb dX12_judge_130 ?_
      refine lv_topi (fun v10 ev10 => ?_)
      have rv10 : rg (-2147483648) (2147483647) v10 := rg_any v10
      refine m_st x L1 23 rfl rp1 rfl (rj_23 (rg_any v10)) dX12_judge_131 (fun g11 H11 k11 eg11 L11 => ?_)
      refine lv_aload_n hx hb dX12_judge_132 rfl (lv_at hl 1 rfl) ?_
      refine m_geta x L11 23 rfl rfl (wm_in uf_59) dX12_judge_133 ?_
      refine lv_iload_n hx hb dX12_judge_136 rfl (lv_at hl 2 rfl) ?_
      refine m_ld x L11 23 rfl rp1 rfl dX12_judge_137 (fun v12 ev12 wv12 => ?_)
      refine m_top (((mm_st eg11)).trans ev12.symm) ?_
      refine lv_bipush (v := 7) hx hb dX12_judge_138 (by decide) ?_
      refine lv_icmp_ne (tgt := 149) hx hb dX12_judge_140 (by decide) (fun c140_13 => ?_) (fun c140_13 => ?_)
      · skip
        refine lv_aload_n hx hb dX12_judge_149 rfl (lv_at hl 1 rfl) ?_
        refine m_geta x L11 25 rfl rfl (wm_in uf_65) dX12_judge_150 ?_
        refine lv_iload_n hx hb dX12_judge_153 rfl (lv_at hl 2 rfl) ?_
        refine lv_iconst (v := 2) hx hb dX12_judge_154 (by decide) ?_
        refine m_st x L11 25 rfl rp1 rfl (rj_25 (rg_any (2 : Int32))) dX12_judge_155 (fun g14 H14 k14 eg14 L14 => ?_)
        refine lv_aload_n hx hb dX12_judge_156 rfl (lv_at hl 1 rfl) ?_
        refine m_geta x L14 24 rfl rfl (wm_in uf_62) dX12_judge_157 ?_
        refine lv_iload_n hx hb dX12_judge_160 rfl (lv_at hl 2 rfl) ?_
        refine m_ld x L14 24 rfl rp1 rfl dX12_judge_161 (fun v15 ev15 wv15 => ?_)
        have rv15 : rg (-2147483648) (2147483647) v15 := lj_24 wv15
        have j216_16 : ∀ (g16 : mSt) (H16 : Heap) (k16 : List Loc) (ls : Array Slot), mFr [25, 26, 29] g14 g16 → mL G h0 ad H0 nn X g16 H16 k16 → mJ nn [] g16 → lv_has ls 5 [(0, .ref h0), (1, .int p1)] → W p l e rm_judge s m args below meth c H16 k16 0 0 Q (F0 m 216 ls []) := by
          intro  g16 H16 k16 ls hF16 L16 hJ16  hl
          refine lv_aload_n hx hb dX12_judge_216 rfl (lv_at hl 0 rfl) ?_
          refine m_geta x L16 28 rfl rfl (wm_in uf_74) dX12_judge_217 ?_
          refine lv_iload_n hx hb dX12_judge_220 rfl (lv_at hl 1 rfl) ?_
          refine lv_dup2_11 hx hb dX12_judge_221 rfl rfl ?_
          refine m_ld x L16 28 rfl rp1 rfl dX12_judge_222 (fun v17 ev17 wv17 => ?_)
          have rv17 : rg (-2147483648) (2147483647) v17 := lj_28 wv17
          refine lv_aload_n hx hb dX12_judge_223 rfl (lv_at hl 0 rfl) ?_
          refine m_geta x L16 25 rfl rfl (wm_in uf_65) dX12_judge_224 ?_
          refine lv_iload_n hx hb dX12_judge_227 rfl (lv_at hl 1 rfl) ?_
          refine m_ld x L16 25 rfl rp1 rfl dX12_judge_228 (fun v18 ev18 wv18 => ?_)
          have rv18 : rg (-2147483648) (2147483647) v18 := lj_25 wv18
          refine lv_iconst (v := 2) hx hb dX12_judge_229 (by decide) ?_
          have j238_20 : ∀ (b238_3_19 : Int32) (g20 : mSt) (H20 : Heap) (k20 : List Loc) (ls : Array Slot), mFr [] g16 g20 → mL G h0 ad H0 nn X g20 H20 k20 → mJ nn [] g20 → rg (0) (1) b238_3_19 → lv_has ls 5 [(0, .ref h0), (1, .int p1)] → W p l e rm_judge s m args below meth c H20 k20 0 0 Q (F0 m 238 ls [.int b238_3_19, .int v17, .int p1, .ref (ad 28)]) := by
            intro b238_3_19 g20 H20 k20 ls hF20 L20 hJ20 rb238_3_19 hl
            refine lv_iadd hx hb dX12_judge_238 ?_
            refine lv_topi (fun v21 ev21 => ?_)
            have rv21 : rg (-2147483648) (2147483647) v21 := rg_any v21
            refine m_st x L20 28 rfl rp1 rfl (rj_28 (rg_any v21)) dX12_judge_239 (fun g22 H22 k22 eg22 L22 => ?_)
            refine lv_aload_n hx hb dX12_judge_240 rfl (lv_at hl 0 rfl) ?_
            refine m_geta x L22 24 rfl rfl (wm_in uf_62) dX12_judge_241 ?_
            refine lv_iload_n hx hb dX12_judge_244 rfl (lv_at hl 1 rfl) ?_
            refine lv_iconst (v := 1) hx hb dX12_judge_245 (by decide) ?_
            refine m_st x L22 24 rfl rp1 rfl (rj_24 (rg_any (1 : Int32))) dX12_judge_246 (fun g23 H23 k23 eg23 L23 => ?_)
            exact hQ _ _ _ _ _ dX12_judge_247 L23 ⟨(mFr.upE (mFr.upE (mFr.tr (mFr.tr (mFr.upE (mFr.upE (mFr.tr mFr.rf hp1.1 rfl) eg11 rfl) eg14 rfl) hF16 rfl) hF20 rfl) eg22 rfl) eg23 rfl), (mJ_up (mJ_up hJ20 eg22 rfl) eg23 rfl), trivial⟩
          refine lv_icmp_ne (tgt := 237) hx hb dX12_judge_230 (by decide) (fun c230_24 => ?_) (fun c230_24 => ?_)
          · skip
            refine lv_iconst (v := 0) hx hb dX12_judge_237 (by decide) ?_
            exact j238_20 (0 : Int32) g16 _ _ ls mFr.rf L16 hJ16 (rg_w kc_0 rfl) (lv_sub hl [0, 1] rfl)
          · skip
            have q25 : rg (2) (2) v18 := (rg_eq c230_24 rv18 kc_2).1
            refine lv_iconst (v := 1) hx hb dX12_judge_233 (by decide) ?_
            refine lv_goto (tgt := 238) hx hb dX12_judge_234 (by decide) ?_
            exact j238_20 (1 : Int32) g16 _ _ ls mFr.rf L16 hJ16 (rg_w kc_1 rfl) (lv_sub hl [0, 1] rfl)
        refine lv_if_ne (tgt := 216) hx hb dX12_judge_162 (by decide) (fun c162_26 => ?_) (fun c162_26 => ?_)
        · skip
          exact j216_16  g14 _ _ ls mFr.rf L14 (mJ_up (mJ_up (mJ_fr hJ hp1.1 rfl) eg11 rfl) eg14 rfl) (lv_sub hl [1, 2] rfl)
        · skip
          have q27 : rg (0) (0) v15 := (rg_eq c162_26 rv15 kc_0).1
          refine lv_iload_n hx hb dX12_judge_165 rfl (lv_at hl 0 rfl) ?_
          refine lv_iconst (v := 1) hx hb dX12_judge_166 (by decide) ?_
          refine lv_icmp_le (tgt := 216) hx hb dX12_judge_167 (by decide) (fun c167_28 => ?_) (fun c167_28 => ?_)
          · skip
            have q29 : rg (0) (1) v5 := (rg_le c167_28 rv5 kc_1).1
            exact j216_16  g14 _ _ ls mFr.rf L14 (mJ_up (mJ_up (mJ_fr hJ hp1.1 rfl) eg11 rfl) eg14 rfl) (lv_sub hl [1, 2] rfl)
          · skip
            have q30 : rg (2) (41) v5 := (rg_lt (rg_nle c167_28) kc_1 rv5).2
            refine lv_iload_n hx hb dX12_judge_170 rfl (lv_at hl 0 rfl) ?_
            refine lv_iconst (v := 2) hx hb dX12_judge_171 (by decide) ?_
            refine lv_isub hx hb dX12_judge_172 ?_
            refine lv_topi (fun v31 ev31 => ?_)
            have rv31 : rg (0) (39) v31 := (rg_sub ev31 q30 kc_2 rfl).1
            refine lv_istore (lv' := [(4, .int v31), (3, .int v5), (0, .ref h0), (1, .int p1), (2, .int p2)]) hx hb dX12_judge_173 hl (by decide) rfl (fun ls hl => ?_)
            refine lv_aload_n hx hb dX12_judge_175 rfl (lv_at hl 2 rfl) ?_
            refine m_geta x L14 26 rfl rfl (wm_in uf_68) dX12_judge_176 ?_
            refine lv_iload_n hx hb dX12_judge_179 rfl (lv_at hl 4 rfl) ?_
            refine lv_iload hx hb dX12_judge_180 (lv_at hl 0 rfl) ?_
            refine lv_bipush (v := 8) hx hb dX12_judge_182 (by decide) ?_
            refine lv_idiv hx hb dX12_judge_184 (by decide) ?_
            refine lv_topi (fun v32 ev32 => ?_)
            have rv32 : rg (0) (4) v32 := (rg_div ev32 rv31 kc_8 rfl).1
            refine lv_iadd hx hb dX12_judge_185 ?_
            refine lv_topi (fun v33 ev33 => ?_)
            have rv33 : rg (0) (375) v33 := (rg_add ev33 rp2 rv32 rfl).1
            refine lv_dup2_11 hx hb dX12_judge_186 rfl rfl ?_
            refine m_ld x L14 26 rfl rv33 rfl dX12_judge_187 (fun v34 ev34 wv34 => ?_)
            have rv34 : rg (-2147483648) (2147483647) v34 := lj_26 wv34
            refine lv_sipush (v := 128) hx hb dX12_judge_188 (by decide) ?_
            refine lv_iload hx hb dX12_judge_191 (lv_at hl 0 rfl) ?_
            refine lv_bipush (v := 8) hx hb dX12_judge_193 (by decide) ?_
            refine lv_irem hx hb dX12_judge_195 (by decide) ?_
            refine lv_topi (fun v35 ev35 => ?_)
            have rv35 : rg (0) (7) v35 := (rg_rem ev35 rv31 kc_8 rfl).1
            refine lv_ishr hx hb dX12_judge_196 ?_
            refine lv_topi (fun v36 ev36 => ?_)
            have rv36 : rg (-2147483648) (2147483647) v36 := rg_any v36
            refine lv_ixor hx hb dX12_judge_197 ?_
            refine lv_topi (fun v37 ev37 => ?_)
            have rv37 : rg (-2147483648) (2147483647) v37 := rg_any v37
            refine m_st x L14 26 rfl rv33 rfl (rj_26 (rg_any v37)) dX12_judge_198 (fun g38 H38 k38 eg38 L38 => ?_)
            refine lv_aload_n hx hb dX12_judge_199 rfl (lv_at hl 2 rfl) ?_
            refine m_geta x L38 25 rfl rfl (wm_in uf_65) dX12_judge_200 ?_
            refine lv_iload_n hx hb dX12_judge_203 rfl (lv_at hl 3 rfl) ?_
            refine lv_iconst (v := 1) hx hb dX12_judge_204 (by decide) ?_
            refine m_st x L38 25 rfl rp1 rfl (rj_25 (rg_any (1 : Int32))) dX12_judge_205 (fun g39 H39 k39 eg39 L39 => ?_)
            refine lv_aload_n hx hb dX12_judge_206 rfl (lv_at hl 2 rfl) ?_
            refine m_geta x L39 29 rfl rfl (wm_in uf_77) dX12_judge_207 ?_
            refine lv_iload_n hx hb dX12_judge_210 rfl (lv_at hl 3 rfl) ?_
            refine lv_dup2_11 hx hb dX12_judge_211 rfl rfl ?_
            refine m_ld x L39 29 rfl rp1 rfl dX12_judge_212 (fun v40 ev40 wv40 => ?_)
            have rv40 : rg (-2147483648) (2147483647) v40 := lj_29 wv40
            refine lv_iconst (v := 1) hx hb dX12_judge_213 (by decide) ?_
            refine lv_iadd hx hb dX12_judge_214 ?_
            refine lv_topi (fun v41 ev41 => ?_)
            have rv41 : rg (-2147483648) (2147483647) v41 := rg_any v41
            refine m_st x L39 29 rfl rp1 rfl (rj_29 (rg_any v41)) dX12_judge_215 (fun g42 H42 k42 eg42 L42 => ?_)
            exact j216_16  g42 _ _ ls (mFr.upE (mFr.upE (mFr.upE mFr.rf eg38 rfl) eg39 rfl) eg42 rfl) L42 (mJ_up (mJ_up (mJ_up (mJ_up (mJ_up (mJ_fr hJ hp1.1 rfl) eg11 rfl) eg14 rfl) eg38 rfl) eg39 rfl) eg42 rfl) (lv_sub hl [2, 3] rfl)
      · skip
        have q43 : rg (7) (7) v10 := (rg_eq c140_13 rv10 kc_7).1
        refine lv_aload_n hx hb dX12_judge_143 rfl (lv_at hl 1 rfl) ?_
        refine lv_iload_n hx hb dX12_judge_144 rfl (lv_at hl 2 rfl) ?_
        refine m_cv (As := [.int p1]) (rest := []) x hml L11 (c_huntAnew l nn X g11 p1 hnn hX (mJ_up (mJ_fr hJ hp1.1 rfl) eg11 rfl) (rg_w rp1 rfl)) (wm_V uc_huntAnew ul_341 ui_huntAnew us_huntAnew u_init) rfl ⟨rfl, rfl⟩ hd_huntAnew ⟨Nat.le_of_ble_eq_true rfl, Nat.le_of_ble_eq_true rfl⟩ rfl hl.1 rfl (lv_room (Nat.le_of_ble_eq_true rfl)) dX12_judge_145 (fun  g44 H44 k44 hp44 L44 => ?_)
        exact hQ _ _ _ _ _ dX12_judge_148 L44 ⟨(mFr.tr (mFr.upE (mFr.tr mFr.rf hp1.1 rfl) eg11 rfl) hp44.1 rfl), hp44.2.1, trivial⟩
    · skip
      have q45 : rg (1) (1) v5 := (rg_eq c97_8 rv5 kc_1).1
      refine lv_aload_n hx hb dX12_judge_100 rfl (lv_at hl 1 rfl) ?_
      refine m_geta x L1 23 rfl rfl (wm_in uf_59) dX12_judge_101 ?_
      refine lv_iload_n hx hb dX12_judge_104 rfl (lv_at hl 2 rfl) ?_
      refine lv_iconst (v := 0) hx hb dX12_judge_105 (by decide) ?_
      refine m_st x L1 23 rfl rp1 rfl (rj_23 (rg_any (0 : Int32))) dX12_judge_106 (fun g46 H46 k46 eg46 L46 => ?_)
      refine lv_aload_n hx hb dX12_judge_107 rfl (lv_at hl 1 rfl) ?_
      refine m_geta x L46 24 rfl rfl (wm_in uf_62) dX12_judge_108 ?_
      refine lv_iload_n hx hb dX12_judge_111 rfl (lv_at hl 2 rfl) ?_
      refine lv_iconst (v := 0) hx hb dX12_judge_112 (by decide) ?_
      refine m_st x L46 24 rfl rp1 rfl (rj_24 (rg_any (0 : Int32))) dX12_judge_113 (fun g47 H47 k47 eg47 L47 => ?_)
      refine lv_aload_n hx hb dX12_judge_114 rfl (lv_at hl 1 rfl) ?_
      refine m_geta x L47 25 rfl rfl (wm_in uf_65) dX12_judge_115 ?_
      refine lv_iload_n hx hb dX12_judge_118 rfl (lv_at hl 2 rfl) ?_
      refine lv_iconst (v := 1) hx hb dX12_judge_119 (by decide) ?_
      refine m_st x L47 25 rfl rp1 rfl (rj_25 (rg_any (1 : Int32))) dX12_judge_120 (fun g48 H48 k48 eg48 L48 => ?_)
      exact hQ _ _ _ _ _ dX12_judge_121 L48 ⟨(mFr.upE (mFr.upE (mFr.upE (mFr.tr mFr.rf hp1.1 rfl) eg46 rfl) eg47 rfl) eg48 rfl), (mJ_up (mJ_up (mJ_up (mJ_fr hJ hp1.1 rfl) eg46 rfl) eg47 rfl) eg48 rfl), trivial⟩
  · skip
    have q49 : rg (1) (1) v6 := (rg_eq c24_7 rv6 kc_1).1
    refine lv_iload_n hx hb dX12_judge_27 rfl (lv_at hl 0 rfl) ?_
    refine lv_iconst (v := 1) hx hb dX12_judge_28 (by decide) ?_
    refine lv_icmp_eq (tgt := 38) hx hb dX12_judge_29 (by decide) (fun c29_50 => ?_) (fun c29_50 => ?_)
    · skip
      have q51 : rg (1) (1) v5 := (rg_eq c29_50 rv5 kc_1).1
      refine lv_aload_n hx hb dX12_judge_38 rfl (lv_at hl 1 rfl) ?_
      refine m_geta x L1 23 rfl rfl (wm_in uf_59) dX12_judge_39 ?_
      refine lv_iload_n hx hb dX12_judge_42 rfl (lv_at hl 2 rfl) ?_
      refine lv_dup2_11 hx hb dX12_judge_43 rfl rfl ?_
      refine m_ld x L1 23 rfl rp1 rfl dX12_judge_44 (fun v52 ev52 wv52 => ?_)
      have rv52 : rg (-2147483648) (2147483647) v52 := lj_23 wv52
      refine lv_iconst (v := 1) hx hb dX12_judge_45 (by decide) ?_
      refine lv_iadd hx hb dX12_judge_46 ?_
      refine lv_topi (fun v53 ev53 => ?_)
      have rv53 : rg (-2147483648) (2147483647) v53 := rg_any v53
      refine m_st x L1 23 rfl rp1 rfl (rj_23 (rg_any v53)) dX12_judge_47 (fun g54 H54 k54 eg54 L54 => ?_)
      refine lv_aload_n hx hb dX12_judge_48 rfl (lv_at hl 1 rfl) ?_
      refine m_geta x L54 25 rfl rfl (wm_in uf_65) dX12_judge_49 ?_
      refine lv_iload_n hx hb dX12_judge_52 rfl (lv_at hl 2 rfl) ?_
      refine lv_iconst (v := 0) hx hb dX12_judge_53 (by decide) ?_
      refine m_st x L54 25 rfl rp1 rfl (rj_25 (rg_any (0 : Int32))) dX12_judge_54 (fun g55 H55 k55 eg55 L55 => ?_)
      refine lv_aload_n hx hb dX12_judge_55 rfl (lv_at hl 1 rfl) ?_
      refine m_geta x L55 23 rfl rfl (wm_in uf_59) dX12_judge_56 ?_
      refine lv_iload_n hx hb dX12_judge_59 rfl (lv_at hl 2 rfl) ?_
      refine m_ld x L55 23 rfl rp1 rfl dX12_judge_60 (fun v56 ev56 wv56 => ?_)
      refine m_top (((mm_up (mm_st eg54) eg55 rfl)).trans ev56.symm) ?_
      refine lv_bipush (v := 6) hx hb dX12_judge_61 (by decide) ?_
      have j94_57 : ∀ (g57 : mSt) (H57 : Heap) (k57 : List Loc) (ls : Array Slot), mFr [21, 23, 24, 25] g55 g57 → mL G h0 ad H0 nn X g57 H57 k57 → mJ nn [] g57 → lv_has ls 5 [(0, .ref h0)] → W p l e rm_judge s m args below meth c H57 k57 0 0 Q (F0 m 94 ls []) := by
        intro  g57 H57 k57 ls hF57 L57 hJ57  hl
        exact hQ _ _ _ _ _ dX12_judge_94 L57 ⟨(mFr.tr (mFr.upE (mFr.upE (mFr.tr mFr.rf hp1.1 rfl) eg54 rfl) eg55 rfl) hF57 rfl), hJ57, trivial⟩
      refine lv_icmp_ne (tgt := 94) hx hb dX12_judge_63 (by decide) (fun c63_58 => ?_) (fun c63_58 => ?_)
      · skip
        exact j94_57  g55 _ _ ls mFr.rf L55 (mJ_up (mJ_up (mJ_fr hJ hp1.1 rfl) eg54 rfl) eg55 rfl) (lv_sub hl [1] rfl)
      · skip
        have q59 : rg (6) (6) v53 := (rg_eq c63_58 rv53 kc_6).1
        refine lv_aload_n hx hb dX12_judge_66 rfl (lv_at hl 1 rfl) ?_
        refine m_geta x L55 21 rfl rfl (wm_in uf_53) dX12_judge_67 ?_
        refine lv_iload_n hx hb dX12_judge_70 rfl (lv_at hl 2 rfl) ?_
        refine lv_iconst (v := 2) hx hb dX12_judge_71 (by decide) ?_
        refine m_st x L55 21 rfl rp1 rfl (rj_21 (rg_w kc_2 rfl)) dX12_judge_72 (fun g60 H60 k60 eg60 L60 => ?_)
        have hJ61 := mJ_21n (mJ_up (mJ_up (mJ_fr hJ hp1.1 rfl) eg54 rfl) eg55 rfl) eg60 kc_2 rfl
        refine lv_aload_n hx hb dX12_judge_73 rfl (lv_at hl 1 rfl) ?_
        refine m_geta x L60 23 rfl rfl (wm_in uf_59) dX12_judge_74 ?_
        refine lv_iload_n hx hb dX12_judge_77 rfl (lv_at hl 2 rfl) ?_
        refine lv_iconst (v := 0) hx hb dX12_judge_78 (by decide) ?_
        refine m_st x L60 23 rfl rp1 rfl (rj_23 (rg_any (0 : Int32))) dX12_judge_79 (fun g62 H62 k62 eg62 L62 => ?_)
        refine lv_aload_n hx hb dX12_judge_80 rfl (lv_at hl 1 rfl) ?_
        refine m_geta x L62 24 rfl rfl (wm_in uf_62) dX12_judge_81 ?_
        refine lv_iload_n hx hb dX12_judge_84 rfl (lv_at hl 2 rfl) ?_
        refine lv_iconst (v := 0) hx hb dX12_judge_85 (by decide) ?_
        refine m_st x L62 24 rfl rp1 rfl (rj_24 (rg_any (0 : Int32))) dX12_judge_86 (fun g63 H63 k63 eg63 L63 => ?_)
        refine lv_aload_n hx hb dX12_judge_87 rfl (lv_at hl 1 rfl) ?_
        refine m_geta x L63 25 rfl rfl (wm_in uf_65) dX12_judge_88 ?_
        refine lv_iload_n hx hb dX12_judge_91 rfl (lv_at hl 2 rfl) ?_
        refine lv_iconst (v := 1) hx hb dX12_judge_92 (by decide) ?_
        refine m_st x L63 25 rfl rp1 rfl (rj_25 (rg_any (1 : Int32))) dX12_judge_93 (fun g64 H64 k64 eg64 L64 => ?_)
        exact j94_57  g64 _ _ ls (mFr.upE (mFr.upE (mFr.upE (mFr.upE mFr.rf eg60 rfl) eg62 rfl) eg63 rfl) eg64 rfl) L64 (mJ_up (mJ_up (mJ_up hJ61 eg62 rfl) eg63 rfl) eg64 rfl) (lv_sub hl [1] rfl)
    · skip
      refine lv_aload_n hx hb dX12_judge_32 rfl (lv_at hl 1 rfl) ?_
      refine lv_iload_n hx hb dX12_judge_33 rfl (lv_at hl 2 rfl) ?_
      refine m_cv (As := [.int p1]) (rest := []) x hml L1 (c_huntAnew l nn X g1 p1 hnn hX (mJ_fr hJ hp1.1 rfl) (rg_w rp1 rfl)) (wm_V uc_huntAnew ul_341 ui_huntAnew us_huntAnew u_init) rfl ⟨rfl, rfl⟩ hd_huntAnew ⟨Nat.le_of_ble_eq_true rfl, Nat.le_of_ble_eq_true rfl⟩ rfl hl.1 rfl (lv_room (Nat.le_of_ble_eq_true rfl)) dX12_judge_34 (fun  g65 H65 k65 hp65 L65 => ?_)
      exact hQ _ _ _ _ _ dX12_judge_37 L65 ⟨(mFr.tr (mFr.tr mFr.rf hp1.1 rfl) hp65.1 rfl), hp65.2.1, trivial⟩
theorem c_judge (l : Launch) {G : mG} {h0 : Nat} {ad : Nat → Nat} (nn X : Int) (g : mSt) (p1 : Int32) (p2 : Int32) (hnn : 2 ≤ nn ∧ nn ≤ 4) (hX : 0 ≤ X ∧ X ≤ 2000000000) (hJ : mJ nn [] g) (rp1 : rg (0) (7) p1) (rp2 : rg (0) (371) p2) : Met l yX12_judge (wm (Cond.code yX12_judge cX12_judge 5 none)) rm_judge (va_Pc [.ref h0, .int p1, .int p2] (mPre G h0 ad nn X g)) (mQv G h0 ad nn X (fun g1 => mFr [21, 22, 23, 24, 25, 26, 28, 29] g g1 ∧ mJ nn [] g1 ∧ True)) 0 0 (mA h0 ad) := by
  refine Met.ofW (cc := cX12_judge) (maxL := 5) (ret := none) (by decide) rfl ?_
  intro p e s m args below meth c s₁ B hml hv
  obtain ⟨rfl, hv⟩ := hv
  have hr := B.returns
  have hlocks := B.notSynchronized
  obtain ⟨x, L⟩ := m_start B rfl wm_X hv
  have hl := lv_entry ([.ref h0, .int p1, .int p2]) (n := 5) (Nat.le_of_ble_eq_true rfl)
  rw [lg_entry_eq]
  generalize (lg_sl ([.ref h0, .int p1, .int p2]) ++ List.replicate (5 - (lg_sl ([.ref h0, .int p1, .int p2])).length) Slot.unset).toArray = ls at hl ⊢
  exact w_judge x hml L hnn hX hJ p1 p2 rp1 rp2 hl (fun pc' ls' g1 H1 locs1 hdg L hp => m_vret x L hr hlocks (Int.le_refl _) hp hdg)

def rm_damage : Room := { frames := 1, cells := 0, slots := 0, locals := 21 }
theorem hd_damage : yX12_damage.cls = RX12 ∧ yX12_damage.cls ≠ "java/lang/invoke/MethodHandle" ∧ yX12_damage.cls ≠ "java/lang/invoke/VarHandle" ∧ (parseMethodDescriptor yX12_damage.desc).map (fun d => d.parameters.length) = some 5 := by decide +kernel
set_option maxHeartbeats 4000000 in
set_option maxRecDepth 100000 in
theorem w_damage {p : Program} {l : Launch} {e : Env} {s : State} {m : MethodId} {args : Array Value} {below : List Frame} {meth : Method} {c : Code} {H : Heap} {locs : List Loc} {Q : State → Prop} {ls : Array Slot} {G : mG} {h0 : Nat} {ad : Nat → Nat} {g : mSt} {H0 : Heap} {nn X : Int} (x : mX p c cX12_damage s args (wm (Cond.code yX12_damage cX12_damage 8 (some .int))) m G h0 ad) (hml : c.maxLocals = 8) (L : mL G h0 ad H0 nn X g H locs) (hnn : 2 ≤ nn ∧ nn ≤ 4) (hX : 0 ≤ X ∧ X ≤ 2000000000) (hJ : mJ nn [] g) (p1 : Int32) (p2 : Int32) (p3 : Int32) (p4 : Int32) (p5 : Int32) (hl : lv_has ls 8 [(0, .ref h0), (1, .int p1), (2, .int p2), (3, .int p3), (4, .int p4), (5, .int p5)]) (hQ : ∀ (pc' : Nat) (ls' : Array Slot) (r : Int32) (g1 : mSt) (H1 : Heap) (locs1 : List Loc), decode cX12_damage pc' = .ok (.ireturn, 1) → mL G h0 ad H0 nn X g1 H1 locs1 → (mFr [12, 13, 14, 15, 16] g g1 ∧ rg (-3) (8) r ∧ mJ nn [] g1 ∧ True) → W p l e rm_damage s m args below meth c H1 locs1 0 0 Q (F0 m pc' ls' [.int r])) : W p l e rm_damage s m args below meth c H locs 0 0 Q (F0 m 0 ls []) := by
  have hx := x.1
  have hb := x.2.1
  have up1 : (-2147483648 : Int) ≤ p1.toInt ∧ p1.toInt ≤ 2147483647 := (rg_any p1)
  have up2 : (-2147483648 : Int) ≤ p2.toInt ∧ p2.toInt ≤ 2147483647 := (rg_any p2)
  have up3 : (-2147483648 : Int) ≤ p3.toInt ∧ p3.toInt ≤ 2147483647 := (rg_any p3)
  have up4 : (-2147483648 : Int) ≤ p4.toInt ∧ p4.toInt ≤ 2147483647 := (rg_any p4)
  have up5 : (-2147483648 : Int) ≤ p5.toInt ∧ p5.toInt ≤ 2147483647 := (rg_any p5)
  refine lv_aload_n hx hb dX12_damage_0 rfl (lv_at hl 0 rfl) ?_
  refine lv_iload_n hx hb dX12_damage_1 rfl (lv_at hl 1 rfl) ?_
  refine m_ci (As := [.int p1]) (rest := []) x hml L (c_isDirection l nn X g p1 hnn hX) (wm_V uc_isDirection ul_319 ui_isDirection us_isDirection u_init) rfl ⟨rfl, rfl⟩ hd_isDirection ⟨Nat.le_of_ble_eq_true rfl, Nat.le_of_ble_eq_true rfl⟩ rfl hl.1 rfl (lv_room (Nat.le_of_ble_eq_true rfl)) dX12_damage_2 (fun v2 g1 H1 k1 hp1 L1 => ?_)
  have rv2 : rg (0) (1) v2 := hp1.2.1
  have uv2 : (0 : Int) ≤ v2.toInt ∧ v2.toInt ≤ 1 := rv2
  refine lv_if_eq (tgt := 32) hx hb dX12_damage_5 (by decide) (fun c5_3 => ?_) (fun c5_3 => ?_)
  · skip
    have ic5_3 := congrArg Int32.toInt c5_3
    have y4 : (0 : Int32).toInt = 0 := by decide
    have q5 : rg (0) (0) v2 := (rg_eq c5_3 rv2 kc_0).1
    have uq5 : (0 : Int) ≤ v2.toInt ∧ v2.toInt ≤ 0 := q5
    refine lv_iconst (v := 0) hx hb dX12_damage_32 (by decide) ?_
    refine lv_istore (lv' := [(6, .int (0 : Int32)), (0, .ref h0), (1, .int p1), (2, .int p2), (3, .int p3), (4, .int p4), (5, .int p5)]) hx hb dX12_damage_33 hl (by decide) rfl (fun ls hl => ?_)
    refine lv_iload hx hb dX12_damage_35 (lv_at hl 0 rfl) ?_
    refine lv_if_eq (tgt := 75) hx hb dX12_damage_37 (by decide) (fun c37_6 => ?_) (fun c37_6 => ?_)
    · skip
      refine lv_iconst (v := 0) hx hb dX12_damage_75 (by decide) ?_
      refine lv_istore (lv' := [(6, .int (0 : Int32)), (0, .ref h0), (1, .int p1), (2, .int p2), (3, .int p3), (4, .int p4), (5, .int p5)]) hx hb dX12_damage_76 hl (by decide) rfl (fun ls hl => ?_)
      refine lv_iload hx hb dX12_damage_78 (lv_at hl 0 rfl) ?_
      refine lv_if_ne (tgt := 85) hx hb dX12_damage_80 (by decide) (fun c80_7 => ?_) (fun c80_7 => ?_)
      · skip
        exact absurd c80_7 (by decide)
      · skip
        refine lv_iconst (v := (-1)) hx hb dX12_damage_83 (by decide) ?_
        exact hQ _ _ (-1 : Int32) _ _ _ dX12_damage_84 L1 ⟨(mFr.tr mFr.rf hp1.1 rfl), rg_w kc_m1 rfl, (mJ_fr hJ hp1.1 rfl), trivial⟩
    · skip
      exact absurd c37_6 (by decide)
  · skip
    have ic5_3 : v2.toInt ≠ (0 : Int32).toInt := fun z => c5_3 (Int32.toInt_inj.mp z)
    have y8 : (0 : Int32).toInt = 0 := by decide
    have q9 : rg (0) (7) p1 ∧ p1.toInt < 2 * nn := hp1.2.2 c5_3
    have uq9 : (0 : Int) ≤ p1.toInt ∧ p1.toInt ≤ 7 := q9.1
    have wq9 := q9.2
    have q10 : rg (1) (1) v2 := rg_neL c5_3 rv2 kc_0
    have uq10 : (1 : Int) ≤ v2.toInt ∧ v2.toInt ≤ 1 := q10
    refine lv_iload_n hx hb dX12_damage_8 rfl (lv_at hl 2 rfl) ?_
    refine lv_if_lt (tgt := 32) hx hb dX12_damage_9 (by decide) (fun c9_11 => ?_) (fun c9_11 => ?_)
    · skip
      have ic9_11 := Int32.lt_iff_toInt_lt.mp c9_11
      have q12 : rg (-2147483648) (-1) p2 := (rg_lt c9_11 (rg_any p2) kc_0).1
      have uq12 : (-2147483648 : Int) ≤ p2.toInt ∧ p2.toInt ≤ -1 := q12
      refine lv_iconst (v := 0) hx hb dX12_damage_32 (by decide) ?_
      refine lv_istore (lv' := [(6, .int (0 : Int32)), (0, .ref h0), (1, .int p1), (2, .int p2), (3, .int p3), (4, .int p4), (5, .int p5)]) hx hb dX12_damage_33 hl (by decide) rfl (fun ls hl => ?_)
      refine lv_iload hx hb dX12_damage_35 (lv_at hl 0 rfl) ?_
      refine lv_if_eq (tgt := 75) hx hb dX12_damage_37 (by decide) (fun c37_13 => ?_) (fun c37_13 => ?_)
      · skip
        refine lv_iconst (v := 0) hx hb dX12_damage_75 (by decide) ?_
        refine lv_istore (lv' := [(6, .int (0 : Int32)), (0, .ref h0), (1, .int p1), (2, .int p2), (3, .int p3), (4, .int p4), (5, .int p5)]) hx hb dX12_damage_76 hl (by decide) rfl (fun ls hl => ?_)
        refine lv_iload hx hb dX12_damage_78 (lv_at hl 0 rfl) ?_
        refine lv_if_ne (tgt := 85) hx hb dX12_damage_80 (by decide) (fun c80_14 => ?_) (fun c80_14 => ?_)
        · skip
          exact absurd c80_14 (by decide)
        · skip
          refine lv_iconst (v := (-1)) hx hb dX12_damage_83 (by decide) ?_
          exact hQ _ _ (-1 : Int32) _ _ _ dX12_damage_84 L1 ⟨(mFr.tr mFr.rf hp1.1 rfl), rg_w kc_m1 rfl, (mJ_fr hJ hp1.1 rfl), trivial⟩
      · skip
        exact absurd c37_13 (by decide)
    · skip
      have ic9_11 := Int32.le_iff_toInt_le.mp (rg_nlt c9_11)
      have q15 : rg (0) (2147483647) p2 := (rg_le (rg_nlt c9_11) kc_0 (rg_any p2)).2
      have uq15 : (0 : Int) ≤ p2.toInt ∧ p2.toInt ≤ 2147483647 := q15
      refine lv_iload_n hx hb dX12_damage_12 rfl (lv_at hl 2 rfl) ?_
      refine lv_iconst (v := 2) hx hb dX12_damage_13 (by decide) ?_
      refine lv_icmp_gt (tgt := 32) hx hb dX12_damage_14 (by decide) (fun c14_16 => ?_) (fun c14_16 => ?_)
      · skip
        have ic14_16 := Int32.lt_iff_toInt_lt.mp c14_16
        have q17 : rg (3) (2147483647) p2 := (rg_lt c14_16 kc_2 q15).2
        have uq17 : (3 : Int) ≤ p2.toInt ∧ p2.toInt ≤ 2147483647 := q17
        refine lv_iconst (v := 0) hx hb dX12_damage_32 (by decide) ?_
        refine lv_istore (lv' := [(6, .int (0 : Int32)), (0, .ref h0), (1, .int p1), (2, .int p2), (3, .int p3), (4, .int p4), (5, .int p5)]) hx hb dX12_damage_33 hl (by decide) rfl (fun ls hl => ?_)
        refine lv_iload hx hb dX12_damage_35 (lv_at hl 0 rfl) ?_
        refine lv_if_eq (tgt := 75) hx hb dX12_damage_37 (by decide) (fun c37_18 => ?_) (fun c37_18 => ?_)
        · skip
          refine lv_iconst (v := 0) hx hb dX12_damage_75 (by decide) ?_
          refine lv_istore (lv' := [(6, .int (0 : Int32)), (0, .ref h0), (1, .int p1), (2, .int p2), (3, .int p3), (4, .int p4), (5, .int p5)]) hx hb dX12_damage_76 hl (by decide) rfl (fun ls hl => ?_)
          refine lv_iload hx hb dX12_damage_78 (lv_at hl 0 rfl) ?_
          refine lv_if_ne (tgt := 85) hx hb dX12_damage_80 (by decide) (fun c80_19 => ?_) (fun c80_19 => ?_)
          · skip
            exact absurd c80_19 (by decide)
          · skip
            refine lv_iconst (v := (-1)) hx hb dX12_damage_83 (by decide) ?_
            exact hQ _ _ (-1 : Int32) _ _ _ dX12_damage_84 L1 ⟨(mFr.tr mFr.rf hp1.1 rfl), rg_w kc_m1 rfl, (mJ_fr hJ hp1.1 rfl), trivial⟩
        · skip
          exact absurd c37_18 (by decide)
      · skip
        have ic14_16 := Int32.le_iff_toInt_le.mp (rg_nlt c14_16)
        have q20 : rg (0) (2) p2 := (rg_le (rg_nlt c14_16) q15 kc_2).1
        have uq20 : (0 : Int) ≤ p2.toInt ∧ p2.toInt ≤ 2 := q20
        refine lv_iload_n hx hb dX12_damage_17 rfl (lv_at hl 3 rfl) ?_
        refine lv_if_lt (tgt := 32) hx hb dX12_damage_18 (by decide) (fun c18_21 => ?_) (fun c18_21 => ?_)
        · skip
          have ic18_21 := Int32.lt_iff_toInt_lt.mp c18_21
          have q22 : rg (-2147483648) (-1) p3 := (rg_lt c18_21 (rg_any p3) kc_0).1
          have uq22 : (-2147483648 : Int) ≤ p3.toInt ∧ p3.toInt ≤ -1 := q22
          refine lv_iconst (v := 0) hx hb dX12_damage_32 (by decide) ?_
          refine lv_istore (lv' := [(6, .int (0 : Int32)), (0, .ref h0), (1, .int p1), (2, .int p2), (3, .int p3), (4, .int p4), (5, .int p5)]) hx hb dX12_damage_33 hl (by decide) rfl (fun ls hl => ?_)
          refine lv_iload hx hb dX12_damage_35 (lv_at hl 0 rfl) ?_
          refine lv_if_eq (tgt := 75) hx hb dX12_damage_37 (by decide) (fun c37_23 => ?_) (fun c37_23 => ?_)
          · skip
            refine lv_iconst (v := 0) hx hb dX12_damage_75 (by decide) ?_
            refine lv_istore (lv' := [(6, .int (0 : Int32)), (0, .ref h0), (1, .int p1), (2, .int p2), (3, .int p3), (4, .int p4), (5, .int p5)]) hx hb dX12_damage_76 hl (by decide) rfl (fun ls hl => ?_)
            refine lv_iload hx hb dX12_damage_78 (lv_at hl 0 rfl) ?_
            refine lv_if_ne (tgt := 85) hx hb dX12_damage_80 (by decide) (fun c80_24 => ?_) (fun c80_24 => ?_)
            · skip
              exact absurd c80_24 (by decide)
            · skip
              refine lv_iconst (v := (-1)) hx hb dX12_damage_83 (by decide) ?_
              exact hQ _ _ (-1 : Int32) _ _ _ dX12_damage_84 L1 ⟨(mFr.tr mFr.rf hp1.1 rfl), rg_w kc_m1 rfl, (mJ_fr hJ hp1.1 rfl), trivial⟩
          · skip
            exact absurd c37_23 (by decide)
        · skip
          have ic18_21 := Int32.le_iff_toInt_le.mp (rg_nlt c18_21)
          have q25 : rg (0) (2147483647) p3 := (rg_le (rg_nlt c18_21) kc_0 (rg_any p3)).2
          have uq25 : (0 : Int) ≤ p3.toInt ∧ p3.toInt ≤ 2147483647 := q25
          refine lv_iload_n hx hb dX12_damage_21 rfl (lv_at hl 3 rfl) ?_
          refine lv_sipush (v := 999) hx hb dX12_damage_22 (by decide) ?_
          refine lv_icmp_gt (tgt := 32) hx hb dX12_damage_25 (by decide) (fun c25_26 => ?_) (fun c25_26 => ?_)
          · skip
            have ic25_26 := Int32.lt_iff_toInt_lt.mp c25_26
            have q27 : rg (1000) (2147483647) p3 := (rg_lt c25_26 kc_999 q25).2
            have uq27 : (1000 : Int) ≤ p3.toInt ∧ p3.toInt ≤ 2147483647 := q27
            refine lv_iconst (v := 0) hx hb dX12_damage_32 (by decide) ?_
            refine lv_istore (lv' := [(6, .int (0 : Int32)), (0, .ref h0), (1, .int p1), (2, .int p2), (3, .int p3), (4, .int p4), (5, .int p5)]) hx hb dX12_damage_33 hl (by decide) rfl (fun ls hl => ?_)
            refine lv_iload hx hb dX12_damage_35 (lv_at hl 0 rfl) ?_
            refine lv_if_eq (tgt := 75) hx hb dX12_damage_37 (by decide) (fun c37_28 => ?_) (fun c37_28 => ?_)
            · skip
              refine lv_iconst (v := 0) hx hb dX12_damage_75 (by decide) ?_
              refine lv_istore (lv' := [(6, .int (0 : Int32)), (0, .ref h0), (1, .int p1), (2, .int p2), (3, .int p3), (4, .int p4), (5, .int p5)]) hx hb dX12_damage_76 hl (by decide) rfl (fun ls hl => ?_)
              refine lv_iload hx hb dX12_damage_78 (lv_at hl 0 rfl) ?_
              refine lv_if_ne (tgt := 85) hx hb dX12_damage_80 (by decide) (fun c80_29 => ?_) (fun c80_29 => ?_)
              · skip
                exact absurd c80_29 (by decide)
              · skip
                refine lv_iconst (v := (-1)) hx hb dX12_damage_83 (by decide) ?_
                exact hQ _ _ (-1 : Int32) _ _ _ dX12_damage_84 L1 ⟨(mFr.tr mFr.rf hp1.1 rfl), rg_w kc_m1 rfl, (mJ_fr hJ hp1.1 rfl), trivial⟩
            · skip
              exact absurd c37_28 (by decide)
          · skip
            have ic25_26 := Int32.le_iff_toInt_le.mp (rg_nlt c25_26)
            have q30 : rg (0) (999) p3 := (rg_le (rg_nlt c25_26) q25 kc_999).1
            have uq30 : (0 : Int) ≤ p3.toInt ∧ p3.toInt ≤ 999 := q30
            refine lv_iconst (v := 1) hx hb dX12_damage_28 (by decide) ?_
            refine lv_goto (tgt := 33) hx hb dX12_damage_29 (by decide) ?_
            refine lv_istore (lv' := [(6, .int (1 : Int32)), (0, .ref h0), (1, .int p1), (2, .int p2), (3, .int p3), (4, .int p4), (5, .int p5)]) hx hb dX12_damage_33 hl (by decide) rfl (fun ls hl => ?_)
            refine lv_iload hx hb dX12_damage_35 (lv_at hl 0 rfl) ?_
            refine lv_if_eq (tgt := 75) hx hb dX12_damage_37 (by decide) (fun c37_31 => ?_) (fun c37_31 => ?_)
            · skip
              exact absurd c37_31 (by decide)
            · skip
              refine lv_iload_n hx hb dX12_damage_40 rfl (lv_at hl 3 rfl) ?_
              refine lv_iconst (v := 1) hx hb dX12_damage_41 (by decide) ?_
              refine lv_icmp_ne (tgt := 71) hx hb dX12_damage_42 (by decide) (fun c42_32 => ?_) (fun c42_32 => ?_)
              · skip
                have ic42_32 : p2.toInt ≠ (1 : Int32).toInt := fun z => c42_32 (Int32.toInt_inj.mp z)
                have y33 : (1 : Int32).toInt = 1 := by decide
                refine lv_iconst (v := 1) hx hb dX12_damage_71 (by decide) ?_
                refine lv_goto (tgt := 76) hx hb dX12_damage_72 (by decide) ?_
                refine lv_istore (lv' := [(6, .int (1 : Int32)), (0, .ref h0), (1, .int p1), (2, .int p2), (3, .int p3), (4, .int p4), (5, .int p5)]) hx hb dX12_damage_76 hl (by decide) rfl (fun ls hl => ?_)
                refine lv_iload hx hb dX12_damage_78 (lv_at hl 0 rfl) ?_
                refine lv_if_ne (tgt := 85) hx hb dX12_damage_80 (by decide) (fun c80_34 => ?_) (fun c80_34 => ?_)
                · skip
                  refine lv_aload_n hx hb dX12_damage_85 rfl (lv_at hl 1 rfl) ?_
                  refine m_geta x L1 16 rfl rfl (wm_in uf_44) dX12_damage_86 ?_
                  refine lv_iload_n hx hb dX12_damage_89 rfl (lv_at hl 2 rfl) ?_
                  refine m_ld x L1 16 rfl q9.1 rfl dX12_damage_90 (fun v35 ev35 wv35 => ?_)
                  have rv35 : rg (0) (8) v35 := lj_16 wv35
                  have uv35 : (0 : Int) ≤ v35.toInt ∧ v35.toInt ≤ 8 := rv35
                  refine lv_bipush (v := 8) hx hb dX12_damage_91 (by decide) ?_
                  refine lv_icmp_ne (tgt := 99) hx hb dX12_damage_93 (by decide) (fun c93_36 => ?_) (fun c93_36 => ?_)
                  · skip
                    have ic93_36 : v35.toInt ≠ (8 : Int32).toInt := fun z => c93_36 (Int32.toInt_inj.mp z)
                    have y37 : (8 : Int32).toInt = 8 := by decide
                    have q38 : rg (0) (7) v35 := rg_neH c93_36 rv35 kc_8
                    have uq38 : (0 : Int) ≤ v35.toInt ∧ v35.toInt ≤ 7 := q38
                    refine lv_bipush (v := 8) hx hb dX12_damage_99 (by decide) ?_
                    refine lv_iload_n hx hb dX12_damage_101 rfl (lv_at hl 2 rfl) ?_
                    refine lv_imul hx hb dX12_damage_102 ?_
                    refine lv_topi (fun v39 ev39 => ?_)
                    have rv39 : rg (0) (56) v39 := (rg_mulL ev39 kc_8 q9.1 rfl).1
                    have tv39 := (rg_mulL ev39 kc_8 q9.1 rfl).2
                    have y40 : (8 : Int32).toInt = 8 := by decide
                    have b16v39 : v39.toInt < 16 * nn := by have := q9.2; have : (8 : Int32).toInt = 8 := (by decide); omega
                    have uv39 : (0 : Int) ≤ v39.toInt ∧ v39.toInt ≤ 56 := rv39
                    refine lv_aload_n hx hb dX12_damage_103 rfl (lv_at hl 1 rfl) ?_
                    refine m_geta x L1 16 rfl rfl (wm_in uf_44) dX12_damage_104 ?_
                    refine lv_iload_n hx hb dX12_damage_107 rfl (lv_at hl 2 rfl) ?_
                    refine m_ld x L1 16 rfl q9.1 rfl dX12_damage_108 (fun v41 ev41 wv41 => ?_)
                    refine m_top ((ev35).trans ev41.symm) ?_
                    refine lv_iadd hx hb dX12_damage_109 ?_
                    refine lv_topi (fun v42 ev42 => ?_)
                    have rv42 : rg (0) (63) v42 := (rg_add ev42 rv39 q38 rfl).1
                    have tv42 := (rg_add ev42 rv39 q38 rfl).2
                    have uv42 : (0 : Int) ≤ v42.toInt ∧ v42.toInt ≤ 63 := rv42
                    refine lv_istore (lv' := [(7, .int v42), (6, .int (1 : Int32)), (0, .ref h0), (1, .int p1), (2, .int p2), (3, .int p3), (4, .int p4), (5, .int p5)]) hx hb dX12_damage_110 hl (by decide) rfl (fun ls hl => ?_)
                    refine lv_aload_n hx hb dX12_damage_112 rfl (lv_at hl 2 rfl) ?_
                    refine m_geta x L1 12 rfl rfl (wm_in uf_32) dX12_damage_113 ?_
                    refine lv_iload hx hb dX12_damage_116 (lv_at hl 0 rfl) ?_
                    refine lv_iload_n hx hb dX12_damage_118 rfl (lv_at hl 4 rfl) ?_
                    refine m_st x L1 12 rfl rv42 rfl (rj_12 (rg_w q20 rfl)) dX12_damage_119 (fun g43 H43 k43 eg43 L43 => ?_)
                    refine lv_aload_n hx hb dX12_damage_120 rfl (lv_at hl 2 rfl) ?_
                    refine m_geta x L43 13 rfl rfl (wm_in uf_35) dX12_damage_121 ?_
                    refine lv_iload hx hb dX12_damage_124 (lv_at hl 0 rfl) ?_
                    refine lv_iload_n hx hb dX12_damage_126 rfl (lv_at hl 5 rfl) ?_
                    refine m_st x L43 13 rfl rv42 rfl (rj_13 (rg_any p3)) dX12_damage_127 (fun g44 H44 k44 eg44 L44 => ?_)
                    refine lv_aload_n hx hb dX12_damage_128 rfl (lv_at hl 2 rfl) ?_
                    refine m_geta x L44 14 rfl rfl (wm_in uf_38) dX12_damage_129 ?_
                    refine lv_iload hx hb dX12_damage_132 (lv_at hl 0 rfl) ?_
                    refine lv_iload hx hb dX12_damage_134 (lv_at hl 6 rfl) ?_
                    refine m_st x L44 14 rfl rv42 rfl (rj_14 (rg_any p4)) dX12_damage_136 (fun g45 H45 k45 eg45 L45 => ?_)
                    have hJ46 := mJ_dmg (mJ_fr hJ hp1.1 rfl) eg43 eg44 eg45 (fun z => ⟨by omega, by omega⟩)
                    refine lv_aload_n hx hb dX12_damage_137 rfl (lv_at hl 2 rfl) ?_
                    refine m_geta x L45 15 rfl rfl (wm_in uf_41) dX12_damage_138 ?_
                    refine lv_iload hx hb dX12_damage_141 (lv_at hl 0 rfl) ?_
                    refine lv_iload hx hb dX12_damage_143 (lv_at hl 7 rfl) ?_
                    refine m_st x L45 15 rfl rv42 rfl (rj_15 (rg_any p5)) dX12_damage_145 (fun g47 H47 k47 eg47 L47 => ?_)
                    refine lv_aload_n hx hb dX12_damage_146 rfl (lv_at hl 2 rfl) ?_
                    refine m_geta x L47 16 rfl rfl (wm_in uf_44) dX12_damage_147 ?_
                    refine lv_iload_n hx hb dX12_damage_150 rfl (lv_at hl 3 rfl) ?_
                    refine lv_dup2_11 hx hb dX12_damage_151 rfl rfl ?_
                    refine m_ld x L47 16 rfl q9.1 rfl dX12_damage_152 (fun v48 ev48 wv48 => ?_)
                    refine m_top (((mm_up (mm_up (mm_up (mm_up ev35 eg43 rfl) eg44 rfl) eg45 rfl) eg47 rfl)).trans ev48.symm) ?_
                    refine lv_iconst (v := 1) hx hb dX12_damage_153 (by decide) ?_
                    refine lv_iadd hx hb dX12_damage_154 ?_
                    refine lv_topi (fun v49 ev49 => ?_)
                    have rv49 : rg (1) (8) v49 := (rg_add ev49 q38 kc_1 rfl).1
                    have tv49 := (rg_add ev49 q38 kc_1 rfl).2
                    have y50 : (1 : Int32).toInt = 1 := by decide
                    have uv49 : (1 : Int) ≤ v49.toInt ∧ v49.toInt ≤ 8 := rv49
                    refine m_st x L47 16 rfl q9.1 rfl (rj_16 (rg_w rv49 rfl)) dX12_damage_155 (fun g51 H51 k51 eg51 L51 => ?_)
                    refine lv_aload_n hx hb dX12_damage_156 rfl (lv_at hl 2 rfl) ?_
                    refine m_geta x L51 16 rfl rfl (wm_in uf_44) dX12_damage_157 ?_
                    refine lv_iload_n hx hb dX12_damage_160 rfl (lv_at hl 3 rfl) ?_
                    refine m_ld x L51 16 rfl q9.1 rfl dX12_damage_161 (fun v52 ev52 wv52 => ?_)
                    refine m_top (((mm_st eg51)).trans ev52.symm) ?_
                    exact hQ _ _ v49 _ _ _ dX12_damage_162 L51 ⟨(mFr.upE (mFr.upE (mFr.upE (mFr.upE (mFr.upE (mFr.tr mFr.rf hp1.1 rfl) eg43 rfl) eg44 rfl) eg45 rfl) eg47 rfl) eg51 rfl), rg_w rv49 rfl, (mJ_up (mJ_up hJ46 eg47 rfl) eg51 rfl), trivial⟩
                  · skip
                    have ic93_36 := congrArg Int32.toInt c93_36
                    have y53 : (8 : Int32).toInt = 8 := by decide
                    have q54 : rg (8) (8) v35 := (rg_eq c93_36 rv35 kc_8).1
                    have uq54 : (8 : Int) ≤ v35.toInt ∧ v35.toInt ≤ 8 := q54
                    refine lv_bipush (v := (-3)) hx hb dX12_damage_96 (by decide) ?_
                    exact hQ _ _ (-3 : Int32) _ _ _ dX12_damage_98 L1 ⟨(mFr.tr mFr.rf hp1.1 rfl), rg_w kc_m3 rfl, (mJ_fr hJ hp1.1 rfl), trivial⟩
                · skip
                  exact absurd c80_34 (by decide)
              · skip
                have ic42_32 := congrArg Int32.toInt c42_32
                have y55 : (1 : Int32).toInt = 1 := by decide
                have q56 : rg (1) (1) p2 := (rg_eq c42_32 q20 kc_1).1
                have uq56 : (1 : Int) ≤ p2.toInt ∧ p2.toInt ≤ 1 := q56
                refine lv_iload hx hb dX12_damage_45 (lv_at hl 5 rfl) ?_
                refine lv_if_lt (tgt := 75) hx hb dX12_damage_47 (by decide) (fun c47_57 => ?_) (fun c47_57 => ?_)
                · skip
                  have ic47_57 := Int32.lt_iff_toInt_lt.mp c47_57
                  have q58 : rg (-2147483648) (-1) p4 := (rg_lt c47_57 (rg_any p4) kc_0).1
                  have uq58 : (-2147483648 : Int) ≤ p4.toInt ∧ p4.toInt ≤ -1 := q58
                  refine lv_iconst (v := 0) hx hb dX12_damage_75 (by decide) ?_
                  refine lv_istore (lv' := [(6, .int (0 : Int32)), (0, .ref h0), (1, .int p1), (2, .int p2), (3, .int p3), (4, .int p4), (5, .int p5)]) hx hb dX12_damage_76 hl (by decide) rfl (fun ls hl => ?_)
                  refine lv_iload hx hb dX12_damage_78 (lv_at hl 0 rfl) ?_
                  refine lv_if_ne (tgt := 85) hx hb dX12_damage_80 (by decide) (fun c80_59 => ?_) (fun c80_59 => ?_)
                  · skip
                    exact absurd c80_59 (by decide)
                  · skip
                    refine lv_iconst (v := (-1)) hx hb dX12_damage_83 (by decide) ?_
                    exact hQ _ _ (-1 : Int32) _ _ _ dX12_damage_84 L1 ⟨(mFr.tr mFr.rf hp1.1 rfl), rg_w kc_m1 rfl, (mJ_fr hJ hp1.1 rfl), trivial⟩
                · skip
                  have ic47_57 := Int32.le_iff_toInt_le.mp (rg_nlt c47_57)
                  have q60 : rg (0) (2147483647) p4 := (rg_le (rg_nlt c47_57) kc_0 (rg_any p4)).2
                  have uq60 : (0 : Int) ≤ p4.toInt ∧ p4.toInt ≤ 2147483647 := q60
                  refine lv_iload hx hb dX12_damage_50 (lv_at hl 5 rfl) ?_
                  refine lv_bipush (v := 52) hx hb dX12_damage_52 (by decide) ?_
                  refine lv_icmp_gt (tgt := 75) hx hb dX12_damage_54 (by decide) (fun c54_61 => ?_) (fun c54_61 => ?_)
                  · skip
                    have ic54_61 := Int32.lt_iff_toInt_lt.mp c54_61
                    have q62 : rg (53) (2147483647) p4 := (rg_lt c54_61 kc_52 q60).2
                    have uq62 : (53 : Int) ≤ p4.toInt ∧ p4.toInt ≤ 2147483647 := q62
                    refine lv_iconst (v := 0) hx hb dX12_damage_75 (by decide) ?_
                    refine lv_istore (lv' := [(6, .int (0 : Int32)), (0, .ref h0), (1, .int p1), (2, .int p2), (3, .int p3), (4, .int p4), (5, .int p5)]) hx hb dX12_damage_76 hl (by decide) rfl (fun ls hl => ?_)
                    refine lv_iload hx hb dX12_damage_78 (lv_at hl 0 rfl) ?_
                    refine lv_if_ne (tgt := 85) hx hb dX12_damage_80 (by decide) (fun c80_63 => ?_) (fun c80_63 => ?_)
                    · skip
                      exact absurd c80_63 (by decide)
                    · skip
                      refine lv_iconst (v := (-1)) hx hb dX12_damage_83 (by decide) ?_
                      exact hQ _ _ (-1 : Int32) _ _ _ dX12_damage_84 L1 ⟨(mFr.tr mFr.rf hp1.1 rfl), rg_w kc_m1 rfl, (mJ_fr hJ hp1.1 rfl), trivial⟩
                  · skip
                    have ic54_61 := Int32.le_iff_toInt_le.mp (rg_nlt c54_61)
                    have q64 : rg (0) (52) p4 := (rg_le (rg_nlt c54_61) q60 kc_52).1
                    have uq64 : (0 : Int) ≤ p4.toInt ∧ p4.toInt ≤ 52 := q64
                    refine lv_iload hx hb dX12_damage_57 (lv_at hl 6 rfl) ?_
                    refine lv_iconst (v := 1) hx hb dX12_damage_59 (by decide) ?_
                    refine lv_icmp_lt (tgt := 75) hx hb dX12_damage_60 (by decide) (fun c60_65 => ?_) (fun c60_65 => ?_)
                    · skip
                      have ic60_65 := Int32.lt_iff_toInt_lt.mp c60_65
                      have q66 : rg (-2147483648) (0) p5 := (rg_lt c60_65 (rg_any p5) kc_1).1
                      have uq66 : (-2147483648 : Int) ≤ p5.toInt ∧ p5.toInt ≤ 0 := q66
                      refine lv_iconst (v := 0) hx hb dX12_damage_75 (by decide) ?_
                      refine lv_istore (lv' := [(6, .int (0 : Int32)), (0, .ref h0), (1, .int p1), (2, .int p2), (3, .int p3), (4, .int p4), (5, .int p5)]) hx hb dX12_damage_76 hl (by decide) rfl (fun ls hl => ?_)
                      refine lv_iload hx hb dX12_damage_78 (lv_at hl 0 rfl) ?_
                      refine lv_if_ne (tgt := 85) hx hb dX12_damage_80 (by decide) (fun c80_67 => ?_) (fun c80_67 => ?_)
                      · skip
                        exact absurd c80_67 (by decide)
                      · skip
                        refine lv_iconst (v := (-1)) hx hb dX12_damage_83 (by decide) ?_
                        exact hQ _ _ (-1 : Int32) _ _ _ dX12_damage_84 L1 ⟨(mFr.tr mFr.rf hp1.1 rfl), rg_w kc_m1 rfl, (mJ_fr hJ hp1.1 rfl), trivial⟩
                    · skip
                      have ic60_65 := Int32.le_iff_toInt_le.mp (rg_nlt c60_65)
                      have q68 : rg (1) (2147483647) p5 := (rg_le (rg_nlt c60_65) kc_1 (rg_any p5)).2
                      have uq68 : (1 : Int) ≤ p5.toInt ∧ p5.toInt ≤ 2147483647 := q68
                      refine lv_iload hx hb dX12_damage_63 (lv_at hl 6 rfl) ?_
                      refine lv_sipush (v := 255) hx hb dX12_damage_65 (by decide) ?_
                      refine lv_icmp_gt (tgt := 75) hx hb dX12_damage_68 (by decide) (fun c68_69 => ?_) (fun c68_69 => ?_)
                      · skip
                        have ic68_69 := Int32.lt_iff_toInt_lt.mp c68_69
                        have q70 : rg (256) (2147483647) p5 := (rg_lt c68_69 kc_255 q68).2
                        have uq70 : (256 : Int) ≤ p5.toInt ∧ p5.toInt ≤ 2147483647 := q70
                        refine lv_iconst (v := 0) hx hb dX12_damage_75 (by decide) ?_
                        refine lv_istore (lv' := [(6, .int (0 : Int32)), (0, .ref h0), (1, .int p1), (2, .int p2), (3, .int p3), (4, .int p4), (5, .int p5)]) hx hb dX12_damage_76 hl (by decide) rfl (fun ls hl => ?_)
                        refine lv_iload hx hb dX12_damage_78 (lv_at hl 0 rfl) ?_
                        refine lv_if_ne (tgt := 85) hx hb dX12_damage_80 (by decide) (fun c80_71 => ?_) (fun c80_71 => ?_)
                        · skip
                          exact absurd c80_71 (by decide)
                        · skip
                          refine lv_iconst (v := (-1)) hx hb dX12_damage_83 (by decide) ?_
                          exact hQ _ _ (-1 : Int32) _ _ _ dX12_damage_84 L1 ⟨(mFr.tr mFr.rf hp1.1 rfl), rg_w kc_m1 rfl, (mJ_fr hJ hp1.1 rfl), trivial⟩
                      · skip
                        have ic68_69 := Int32.le_iff_toInt_le.mp (rg_nlt c68_69)
                        have q72 : rg (1) (255) p5 := (rg_le (rg_nlt c68_69) q68 kc_255).1
                        have uq72 : (1 : Int) ≤ p5.toInt ∧ p5.toInt ≤ 255 := q72
                        refine lv_iconst (v := 1) hx hb dX12_damage_71 (by decide) ?_
                        refine lv_goto (tgt := 76) hx hb dX12_damage_72 (by decide) ?_
                        refine lv_istore (lv' := [(6, .int (1 : Int32)), (0, .ref h0), (1, .int p1), (2, .int p2), (3, .int p3), (4, .int p4), (5, .int p5)]) hx hb dX12_damage_76 hl (by decide) rfl (fun ls hl => ?_)
                        refine lv_iload hx hb dX12_damage_78 (lv_at hl 0 rfl) ?_
                        refine lv_if_ne (tgt := 85) hx hb dX12_damage_80 (by decide) (fun c80_73 => ?_) (fun c80_73 => ?_)
                        · skip
                          refine lv_aload_n hx hb dX12_damage_85 rfl (lv_at hl 1 rfl) ?_
                          refine m_geta x L1 16 rfl rfl (wm_in uf_44) dX12_damage_86 ?_
                          refine lv_iload_n hx hb dX12_damage_89 rfl (lv_at hl 2 rfl) ?_
                          refine m_ld x L1 16 rfl q9.1 rfl dX12_damage_90 (fun v74 ev74 wv74 => ?_)
                          have rv74 : rg (0) (8) v74 := lj_16 wv74
                          have uv74 : (0 : Int) ≤ v74.toInt ∧ v74.toInt ≤ 8 := rv74
                          refine lv_bipush (v := 8) hx hb dX12_damage_91 (by decide) ?_
                          refine lv_icmp_ne (tgt := 99) hx hb dX12_damage_93 (by decide) (fun c93_75 => ?_) (fun c93_75 => ?_)
                          · skip
                            have ic93_75 : v74.toInt ≠ (8 : Int32).toInt := fun z => c93_75 (Int32.toInt_inj.mp z)
                            have y76 : (8 : Int32).toInt = 8 := by decide
                            have q77 : rg (0) (7) v74 := rg_neH c93_75 rv74 kc_8
                            have uq77 : (0 : Int) ≤ v74.toInt ∧ v74.toInt ≤ 7 := q77
                            refine lv_bipush (v := 8) hx hb dX12_damage_99 (by decide) ?_
                            refine lv_iload_n hx hb dX12_damage_101 rfl (lv_at hl 2 rfl) ?_
                            refine lv_imul hx hb dX12_damage_102 ?_
                            refine lv_topi (fun v78 ev78 => ?_)
                            have rv78 : rg (0) (56) v78 := (rg_mulL ev78 kc_8 q9.1 rfl).1
                            have tv78 := (rg_mulL ev78 kc_8 q9.1 rfl).2
                            have y79 : (8 : Int32).toInt = 8 := by decide
                            have b16v78 : v78.toInt < 16 * nn := by have := q9.2; have : (8 : Int32).toInt = 8 := (by decide); omega
                            have uv78 : (0 : Int) ≤ v78.toInt ∧ v78.toInt ≤ 56 := rv78
                            refine lv_aload_n hx hb dX12_damage_103 rfl (lv_at hl 1 rfl) ?_
                            refine m_geta x L1 16 rfl rfl (wm_in uf_44) dX12_damage_104 ?_
                            refine lv_iload_n hx hb dX12_damage_107 rfl (lv_at hl 2 rfl) ?_
                            refine m_ld x L1 16 rfl q9.1 rfl dX12_damage_108 (fun v80 ev80 wv80 => ?_)
                            refine m_top ((ev74).trans ev80.symm) ?_
                            refine lv_iadd hx hb dX12_damage_109 ?_
                            refine lv_topi (fun v81 ev81 => ?_)
                            have rv81 : rg (0) (63) v81 := (rg_add ev81 rv78 q77 rfl).1
                            have tv81 := (rg_add ev81 rv78 q77 rfl).2
                            have uv81 : (0 : Int) ≤ v81.toInt ∧ v81.toInt ≤ 63 := rv81
                            refine lv_istore (lv' := [(7, .int v81), (6, .int (1 : Int32)), (0, .ref h0), (1, .int p1), (2, .int p2), (3, .int p3), (4, .int p4), (5, .int p5)]) hx hb dX12_damage_110 hl (by decide) rfl (fun ls hl => ?_)
                            refine lv_aload_n hx hb dX12_damage_112 rfl (lv_at hl 2 rfl) ?_
                            refine m_geta x L1 12 rfl rfl (wm_in uf_32) dX12_damage_113 ?_
                            refine lv_iload hx hb dX12_damage_116 (lv_at hl 0 rfl) ?_
                            refine lv_iload_n hx hb dX12_damage_118 rfl (lv_at hl 4 rfl) ?_
                            refine m_st x L1 12 rfl rv81 rfl (rj_12 (rg_w q56 rfl)) dX12_damage_119 (fun g82 H82 k82 eg82 L82 => ?_)
                            refine lv_aload_n hx hb dX12_damage_120 rfl (lv_at hl 2 rfl) ?_
                            refine m_geta x L82 13 rfl rfl (wm_in uf_35) dX12_damage_121 ?_
                            refine lv_iload hx hb dX12_damage_124 (lv_at hl 0 rfl) ?_
                            refine lv_iload_n hx hb dX12_damage_126 rfl (lv_at hl 5 rfl) ?_
                            refine m_st x L82 13 rfl rv81 rfl (rj_13 (rg_any p3)) dX12_damage_127 (fun g83 H83 k83 eg83 L83 => ?_)
                            refine lv_aload_n hx hb dX12_damage_128 rfl (lv_at hl 2 rfl) ?_
                            refine m_geta x L83 14 rfl rfl (wm_in uf_38) dX12_damage_129 ?_
                            refine lv_iload hx hb dX12_damage_132 (lv_at hl 0 rfl) ?_
                            refine lv_iload hx hb dX12_damage_134 (lv_at hl 6 rfl) ?_
                            refine m_st x L83 14 rfl rv81 rfl (rj_14 (rg_any p4)) dX12_damage_136 (fun g84 H84 k84 eg84 L84 => ?_)
                            have hJ85 := mJ_dmg (mJ_fr hJ hp1.1 rfl) eg82 eg83 eg84 (fun z => ⟨by omega, by omega⟩)
                            refine lv_aload_n hx hb dX12_damage_137 rfl (lv_at hl 2 rfl) ?_
                            refine m_geta x L84 15 rfl rfl (wm_in uf_41) dX12_damage_138 ?_
                            refine lv_iload hx hb dX12_damage_141 (lv_at hl 0 rfl) ?_
                            refine lv_iload hx hb dX12_damage_143 (lv_at hl 7 rfl) ?_
                            refine m_st x L84 15 rfl rv81 rfl (rj_15 (rg_any p5)) dX12_damage_145 (fun g86 H86 k86 eg86 L86 => ?_)
                            refine lv_aload_n hx hb dX12_damage_146 rfl (lv_at hl 2 rfl) ?_
                            refine m_geta x L86 16 rfl rfl (wm_in uf_44) dX12_damage_147 ?_
                            refine lv_iload_n hx hb dX12_damage_150 rfl (lv_at hl 3 rfl) ?_
                            refine lv_dup2_11 hx hb dX12_damage_151 rfl rfl ?_
                            refine m_ld x L86 16 rfl q9.1 rfl dX12_damage_152 (fun v87 ev87 wv87 => ?_)
                            refine m_top (((mm_up (mm_up (mm_up (mm_up ev74 eg82 rfl) eg83 rfl) eg84 rfl) eg86 rfl)).trans ev87.symm) ?_
                            refine lv_iconst (v := 1) hx hb dX12_damage_153 (by decide) ?_
                            refine lv_iadd hx hb dX12_damage_154 ?_
                            refine lv_topi (fun v88 ev88 => ?_)
                            have rv88 : rg (1) (8) v88 := (rg_add ev88 q77 kc_1 rfl).1
                            have tv88 := (rg_add ev88 q77 kc_1 rfl).2
                            have y89 : (1 : Int32).toInt = 1 := by decide
                            have uv88 : (1 : Int) ≤ v88.toInt ∧ v88.toInt ≤ 8 := rv88
                            refine m_st x L86 16 rfl q9.1 rfl (rj_16 (rg_w rv88 rfl)) dX12_damage_155 (fun g90 H90 k90 eg90 L90 => ?_)
                            refine lv_aload_n hx hb dX12_damage_156 rfl (lv_at hl 2 rfl) ?_
                            refine m_geta x L90 16 rfl rfl (wm_in uf_44) dX12_damage_157 ?_
                            refine lv_iload_n hx hb dX12_damage_160 rfl (lv_at hl 3 rfl) ?_
                            refine m_ld x L90 16 rfl q9.1 rfl dX12_damage_161 (fun v91 ev91 wv91 => ?_)
                            refine m_top (((mm_st eg90)).trans ev91.symm) ?_
                            exact hQ _ _ v88 _ _ _ dX12_damage_162 L90 ⟨(mFr.upE (mFr.upE (mFr.upE (mFr.upE (mFr.upE (mFr.tr mFr.rf hp1.1 rfl) eg82 rfl) eg83 rfl) eg84 rfl) eg86 rfl) eg90 rfl), rg_w rv88 rfl, (mJ_up (mJ_up hJ85 eg86 rfl) eg90 rfl), trivial⟩
                          · skip
                            have ic93_75 := congrArg Int32.toInt c93_75
                            have y92 : (8 : Int32).toInt = 8 := by decide
                            have q93 : rg (8) (8) v74 := (rg_eq c93_75 rv74 kc_8).1
                            have uq93 : (8 : Int) ≤ v74.toInt ∧ v74.toInt ≤ 8 := q93
                            refine lv_bipush (v := (-3)) hx hb dX12_damage_96 (by decide) ?_
                            exact hQ _ _ (-3 : Int32) _ _ _ dX12_damage_98 L1 ⟨(mFr.tr mFr.rf hp1.1 rfl), rg_w kc_m3 rfl, (mJ_fr hJ hp1.1 rfl), trivial⟩
                        · skip
                          exact absurd c80_73 (by decide)
theorem c_damage (l : Launch) {G : mG} {h0 : Nat} {ad : Nat → Nat} (nn X : Int) (g : mSt) (p1 : Int32) (p2 : Int32) (p3 : Int32) (p4 : Int32) (p5 : Int32) (hnn : 2 ≤ nn ∧ nn ≤ 4) (hX : 0 ≤ X ∧ X ≤ 2000000000) (hJ : mJ nn [] g) : Met l yX12_damage (wm (Cond.code yX12_damage cX12_damage 8 (some .int))) rm_damage (va_Pc [.ref h0, .int p1, .int p2, .int p3, .int p4, .int p5] (mPre G h0 ad nn X g)) (mQi G h0 ad nn X (fun r g1 => mFr [12, 13, 14, 15, 16] g g1 ∧ rg (-3) (8) r ∧ mJ nn [] g1 ∧ True)) 0 0 (mA h0 ad) := by
  refine Met.ofW (cc := cX12_damage) (maxL := 8) (ret := (some .int)) (by decide) rfl ?_
  intro p e s m args below meth c s₁ B hml hv
  obtain ⟨rfl, hv⟩ := hv
  have hr := B.returns
  have hlocks := B.notSynchronized
  obtain ⟨x, L⟩ := m_start B rfl wm_X hv
  have hl := lv_entry ([.ref h0, .int p1, .int p2, .int p3, .int p4, .int p5]) (n := 8) (Nat.le_of_ble_eq_true rfl)
  rw [lg_entry_eq]
  generalize (lg_sl ([.ref h0, .int p1, .int p2, .int p3, .int p4, .int p5]) ++ List.replicate (8 - (lg_sl ([.ref h0, .int p1, .int p2, .int p3, .int p4, .int p5])).length) Slot.unset).toArray = ls at hl ⊢
  exact w_damage x hml L hnn hX hJ p1 p2 p3 p4 p5 hl (fun pc' ls' r g1 H1 locs1 hdg L hp => m_iret x L hr hlocks (Int.le_refl _) hp hdg)

def rm_cutCalls : Room := { frames := 5, cells := 0, slots := 0, locals := 115 }
theorem hd_cutCalls : yX12_cutCalls.cls = RX12 ∧ yX12_cutCalls.cls ≠ "java/lang/invoke/MethodHandle" ∧ yX12_cutCalls.cls ≠ "java/lang/invoke/VarHandle" ∧ (parseMethodDescriptor yX12_cutCalls.desc).map (fun d => d.parameters.length) = some 1 := by decide +kernel
set_option maxHeartbeats 4000000 in
set_option maxRecDepth 100000 in
theorem w_cutCalls {p : Program} {l : Launch} {e : Env} {s : State} {m : MethodId} {args : Array Value} {below : List Frame} {meth : Method} {c : Code} {H : Heap} {locs : List Loc} {Q : State → Prop} {ls : Array Slot} {G : mG} {h0 : Nat} {ad : Nat → Nat} {g : mSt} {H0 : Heap} {nn X : Int} (x : mX p c cX12_cutCalls s args (wm (Cond.code yX12_cutCalls cX12_cutCalls 4 none)) m G h0 ad) (hml : c.maxLocals = 4) (L : mL G h0 ad H0 nn X g H locs) (hnn : 2 ≤ nn ∧ nn ≤ 4) (hX : 0 ≤ X ∧ X ≤ 2000000000) (hJ : mJ nn [] g) (p1 : Int32) (rp1 : rg (0) (7) p1) (hl : lv_has ls 4 [(0, .ref h0), (1, .int p1)]) (hQ : ∀ (pc' : Nat) (ls' : Array Slot) (g1 : mSt) (H1 : Heap) (locs1 : List Loc), decode cX12_cutCalls pc' = .ok (.return_, 1) → mL G h0 ad H0 nn X g1 H1 locs1 → (mFr [58, 59, 60, 68, 74, 75, 76, 77, 86, 87, 89, 90, 91] g g1 ∧ mJ nn [] g1 ∧ True) → W p l e rm_cutCalls s m args below meth c H1 locs1 0 0 Q (F0 m pc' ls' [])) : W p l e rm_cutCalls s m args below meth c H locs 0 0 Q (F0 m 0 ls []) := by
  have hx := x.1
  have hb := x.2.1
  have up1 : (0 : Int) ≤ p1.toInt ∧ p1.toInt ≤ 7 := rp1
  refine lv_aload_n hx hb dX12_cutCalls_0 rfl (lv_at hl 0 rfl) ?_
  refine lv_iload_n hx hb dX12_cutCalls_1 rfl (lv_at hl 1 rfl) ?_
  refine lv_iconst (v := (-1)) hx hb dX12_cutCalls_2 (by decide) ?_
  refine m_ci (As := [.int p1, .int (-1 : Int32)]) (rest := []) x hml L (c_nextCall l nn X g p1 (-1 : Int32) hnn hX (rg_w rp1 rfl)) (wm_V uc_nextCall ul_495 ui_nextCall us_nextCall u_init) rfl ⟨rfl, rfl⟩ hd_nextCall ⟨Nat.le_of_ble_eq_true rfl, Nat.le_of_ble_eq_true rfl⟩ rfl hl.1 rfl (lv_room (Nat.le_of_ble_eq_true rfl)) dX12_cutCalls_3 (fun v2 g1 H1 k1 hp1 L1 => ?_)
  have rv2 : rg (-2) (319) v2 := hp1.2.1
  have uv2 : (-2 : Int) ≤ v2.toInt ∧ v2.toInt ≤ 319 := rv2
  have hw3 := hp1.2.2
  rw [(show mFr [58, 59, 60, 68, 74, 75, 76, 77, 86, 87, 89, 90, 91] g g from mFr.rf).at 78 rfl] at hw3
  refine lv_istore_n (lv' := [(2, .int v2), (0, .ref h0), (1, .int p1)]) hx hb dX12_cutCalls_6 rfl hl (by decide) rfl (fun ls hl => ?_)
  have j7_5 : ∀ (n : Nat) (a7_2_4 : Int32) (g5 : mSt) (H5 : Heap) (k5 : List Loc) (ls : Array Slot), mFr [58, 59, 60, 68, 74, 75, 76, 77, 86, 87, 89, 90, 91] g1 g5 → mL G h0 ad H0 nn X g5 H5 k5 → mJ nn [] g5 → rg (-2) (319) a7_2_4 → lv_has ls 4 [(0, .ref h0), (1, .int p1), (2, .int a7_2_4)] → mord a7_2_4.toInt (g 78 a7_2_4.toNatClampNeg).toInt = n → W p l e rm_cutCalls s m args below meth c H5 k5 0 0 Q (F0 m 7 ls []) := by
    intro n
    induction n using Nat.strongRecOn with
    | _ n ih5 =>
      intro a7_2_4 g5 H5 k5 ls hF5 L5 hJ5 ra7_2_4 hl hn5
      subst hn5
      have ua7_2_4 : (-2 : Int) ≤ a7_2_4.toInt ∧ a7_2_4.toInt ≤ 319 := ra7_2_4
      refine lv_iload_n hx hb dX12_cutCalls_7 rfl (lv_at hl 2 rfl) ?_
      refine lv_if_lt (tgt := 42) hx hb dX12_cutCalls_8 (by decide) (fun c8_6 => ?_) (fun c8_6 => ?_)
      · skip
        have ic8_6 := Int32.lt_iff_toInt_lt.mp c8_6
        have q7 : rg (-2) (-1) a7_2_4 := (rg_lt c8_6 ra7_2_4 kc_0).1
        have uq7 : (-2 : Int) ≤ a7_2_4.toInt ∧ a7_2_4.toInt ≤ -1 := q7
        exact hQ _ _ _ _ _ dX12_cutCalls_42 L5 ⟨(mFr.tr (mFr.tr mFr.rf hp1.1 rfl) hF5 rfl), hJ5, trivial⟩
      · skip
        have ic8_6 := Int32.le_iff_toInt_le.mp (rg_nlt c8_6)
        have q8 : rg (0) (319) a7_2_4 := (rg_le (rg_nlt c8_6) kc_0 ra7_2_4).2
        have uq8 : (0 : Int) ≤ a7_2_4.toInt ∧ a7_2_4.toInt ≤ 319 := q8
        refine lv_aload_n hx hb dX12_cutCalls_11 rfl (lv_at hl 0 rfl) ?_
        refine m_geta x L5 78 rfl rfl (wm_in uf_222) dX12_cutCalls_12 ?_
        refine lv_iload_n hx hb dX12_cutCalls_15 rfl (lv_at hl 2 rfl) ?_
        refine m_ld x L5 78 rfl q8 rfl dX12_cutCalls_16 (fun v9 ev9 wv9 => ?_)
        have rv9 : rg (-2147483648) (2147483647) v9 := lj_78 wv9
        have uv9 : (-2147483648 : Int) ≤ v9.toInt ∧ v9.toInt ≤ 2147483647 := rv9
        have sv9 : v9.toInt = (g 78 a7_2_4.toNatClampNeg).toInt := congrArg Int32.toInt (ev9.trans (congrFun ((show mFr [58, 59, 60, 68, 74, 75, 76, 77, 86, 87, 89, 90, 91] g g5 from (mFr.tr (mFr.tr mFr.rf hp1.1 rfl) hF5 rfl)).at 78 rfl) _))
        refine lv_istore_n (lv' := [(3, .int v9), (0, .ref h0), (1, .int p1), (2, .int a7_2_4)]) hx hb dX12_cutCalls_17 rfl hl (by decide) rfl (fun ls hl => ?_)
        refine lv_aload_n hx hb dX12_cutCalls_18 rfl (lv_at hl 1 rfl) ?_
        refine lv_iload_n hx hb dX12_cutCalls_19 rfl (lv_at hl 3 rfl) ?_
        refine lv_bipush (v := 41) hx hb dX12_cutCalls_20 (by decide) ?_
        refine m_cv (As := [.int a7_2_4, .int (41 : Int32)]) (rest := []) x hml L5 (c_over l nn X g5 a7_2_4 (41 : Int32) hnn hX hJ5 (rg_w q8 rfl)) (wm_V uc_over ul_498 ui_over us_over u_init) rfl ⟨rfl, rfl⟩ hd_over ⟨Nat.le_of_ble_eq_true rfl, Nat.le_of_ble_eq_true rfl⟩ rfl hl.1 rfl (lv_room (Nat.le_of_ble_eq_true rfl)) dX12_cutCalls_22 (fun  g10 H10 k10 hp10 L10 => ?_)
        refine lv_aload_n hx hb dX12_cutCalls_25 rfl (lv_at hl 1 rfl) ?_
        refine lv_iload_n hx hb dX12_cutCalls_26 rfl (lv_at hl 3 rfl) ?_
        refine lv_bipush (v := 41) hx hb dX12_cutCalls_27 (by decide) ?_
        refine m_cv (As := [.int a7_2_4, .int (41 : Int32)]) (rest := []) x hml L10 (c_releaseOther l nn X g10 a7_2_4 (41 : Int32) hnn hX hp10.2.1 (rg_w q8 rfl)) (wm_V uc_releaseOther ul_501 ui_releaseOther us_releaseOther u_init) rfl ⟨rfl, rfl⟩ hd_releaseOther ⟨Nat.le_of_ble_eq_true rfl, Nat.le_of_ble_eq_true rfl⟩ rfl hl.1 rfl (lv_room (Nat.le_of_ble_eq_true rfl)) dX12_cutCalls_29 (fun  g11 H11 k11 hp11 L11 => ?_)
        refine lv_aload_n hx hb dX12_cutCalls_32 rfl (lv_at hl 1 rfl) ?_
        refine lv_iload_n hx hb dX12_cutCalls_33 rfl (lv_at hl 2 rfl) ?_
        refine lv_iload_n hx hb dX12_cutCalls_34 rfl (lv_at hl 0 rfl) ?_
        refine m_ci (As := [.int p1, .int v9]) (rest := []) x hml L11 (c_nextCall l nn X g11 p1 v9 hnn hX (rg_w rp1 rfl)) (wm_V uc_nextCall ul_495 ui_nextCall us_nextCall u_init) rfl ⟨rfl, rfl⟩ hd_nextCall ⟨Nat.le_of_ble_eq_true rfl, Nat.le_of_ble_eq_true rfl⟩ rfl hl.1 rfl (lv_room (Nat.le_of_ble_eq_true rfl)) dX12_cutCalls_35 (fun v13 g12 H12 k12 hp12 L12 => ?_)
        have rv13 : rg (-2) (319) v13 := hp12.2.1
        have uv13 : (-2 : Int) ≤ v13.toInt ∧ v13.toInt ≤ 319 := rv13
        have hw14 := hp12.2.2
        rw [(show mFr [58, 59, 60, 68, 74, 75, 76, 77, 86, 87, 89, 90, 91] g g11 from (mFr.tr (mFr.tr (mFr.tr (mFr.tr mFr.rf hp1.1 rfl) hF5 rfl) hp10.1 rfl) hp11.1 rfl)).at 78 rfl] at hw14
        refine lv_istore_n (lv' := [(2, .int v13), (3, .int v9), (0, .ref h0), (1, .int p1)]) hx hb dX12_cutCalls_38 rfl hl (by decide) rfl (fun ls hl => ?_)
        refine lv_goto (tgt := 7) hx hb dX12_cutCalls_39 (by decide) ?_
        exact ih5 _ (mord_lt (by omega) (i32_le _) (fun z => by have := hw14 z; omega) (i32_le _)) v13 g12 _ _ ls (mFr.tr (mFr.tr (mFr.tr hF5 hp10.1 rfl) hp11.1 rfl) hp12.1 rfl) L12 (mJ_fr hp11.2.1 hp12.1 rfl) (rg_w rv13 rfl) (lv_sub hl [2, 3, 0] rfl) rfl
  exact j7_5 _ v2 g1 _ _ ls mFr.rf L1 (mJ_fr hJ hp1.1 rfl) (rg_w rv2 rfl) (lv_sub hl [1, 2, 0] rfl) rfl
theorem c_cutCalls (l : Launch) {G : mG} {h0 : Nat} {ad : Nat → Nat} (nn X : Int) (g : mSt) (p1 : Int32) (hnn : 2 ≤ nn ∧ nn ≤ 4) (hX : 0 ≤ X ∧ X ≤ 2000000000) (hJ : mJ nn [] g) (rp1 : rg (0) (7) p1) : Met l yX12_cutCalls (wm (Cond.code yX12_cutCalls cX12_cutCalls 4 none)) rm_cutCalls (va_Pc [.ref h0, .int p1] (mPre G h0 ad nn X g)) (mQv G h0 ad nn X (fun g1 => mFr [58, 59, 60, 68, 74, 75, 76, 77, 86, 87, 89, 90, 91] g g1 ∧ mJ nn [] g1 ∧ True)) 0 0 (mA h0 ad) := by
  refine Met.ofW (cc := cX12_cutCalls) (maxL := 4) (ret := none) (by decide) rfl ?_
  intro p e s m args below meth c s₁ B hml hv
  obtain ⟨rfl, hv⟩ := hv
  have hr := B.returns
  have hlocks := B.notSynchronized
  obtain ⟨x, L⟩ := m_start B rfl wm_X hv
  have hl := lv_entry ([.ref h0, .int p1]) (n := 4) (Nat.le_of_ble_eq_true rfl)
  rw [lg_entry_eq]
  generalize (lg_sl ([.ref h0, .int p1]) ++ List.replicate (4 - (lg_sl ([.ref h0, .int p1])).length) Slot.unset).toArray = ls at hl ⊢
  exact w_cutCalls x hml L hnn hX hJ p1 rp1 hl (fun pc' ls' g1 H1 locs1 hdg L hp => m_vret x L hr hlocks (Int.le_refl _) hp hdg)

def rm_callTimers : Room := { frames := 7, cells := 0, slots := 0, locals := 160 }
theorem hd_callTimers : yX12_callTimers.cls = RX12 ∧ yX12_callTimers.cls ≠ "java/lang/invoke/MethodHandle" ∧ yX12_callTimers.cls ≠ "java/lang/invoke/VarHandle" ∧ (parseMethodDescriptor yX12_callTimers.desc).map (fun d => d.parameters.length) = some 1 := by decide +kernel
set_option maxHeartbeats 4000000 in
set_option maxRecDepth 100000 in
theorem w_callTimers {p : Program} {l : Launch} {e : Env} {s : State} {m : MethodId} {args : Array Value} {below : List Frame} {meth : Method} {c : Code} {H : Heap} {locs : List Loc} {Q : State → Prop} {ls : Array Slot} {G : mG} {h0 : Nat} {ad : Nat → Nat} {g : mSt} {H0 : Heap} {nn X : Int} (x : mX p c cX12_callTimers s args (wm (Cond.code yX12_callTimers cX12_callTimers 4 none)) m G h0 ad) (hml : c.maxLocals = 4) (L : mL G h0 ad H0 nn X g H locs) (hnn : 2 ≤ nn ∧ nn ≤ 4) (hX : 0 ≤ X ∧ X ≤ 2000000000) (hJ : mJ nn [] g) (p1 : Int32) (rp1 : rg (0) (7) p1) (hl : lv_has ls 4 [(0, .ref h0), (1, .int p1)]) (hQ : ∀ (pc' : Nat) (ls' : Array Slot) (g1 : mSt) (H1 : Heap) (locs1 : List Loc), decode cX12_callTimers pc' = .ok (.return_, 1) → mL G h0 ad H0 nn X g1 H1 locs1 → (mFr [58, 59, 60, 68, 74, 75, 76, 77, 86, 87, 89, 90, 91] g g1 ∧ mJ nn [] g1 ∧ True) → W p l e rm_callTimers s m args below meth c H1 locs1 0 0 Q (F0 m pc' ls' [])) : W p l e rm_callTimers s m args below meth c H locs 0 0 Q (F0 m 0 ls []) := by
  have hx := x.1
  have hb := x.2.1
  have up1 : (0 : Int) ≤ p1.toInt ∧ p1.toInt ≤ 7 := rp1
  refine lv_aload_n hx hb dX12_callTimers_0 rfl (lv_at hl 0 rfl) ?_
  refine lv_iload_n hx hb dX12_callTimers_1 rfl (lv_at hl 1 rfl) ?_
  refine lv_iconst (v := (-1)) hx hb dX12_callTimers_2 (by decide) ?_
  refine m_ci (As := [.int p1, .int (-1 : Int32)]) (rest := []) x hml L (c_nextCall l nn X g p1 (-1 : Int32) hnn hX (rg_w rp1 rfl)) (wm_V uc_nextCall ul_495 ui_nextCall us_nextCall u_init) rfl ⟨rfl, rfl⟩ hd_nextCall ⟨Nat.le_of_ble_eq_true rfl, Nat.le_of_ble_eq_true rfl⟩ rfl hl.1 rfl (lv_room (Nat.le_of_ble_eq_true rfl)) dX12_callTimers_3 (fun v2 g1 H1 k1 hp1 L1 => ?_)
  have rv2 : rg (-2) (319) v2 := hp1.2.1
  have uv2 : (-2 : Int) ≤ v2.toInt ∧ v2.toInt ≤ 319 := rv2
  have hw3 := hp1.2.2
  rw [(show mFr [58, 59, 60, 68, 74, 75, 76, 77, 86, 87, 89, 90, 91] g g from mFr.rf).at 78 rfl] at hw3
  refine lv_istore_n (lv' := [(2, .int v2), (0, .ref h0), (1, .int p1)]) hx hb dX12_callTimers_6 rfl hl (by decide) rfl (fun ls hl => ?_)
  have j7_5 : ∀ (n : Nat) (a7_2_4 : Int32) (g5 : mSt) (H5 : Heap) (k5 : List Loc) (ls : Array Slot), mFr [58, 59, 60, 68, 74, 75, 76, 77, 86, 87, 89, 90, 91] g1 g5 → mL G h0 ad H0 nn X g5 H5 k5 → mJ nn [] g5 → rg (-2) (319) a7_2_4 → lv_has ls 4 [(0, .ref h0), (1, .int p1), (2, .int a7_2_4)] → mord a7_2_4.toInt (g 78 a7_2_4.toNatClampNeg).toInt = n → W p l e rm_callTimers s m args below meth c H5 k5 0 0 Q (F0 m 7 ls []) := by
    intro n
    induction n using Nat.strongRecOn with
    | _ n ih5 =>
      intro a7_2_4 g5 H5 k5 ls hF5 L5 hJ5 ra7_2_4 hl hn5
      subst hn5
      have ua7_2_4 : (-2 : Int) ≤ a7_2_4.toInt ∧ a7_2_4.toInt ≤ 319 := ra7_2_4
      refine lv_iload_n hx hb dX12_callTimers_7 rfl (lv_at hl 2 rfl) ?_
      refine lv_if_lt (tgt := 44) hx hb dX12_callTimers_8 (by decide) (fun c8_6 => ?_) (fun c8_6 => ?_)
      · skip
        have ic8_6 := Int32.lt_iff_toInt_lt.mp c8_6
        have q7 : rg (-2) (-1) a7_2_4 := (rg_lt c8_6 ra7_2_4 kc_0).1
        have uq7 : (-2 : Int) ≤ a7_2_4.toInt ∧ a7_2_4.toInt ≤ -1 := q7
        exact hQ _ _ _ _ _ dX12_callTimers_44 L5 ⟨(mFr.tr (mFr.tr mFr.rf hp1.1 rfl) hF5 rfl), hJ5, trivial⟩
      · skip
        have ic8_6 := Int32.le_iff_toInt_le.mp (rg_nlt c8_6)
        have q8 : rg (0) (319) a7_2_4 := (rg_le (rg_nlt c8_6) kc_0 ra7_2_4).2
        have uq8 : (0 : Int) ≤ a7_2_4.toInt ∧ a7_2_4.toInt ≤ 319 := q8
        refine lv_aload_n hx hb dX12_callTimers_11 rfl (lv_at hl 0 rfl) ?_
        refine m_geta x L5 78 rfl rfl (wm_in uf_222) dX12_callTimers_12 ?_
        refine lv_iload_n hx hb dX12_callTimers_15 rfl (lv_at hl 2 rfl) ?_
        refine m_ld x L5 78 rfl q8 rfl dX12_callTimers_16 (fun v9 ev9 wv9 => ?_)
        have rv9 : rg (-2147483648) (2147483647) v9 := lj_78 wv9
        have uv9 : (-2147483648 : Int) ≤ v9.toInt ∧ v9.toInt ≤ 2147483647 := rv9
        have sv9 : v9.toInt = (g 78 a7_2_4.toNatClampNeg).toInt := congrArg Int32.toInt (ev9.trans (congrFun ((show mFr [58, 59, 60, 68, 74, 75, 76, 77, 86, 87, 89, 90, 91] g g5 from (mFr.tr (mFr.tr mFr.rf hp1.1 rfl) hF5 rfl)).at 78 rfl) _))
        refine lv_istore_n (lv' := [(3, .int v9), (0, .ref h0), (1, .int p1), (2, .int a7_2_4)]) hx hb dX12_callTimers_17 rfl hl (by decide) rfl (fun ls hl => ?_)
        refine lv_aload_n hx hb dX12_callTimers_18 rfl (lv_at hl 1 rfl) ?_
        refine lv_iload_n hx hb dX12_callTimers_19 rfl (lv_at hl 3 rfl) ?_
        refine lv_aload_n hx hb dX12_callTimers_20 rfl (lv_at hl 1 rfl) ?_
        refine m_geti x L5 1 rfl rfl (wm_in uf_378) dX12_callTimers_21 (fun v10 ev10 wv10 => ?_)
        have rv10 : rg (-2147483648) (2147483647) v10 := lj_1 wv10
        have uv10 : (-2147483648 : Int) ≤ v10.toInt ∧ v10.toInt ≤ 2147483647 := rv10
        have sv10 : v10.toInt = (g 1 0).toInt := congrArg Int32.toInt (ev10.trans (congrFun ((show mFr [58, 59, 60, 68, 74, 75, 76, 77, 86, 87, 89, 90, 91] g g5 from (mFr.tr (mFr.tr mFr.rf hp1.1 rfl) hF5 rfl)).at 1 rfl) _))
        refine lv_aload_n hx hb dX12_callTimers_24 rfl (lv_at hl 1 rfl) ?_
        refine m_geta x L5 75 rfl rfl (wm_in uf_213) dX12_callTimers_25 ?_
        refine lv_iload_n hx hb dX12_callTimers_28 rfl (lv_at hl 3 rfl) ?_
        refine m_ld x L5 75 rfl q8 rfl dX12_callTimers_29 (fun v11 ev11 wv11 => ?_)
        have rv11 : rg (-2147483648) (2147483647) v11 := lj_75 wv11
        have uv11 : (-2147483648 : Int) ≤ v11.toInt ∧ v11.toInt ≤ 2147483647 := rv11
        refine lv_isub hx hb dX12_callTimers_30 ?_
        refine lv_topi (fun v12 ev12 => ?_)
        have rv12 : rg (-2147483648) (2147483647) v12 := rg_any v12
        have uv12 : (-2147483648 : Int) ≤ v12.toInt ∧ v12.toInt ≤ 2147483647 := rv12
        refine m_cv (As := [.int a7_2_4, .int v12]) (rest := []) x hml L5 (c_callTimer l nn X g5 a7_2_4 v12 hnn hX hJ5 (rg_w q8 rfl)) (wm_V uc_callTimer ul_504 ui_callTimer us_callTimer u_init) rfl ⟨rfl, rfl⟩ hd_callTimer ⟨Nat.le_of_ble_eq_true rfl, Nat.le_of_ble_eq_true rfl⟩ rfl hl.1 rfl (lv_room (Nat.le_of_ble_eq_true rfl)) dX12_callTimers_31 (fun  g13 H13 k13 hp13 L13 => ?_)
        refine lv_aload_n hx hb dX12_callTimers_34 rfl (lv_at hl 1 rfl) ?_
        refine lv_iload_n hx hb dX12_callTimers_35 rfl (lv_at hl 2 rfl) ?_
        refine lv_iload_n hx hb dX12_callTimers_36 rfl (lv_at hl 0 rfl) ?_
        refine m_ci (As := [.int p1, .int v9]) (rest := []) x hml L13 (c_nextCall l nn X g13 p1 v9 hnn hX (rg_w rp1 rfl)) (wm_V uc_nextCall ul_495 ui_nextCall us_nextCall u_init) rfl ⟨rfl, rfl⟩ hd_nextCall ⟨Nat.le_of_ble_eq_true rfl, Nat.le_of_ble_eq_true rfl⟩ rfl hl.1 rfl (lv_room (Nat.le_of_ble_eq_true rfl)) dX12_callTimers_37 (fun v15 g14 H14 k14 hp14 L14 => ?_)
        have rv15 : rg (-2) (319) v15 := hp14.2.1
        have uv15 : (-2 : Int) ≤ v15.toInt ∧ v15.toInt ≤ 319 := rv15
        have hw16 := hp14.2.2
        rw [(show mFr [58, 59, 60, 68, 74, 75, 76, 77, 86, 87, 89, 90, 91] g g13 from (mFr.tr (mFr.tr (mFr.tr mFr.rf hp1.1 rfl) hF5 rfl) hp13.1 rfl)).at 78 rfl] at hw16
        refine lv_istore_n (lv' := [(2, .int v15), (3, .int v9), (0, .ref h0), (1, .int p1)]) hx hb dX12_callTimers_40 rfl hl (by decide) rfl (fun ls hl => ?_)
        refine lv_goto (tgt := 7) hx hb dX12_callTimers_41 (by decide) ?_
        exact ih5 _ (mord_lt (by omega) (i32_le _) (fun z => by have := hw16 z; omega) (i32_le _)) v15 g14 _ _ ls (mFr.tr (mFr.tr hF5 hp13.1 rfl) hp14.1 rfl) L14 (mJ_fr hp13.2.1 hp14.1 rfl) (rg_w rv15 rfl) (lv_sub hl [2, 3, 0] rfl) rfl
  exact j7_5 _ v2 g1 _ _ ls mFr.rf L1 (mJ_fr hJ hp1.1 rfl) (rg_w rv2 rfl) (lv_sub hl [1, 2, 0] rfl) rfl
theorem c_callTimers (l : Launch) {G : mG} {h0 : Nat} {ad : Nat → Nat} (nn X : Int) (g : mSt) (p1 : Int32) (hnn : 2 ≤ nn ∧ nn ≤ 4) (hX : 0 ≤ X ∧ X ≤ 2000000000) (hJ : mJ nn [] g) (rp1 : rg (0) (7) p1) : Met l yX12_callTimers (wm (Cond.code yX12_callTimers cX12_callTimers 4 none)) rm_callTimers (va_Pc [.ref h0, .int p1] (mPre G h0 ad nn X g)) (mQv G h0 ad nn X (fun g1 => mFr [58, 59, 60, 68, 74, 75, 76, 77, 86, 87, 89, 90, 91] g g1 ∧ mJ nn [] g1 ∧ True)) 0 0 (mA h0 ad) := by
  refine Met.ofW (cc := cX12_callTimers) (maxL := 4) (ret := none) (by decide) rfl ?_
  intro p e s m args below meth c s₁ B hml hv
  obtain ⟨rfl, hv⟩ := hv
  have hr := B.returns
  have hlocks := B.notSynchronized
  obtain ⟨x, L⟩ := m_start B rfl wm_X hv
  have hl := lv_entry ([.ref h0, .int p1]) (n := 4) (Nat.le_of_ble_eq_true rfl)
  rw [lg_entry_eq]
  generalize (lg_sl ([.ref h0, .int p1]) ++ List.replicate (4 - (lg_sl ([.ref h0, .int p1])).length) Slot.unset).toArray = ls at hl ⊢
  exact w_callTimers x hml L hnn hX hJ p1 rp1 hl (fun pc' ls' g1 H1 locs1 hdg L hp => m_vret x L hr hlocks (Int.le_refl _) hp hdg)

def rm_cut : Room := { frames := 6, cells := 0, slots := 0, locals := 138 }
theorem hd_cut : yX12_cut.cls = RX12 ∧ yX12_cut.cls ≠ "java/lang/invoke/MethodHandle" ∧ yX12_cut.cls ≠ "java/lang/invoke/VarHandle" ∧ (parseMethodDescriptor yX12_cut.desc).map (fun d => d.parameters.length) = some 1 := by decide +kernel
set_option maxHeartbeats 4000000 in
set_option maxRecDepth 100000 in
theorem w_cut {p : Program} {l : Launch} {e : Env} {s : State} {m : MethodId} {args : Array Value} {below : List Frame} {meth : Method} {c : Code} {H : Heap} {locs : List Loc} {Q : State → Prop} {ls : Array Slot} {G : mG} {h0 : Nat} {ad : Nat → Nat} {g : mSt} {H0 : Heap} {nn X : Int} (x : mX p c cX12_cut s args (wm (Cond.code yX12_cut cX12_cut 2 none)) m G h0 ad) (hml : c.maxLocals = 2) (L : mL G h0 ad H0 nn X g H locs) (hnn : 2 ≤ nn ∧ nn ≤ 4) (hX : 0 ≤ X ∧ X ≤ 2000000000) (hJ : mJ nn [] g) (p1 : Int32) (rp1 : rg (0) (7) p1) (hl : lv_has ls 2 [(0, .ref h0), (1, .int p1)]) (hQ : ∀ (pc' : Nat) (ls' : Array Slot) (g1 : mSt) (H1 : Heap) (locs1 : List Loc), decode cX12_cut pc' = .ok (.return_, 1) → mL G h0 ad H0 nn X g1 H1 locs1 → (mFr [40, 41, 42, 43, 44, 45, 46, 47, 48, 57, 58, 59, 60, 64, 67, 68, 74, 75, 76, 77, 86, 87, 89, 90, 91] g g1 ∧ mJ nn [] g1 ∧ True) → W p l e rm_cut s m args below meth c H1 locs1 0 0 Q (F0 m pc' ls' [])) : W p l e rm_cut s m args below meth c H locs 0 0 Q (F0 m 0 ls []) := by
  have hx := x.1
  have hb := x.2.1
  refine lv_aload_n hx hb dX12_cut_0 rfl (lv_at hl 0 rfl) ?_
  refine m_geta x L 40 rfl rfl (wm_in uf_107) dX12_cut_1 ?_
  refine lv_iload_n hx hb dX12_cut_4 rfl (lv_at hl 1 rfl) ?_
  refine lv_iconst (v := 0) hx hb dX12_cut_5 (by decide) ?_
  refine m_st x L 40 rfl rp1 rfl (rj_40 (rg_any (0 : Int32))) dX12_cut_6 (fun g1 H1 k1 eg1 L1 => ?_)
  refine lv_aload_n hx hb dX12_cut_7 rfl (lv_at hl 0 rfl) ?_
  refine m_geta x L1 60 rfl rfl (wm_in uf_168) dX12_cut_8 ?_
  refine lv_iload_n hx hb dX12_cut_11 rfl (lv_at hl 1 rfl) ?_
  refine lv_iconst (v := 0) hx hb dX12_cut_12 (by decide) ?_
  refine m_st x L1 60 rfl rp1 rfl (rj_60 (rg_w kc_0 rfl)) dX12_cut_13 (fun g2 H2 k2 eg2 L2 => ?_)
  refine lv_aload_n hx hb dX12_cut_14 rfl (lv_at hl 0 rfl) ?_
  refine lv_iload_n hx hb dX12_cut_15 rfl (lv_at hl 1 rfl) ?_
  refine lv_iconst (v := 0) hx hb dX12_cut_16 (by decide) ?_
  refine m_cv (As := [.int p1, .int (0 : Int32)]) (rest := []) x hml L2 (c_anew l nn X g2 p1 (0 : Int32) hnn hX (rg_w rp1 rfl)) (wm_V uc_anew ul_388 ui_anew us_anew u_init) rfl ⟨rfl, rfl⟩ hd_anew ⟨Nat.le_of_ble_eq_true rfl, Nat.le_of_ble_eq_true rfl⟩ rfl hl.1 rfl (lv_room (Nat.le_of_ble_eq_true rfl)) dX12_cut_17 (fun  g3 H3 k3 hp3 L3 => ?_)
  refine lv_aload_n hx hb dX12_cut_20 rfl (lv_at hl 0 rfl) ?_
  refine m_geta x L3 48 rfl rfl (wm_in uf_131) dX12_cut_21 ?_
  refine lv_iload_n hx hb dX12_cut_24 rfl (lv_at hl 1 rfl) ?_
  refine lv_dup2_11 hx hb dX12_cut_25 rfl rfl ?_
  refine m_ld x L3 48 rfl rp1 rfl dX12_cut_26 (fun v4 ev4 wv4 => ?_)
  have rv4 : rg (-2147483648) (2147483647) v4 := lj_48 wv4
  refine lv_iconst (v := 1) hx hb dX12_cut_27 (by decide) ?_
  refine lv_iadd hx hb dX12_cut_28 ?_
  refine lv_topi (fun v5 ev5 => ?_)
  have rv5 : rg (-2147483648) (2147483647) v5 := rg_any v5
  refine m_st x L3 48 rfl rp1 rfl (rj_48 (rg_any v5)) dX12_cut_29 (fun g6 H6 k6 eg6 L6 => ?_)
  refine lv_aload_n hx hb dX12_cut_30 rfl (lv_at hl 0 rfl) ?_
  refine lv_iload_n hx hb dX12_cut_31 rfl (lv_at hl 1 rfl) ?_
  refine m_cv (As := [.int p1]) (rest := []) x hml L6 (c_cutCalls l nn X g6 p1 hnn hX (mJ_up (mJ_fr (mJ_up (mJ_up hJ eg1 rfl) eg2 rfl) hp3.1 rfl) eg6 rfl) (rg_w rp1 rfl)) (wm_V uc_cutCalls ul_391 ui_cutCalls us_cutCalls u_init) rfl ⟨rfl, rfl⟩ hd_cutCalls ⟨Nat.le_of_ble_eq_true rfl, Nat.le_of_ble_eq_true rfl⟩ rfl hl.1 rfl (lv_room (Nat.le_of_ble_eq_true rfl)) dX12_cut_32 (fun  g7 H7 k7 hp7 L7 => ?_)
  exact hQ _ _ _ _ _ dX12_cut_35 L7 ⟨(mFr.tr (mFr.upE (mFr.tr (mFr.upE (mFr.upE mFr.rf eg1 rfl) eg2 rfl) hp3.1 rfl) eg6 rfl) hp7.1 rfl), hp7.2.1, trivial⟩
theorem c_cut (l : Launch) {G : mG} {h0 : Nat} {ad : Nat → Nat} (nn X : Int) (g : mSt) (p1 : Int32) (hnn : 2 ≤ nn ∧ nn ≤ 4) (hX : 0 ≤ X ∧ X ≤ 2000000000) (hJ : mJ nn [] g) (rp1 : rg (0) (7) p1) : Met l yX12_cut (wm (Cond.code yX12_cut cX12_cut 2 none)) rm_cut (va_Pc [.ref h0, .int p1] (mPre G h0 ad nn X g)) (mQv G h0 ad nn X (fun g1 => mFr [40, 41, 42, 43, 44, 45, 46, 47, 48, 57, 58, 59, 60, 64, 67, 68, 74, 75, 76, 77, 86, 87, 89, 90, 91] g g1 ∧ mJ nn [] g1 ∧ True)) 0 0 (mA h0 ad) := by
  refine Met.ofW (cc := cX12_cut) (maxL := 2) (ret := none) (by decide) rfl ?_
  intro p e s m args below meth c s₁ B hml hv
  obtain ⟨rfl, hv⟩ := hv
  have hr := B.returns
  have hlocks := B.notSynchronized
  obtain ⟨x, L⟩ := m_start B rfl wm_X hv
  have hl := lv_entry ([.ref h0, .int p1]) (n := 2) (Nat.le_of_ble_eq_true rfl)
  rw [lg_entry_eq]
  generalize (lg_sl ([.ref h0, .int p1]) ++ List.replicate (2 - (lg_sl ([.ref h0, .int p1])).length) Slot.unset).toArray = ls at hl ⊢
  exact w_cut x hml L hnn hX hJ p1 rp1 hl (fun pc' ls' g1 H1 locs1 hdg L hp => m_vret x L hr hlocks (Int.le_refl _) hp hdg)

def rm_begin : Room := { frames := 6, cells := 0, slots := 0, locals := 138 }
theorem hd_begin : yX12_begin.cls = RX12 ∧ yX12_begin.cls ≠ "java/lang/invoke/MethodHandle" ∧ yX12_begin.cls ≠ "java/lang/invoke/VarHandle" ∧ (parseMethodDescriptor yX12_begin.desc).map (fun d => d.parameters.length) = some 3 := by decide +kernel
set_option maxHeartbeats 4000000 in
set_option maxRecDepth 100000 in
theorem w_begin {p : Program} {l : Launch} {e : Env} {s : State} {m : MethodId} {args : Array Value} {below : List Frame} {meth : Method} {c : Code} {H : Heap} {locs : List Loc} {Q : State → Prop} {ls : Array Slot} {G : mG} {h0 : Nat} {ad : Nat → Nat} {g : mSt} {H0 : Heap} {nn X : Int} (x : mX p c cX12_begin s args (wm (Cond.code yX12_begin cX12_begin 5 none)) m G h0 ad) (hml : c.maxLocals = 5) (L : mL G h0 ad H0 nn X g H locs) (hnn : 2 ≤ nn ∧ nn ≤ 4) (hX : 0 ≤ X ∧ X ≤ 2000000000) (hJ : mJ nn [] g) (p1 : Int32) (p2 : Int32) (p3 : Int32) (rp1 : rg (0) (7) p1) (np1 : p1.toInt < 2 * nn) (hl : lv_has ls 5 [(0, .ref h0), (1, .int p1), (2, .int p2), (3, .int p3)]) (hQ : ∀ (pc' : Nat) (ls' : Array Slot) (g1 : mSt) (H1 : Heap) (locs1 : List Loc), decode cX12_begin pc' = .ok (.return_, 1) → mL G h0 ad H0 nn X g1 H1 locs1 → (mFr [4, 5, 7, 8, 9, 10, 11, 40, 41, 42, 43, 44, 45, 46, 47, 50, 55, 56, 57, 58, 59, 60, 64, 67, 68, 74, 75, 76, 77, 86, 87, 89, 90, 91] g g1 ∧ mJ nn [] g1 ∧ True) → W p l e rm_begin s m args below meth c H1 locs1 0 0 Q (F0 m pc' ls' [])) : W p l e rm_begin s m args below meth c H locs 0 0 Q (F0 m 0 ls []) := by
  have hx := x.1
  have hb := x.2.1
  refine lv_aload_n hx hb dX12_begin_0 rfl (lv_at hl 0 rfl) ?_
  refine m_geta x L 40 rfl rfl (wm_in uf_107) dX12_begin_1 ?_
  refine lv_iload_n hx hb dX12_begin_4 rfl (lv_at hl 1 rfl) ?_
  refine m_ld x L 40 rfl rp1 rfl dX12_begin_5 (fun v1 ev1 wv1 => ?_)
  have rv1 : rg (-2147483648) (2147483647) v1 := lj_40 wv1
  refine lv_iconst (v := 2) hx hb dX12_begin_6 (by decide) ?_
  have j80_2 : ∀ (g2 : mSt) (H2 : Heap) (k2 : List Loc) (ls : Array Slot), mFr [40, 41, 42, 43, 44, 45, 46, 47, 50, 55, 56, 57, 58, 59, 60, 64, 67, 68, 74, 75, 76, 77, 86, 87, 89, 90, 91] g g2 → mL G h0 ad H0 nn X g2 H2 k2 → mJ nn [] g2 → lv_has ls 5 [(0, .ref h0), (1, .int p1)] → W p l e rm_begin s m args below meth c H2 k2 0 0 Q (F0 m 80 ls []) := by
    intro  g2 H2 k2 ls hF2 L2 hJ2  hl
    refine lv_aload_n hx hb dX12_begin_80 rfl (lv_at hl 0 rfl) ?_
    refine lv_iload_n hx hb dX12_begin_81 rfl (lv_at hl 1 rfl) ?_
    refine lv_iconst (v := 2) hx hb dX12_begin_82 (by decide) ?_
    refine lv_aload_n hx hb dX12_begin_83 rfl (lv_at hl 0 rfl) ?_
    refine m_geta x L2 46 rfl rfl (wm_in uf_125) dX12_begin_84 ?_
    refine lv_iload_n hx hb dX12_begin_87 rfl (lv_at hl 1 rfl) ?_
    refine m_ld x L2 46 rfl rp1 rfl dX12_begin_88 (fun v3 ev3 wv3 => ?_)
    have rv3 : rg (0) (16777224) v3 := lj_46 wv3
    refine lv_bipush (v := 8) hx hb dX12_begin_89 (by decide) ?_
    refine lv_iadd hx hb dX12_begin_91 ?_
    refine lv_topi (fun v4 ev4 => ?_)
    have rv4 : rg (8) (16777232) v4 := (rg_add ev4 rv3 kc_8 rfl).1
    refine lv_iconst (v := 0) hx hb dX12_begin_92 (by decide) ?_
    refine m_cv (As := [.int p1, .int (2 : Int32), .int v4, .int (0 : Int32)]) (rest := []) x hml L2 (c_withMay l nn X g2 p1 (2 : Int32) v4 (0 : Int32) hnn hX (rg_w rp1 rfl) np1) (wm_V uc_withMay ul_397 ui_withMay us_withMay u_init) rfl ⟨rfl, rfl⟩ hd_withMay ⟨Nat.le_of_ble_eq_true rfl, Nat.le_of_ble_eq_true rfl⟩ rfl hl.1 rfl (lv_room (Nat.le_of_ble_eq_true rfl)) dX12_begin_93 (fun  g5 H5 k5 hp5 L5 => ?_)
    exact hQ _ _ _ _ _ dX12_begin_96 L5 ⟨(mFr.tr (mFr.tr mFr.rf hF2 rfl) hp5.1 rfl), (mJ_fr hJ2 hp5.1 rfl), trivial⟩
  have j20_6 : ∀ (g6 : mSt) (H6 : Heap) (k6 : List Loc) (ls : Array Slot), mFr [] g g6 → mL G h0 ad H0 nn X g6 H6 k6 → mJ nn [] g6 → lv_has ls 5 [(0, .ref h0), (1, .int p1), (2, .int p2), (3, .int p3)] → W p l e rm_begin s m args below meth c H6 k6 0 0 Q (F0 m 20 ls []) := by
    intro  g6 H6 k6 ls hF6 L6 hJ6  hl
    refine lv_aload_n hx hb dX12_begin_20 rfl (lv_at hl 0 rfl) ?_
    refine m_geta x L6 40 rfl rfl (wm_in uf_107) dX12_begin_21 ?_
    refine lv_iload_n hx hb dX12_begin_24 rfl (lv_at hl 1 rfl) ?_
    refine m_ld x L6 40 rfl rp1 rfl dX12_begin_25 (fun v7 ev7 wv7 => ?_)
    refine m_top (((mm_fr ev1 hF6 rfl)).trans ev7.symm) ?_
    refine lv_iconst (v := 2) hx hb dX12_begin_26 (by decide) ?_
    have j55_9 : ∀ (b55_0_8 : Int32) (g9 : mSt) (H9 : Heap) (k9 : List Loc) (ls : Array Slot), mFr [] g6 g9 → mL G h0 ad H0 nn X g9 H9 k9 → mJ nn [] g9 → rg (0) (1) b55_0_8 → lv_has ls 5 [(0, .ref h0), (1, .int p1), (2, .int p2), (3, .int p3)] → W p l e rm_begin s m args below meth c H9 k9 0 0 Q (F0 m 55 ls [.int b55_0_8]) := by
      intro b55_0_8 g9 H9 k9 ls hF9 L9 hJ9 rb55_0_8 hl
      refine lv_istore (lv' := [(4, .int b55_0_8), (0, .ref h0), (1, .int p1), (2, .int p2), (3, .int p3)]) hx hb dX12_begin_55 hl (by decide) rfl (fun ls hl => ?_)
      refine lv_aload_n hx hb dX12_begin_57 rfl (lv_at hl 1 rfl) ?_
      refine m_geta x L9 50 rfl rfl (wm_in uf_137) dX12_begin_58 ?_
      refine lv_iload_n hx hb dX12_begin_61 rfl (lv_at hl 2 rfl) ?_
      refine lv_iload_n hx hb dX12_begin_62 rfl (lv_at hl 4 rfl) ?_
      refine m_st x L9 50 rfl rp1 rfl (rj_50 (rg_any p3)) dX12_begin_63 (fun g10 H10 k10 eg10 L10 => ?_)
      refine lv_aload_n hx hb dX12_begin_64 rfl (lv_at hl 1 rfl) ?_
      refine lv_iload_n hx hb dX12_begin_65 rfl (lv_at hl 2 rfl) ?_
      refine lv_iload_n hx hb dX12_begin_66 rfl (lv_at hl 3 rfl) ?_
      refine m_cv (As := [.int p1, .int p2]) (rest := []) x hml L10 (c_ready l nn X g10 p1 p2 hnn hX (rg_w rp1 rfl)) (wm_V uc_ready ul_416 ui_ready us_ready u_init) rfl ⟨rfl, rfl⟩ hd_ready ⟨Nat.le_of_ble_eq_true rfl, Nat.le_of_ble_eq_true rfl⟩ rfl hl.1 rfl (lv_room (Nat.le_of_ble_eq_true rfl)) dX12_begin_67 (fun  g11 H11 k11 hp11 L11 => ?_)
      refine lv_iload hx hb dX12_begin_70 (lv_at hl 0 rfl) ?_
      refine lv_if_eq (tgt := 80) hx hb dX12_begin_72 (by decide) (fun c72_12 => ?_) (fun c72_12 => ?_)
      · skip
        have q13 : rg (0) (0) b55_0_8 := (rg_eq c72_12 rb55_0_8 kc_0).1
        exact j80_2  g11 _ _ ls (mFr.tr (mFr.upE (mFr.tr (mFr.tr mFr.rf hF6 rfl) hF9 rfl) eg10 rfl) hp11.1 rfl) L11 (mJ_fr (mJ_up hJ9 eg10 rfl) hp11.1 rfl) (lv_sub hl [1, 2] rfl)
      · skip
        have q14 : rg (1) (1) b55_0_8 := rg_neL c72_12 rb55_0_8 kc_0
        refine lv_aload_n hx hb dX12_begin_75 rfl (lv_at hl 1 rfl) ?_
        refine lv_iload_n hx hb dX12_begin_76 rfl (lv_at hl 2 rfl) ?_
        refine m_cv (As := [.int p1]) (rest := []) x hml L11 (c_cutCalls l nn X g11 p1 hnn hX (mJ_fr (mJ_up hJ9 eg10 rfl) hp11.1 rfl) (rg_w rp1 rfl)) (wm_V uc_cutCalls ul_391 ui_cutCalls us_cutCalls u_init) rfl ⟨rfl, rfl⟩ hd_cutCalls ⟨Nat.le_of_ble_eq_true rfl, Nat.le_of_ble_eq_true rfl⟩ rfl hl.1 rfl (lv_room (Nat.le_of_ble_eq_true rfl)) dX12_begin_77 (fun  g15 H15 k15 hp15 L15 => ?_)
        exact j80_2  g15 _ _ ls (mFr.tr (mFr.tr (mFr.upE (mFr.tr (mFr.tr mFr.rf hF6 rfl) hF9 rfl) eg10 rfl) hp11.1 rfl) hp15.1 rfl) L15 hp15.2.1 (lv_sub hl [1, 2] rfl)
    have j50_16 : ∀ (g16 : mSt) (H16 : Heap) (k16 : List Loc) (ls : Array Slot), mFr [] g6 g16 → mL G h0 ad H0 nn X g16 H16 k16 → mJ nn [] g16 → lv_has ls 5 [(0, .ref h0), (1, .int p1), (2, .int p2), (3, .int p3)] → W p l e rm_begin s m args below meth c H16 k16 0 0 Q (F0 m 50 ls []) := by
      intro  g16 H16 k16 ls hF16 L16 hJ16  hl
      refine lv_iconst (v := 1) hx hb dX12_begin_50 (by decide) ?_
      refine lv_goto (tgt := 55) hx hb dX12_begin_51 (by decide) ?_
      exact j55_9 (1 : Int32) g16 _ _ ls (mFr.tr mFr.rf hF16 rfl) L16 hJ16 (rg_w kc_1 rfl) (lv_sub hl [0, 1, 2, 3] rfl)
    refine lv_icmp_eq (tgt := 50) hx hb dX12_begin_27 (by decide) (fun c27_17 => ?_) (fun c27_17 => ?_)
    · skip
      have q18 : rg (2) (2) v1 := (rg_eq c27_17 rv1 kc_2).1
      exact j50_16  g6 _ _ ls mFr.rf L6 hJ6 (lv_sub hl [0, 1, 2, 3] rfl)
    · skip
      refine lv_aload_n hx hb dX12_begin_30 rfl (lv_at hl 0 rfl) ?_
      refine m_geta x L6 40 rfl rfl (wm_in uf_107) dX12_begin_31 ?_
      refine lv_iload_n hx hb dX12_begin_34 rfl (lv_at hl 1 rfl) ?_
      refine m_ld x L6 40 rfl rp1 rfl dX12_begin_35 (fun v19 ev19 wv19 => ?_)
      refine m_top (((mm_fr ev1 hF6 rfl)).trans ev19.symm) ?_
      refine lv_iconst (v := 3) hx hb dX12_begin_36 (by decide) ?_
      refine lv_icmp_eq (tgt := 50) hx hb dX12_begin_37 (by decide) (fun c37_20 => ?_) (fun c37_20 => ?_)
      · skip
        have q21 : rg (3) (3) v1 := (rg_eq c37_20 rv1 kc_3).1
        exact j50_16  g6 _ _ ls mFr.rf L6 hJ6 (lv_sub hl [0, 1, 2, 3] rfl)
      · skip
        refine lv_aload_n hx hb dX12_begin_40 rfl (lv_at hl 0 rfl) ?_
        refine m_geta x L6 40 rfl rfl (wm_in uf_107) dX12_begin_41 ?_
        refine lv_iload_n hx hb dX12_begin_44 rfl (lv_at hl 1 rfl) ?_
        refine m_ld x L6 40 rfl rp1 rfl dX12_begin_45 (fun v22 ev22 wv22 => ?_)
        refine m_top (((mm_fr ev1 hF6 rfl)).trans ev22.symm) ?_
        refine lv_iconst (v := 4) hx hb dX12_begin_46 (by decide) ?_
        refine lv_icmp_ne (tgt := 54) hx hb dX12_begin_47 (by decide) (fun c47_23 => ?_) (fun c47_23 => ?_)
        · skip
          refine lv_iconst (v := 0) hx hb dX12_begin_54 (by decide) ?_
          exact j55_9 (0 : Int32) g6 _ _ ls mFr.rf L6 hJ6 (rg_w kc_0 rfl) (lv_sub hl [0, 1, 2, 3] rfl)
        · skip
          have q24 : rg (4) (4) v1 := (rg_eq c47_23 rv1 kc_4).1
          exact j50_16  g6 _ _ ls mFr.rf L6 hJ6 (lv_sub hl [0, 1, 2, 3] rfl)
  refine lv_icmp_ne (tgt := 20) hx hb dX12_begin_7 (by decide) (fun c7_25 => ?_) (fun c7_25 => ?_)
  · skip
    exact j20_6  g _ _ ls mFr.rf L hJ (lv_sub hl [0, 1, 2, 3] rfl)
  · skip
    have q26 : rg (2) (2) v1 := (rg_eq c7_25 rv1 kc_2).1
    refine lv_aload_n hx hb dX12_begin_10 rfl (lv_at hl 0 rfl) ?_
    refine m_geta x L 50 rfl rfl (wm_in uf_137) dX12_begin_11 ?_
    refine lv_iload_n hx hb dX12_begin_14 rfl (lv_at hl 1 rfl) ?_
    refine m_ld x L 50 rfl rp1 rfl dX12_begin_15 (fun v27 ev27 wv27 => ?_)
    have rv27 : rg (-2147483648) (2147483647) v27 := lj_50 wv27
    refine lv_iload_n hx hb dX12_begin_16 rfl (lv_at hl 3 rfl) ?_
    refine lv_icmp_eq (tgt := 80) hx hb dX12_begin_17 (by decide) (fun c17_28 => ?_) (fun c17_28 => ?_)
    · skip
      exact j80_2  g _ _ ls mFr.rf L hJ (lv_sub hl [0, 1] rfl)
    · skip
      exact j20_6  g _ _ ls mFr.rf L hJ (lv_sub hl [0, 1, 2, 3] rfl)
theorem c_begin (l : Launch) {G : mG} {h0 : Nat} {ad : Nat → Nat} (nn X : Int) (g : mSt) (p1 : Int32) (p2 : Int32) (p3 : Int32) (hnn : 2 ≤ nn ∧ nn ≤ 4) (hX : 0 ≤ X ∧ X ≤ 2000000000) (hJ : mJ nn [] g) (rp1 : rg (0) (7) p1) (np1 : p1.toInt < 2 * nn) : Met l yX12_begin (wm (Cond.code yX12_begin cX12_begin 5 none)) rm_begin (va_Pc [.ref h0, .int p1, .int p2, .int p3] (mPre G h0 ad nn X g)) (mQv G h0 ad nn X (fun g1 => mFr [4, 5, 7, 8, 9, 10, 11, 40, 41, 42, 43, 44, 45, 46, 47, 50, 55, 56, 57, 58, 59, 60, 64, 67, 68, 74, 75, 76, 77, 86, 87, 89, 90, 91] g g1 ∧ mJ nn [] g1 ∧ True)) 0 0 (mA h0 ad) := by
  refine Met.ofW (cc := cX12_begin) (maxL := 5) (ret := none) (by decide) rfl ?_
  intro p e s m args below meth c s₁ B hml hv
  obtain ⟨rfl, hv⟩ := hv
  have hr := B.returns
  have hlocks := B.notSynchronized
  obtain ⟨x, L⟩ := m_start B rfl wm_X hv
  have hl := lv_entry ([.ref h0, .int p1, .int p2, .int p3]) (n := 5) (Nat.le_of_ble_eq_true rfl)
  rw [lg_entry_eq]
  generalize (lg_sl ([.ref h0, .int p1, .int p2, .int p3]) ++ List.replicate (5 - (lg_sl ([.ref h0, .int p1, .int p2, .int p3])).length) Slot.unset).toArray = ls at hl ⊢
  exact w_begin x hml L hnn hX hJ p1 p2 p3 rp1 np1 hl (fun pc' ls' g1 H1 locs1 hdg L hp => m_vret x L hr hlocks (Int.le_refl _) hp hdg)

def rm_resetCame : Room := { frames := 5, cells := 0, slots := 0, locals := 120 }
theorem hd_resetCame : yX12_resetCame.cls = RX12 ∧ yX12_resetCame.cls ≠ "java/lang/invoke/MethodHandle" ∧ yX12_resetCame.cls ≠ "java/lang/invoke/VarHandle" ∧ (parseMethodDescriptor yX12_resetCame.desc).map (fun d => d.parameters.length) = some 4 := by decide +kernel
set_option maxHeartbeats 4000000 in
set_option maxRecDepth 100000 in
theorem w_resetCame {p : Program} {l : Launch} {e : Env} {s : State} {m : MethodId} {args : Array Value} {below : List Frame} {meth : Method} {c : Code} {H : Heap} {locs : List Loc} {Q : State → Prop} {ls : Array Slot} {G : mG} {h0 : Nat} {ad : Nat → Nat} {g : mSt} {H0 : Heap} {nn X : Int} (x : mX p c cX12_resetCame s args (wm (Cond.code yX12_resetCame cX12_resetCame 5 none)) m G h0 ad) (hml : c.maxLocals = 5) (L : mL G h0 ad H0 nn X g H locs) (hnn : 2 ≤ nn ∧ nn ≤ 4) (hX : 0 ≤ X ∧ X ≤ 2000000000) (p1 : Int32) (p2 : Int32) (p3 : Int32) (p4 : Int32) (rp1 : rg (0) (7) p1) (np1 : p1.toInt < 2 * nn) (hl : lv_has ls 5 [(0, .ref h0), (1, .int p1), (2, .int p2), (3, .int p3), (4, .int p4)]) (hQ : ∀ (pc' : Nat) (ls' : Array Slot) (g1 : mSt) (H1 : Heap) (locs1 : List Loc), decode cX12_resetCame pc' = .ok (.return_, 1) → mL G h0 ad H0 nn X g1 H1 locs1 → (mFr [4, 5, 7, 8, 9, 10, 11, 40, 41, 42, 43, 44, 45, 46, 47, 51, 55, 56, 57, 64, 67] g g1 ∧ True) → W p l e rm_resetCame s m args below meth c H1 locs1 0 0 Q (F0 m pc' ls' [])) : W p l e rm_resetCame s m args below meth c H locs 0 0 Q (F0 m 0 ls []) := by
  have hx := x.1
  have hb := x.2.1
  refine lv_aload_n hx hb dX12_resetCame_0 rfl (lv_at hl 0 rfl) ?_
  refine m_geta x L 40 rfl rfl (wm_in uf_107) dX12_resetCame_1 ?_
  refine lv_iload_n hx hb dX12_resetCame_4 rfl (lv_at hl 1 rfl) ?_
  refine m_ld x L 40 rfl rp1 rfl dX12_resetCame_5 (fun v1 ev1 wv1 => ?_)
  have rv1 : rg (-2147483648) (2147483647) v1 := lj_40 wv1
  refine lv_if_ne (tgt := 17) hx hb dX12_resetCame_6 (by decide) (fun c6_2 => ?_) (fun c6_2 => ?_)
  · skip
    refine lv_aload_n hx hb dX12_resetCame_17 rfl (lv_at hl 0 rfl) ?_
    refine m_geta x L 40 rfl rfl (wm_in uf_107) dX12_resetCame_18 ?_
    refine lv_iload_n hx hb dX12_resetCame_21 rfl (lv_at hl 1 rfl) ?_
    refine m_ld x L 40 rfl rp1 rfl dX12_resetCame_22 (fun v3 ev3 wv3 => ?_)
    refine m_top ((ev1).trans ev3.symm) ?_
    refine lv_iconst (v := 2) hx hb dX12_resetCame_23 (by decide) ?_
    have j38_4 : ∀ (g4 : mSt) (H4 : Heap) (k4 : List Loc) (ls : Array Slot), mFr [] g g4 → mL G h0 ad H0 nn X g4 H4 k4 → lv_has ls 5 [(0, .ref h0), (1, .int p1), (2, .int p2), (3, .int p3), (4, .int p4)] → W p l e rm_resetCame s m args below meth c H4 k4 0 0 Q (F0 m 38 ls []) := by
      intro  g4 H4 k4 ls hF4 L4  hl
      refine lv_aload_n hx hb dX12_resetCame_38 rfl (lv_at hl 0 rfl) ?_
      refine m_geta x L4 40 rfl rfl (wm_in uf_107) dX12_resetCame_39 ?_
      refine lv_iload_n hx hb dX12_resetCame_42 rfl (lv_at hl 1 rfl) ?_
      refine m_ld x L4 40 rfl rp1 rfl dX12_resetCame_43 (fun v5 ev5 wv5 => ?_)
      refine m_top (((mm_fr ev1 hF4 rfl)).trans ev5.symm) ?_
      refine lv_iconst (v := 2) hx hb dX12_resetCame_44 (by decide) ?_
      have j71_6 : ∀ (g6 : mSt) (H6 : Heap) (k6 : List Loc) (ls : Array Slot), mFr [40, 41, 42, 43, 44, 45, 46, 47, 51, 55, 56, 57, 64, 67] g4 g6 → mL G h0 ad H0 nn X g6 H6 k6 → lv_has ls 5 [(0, .ref h0), (1, .int p1), (4, .int p4)] → W p l e rm_resetCame s m args below meth c H6 k6 0 0 Q (F0 m 71 ls []) := by
        intro  g6 H6 k6 ls hF6 L6  hl
        refine lv_aload_n hx hb dX12_resetCame_71 rfl (lv_at hl 0 rfl) ?_
        refine lv_iload_n hx hb dX12_resetCame_72 rfl (lv_at hl 1 rfl) ?_
        refine lv_iload hx hb dX12_resetCame_73 (lv_at hl 2 rfl) ?_
        refine lv_aload_n hx hb dX12_resetCame_75 rfl (lv_at hl 0 rfl) ?_
        refine m_geta x L6 46 rfl rfl (wm_in uf_125) dX12_resetCame_76 ?_
        refine lv_iload_n hx hb dX12_resetCame_79 rfl (lv_at hl 1 rfl) ?_
        refine m_ld x L6 46 rfl rp1 rfl dX12_resetCame_80 (fun v7 ev7 wv7 => ?_)
        have rv7 : rg (0) (16777224) v7 := lj_46 wv7
        refine lv_bipush (v := 8) hx hb dX12_resetCame_81 (by decide) ?_
        refine lv_iadd hx hb dX12_resetCame_83 ?_
        refine lv_topi (fun v8 ev8 => ?_)
        have rv8 : rg (8) (16777232) v8 := (rg_add ev8 rv7 kc_8 rfl).1
        refine lv_iconst (v := 0) hx hb dX12_resetCame_84 (by decide) ?_
        refine m_cv (As := [.int p1, .int p4, .int v8, .int (0 : Int32)]) (rest := []) x hml L6 (c_withMay l nn X g6 p1 p4 v8 (0 : Int32) hnn hX (rg_w rp1 rfl) np1) (wm_V uc_withMay ul_397 ui_withMay us_withMay u_init) rfl ⟨rfl, rfl⟩ hd_withMay ⟨Nat.le_of_ble_eq_true rfl, Nat.le_of_ble_eq_true rfl⟩ rfl hl.1 rfl (lv_room (Nat.le_of_ble_eq_true rfl)) dX12_resetCame_85 (fun  g9 H9 k9 hp9 L9 => ?_)
        exact hQ _ _ _ _ _ dX12_resetCame_88 L9 ⟨(mFr.tr (mFr.tr (mFr.tr mFr.rf hF4 rfl) hF6 rfl) hp9.1 rfl), trivial⟩
      have j58_10 : ∀ (g10 : mSt) (H10 : Heap) (k10 : List Loc) (ls : Array Slot), mFr [] g4 g10 → mL G h0 ad H0 nn X g10 H10 k10 → lv_has ls 5 [(0, .ref h0), (1, .int p1), (2, .int p2), (3, .int p3), (4, .int p4)] → W p l e rm_resetCame s m args below meth c H10 k10 0 0 Q (F0 m 58 ls []) := by
        intro  g10 H10 k10 ls hF10 L10  hl
        refine lv_aload_n hx hb dX12_resetCame_58 rfl (lv_at hl 0 rfl) ?_
        refine m_geta x L10 51 rfl rfl (wm_in uf_140) dX12_resetCame_59 ?_
        refine lv_iload_n hx hb dX12_resetCame_62 rfl (lv_at hl 1 rfl) ?_
        refine lv_iload_n hx hb dX12_resetCame_63 rfl (lv_at hl 3 rfl) ?_
        refine m_st x L10 51 rfl rp1 rfl (rj_51 (rg_any p3)) dX12_resetCame_64 (fun g11 H11 k11 eg11 L11 => ?_)
        refine lv_aload_n hx hb dX12_resetCame_65 rfl (lv_at hl 0 rfl) ?_
        refine lv_iload_n hx hb dX12_resetCame_66 rfl (lv_at hl 1 rfl) ?_
        refine lv_iload_n hx hb dX12_resetCame_67 rfl (lv_at hl 2 rfl) ?_
        refine m_cv (As := [.int p1, .int p2]) (rest := []) x hml L11 (c_ready l nn X g11 p1 p2 hnn hX (rg_w rp1 rfl)) (wm_V uc_ready ul_416 ui_ready us_ready u_init) rfl ⟨rfl, rfl⟩ hd_ready ⟨Nat.le_of_ble_eq_true rfl, Nat.le_of_ble_eq_true rfl⟩ rfl hl.1 rfl (lv_room (Nat.le_of_ble_eq_true rfl)) dX12_resetCame_68 (fun  g12 H12 k12 hp12 L12 => ?_)
        exact j71_6  g12 _ _ ls (mFr.tr (mFr.upE (mFr.tr mFr.rf hF10 rfl) eg11 rfl) hp12.1 rfl) L12  (lv_sub hl [0, 1, 4] rfl)
      refine lv_icmp_ne (tgt := 58) hx hb dX12_resetCame_45 (by decide) (fun c45_13 => ?_) (fun c45_13 => ?_)
      · skip
        exact j58_10  g4 _ _ ls mFr.rf L4  (lv_sub hl [0, 1, 2, 3, 4] rfl)
      · skip
        have q14 : rg (2) (2) v1 := (rg_eq c45_13 rv1 kc_2).1
        refine lv_aload_n hx hb dX12_resetCame_48 rfl (lv_at hl 0 rfl) ?_
        refine m_geta x L4 51 rfl rfl (wm_in uf_140) dX12_resetCame_49 ?_
        refine lv_iload_n hx hb dX12_resetCame_52 rfl (lv_at hl 1 rfl) ?_
        refine m_ld x L4 51 rfl rp1 rfl dX12_resetCame_53 (fun v15 ev15 wv15 => ?_)
        have rv15 : rg (-2147483648) (2147483647) v15 := lj_51 wv15
        refine lv_iload_n hx hb dX12_resetCame_54 rfl (lv_at hl 3 rfl) ?_
        refine lv_icmp_eq (tgt := 71) hx hb dX12_resetCame_55 (by decide) (fun c55_16 => ?_) (fun c55_16 => ?_)
        · skip
          exact j71_6  g4 _ _ ls mFr.rf L4  (lv_sub hl [0, 1, 4] rfl)
        · skip
          exact j58_10  g4 _ _ ls mFr.rf L4  (lv_sub hl [0, 1, 2, 3, 4] rfl)
    refine lv_icmp_eq (tgt := 38) hx hb dX12_resetCame_24 (by decide) (fun c24_17 => ?_) (fun c24_17 => ?_)
    · skip
      have q18 : rg (2) (2) v1 := (rg_eq c24_17 rv1 kc_2).1
      exact j38_4  g _ _ ls mFr.rf L  (lv_sub hl [0, 1, 2, 3, 4] rfl)
    · skip
      refine lv_aload_n hx hb dX12_resetCame_27 rfl (lv_at hl 0 rfl) ?_
      refine m_geta x L 40 rfl rfl (wm_in uf_107) dX12_resetCame_28 ?_
      refine lv_iload_n hx hb dX12_resetCame_31 rfl (lv_at hl 1 rfl) ?_
      refine m_ld x L 40 rfl rp1 rfl dX12_resetCame_32 (fun v19 ev19 wv19 => ?_)
      refine m_top ((ev1).trans ev19.symm) ?_
      refine lv_iconst (v := 3) hx hb dX12_resetCame_33 (by decide) ?_
      refine lv_icmp_eq (tgt := 38) hx hb dX12_resetCame_34 (by decide) (fun c34_20 => ?_) (fun c34_20 => ?_)
      · skip
        have q21 : rg (3) (3) v1 := (rg_eq c34_20 rv1 kc_3).1
        exact j38_4  g _ _ ls mFr.rf L  (lv_sub hl [0, 1, 2, 3, 4] rfl)
      · skip
        exact hQ _ _ _ _ _ dX12_resetCame_37 L ⟨mFr.rf, trivial⟩
  · skip
    have q22 : rg (0) (0) v1 := (rg_eq c6_2 rv1 kc_0).1
    refine lv_aload_n hx hb dX12_resetCame_9 rfl (lv_at hl 0 rfl) ?_
    refine lv_iload_n hx hb dX12_resetCame_10 rfl (lv_at hl 1 rfl) ?_
    refine lv_iconst (v := 3) hx hb dX12_resetCame_11 (by decide) ?_
    refine lv_iconst (v := 1) hx hb dX12_resetCame_12 (by decide) ?_
    refine m_cv (As := [.int p1, .int (3 : Int32), .int (1 : Int32)]) (rest := []) x hml L (c_small l nn X g p1 (3 : Int32) (1 : Int32) hnn hX (rg_w rp1 rfl) np1) (wm_V uc_small ul_400 ui_small us_small u_init) rfl ⟨rfl, rfl⟩ hd_small ⟨Nat.le_of_ble_eq_true rfl, Nat.le_of_ble_eq_true rfl⟩ rfl hl.1 rfl (lv_room (Nat.le_of_ble_eq_true rfl)) dX12_resetCame_13 (fun  g23 H23 k23 hp23 L23 => ?_)
    exact hQ _ _ _ _ _ dX12_resetCame_16 L23 ⟨(mFr.tr mFr.rf hp23.1 rfl), trivial⟩
theorem c_resetCame (l : Launch) {G : mG} {h0 : Nat} {ad : Nat → Nat} (nn X : Int) (g : mSt) (p1 : Int32) (p2 : Int32) (p3 : Int32) (p4 : Int32) (hnn : 2 ≤ nn ∧ nn ≤ 4) (hX : 0 ≤ X ∧ X ≤ 2000000000) (rp1 : rg (0) (7) p1) (np1 : p1.toInt < 2 * nn) : Met l yX12_resetCame (wm (Cond.code yX12_resetCame cX12_resetCame 5 none)) rm_resetCame (va_Pc [.ref h0, .int p1, .int p2, .int p3, .int p4] (mPre G h0 ad nn X g)) (mQv G h0 ad nn X (fun g1 => mFr [4, 5, 7, 8, 9, 10, 11, 40, 41, 42, 43, 44, 45, 46, 47, 51, 55, 56, 57, 64, 67] g g1 ∧ True)) 0 0 (mA h0 ad) := by
  refine Met.ofW (cc := cX12_resetCame) (maxL := 5) (ret := none) (by decide) rfl ?_
  intro p e s m args below meth c s₁ B hml hv
  obtain ⟨rfl, hv⟩ := hv
  have hr := B.returns
  have hlocks := B.notSynchronized
  obtain ⟨x, L⟩ := m_start B rfl wm_X hv
  have hl := lv_entry ([.ref h0, .int p1, .int p2, .int p3, .int p4]) (n := 5) (Nat.le_of_ble_eq_true rfl)
  rw [lg_entry_eq]
  generalize (lg_sl ([.ref h0, .int p1, .int p2, .int p3, .int p4]) ++ List.replicate (5 - (lg_sl ([.ref h0, .int p1, .int p2, .int p3, .int p4])).length) Slot.unset).toArray = ls at hl ⊢
  exact w_resetCame x hml L hnn hX p1 p2 p3 p4 rp1 np1 hl (fun pc' ls' g1 H1 locs1 hdg L hp => m_vret x L hr hlocks (Int.le_refl _) hp hdg)

def rm_lineTimers : Room := { frames := 7, cells := 0, slots := 0, locals := 159 }
theorem hd_lineTimers : yX12_lineTimers.cls = RX12 ∧ yX12_lineTimers.cls ≠ "java/lang/invoke/MethodHandle" ∧ yX12_lineTimers.cls ≠ "java/lang/invoke/VarHandle" ∧ (parseMethodDescriptor yX12_lineTimers.desc).map (fun d => d.parameters.length) = some 1 := by decide +kernel
set_option maxHeartbeats 4000000 in
set_option maxRecDepth 100000 in
theorem w_lineTimers {p : Program} {l : Launch} {e : Env} {s : State} {m : MethodId} {args : Array Value} {below : List Frame} {meth : Method} {c : Code} {H : Heap} {locs : List Loc} {Q : State → Prop} {ls : Array Slot} {G : mG} {h0 : Nat} {ad : Nat → Nat} {g : mSt} {H0 : Heap} {nn X : Int} (x : mX p c cX12_lineTimers s args (wm (Cond.code yX12_lineTimers cX12_lineTimers 4 none)) m G h0 ad) (hml : c.maxLocals = 4) (L : mL G h0 ad H0 nn X g H locs) (hnn : 2 ≤ nn ∧ nn ≤ 4) (hX : 0 ≤ X ∧ X ≤ 2000000000) (hJ : mJ nn [] g) (p1 : Int32) (rp1 : rg (0) (7) p1) (np1 : p1.toInt < 2 * nn) (hl : lv_has ls 4 [(0, .ref h0), (1, .int p1)]) (hQ : ∀ (pc' : Nat) (ls' : Array Slot) (g1 : mSt) (H1 : Heap) (locs1 : List Loc), decode cX12_lineTimers pc' = .ok (.return_, 1) → mL G h0 ad H0 nn X g1 H1 locs1 → (mFr [4, 5, 7, 8, 9, 10, 11, 40, 41, 42, 43, 44, 45, 46, 47, 48, 52, 53, 56, 57, 58, 59, 60, 64, 67, 68, 74, 75, 76, 77, 86, 87, 89, 90, 91] g g1 ∧ mJ nn [] g1 ∧ True) → W p l e rm_lineTimers s m args below meth c H1 locs1 0 0 Q (F0 m pc' ls' [])) : W p l e rm_lineTimers s m args below meth c H locs 0 0 Q (F0 m 0 ls []) := by
  have hx := x.1
  have hb := x.2.1
  refine lv_aload_n hx hb dX12_lineTimers_0 rfl (lv_at hl 0 rfl) ?_
  refine m_geta x L 40 rfl rfl (wm_in uf_107) dX12_lineTimers_1 ?_
  refine lv_iload_n hx hb dX12_lineTimers_4 rfl (lv_at hl 1 rfl) ?_
  refine m_ld x L 40 rfl rp1 rfl dX12_lineTimers_5 (fun v1 ev1 wv1 => ?_)
  have rv1 : rg (-2147483648) (2147483647) v1 := lj_40 wv1
  refine lv_iconst (v := 1) hx hb dX12_lineTimers_6 (by decide) ?_
  have j35_3 : ∀ (b35_0_2 : Int32) (g3 : mSt) (H3 : Heap) (k3 : List Loc) (ls : Array Slot), mFr [] g g3 → mL G h0 ad H0 nn X g3 H3 k3 → mJ nn [] g3 → rg (0) (1) b35_0_2 → lv_has ls 4 [(0, .ref h0), (1, .int p1)] → W p l e rm_lineTimers s m args below meth c H3 k3 0 0 Q (F0 m 35 ls [.int b35_0_2]) := by
    intro b35_0_2 g3 H3 k3 ls hF3 L3 hJ3 rb35_0_2 hl
    refine lv_istore_n (lv' := [(2, .int b35_0_2), (0, .ref h0), (1, .int p1)]) hx hb dX12_lineTimers_35 rfl hl (by decide) rfl (fun ls hl => ?_)
    refine lv_iload_n hx hb dX12_lineTimers_36 rfl (lv_at hl 0 rfl) ?_
    have j192_4 : ∀ (g4 : mSt) (H4 : Heap) (k4 : List Loc) (ls : Array Slot), mFr [4, 5, 7, 8, 9, 10, 11, 40, 41, 42, 43, 44, 45, 46, 47, 48, 52, 53, 56, 57, 58, 59, 60, 64, 67, 68, 74, 75, 76, 77, 86, 87, 89, 90, 91] g3 g4 → mL G h0 ad H0 nn X g4 H4 k4 → mJ nn [] g4 → lv_has ls 4 [(0, .ref h0)] → W p l e rm_lineTimers s m args below meth c H4 k4 0 0 Q (F0 m 192 ls []) := by
      intro  g4 H4 k4 ls hF4 L4 hJ4  hl
      exact hQ _ _ _ _ _ dX12_lineTimers_192 L4 ⟨(mFr.tr (mFr.tr mFr.rf hF3 rfl) hF4 rfl), hJ4, trivial⟩
    have j108_5 : ∀ (g5 : mSt) (H5 : Heap) (k5 : List Loc) (ls : Array Slot), mFr [] g3 g5 → mL G h0 ad H0 nn X g5 H5 k5 → mJ nn [] g5 → lv_has ls 4 [(0, .ref h0), (1, .int p1)] → W p l e rm_lineTimers s m args below meth c H5 k5 0 0 Q (F0 m 108 ls []) := by
      intro  g5 H5 k5 ls hF5 L5 hJ5  hl
      refine lv_aload_n hx hb dX12_lineTimers_108 rfl (lv_at hl 0 rfl) ?_
      refine m_geta x L5 40 rfl rfl (wm_in uf_107) dX12_lineTimers_109 ?_
      refine lv_iload_n hx hb dX12_lineTimers_112 rfl (lv_at hl 1 rfl) ?_
      refine m_ld x L5 40 rfl rp1 rfl dX12_lineTimers_113 (fun v6 ev6 wv6 => ?_)
      refine m_top (((mm_fr (mm_fr ev1 hF3 rfl) hF5 rfl)).trans ev6.symm) ?_
      refine lv_iconst (v := 2) hx hb dX12_lineTimers_114 (by decide) ?_
      refine lv_icmp_ne (tgt := 192) hx hb dX12_lineTimers_115 (by decide) (fun c115_7 => ?_) (fun c115_7 => ?_)
      · skip
        exact j192_4  g5 _ _ ls (mFr.tr mFr.rf hF5 rfl) L5 hJ5 (lv_sub hl [0] rfl)
      · skip
        have q8 : rg (2) (2) v1 := (rg_eq c115_7 rv1 kc_2).1
        refine lv_aload_n hx hb dX12_lineTimers_118 rfl (lv_at hl 0 rfl) ?_
        refine m_geti x L5 1 rfl rfl (wm_in uf_378) dX12_lineTimers_119 (fun v9 ev9 wv9 => ?_)
        have rv9 : rg (-2147483648) (2147483647) v9 := lj_1 wv9
        refine lv_aload_n hx hb dX12_lineTimers_122 rfl (lv_at hl 0 rfl) ?_
        refine m_geta x L5 56 rfl rfl (wm_in uf_156) dX12_lineTimers_123 ?_
        refine lv_iload_n hx hb dX12_lineTimers_126 rfl (lv_at hl 1 rfl) ?_
        refine m_ld x L5 56 rfl rp1 rfl dX12_lineTimers_127 (fun v10 ev10 wv10 => ?_)
        have rv10 : rg (-2147483648) (2147483647) v10 := lj_56 wv10
        refine lv_isub hx hb dX12_lineTimers_128 ?_
        refine lv_topi (fun v11 ev11 => ?_)
        have rv11 : rg (-2147483648) (2147483647) v11 := rg_any v11
        refine lv_istore_n (lv' := [(3, .int v11), (0, .ref h0), (1, .int p1)]) hx hb dX12_lineTimers_129 rfl hl (by decide) rfl (fun ls hl => ?_)
        refine lv_aload_n hx hb dX12_lineTimers_130 rfl (lv_at hl 1 rfl) ?_
        refine m_geti x L5 1 rfl rfl (wm_in uf_378) dX12_lineTimers_131 (fun v12 ev12 wv12 => ?_)
        refine m_top ((ev9).trans ev12.symm) ?_
        refine lv_aload_n hx hb dX12_lineTimers_134 rfl (lv_at hl 1 rfl) ?_
        refine m_geta x L5 55 rfl rfl (wm_in uf_153) dX12_lineTimers_135 ?_
        refine lv_iload_n hx hb dX12_lineTimers_138 rfl (lv_at hl 2 rfl) ?_
        refine m_ld x L5 55 rfl rp1 rfl dX12_lineTimers_139 (fun v13 ev13 wv13 => ?_)
        have rv13 : rg (-2147483648) (2147483647) v13 := lj_55 wv13
        refine lv_isub hx hb dX12_lineTimers_140 ?_
        refine lv_topi (fun v14 ev14 => ?_)
        have rv14 : rg (-2147483648) (2147483647) v14 := rg_any v14
        refine lv_bipush (v := 30) hx hb dX12_lineTimers_141 (by decide) ?_
        refine lv_icmp_lt (tgt := 161) hx hb dX12_lineTimers_143 (by decide) (fun c143_15 => ?_) (fun c143_15 => ?_)
        · skip
          have q16 : rg (-2147483648) (29) v14 := (rg_lt c143_15 rv14 kc_30).1
          refine lv_iload_n hx hb dX12_lineTimers_161 rfl (lv_at hl 0 rfl) ?_
          refine lv_bipush (v := 20) hx hb dX12_lineTimers_162 (by decide) ?_
          have j187_17 : ∀ (g17 : mSt) (H17 : Heap) (k17 : List Loc) (ls : Array Slot), mFr [] g5 g17 → mL G h0 ad H0 nn X g17 H17 k17 → mJ nn [] g17 → lv_has ls 4 [(0, .ref h0), (1, .int p1)] → W p l e rm_lineTimers s m args below meth c H17 k17 0 0 Q (F0 m 187 ls []) := by
            intro  g17 H17 k17 ls hF17 L17 hJ17  hl
            refine lv_aload_n hx hb dX12_lineTimers_187 rfl (lv_at hl 0 rfl) ?_
            refine lv_iload_n hx hb dX12_lineTimers_188 rfl (lv_at hl 1 rfl) ?_
            refine m_cv (As := [.int p1]) (rest := []) x hml L17 (c_sendPoll l nn X g17 p1 hnn hX (rg_w rp1 rfl) np1) (wm_V uc_sendPoll ul_451 ui_sendPoll us_sendPoll u_init) rfl ⟨rfl, rfl⟩ hd_sendPoll ⟨Nat.le_of_ble_eq_true rfl, Nat.le_of_ble_eq_true rfl⟩ rfl hl.1 rfl (lv_room (Nat.le_of_ble_eq_true rfl)) dX12_lineTimers_189 (fun  g18 H18 k18 hp18 L18 => ?_)
            exact j192_4  g18 _ _ ls (mFr.tr (mFr.tr (mFr.tr mFr.rf hF5 rfl) hF17 rfl) hp18.1 rfl) L18 (mJ_fr hJ17 hp18.1 rfl) (lv_sub hl [0] rfl)
          refine lv_icmp_ge (tgt := 187) hx hb dX12_lineTimers_164 (by decide) (fun c164_19 => ?_) (fun c164_19 => ?_)
          · skip
            have q20 : rg (20) (2147483647) v11 := (rg_le c164_19 kc_20 rv11).2
            exact j187_17  g5 _ _ ls mFr.rf L5 hJ5 (lv_sub hl [1, 2] rfl)
          · skip
            have q21 : rg (-2147483648) (19) v11 := (rg_lt (rg_nle c164_19) rv11 kc_20).1
            refine lv_iload_n hx hb dX12_lineTimers_167 rfl (lv_at hl 0 rfl) ?_
            refine lv_iconst (v := 4) hx hb dX12_lineTimers_168 (by decide) ?_
            refine lv_icmp_lt (tgt := 192) hx hb dX12_lineTimers_169 (by decide) (fun c169_22 => ?_) (fun c169_22 => ?_)
            · skip
              have q23 : rg (-2147483648) (3) v11 := (rg_lt c169_22 q21 kc_4).1
              exact j192_4  g5 _ _ ls (mFr.tr mFr.rf hF5 rfl) L5 hJ5 (lv_sub hl [1] rfl)
            · skip
              have q24 : rg (4) (19) v11 := (rg_le (rg_nlt c169_22) kc_4 q21).2
              refine lv_aload_n hx hb dX12_lineTimers_172 rfl (lv_at hl 1 rfl) ?_
              refine m_geta x L5 42 rfl rfl (wm_in uf_113) dX12_lineTimers_173 ?_
              refine lv_iload_n hx hb dX12_lineTimers_176 rfl (lv_at hl 2 rfl) ?_
              refine m_ld x L5 42 rfl rp1 rfl dX12_lineTimers_177 (fun v25 ev25 wv25 => ?_)
              have rv25 : rg (0) (2147483647) v25 := lj_42 wv25
              refine lv_aload_n hx hb dX12_lineTimers_178 rfl (lv_at hl 1 rfl) ?_
              refine m_geta x L5 41 rfl rfl (wm_in uf_110) dX12_lineTimers_179 ?_
              refine lv_iload_n hx hb dX12_lineTimers_182 rfl (lv_at hl 2 rfl) ?_
              refine m_ld x L5 41 rfl rp1 rfl dX12_lineTimers_183 (fun v26 ev26 wv26 => ?_)
              have rv26 : rg (0) (2147483647) v26 := lj_41 wv26
              refine lv_icmp_ge (tgt := 192) hx hb dX12_lineTimers_184 (by decide) (fun c184_27 => ?_) (fun c184_27 => ?_)
              · skip
                exact j192_4  g5 _ _ ls (mFr.tr mFr.rf hF5 rfl) L5 hJ5 (lv_sub hl [1] rfl)
              · skip
                have q28 : rg (0) (2147483646) v25 := (rg_lt (rg_nle c184_27) rv25 rv26).1
                have q29 : rg (1) (2147483647) v26 := (rg_lt (rg_nle c184_27) rv25 rv26).2
                exact j187_17  g5 _ _ ls mFr.rf L5 hJ5 (lv_sub hl [1, 2] rfl)
        · skip
          have q30 : rg (30) (2147483647) v14 := (rg_le (rg_nlt c143_15) kc_30 rv14).2
          refine lv_aload_n hx hb dX12_lineTimers_146 rfl (lv_at hl 1 rfl) ?_
          refine lv_iload_n hx hb dX12_lineTimers_147 rfl (lv_at hl 2 rfl) ?_
          refine lv_iconst (v := 3) hx hb dX12_lineTimers_148 (by decide) ?_
          refine lv_iconst (v := 1) hx hb dX12_lineTimers_149 (by decide) ?_
          refine m_cv (As := [.int p1, .int (3 : Int32), .int (1 : Int32)]) (rest := []) x hml L5 (c_small l nn X g5 p1 (3 : Int32) (1 : Int32) hnn hX (rg_w rp1 rfl) np1) (wm_V uc_small ul_400 ui_small us_small u_init) rfl ⟨rfl, rfl⟩ hd_small ⟨Nat.le_of_ble_eq_true rfl, Nat.le_of_ble_eq_true rfl⟩ rfl hl.1 rfl (lv_room (Nat.le_of_ble_eq_true rfl)) dX12_lineTimers_150 (fun  g31 H31 k31 hp31 L31 => ?_)
          refine lv_aload_n hx hb dX12_lineTimers_153 rfl (lv_at hl 1 rfl) ?_
          refine lv_iload_n hx hb dX12_lineTimers_154 rfl (lv_at hl 2 rfl) ?_
          refine m_cv (As := [.int p1]) (rest := []) x hml L31 (c_cut l nn X g31 p1 hnn hX (mJ_fr hJ5 hp31.1 rfl) (rg_w rp1 rfl)) (wm_V uc_cut ul_419 ui_cut us_cut u_init) rfl ⟨rfl, rfl⟩ hd_cut ⟨Nat.le_of_ble_eq_true rfl, Nat.le_of_ble_eq_true rfl⟩ rfl hl.1 rfl (lv_room (Nat.le_of_ble_eq_true rfl)) dX12_lineTimers_155 (fun  g32 H32 k32 hp32 L32 => ?_)
          refine lv_goto (tgt := 192) hx hb dX12_lineTimers_158 (by decide) ?_
          exact j192_4  g32 _ _ ls (mFr.tr (mFr.tr (mFr.tr mFr.rf hF5 rfl) hp31.1 rfl) hp32.1 rfl) L32 hp32.2.1 (lv_sub hl [1] rfl)
    refine lv_if_eq (tgt := 108) hx hb dX12_lineTimers_37 (by decide) (fun c37_33 => ?_) (fun c37_33 => ?_)
    · skip
      have q34 : rg (0) (0) b35_0_2 := (rg_eq c37_33 rb35_0_2 kc_0).1
      exact j108_5  g3 _ _ ls mFr.rf L3 hJ3 (lv_sub hl [1, 2] rfl)
    · skip
      have q35 : rg (1) (1) b35_0_2 := rg_neL c37_33 rb35_0_2 kc_0
      refine lv_aload_n hx hb dX12_lineTimers_40 rfl (lv_at hl 1 rfl) ?_
      refine m_geti x L3 1 rfl rfl (wm_in uf_378) dX12_lineTimers_41 (fun v36 ev36 wv36 => ?_)
      have rv36 : rg (-2147483648) (2147483647) v36 := lj_1 wv36
      refine lv_aload_n hx hb dX12_lineTimers_44 rfl (lv_at hl 1 rfl) ?_
      refine m_geta x L3 52 rfl rfl (wm_in uf_143) dX12_lineTimers_45 ?_
      refine lv_iload_n hx hb dX12_lineTimers_48 rfl (lv_at hl 2 rfl) ?_
      refine m_ld x L3 52 rfl rp1 rfl dX12_lineTimers_49 (fun v37 ev37 wv37 => ?_)
      have rv37 : rg (-2147483648) (2147483647) v37 := lj_52 wv37
      refine lv_isub hx hb dX12_lineTimers_50 ?_
      refine lv_topi (fun v38 ev38 => ?_)
      have rv38 : rg (-2147483648) (2147483647) v38 := rg_any v38
      refine lv_iconst (v := 5) hx hb dX12_lineTimers_51 (by decide) ?_
      refine lv_icmp_lt (tgt := 108) hx hb dX12_lineTimers_52 (by decide) (fun c52_39 => ?_) (fun c52_39 => ?_)
      · skip
        have q40 : rg (-2147483648) (4) v38 := (rg_lt c52_39 rv38 kc_5).1
        exact j108_5  g3 _ _ ls mFr.rf L3 hJ3 (lv_sub hl [1, 2] rfl)
      · skip
        have q41 : rg (5) (2147483647) v38 := (rg_le (rg_nlt c52_39) kc_5 rv38).2
        refine lv_aload_n hx hb dX12_lineTimers_55 rfl (lv_at hl 1 rfl) ?_
        refine m_geta x L3 53 rfl rfl (wm_in uf_146) dX12_lineTimers_56 ?_
        refine lv_iload_n hx hb dX12_lineTimers_59 rfl (lv_at hl 2 rfl) ?_
        refine m_ld x L3 53 rfl rp1 rfl dX12_lineTimers_60 (fun v42 ev42 wv42 => ?_)
        have rv42 : rg (-2147483648) (2147483647) v42 := lj_53 wv42
        refine lv_iconst (v := 4) hx hb dX12_lineTimers_61 (by decide) ?_
        refine lv_icmp_ne (tgt := 80) hx hb dX12_lineTimers_62 (by decide) (fun c62_43 => ?_) (fun c62_43 => ?_)
        · skip
          refine lv_aload_n hx hb dX12_lineTimers_80 rfl (lv_at hl 1 rfl) ?_
          refine m_geta x L3 53 rfl rfl (wm_in uf_146) dX12_lineTimers_81 ?_
          refine lv_iload_n hx hb dX12_lineTimers_84 rfl (lv_at hl 2 rfl) ?_
          refine lv_dup2_11 hx hb dX12_lineTimers_85 rfl rfl ?_
          refine m_ld x L3 53 rfl rp1 rfl dX12_lineTimers_86 (fun v44 ev44 wv44 => ?_)
          refine m_top ((ev42).trans ev44.symm) ?_
          refine lv_iconst (v := 1) hx hb dX12_lineTimers_87 (by decide) ?_
          refine lv_iadd hx hb dX12_lineTimers_88 ?_
          refine lv_topi (fun v45 ev45 => ?_)
          have rv45 : rg (-2147483648) (2147483647) v45 := rg_any v45
          refine m_st x L3 53 rfl rp1 rfl (rj_53 (rg_any v45)) dX12_lineTimers_89 (fun g46 H46 k46 eg46 L46 => ?_)
          refine lv_aload_n hx hb dX12_lineTimers_90 rfl (lv_at hl 1 rfl) ?_
          refine m_geta x L46 52 rfl rfl (wm_in uf_143) dX12_lineTimers_91 ?_
          refine lv_iload_n hx hb dX12_lineTimers_94 rfl (lv_at hl 2 rfl) ?_
          refine lv_aload_n hx hb dX12_lineTimers_95 rfl (lv_at hl 1 rfl) ?_
          refine m_geti x L46 1 rfl rfl (wm_in uf_378) dX12_lineTimers_96 (fun v47 ev47 wv47 => ?_)
          refine m_top (((mm_up ev36 eg46 rfl)).trans ev47.symm) ?_
          refine m_st x L46 52 rfl rp1 rfl (rj_52 (rg_any v36)) dX12_lineTimers_99 (fun g48 H48 k48 eg48 L48 => ?_)
          refine lv_aload_n hx hb dX12_lineTimers_100 rfl (lv_at hl 1 rfl) ?_
          refine lv_iload_n hx hb dX12_lineTimers_101 rfl (lv_at hl 2 rfl) ?_
          refine m_cv (As := [.int p1]) (rest := []) x hml L48 (c_askAgain l nn X g48 p1 hnn hX (rg_w rp1 rfl) np1) (wm_V uc_askAgain ul_394 ui_askAgain us_askAgain u_init) rfl ⟨rfl, rfl⟩ hd_askAgain ⟨Nat.le_of_ble_eq_true rfl, Nat.le_of_ble_eq_true rfl⟩ rfl hl.1 rfl (lv_room (Nat.le_of_ble_eq_true rfl)) dX12_lineTimers_102 (fun  g49 H49 k49 hp49 L49 => ?_)
          refine lv_goto (tgt := 192) hx hb dX12_lineTimers_105 (by decide) ?_
          exact j192_4  g49 _ _ ls (mFr.tr (mFr.upE (mFr.upE mFr.rf eg46 rfl) eg48 rfl) hp49.1 rfl) L49 (mJ_fr (mJ_up (mJ_up hJ3 eg46 rfl) eg48 rfl) hp49.1 rfl) (lv_sub hl [1] rfl)
        · skip
          have q50 : rg (4) (4) v42 := (rg_eq c62_43 rv42 kc_4).1
          refine lv_aload_n hx hb dX12_lineTimers_65 rfl (lv_at hl 1 rfl) ?_
          refine lv_iload_n hx hb dX12_lineTimers_66 rfl (lv_at hl 2 rfl) ?_
          refine lv_iconst (v := 3) hx hb dX12_lineTimers_67 (by decide) ?_
          refine lv_iconst (v := 1) hx hb dX12_lineTimers_68 (by decide) ?_
          refine m_cv (As := [.int p1, .int (3 : Int32), .int (1 : Int32)]) (rest := []) x hml L3 (c_small l nn X g3 p1 (3 : Int32) (1 : Int32) hnn hX (rg_w rp1 rfl) np1) (wm_V uc_small ul_400 ui_small us_small u_init) rfl ⟨rfl, rfl⟩ hd_small ⟨Nat.le_of_ble_eq_true rfl, Nat.le_of_ble_eq_true rfl⟩ rfl hl.1 rfl (lv_room (Nat.le_of_ble_eq_true rfl)) dX12_lineTimers_69 (fun  g51 H51 k51 hp51 L51 => ?_)
          refine lv_aload_n hx hb dX12_lineTimers_72 rfl (lv_at hl 1 rfl) ?_
          refine lv_iload_n hx hb dX12_lineTimers_73 rfl (lv_at hl 2 rfl) ?_
          refine m_cv (As := [.int p1]) (rest := []) x hml L51 (c_cut l nn X g51 p1 hnn hX (mJ_fr hJ3 hp51.1 rfl) (rg_w rp1 rfl)) (wm_V uc_cut ul_419 ui_cut us_cut u_init) rfl ⟨rfl, rfl⟩ hd_cut ⟨Nat.le_of_ble_eq_true rfl, Nat.le_of_ble_eq_true rfl⟩ rfl hl.1 rfl (lv_room (Nat.le_of_ble_eq_true rfl)) dX12_lineTimers_74 (fun  g52 H52 k52 hp52 L52 => ?_)
          refine lv_goto (tgt := 192) hx hb dX12_lineTimers_77 (by decide) ?_
          exact j192_4  g52 _ _ ls (mFr.tr (mFr.tr mFr.rf hp51.1 rfl) hp52.1 rfl) L52 hp52.2.1 (lv_sub hl [1] rfl)
  have j30_53 : ∀ (g53 : mSt) (H53 : Heap) (k53 : List Loc) (ls : Array Slot), mFr [] g g53 → mL G h0 ad H0 nn X g53 H53 k53 → mJ nn [] g53 → lv_has ls 4 [(0, .ref h0), (1, .int p1)] → W p l e rm_lineTimers s m args below meth c H53 k53 0 0 Q (F0 m 30 ls []) := by
    intro  g53 H53 k53 ls hF53 L53 hJ53  hl
    refine lv_iconst (v := 1) hx hb dX12_lineTimers_30 (by decide) ?_
    refine lv_goto (tgt := 35) hx hb dX12_lineTimers_31 (by decide) ?_
    exact j35_3 (1 : Int32) g53 _ _ ls (mFr.tr mFr.rf hF53 rfl) L53 hJ53 (rg_w kc_1 rfl) (lv_sub hl [0, 1] rfl)
  refine lv_icmp_eq (tgt := 30) hx hb dX12_lineTimers_7 (by decide) (fun c7_54 => ?_) (fun c7_54 => ?_)
  · skip
    have q55 : rg (1) (1) v1 := (rg_eq c7_54 rv1 kc_1).1
    exact j30_53  g _ _ ls mFr.rf L hJ (lv_sub hl [0, 1] rfl)
  · skip
    refine lv_aload_n hx hb dX12_lineTimers_10 rfl (lv_at hl 0 rfl) ?_
    refine m_geta x L 40 rfl rfl (wm_in uf_107) dX12_lineTimers_11 ?_
    refine lv_iload_n hx hb dX12_lineTimers_14 rfl (lv_at hl 1 rfl) ?_
    refine m_ld x L 40 rfl rp1 rfl dX12_lineTimers_15 (fun v56 ev56 wv56 => ?_)
    refine m_top ((ev1).trans ev56.symm) ?_
    refine lv_iconst (v := 3) hx hb dX12_lineTimers_16 (by decide) ?_
    refine lv_icmp_eq (tgt := 30) hx hb dX12_lineTimers_17 (by decide) (fun c17_57 => ?_) (fun c17_57 => ?_)
    · skip
      have q58 : rg (3) (3) v1 := (rg_eq c17_57 rv1 kc_3).1
      exact j30_53  g _ _ ls mFr.rf L hJ (lv_sub hl [0, 1] rfl)
    · skip
      refine lv_aload_n hx hb dX12_lineTimers_20 rfl (lv_at hl 0 rfl) ?_
      refine m_geta x L 40 rfl rfl (wm_in uf_107) dX12_lineTimers_21 ?_
      refine lv_iload_n hx hb dX12_lineTimers_24 rfl (lv_at hl 1 rfl) ?_
      refine m_ld x L 40 rfl rp1 rfl dX12_lineTimers_25 (fun v59 ev59 wv59 => ?_)
      refine m_top ((ev1).trans ev59.symm) ?_
      refine lv_iconst (v := 4) hx hb dX12_lineTimers_26 (by decide) ?_
      refine lv_icmp_ne (tgt := 34) hx hb dX12_lineTimers_27 (by decide) (fun c27_60 => ?_) (fun c27_60 => ?_)
      · skip
        refine lv_iconst (v := 0) hx hb dX12_lineTimers_34 (by decide) ?_
        exact j35_3 (0 : Int32) g _ _ ls mFr.rf L hJ (rg_w kc_0 rfl) (lv_sub hl [0, 1] rfl)
      · skip
        have q61 : rg (4) (4) v1 := (rg_eq c27_60 rv1 kc_4).1
        exact j30_53  g _ _ ls mFr.rf L hJ (lv_sub hl [0, 1] rfl)
theorem c_lineTimers (l : Launch) {G : mG} {h0 : Nat} {ad : Nat → Nat} (nn X : Int) (g : mSt) (p1 : Int32) (hnn : 2 ≤ nn ∧ nn ≤ 4) (hX : 0 ≤ X ∧ X ≤ 2000000000) (hJ : mJ nn [] g) (rp1 : rg (0) (7) p1) (np1 : p1.toInt < 2 * nn) : Met l yX12_lineTimers (wm (Cond.code yX12_lineTimers cX12_lineTimers 4 none)) rm_lineTimers (va_Pc [.ref h0, .int p1] (mPre G h0 ad nn X g)) (mQv G h0 ad nn X (fun g1 => mFr [4, 5, 7, 8, 9, 10, 11, 40, 41, 42, 43, 44, 45, 46, 47, 48, 52, 53, 56, 57, 58, 59, 60, 64, 67, 68, 74, 75, 76, 77, 86, 87, 89, 90, 91] g g1 ∧ mJ nn [] g1 ∧ True)) 0 0 (mA h0 ad) := by
  refine Met.ofW (cc := cX12_lineTimers) (maxL := 4) (ret := none) (by decide) rfl ?_
  intro p e s m args below meth c s₁ B hml hv
  obtain ⟨rfl, hv⟩ := hv
  have hr := B.returns
  have hlocks := B.notSynchronized
  obtain ⟨x, L⟩ := m_start B rfl wm_X hv
  have hl := lv_entry ([.ref h0, .int p1]) (n := 4) (Nat.le_of_ble_eq_true rfl)
  rw [lg_entry_eq]
  generalize (lg_sl ([.ref h0, .int p1]) ++ List.replicate (4 - (lg_sl ([.ref h0, .int p1])).length) Slot.unset).toArray = ls at hl ⊢
  exact w_lineTimers x hml L hnn hX hJ p1 rp1 np1 hl (fun pc' ls' g1 H1 locs1 hdg L hp => m_vret x L hr hlocks (Int.le_refl _) hp hdg)

def rm_quit : Room := { frames := 7, cells := 0, slots := 0, locals := 163 }
theorem hd_quit : yX12_quit.cls = RX12 ∧ yX12_quit.cls ≠ "java/lang/invoke/MethodHandle" ∧ yX12_quit.cls ≠ "java/lang/invoke/VarHandle" ∧ (parseMethodDescriptor yX12_quit.desc).map (fun d => d.parameters.length) = some 1 := by decide +kernel
set_option maxHeartbeats 4000000 in
set_option maxRecDepth 100000 in
theorem w_quit {p : Program} {l : Launch} {e : Env} {s : State} {m : MethodId} {args : Array Value} {below : List Frame} {meth : Method} {c : Code} {H : Heap} {locs : List Loc} {Q : State → Prop} {ls : Array Slot} {G : mG} {h0 : Nat} {ad : Nat → Nat} {g : mSt} {H0 : Heap} {nn X : Int} (x : mX p c cX12_quit s args (wm (Cond.code yX12_quit cX12_quit 2 (some .int))) m G h0 ad) (hml : c.maxLocals = 2) (L : mL G h0 ad H0 nn X g H locs) (hnn : 2 ≤ nn ∧ nn ≤ 4) (hX : 0 ≤ X ∧ X ≤ 2000000000) (hJ : mJ nn [] g) (p1 : Int32) (hl : lv_has ls 2 [(0, .ref h0), (1, .int p1)]) (hQ : ∀ (pc' : Nat) (ls' : Array Slot) (r : Int32) (g1 : mSt) (H1 : Heap) (locs1 : List Loc), decode cX12_quit pc' = .ok (.ireturn, 1) → mL G h0 ad H0 nn X g1 H1 locs1 → (mFr [4, 5, 7, 8, 9, 10, 11, 40, 52, 53, 58, 59, 60, 68, 74, 75, 76, 77, 86, 87, 89, 90, 91] g g1 ∧ rg (-1) (1) r ∧ mJ nn [] g1 ∧ True) → W p l e rm_quit s m args below meth c H1 locs1 0 0 Q (F0 m pc' ls' [.int r])) : W p l e rm_quit s m args below meth c H locs 0 0 Q (F0 m 0 ls []) := by
  have hx := x.1
  have hb := x.2.1
  refine lv_aload_n hx hb dX12_quit_0 rfl (lv_at hl 0 rfl) ?_
  refine lv_iload_n hx hb dX12_quit_1 rfl (lv_at hl 1 rfl) ?_
  refine m_ci (As := [.int p1]) (rest := []) x hml L (c_isSide l nn X g p1 hnn hX) (wm_V uc_isSide ul_460 ui_isSide us_isSide u_init) rfl ⟨rfl, rfl⟩ hd_isSide ⟨Nat.le_of_ble_eq_true rfl, Nat.le_of_ble_eq_true rfl⟩ rfl hl.1 rfl (lv_room (Nat.le_of_ble_eq_true rfl)) dX12_quit_2 (fun v2 g1 H1 k1 hp1 L1 => ?_)
  have rv2 : rg (0) (1) v2 := hp1.2.1
  refine lv_if_ne (tgt := 10) hx hb dX12_quit_5 (by decide) (fun c5_3 => ?_) (fun c5_3 => ?_)
  · skip
    have q4 : rg (0) (7) p1 ∧ p1.toInt < 2 * nn := hp1.2.2 c5_3
    have q5 : rg (1) (1) v2 := rg_neL c5_3 rv2 kc_0
    refine lv_aload_n hx hb dX12_quit_10 rfl (lv_at hl 0 rfl) ?_
    refine m_geta x L1 40 rfl rfl (wm_in uf_107) dX12_quit_11 ?_
    refine lv_iload_n hx hb dX12_quit_14 rfl (lv_at hl 1 rfl) ?_
    refine m_ld x L1 40 rfl q4.1 rfl dX12_quit_15 (fun v6 ev6 wv6 => ?_)
    have rv6 : rg (-2147483648) (2147483647) v6 := lj_40 wv6
    refine lv_iconst (v := 2) hx hb dX12_quit_16 (by decide) ?_
    refine lv_icmp_eq (tgt := 22) hx hb dX12_quit_17 (by decide) (fun c17_7 => ?_) (fun c17_7 => ?_)
    · skip
      have q8 : rg (2) (2) v6 := (rg_eq c17_7 rv6 kc_2).1
      refine lv_aload_n hx hb dX12_quit_22 rfl (lv_at hl 0 rfl) ?_
      refine m_geta x L1 60 rfl rfl (wm_in uf_168) dX12_quit_23 ?_
      refine lv_iload_n hx hb dX12_quit_26 rfl (lv_at hl 1 rfl) ?_
      refine lv_iconst (v := 0) hx hb dX12_quit_27 (by decide) ?_
      refine m_st x L1 60 rfl q4.1 rfl (rj_60 (rg_w kc_0 rfl)) dX12_quit_28 (fun g9 H9 k9 eg9 L9 => ?_)
      refine lv_aload_n hx hb dX12_quit_29 rfl (lv_at hl 0 rfl) ?_
      refine lv_iload_n hx hb dX12_quit_30 rfl (lv_at hl 1 rfl) ?_
      refine lv_iconst (v := 4) hx hb dX12_quit_31 (by decide) ?_
      refine m_cv (As := [.int p1, .int (4 : Int32)]) (rest := []) x hml L9 (c_ask l nn X g9 p1 (4 : Int32) hnn hX (rg_w q4.1 rfl) q4.2) (wm_V uc_ask ul_403 ui_ask us_ask u_init) rfl ⟨rfl, rfl⟩ hd_ask ⟨Nat.le_of_ble_eq_true rfl, Nat.le_of_ble_eq_true rfl⟩ rfl hl.1 rfl (lv_room (Nat.le_of_ble_eq_true rfl)) dX12_quit_32 (fun  g10 H10 k10 hp10 L10 => ?_)
      refine lv_aload_n hx hb dX12_quit_35 rfl (lv_at hl 0 rfl) ?_
      refine lv_iload_n hx hb dX12_quit_36 rfl (lv_at hl 1 rfl) ?_
      refine m_cv (As := [.int p1]) (rest := []) x hml L10 (c_cutCalls l nn X g10 p1 hnn hX (mJ_fr (mJ_up (mJ_fr hJ hp1.1 rfl) eg9 rfl) hp10.1 rfl) (rg_w q4.1 rfl)) (wm_V uc_cutCalls ul_391 ui_cutCalls us_cutCalls u_init) rfl ⟨rfl, rfl⟩ hd_cutCalls ⟨Nat.le_of_ble_eq_true rfl, Nat.le_of_ble_eq_true rfl⟩ rfl hl.1 rfl (lv_room (Nat.le_of_ble_eq_true rfl)) dX12_quit_37 (fun  g11 H11 k11 hp11 L11 => ?_)
      refine lv_iconst (v := 1) hx hb dX12_quit_40 (by decide) ?_
      exact hQ _ _ (1 : Int32) _ _ _ dX12_quit_41 L11 ⟨(mFr.tr (mFr.tr (mFr.upE (mFr.tr mFr.rf hp1.1 rfl) eg9 rfl) hp10.1 rfl) hp11.1 rfl), rg_w kc_1 rfl, hp11.2.1, trivial⟩
    · skip
      refine lv_iconst (v := 0) hx hb dX12_quit_20 (by decide) ?_
      exact hQ _ _ (0 : Int32) _ _ _ dX12_quit_21 L1 ⟨(mFr.tr mFr.rf hp1.1 rfl), rg_w kc_0 rfl, (mJ_fr hJ hp1.1 rfl), trivial⟩
  · skip
    have q12 : rg (0) (0) v2 := (rg_eq c5_3 rv2 kc_0).1
    refine lv_iconst (v := (-1)) hx hb dX12_quit_8 (by decide) ?_
    exact hQ _ _ (-1 : Int32) _ _ _ dX12_quit_9 L1 ⟨(mFr.tr mFr.rf hp1.1 rfl), rg_w kc_m1 rfl, (mJ_fr hJ hp1.1 rfl), trivial⟩
theorem c_quit (l : Launch) {G : mG} {h0 : Nat} {ad : Nat → Nat} (nn X : Int) (g : mSt) (p1 : Int32) (hnn : 2 ≤ nn ∧ nn ≤ 4) (hX : 0 ≤ X ∧ X ≤ 2000000000) (hJ : mJ nn [] g) : Met l yX12_quit (wm (Cond.code yX12_quit cX12_quit 2 (some .int))) rm_quit (va_Pc [.ref h0, .int p1] (mPre G h0 ad nn X g)) (mQi G h0 ad nn X (fun r g1 => mFr [4, 5, 7, 8, 9, 10, 11, 40, 52, 53, 58, 59, 60, 68, 74, 75, 76, 77, 86, 87, 89, 90, 91] g g1 ∧ rg (-1) (1) r ∧ mJ nn [] g1 ∧ True)) 0 0 (mA h0 ad) := by
  refine Met.ofW (cc := cX12_quit) (maxL := 2) (ret := (some .int)) (by decide) rfl ?_
  intro p e s m args below meth c s₁ B hml hv
  obtain ⟨rfl, hv⟩ := hv
  have hr := B.returns
  have hlocks := B.notSynchronized
  obtain ⟨x, L⟩ := m_start B rfl wm_X hv
  have hl := lv_entry ([.ref h0, .int p1]) (n := 2) (Nat.le_of_ble_eq_true rfl)
  rw [lg_entry_eq]
  generalize (lg_sl ([.ref h0, .int p1]) ++ List.replicate (2 - (lg_sl ([.ref h0, .int p1])).length) Slot.unset).toArray = ls at hl ⊢
  exact w_quit x hml L hnn hX hJ p1 hl (fun pc' ls' r g1 H1 locs1 hdg L hp => m_iret x L hr hlocks (Int.le_refl _) hp hdg)

def rm_received : Room := { frames := 2, cells := 0, slots := 0, locals := 43 }
theorem hd_received : yX12_received.cls = RX12 ∧ yX12_received.cls ≠ "java/lang/invoke/MethodHandle" ∧ yX12_received.cls ≠ "java/lang/invoke/VarHandle" ∧ (parseMethodDescriptor yX12_received.desc).map (fun d => d.parameters.length) = some 3 := by decide +kernel
set_option maxHeartbeats 4000000 in
set_option maxRecDepth 100000 in
theorem w_received {p : Program} {l : Launch} {e : Env} {s : State} {m : MethodId} {args : Array Value} {below : List Frame} {meth : Method} {c : Code} {H : Heap} {locs : List Loc} {Q : State → Prop} {ls : Array Slot} {G : mG} {h0 : Nat} {ad : Nat → Nat} {g : mSt} {H0 : Heap} {nn X : Int} (x : mX p c cX12_received s args (wm (Cond.code yX12_received cX12_received 5 (some .int))) m G h0 ad) (hml : c.maxLocals = 5) (L : mL G h0 ad H0 nn X g H locs) (hnn : 2 ≤ nn ∧ nn ≤ 4) (hX : 0 ≤ X ∧ X ≤ 2000000000) (p1 : Int32) (p2 : Int32) (p3 : Int32) (hl : lv_has ls 5 [(0, .ref h0), (1, .int p1), (2, .int p2), (3, .int p3)]) (hQ : ∀ (pc' : Nat) (ls' : Array Slot) (r : Int32) (g1 : mSt) (H1 : Heap) (locs1 : List Loc), decode cX12_received pc' = .ok (.ireturn, 1) → mL G h0 ad H0 nn X g1 H1 locs1 → (mFr [] g g1 ∧ rg (-2147483648) (2147483647) r ∧ True) → W p l e rm_received s m args below meth c H1 locs1 0 0 Q (F0 m pc' ls' [.int r])) : W p l e rm_received s m args below meth c H locs 0 0 Q (F0 m 0 ls []) := by
  have hx := x.1
  have hb := x.2.1
  have up1 : (-2147483648 : Int) ≤ p1.toInt ∧ p1.toInt ≤ 2147483647 := (rg_any p1)
  have up2 : (-2147483648 : Int) ≤ p2.toInt ∧ p2.toInt ≤ 2147483647 := (rg_any p2)
  have up3 : (-2147483648 : Int) ≤ p3.toInt ∧ p3.toInt ≤ 2147483647 := (rg_any p3)
  refine lv_aload_n hx hb dX12_received_0 rfl (lv_at hl 0 rfl) ?_
  refine lv_iload_n hx hb dX12_received_1 rfl (lv_at hl 1 rfl) ?_
  refine m_ci (As := [.int p1]) (rest := []) x hml L (c_isEnd l nn X g p1 hnn hX) (wm_V uc_isEnd ul_381 ui_isEnd us_isEnd u_init) rfl ⟨rfl, rfl⟩ hd_isEnd ⟨Nat.le_of_ble_eq_true rfl, Nat.le_of_ble_eq_true rfl⟩ rfl hl.1 rfl (lv_room (Nat.le_of_ble_eq_true rfl)) dX12_received_2 (fun v2 g1 H1 k1 hp1 L1 => ?_)
  have rv2 : rg (0) (1) v2 := hp1.2.1
  have uv2 : (0 : Int) ≤ v2.toInt ∧ v2.toInt ≤ 1 := rv2
  have hw3 := hp1.2.2.2
  have j24_4 : ∀ (g4 : mSt) (H4 : Heap) (k4 : List Loc) (ls : Array Slot), mFr [] g1 g4 → mL G h0 ad H0 nn X g4 H4 k4 → lv_has ls 5 [(0, .ref h0), (1, .int p1), (2, .int p2), (3, .int p3)] → W p l e rm_received s m args below meth c H4 k4 0 0 Q (F0 m 24 ls []) := by
    intro  g4 H4 k4 ls hF4 L4  hl
    refine lv_aload_n hx hb dX12_received_24 rfl (lv_at hl 0 rfl) ?_
    refine lv_iload_n hx hb dX12_received_25 rfl (lv_at hl 1 rfl) ?_
    refine lv_iload_n hx hb dX12_received_26 rfl (lv_at hl 2 rfl) ?_
    refine m_ci (As := [.int p1, .int p2]) (rest := []) x hml L4 (c_isReceived l nn X g4 p1 p2 hnn hX) (wm_V uc_isReceived ul_384 ui_isReceived us_isReceived u_init) rfl ⟨rfl, rfl⟩ hd_isReceived ⟨Nat.le_of_ble_eq_true rfl, Nat.le_of_ble_eq_true rfl⟩ rfl hl.1 rfl (lv_room (Nat.le_of_ble_eq_true rfl)) dX12_received_27 (fun v6 g5 H5 k5 hp5 L5 => ?_)
    have rv6 : rg (0) (1) v6 := hp5.2.1
    have uv6 : (0 : Int) ≤ v6.toInt ∧ v6.toInt ≤ 1 := rv6
    have hw7 := hp5.2.2.2.2
    rw [(show mFr [] g g4 from (mFr.tr (mFr.tr mFr.rf hp1.1 rfl) hF4 rfl)).at 39 rfl] at hw7
    have j42_8 : ∀ (g8 : mSt) (H8 : Heap) (k8 : List Loc) (ls : Array Slot), mFr [] g5 g8 → mL G h0 ad H0 nn X g8 H8 k8 → lv_has ls 5 [(0, .ref h0)] → W p l e rm_received s m args below meth c H8 k8 0 0 Q (F0 m 42 ls []) := by
      intro  g8 H8 k8 ls hF8 L8  hl
      refine lv_iconst (v := (-1)) hx hb dX12_received_42 (by decide) ?_
      exact hQ _ _ (-1 : Int32) _ _ _ dX12_received_43 L8 ⟨(mFr.tr (mFr.tr (mFr.tr (mFr.tr mFr.rf hp1.1 rfl) hF4 rfl) hp5.1 rfl) hF8 rfl), rg_w kc_m1 rfl, trivial⟩
    refine lv_if_eq (tgt := 42) hx hb dX12_received_30 (by decide) (fun c30_9 => ?_) (fun c30_9 => ?_)
    · skip
      have ic30_9 := congrArg Int32.toInt c30_9
      have y10 : (0 : Int32).toInt = 0 := by decide
      have q11 : rg (0) (0) v6 := (rg_eq c30_9 rv6 kc_0).1
      have uq11 : (0 : Int) ≤ v6.toInt ∧ v6.toInt ≤ 0 := q11
      exact j42_8  g5 _ _ ls mFr.rf L5  (lv_sub hl [0] rfl)
    · skip
      have ic30_9 : v6.toInt ≠ (0 : Int32).toInt := fun z => c30_9 (Int32.toInt_inj.mp z)
      have y12 : (0 : Int32).toInt = 0 := by decide
      have q13 : rg (0) (3) p1 ∧ p1.toInt < 1 * nn := hp5.2.2.1 c30_9
      have uq13 : (0 : Int) ≤ p1.toInt ∧ p1.toInt ≤ 3 := q13.1
      have wq13 := q13.2
      have q14 : rg (0) (19) p2 ∧ p2.toInt < 10 * nn := hp5.2.2.2.1 c30_9
      have uq14 : (0 : Int) ≤ p2.toInt ∧ p2.toInt ≤ 19 := q14.1
      have wq14 := q14.2
      have q15 : rg (1) (1) v6 := rg_neL c30_9 rv6 kc_0
      have uq15 : (1 : Int) ≤ v6.toInt ∧ v6.toInt ≤ 1 := q15
      refine lv_iload_n hx hb dX12_received_33 rfl (lv_at hl 3 rfl) ?_
      refine lv_if_lt (tgt := 42) hx hb dX12_received_34 (by decide) (fun c34_16 => ?_) (fun c34_16 => ?_)
      · skip
        have ic34_16 := Int32.lt_iff_toInt_lt.mp c34_16
        have q17 : rg (-2147483648) (-1) p3 := (rg_lt c34_16 (rg_any p3) kc_0).1
        have uq17 : (-2147483648 : Int) ≤ p3.toInt ∧ p3.toInt ≤ -1 := q17
        exact j42_8  g5 _ _ ls mFr.rf L5  (lv_sub hl [0] rfl)
      · skip
        have ic34_16 := Int32.le_iff_toInt_le.mp (rg_nlt c34_16)
        have q18 : rg (0) (2147483647) p3 := (rg_le (rg_nlt c34_16) kc_0 (rg_any p3)).2
        have uq18 : (0 : Int) ≤ p3.toInt ∧ p3.toInt ≤ 2147483647 := q18
        refine lv_iload_n hx hb dX12_received_37 rfl (lv_at hl 3 rfl) ?_
        refine lv_iconst (v := 2) hx hb dX12_received_38 (by decide) ?_
        refine lv_icmp_le (tgt := 44) hx hb dX12_received_39 (by decide) (fun c39_19 => ?_) (fun c39_19 => ?_)
        · skip
          have ic39_19 := Int32.le_iff_toInt_le.mp c39_19
          have q20 : rg (0) (2) p3 := (rg_le c39_19 q18 kc_2).1
          have uq20 : (0 : Int) ≤ p3.toInt ∧ p3.toInt ≤ 2 := q20
          refine lv_bipush (v := 20) hx hb dX12_received_44 (by decide) ?_
          refine lv_iload_n hx hb dX12_received_46 rfl (lv_at hl 1 rfl) ?_
          refine lv_imul hx hb dX12_received_47 ?_
          refine lv_topi (fun v21 ev21 => ?_)
          have rv21 : rg (0) (60) v21 := (rg_mulL ev21 kc_20 q13.1 rfl).1
          have tv21 := (rg_mulL ev21 kc_20 q13.1 rfl).2
          have y22 : (20 : Int32).toInt = 20 := by decide
          have b20v21 : v21.toInt < 20 * nn := by have := q13.2; have : (20 : Int32).toInt = 20 := (by decide); omega
          have uv21 : (0 : Int) ≤ v21.toInt ∧ v21.toInt ≤ 60 := rv21
          refine lv_aload_n hx hb dX12_received_48 rfl (lv_at hl 0 rfl) ?_
          refine m_geta x L5 39 rfl rfl (wm_in uf_104) dX12_received_49 ?_
          refine lv_iload_n hx hb dX12_received_52 rfl (lv_at hl 1 rfl) ?_
          refine m_ld x L5 39 rfl q13.1 rfl dX12_received_53 (fun v23 ev23 wv23 => ?_)
          have rv23 : rg 0 2000000000 v23 := rg_X hX (lj_39 wv23)
          have uv23 : (0 : Int) ≤ v23.toInt ∧ v23.toInt ≤ 2000000000 := rv23
          have sv23 : v23.toInt = (g 39 p1.toNatClampNeg).toInt := congrArg Int32.toInt (ev23.trans (congrFun ((show mFr [] g g5 from (mFr.tr (mFr.tr (mFr.tr mFr.rf hp1.1 rfl) hF4 rfl) hp5.1 rfl)).at 39 rfl) _))
          refine lv_iconst (v := 1) hx hb dX12_received_54 (by decide) ?_
          refine lv_isub hx hb dX12_received_55 ?_
          refine lv_topi (fun v24 ev24 => ?_)
          have rv24 : rg (-1) (1999999999) v24 := (rg_sub ev24 rv23 kc_1 rfl).1
          have tv24 := (rg_sub ev24 rv23 kc_1 rfl).2
          have y25 : (1 : Int32).toInt = 1 := by decide
          have uv24 : (-1 : Int) ≤ v24.toInt ∧ v24.toInt ≤ 1999999999 := rv24
          refine lv_iload_n hx hb dX12_received_56 rfl (lv_at hl 2 rfl) ?_
          refine lv_isub hx hb dX12_received_57 ?_
          refine lv_topi (fun v26 ev26 => ?_)
          have rv26 : rg (-20) (1999999999) v26 := (rg_sub ev26 rv24 q14.1 rfl).1
          have tv26 := (rg_sub ev26 rv24 q14.1 rfl).2
          have q27 : rg (0) (2000000000) v26 := ⟨by omega, by omega⟩
          have uv26 : (0 : Int) ≤ v26.toInt ∧ v26.toInt ≤ 2000000000 := q27
          refine lv_bipush (v := 20) hx hb dX12_received_58 (by decide) ?_
          refine lv_irem hx hb dX12_received_60 (by decide) ?_
          refine lv_topi (fun v28 ev28 => ?_)
          have rv28 : rg (0) (19) v28 := (rg_rem ev28 q27 kc_20 rfl).1
          have tv28 := (rg_rem ev28 q27 kc_20 rfl).2
          have y29 : (20 : Int32).toInt = 20 := by decide
          have uv28 : (0 : Int) ≤ v28.toInt ∧ v28.toInt ≤ 19 := rv28
          refine lv_iadd hx hb dX12_received_61 ?_
          refine lv_topi (fun v30 ev30 => ?_)
          have rv30 : rg (0) (79) v30 := (rg_add ev30 rv21 rv28 rfl).1
          have tv30 := (rg_add ev30 rv21 rv28 rfl).2
          have uv30 : (0 : Int) ≤ v30.toInt ∧ v30.toInt ≤ 79 := rv30
          refine lv_istore (lv' := [(4, .int v30), (0, .ref h0), (1, .int p1), (2, .int p2), (3, .int p3)]) hx hb dX12_received_62 hl (by decide) rfl (fun ls hl => ?_)
          refine lv_iload_n hx hb dX12_received_64 rfl (lv_at hl 4 rfl) ?_
          have j100_32 : ∀ (b100_0_31 : Int32) (g32 : mSt) (H32 : Heap) (k32 : List Loc) (ls : Array Slot), mFr [] g5 g32 → mL G h0 ad H0 nn X g32 H32 k32 → rg (-2147483648) (2147483647) b100_0_31 → lv_has ls 5 [(0, .ref h0)] → W p l e rm_received s m args below meth c H32 k32 0 0 Q (F0 m 100 ls [.int b100_0_31]) := by
            intro b100_0_31 g32 H32 k32 ls hF32 L32 rb100_0_31 hl
            have ub100_0_31 : (-2147483648 : Int) ≤ b100_0_31.toInt ∧ b100_0_31.toInt ≤ 2147483647 := rb100_0_31
            exact hQ _ _ b100_0_31 _ _ _ dX12_received_100 L32 ⟨(mFr.tr (mFr.tr (mFr.tr (mFr.tr mFr.rf hp1.1 rfl) hF4 rfl) hp5.1 rfl) hF32 rfl), rg_w rb100_0_31 rfl, trivial⟩
          refine lv_if_ne (tgt := 78) hx hb dX12_received_65 (by decide) (fun c65_33 => ?_) (fun c65_33 => ?_)
          · skip
            have ic65_33 : p3.toInt ≠ (0 : Int32).toInt := fun z => c65_33 (Int32.toInt_inj.mp z)
            have y34 : (0 : Int32).toInt = 0 := by decide
            have q35 : rg (1) (2) p3 := rg_neL c65_33 q20 kc_0
            have uq35 : (1 : Int) ≤ p3.toInt ∧ p3.toInt ≤ 2 := q35
            refine lv_iload_n hx hb dX12_received_78 rfl (lv_at hl 4 rfl) ?_
            refine lv_iconst (v := 1) hx hb dX12_received_79 (by decide) ?_
            refine lv_icmp_ne (tgt := 93) hx hb dX12_received_80 (by decide) (fun c80_36 => ?_) (fun c80_36 => ?_)
            · skip
              have ic80_36 : p3.toInt ≠ (1 : Int32).toInt := fun z => c80_36 (Int32.toInt_inj.mp z)
              have y37 : (1 : Int32).toInt = 1 := by decide
              have q38 : rg (2) (2) p3 := rg_neL c80_36 q35 kc_1
              have uq38 : (2 : Int) ≤ p3.toInt ∧ p3.toInt ≤ 2 := q38
              refine lv_aload_n hx hb dX12_received_93 rfl (lv_at hl 1 rfl) ?_
              refine m_geta x L5 37 rfl rfl (wm_in uf_98) dX12_received_94 ?_
              refine lv_iload hx hb dX12_received_97 (lv_at hl 0 rfl) ?_
              refine m_ld x L5 37 rfl rv30 rfl dX12_received_99 (fun v39 ev39 wv39 => ?_)
              have rv39 : rg (-2147483648) (2147483647) v39 := lj_37 wv39
              have uv39 : (-2147483648 : Int) ≤ v39.toInt ∧ v39.toInt ≤ 2147483647 := rv39
              have sv39 : v39.toInt = (g 37 v30.toNatClampNeg).toInt := congrArg Int32.toInt (ev39.trans (congrFun ((show mFr [] g g5 from (mFr.tr (mFr.tr (mFr.tr mFr.rf hp1.1 rfl) hF4 rfl) hp5.1 rfl)).at 37 rfl) _))
              exact j100_32 v39 g5 _ _ ls mFr.rf L5 (rg_w rv39 rfl) (lv_sub hl [1] rfl)
            · skip
              have ic80_36 := congrArg Int32.toInt c80_36
              have y40 : (1 : Int32).toInt = 1 := by decide
              have q41 : rg (1) (1) p3 := (rg_eq c80_36 q35 kc_1).1
              have uq41 : (1 : Int) ≤ p3.toInt ∧ p3.toInt ≤ 1 := q41
              refine lv_aload_n hx hb dX12_received_83 rfl (lv_at hl 1 rfl) ?_
              refine m_geta x L5 36 rfl rfl (wm_in uf_95) dX12_received_84 ?_
              refine lv_iload hx hb dX12_received_87 (lv_at hl 0 rfl) ?_
              refine m_ld x L5 36 rfl rv30 rfl dX12_received_89 (fun v42 ev42 wv42 => ?_)
              have rv42 : rg (0) (200) v42 := lj_36 wv42
              have uv42 : (0 : Int) ≤ v42.toInt ∧ v42.toInt ≤ 200 := rv42
              have sv42 : v42.toInt = (g 36 v30.toNatClampNeg).toInt := congrArg Int32.toInt (ev42.trans (congrFun ((show mFr [] g g5 from (mFr.tr (mFr.tr (mFr.tr mFr.rf hp1.1 rfl) hF4 rfl) hp5.1 rfl)).at 36 rfl) _))
              refine lv_goto (tgt := 100) hx hb dX12_received_90 (by decide) ?_
              exact j100_32 v42 g5 _ _ ls mFr.rf L5 (rg_w rv42 rfl) (lv_sub hl [1] rfl)
          · skip
            have ic65_33 := congrArg Int32.toInt c65_33
            have y43 : (0 : Int32).toInt = 0 := by decide
            have q44 : rg (0) (0) p3 := (rg_eq c65_33 q20 kc_0).1
            have uq44 : (0 : Int) ≤ p3.toInt ∧ p3.toInt ≤ 0 := q44
            refine lv_aload_n hx hb dX12_received_68 rfl (lv_at hl 1 rfl) ?_
            refine m_geta x L5 35 rfl rfl (wm_in uf_92) dX12_received_69 ?_
            refine lv_iload hx hb dX12_received_72 (lv_at hl 0 rfl) ?_
            refine m_ld x L5 35 rfl rv30 rfl dX12_received_74 (fun v45 ev45 wv45 => ?_)
            have rv45 : rg (-2147483648) (2147483647) v45 := lj_35 wv45
            have uv45 : (-2147483648 : Int) ≤ v45.toInt ∧ v45.toInt ≤ 2147483647 := rv45
            have sv45 : v45.toInt = (g 35 v30.toNatClampNeg).toInt := congrArg Int32.toInt (ev45.trans (congrFun ((show mFr [] g g5 from (mFr.tr (mFr.tr (mFr.tr mFr.rf hp1.1 rfl) hF4 rfl) hp5.1 rfl)).at 35 rfl) _))
            refine lv_goto (tgt := 100) hx hb dX12_received_75 (by decide) ?_
            exact j100_32 v45 g5 _ _ ls mFr.rf L5 (rg_w rv45 rfl) (lv_sub hl [1] rfl)
        · skip
          have ic39_19 := Int32.lt_iff_toInt_lt.mp (rg_nle c39_19)
          have q46 : rg (3) (2147483647) p3 := (rg_lt (rg_nle c39_19) kc_2 q18).2
          have uq46 : (3 : Int) ≤ p3.toInt ∧ p3.toInt ≤ 2147483647 := q46
          exact j42_8  g5 _ _ ls mFr.rf L5  (lv_sub hl [0] rfl)
  refine lv_if_eq (tgt := 24) hx hb dX12_received_5 (by decide) (fun c5_47 => ?_) (fun c5_47 => ?_)
  · skip
    have ic5_47 := congrArg Int32.toInt c5_47
    have y48 : (0 : Int32).toInt = 0 := by decide
    have q49 : rg (0) (0) v2 := (rg_eq c5_47 rv2 kc_0).1
    have uq49 : (0 : Int) ≤ v2.toInt ∧ v2.toInt ≤ 0 := q49
    exact j24_4  g1 _ _ ls mFr.rf L1  (lv_sub hl [0, 1, 2, 3] rfl)
  · skip
    have ic5_47 : v2.toInt ≠ (0 : Int32).toInt := fun z => c5_47 (Int32.toInt_inj.mp z)
    have y50 : (0 : Int32).toInt = 0 := by decide
    have q51 : rg (0) (3) p1 ∧ p1.toInt < 1 * nn := hp1.2.2.1 c5_47
    have uq51 : (0 : Int) ≤ p1.toInt ∧ p1.toInt ≤ 3 := q51.1
    have wq51 := q51.2
    have q52 : rg (1) (1) v2 := rg_neL c5_47 rv2 kc_0
    have uq52 : (1 : Int) ≤ v2.toInt ∧ v2.toInt ≤ 1 := q52
    refine lv_iload_n hx hb dX12_received_8 rfl (lv_at hl 2 rfl) ?_
    refine lv_iconst (v := (-1)) hx hb dX12_received_9 (by decide) ?_
    refine lv_icmp_ne (tgt := 24) hx hb dX12_received_10 (by decide) (fun c10_53 => ?_) (fun c10_53 => ?_)
    · skip
      have ic10_53 : p2.toInt ≠ (-1 : Int32).toInt := fun z => c10_53 (Int32.toInt_inj.mp z)
      have y54 : (-1 : Int32).toInt = -1 := by decide
      exact j24_4  g1 _ _ ls mFr.rf L1  (lv_sub hl [0, 1, 2, 3] rfl)
    · skip
      have ic10_53 := congrArg Int32.toInt c10_53
      have y55 : (-1 : Int32).toInt = -1 := by decide
      have q56 : rg (-1) (-1) p2 := (rg_eq c10_53 (rg_any p2) kc_m1).1
      have uq56 : (-1 : Int) ≤ p2.toInt ∧ p2.toInt ≤ -1 := q56
      refine lv_iload_n hx hb dX12_received_13 rfl (lv_at hl 3 rfl) ?_
      refine lv_if_ne (tgt := 24) hx hb dX12_received_14 (by decide) (fun c14_57 => ?_) (fun c14_57 => ?_)
      · skip
        have ic14_57 : p3.toInt ≠ (0 : Int32).toInt := fun z => c14_57 (Int32.toInt_inj.mp z)
        have y58 : (0 : Int32).toInt = 0 := by decide
        exact j24_4  g1 _ _ ls mFr.rf L1  (lv_sub hl [0, 1, 2, 3] rfl)
      · skip
        have ic14_57 := congrArg Int32.toInt c14_57
        have y59 : (0 : Int32).toInt = 0 := by decide
        have q60 : rg (0) (0) p3 := (rg_eq c14_57 (rg_any p3) kc_0).1
        have uq60 : (0 : Int) ≤ p3.toInt ∧ p3.toInt ≤ 0 := q60
        refine lv_aload_n hx hb dX12_received_17 rfl (lv_at hl 0 rfl) ?_
        refine m_geta x L1 39 rfl rfl (wm_in uf_104) dX12_received_18 ?_
        refine lv_iload_n hx hb dX12_received_21 rfl (lv_at hl 1 rfl) ?_
        refine m_ld x L1 39 rfl q51.1 rfl dX12_received_22 (fun v61 ev61 wv61 => ?_)
        have rv61 : rg 0 2000000000 v61 := rg_X hX (lj_39 wv61)
        have uv61 : (0 : Int) ≤ v61.toInt ∧ v61.toInt ≤ 2000000000 := rv61
        have sv61 : v61.toInt = (g 39 p1.toNatClampNeg).toInt := congrArg Int32.toInt (ev61.trans (congrFun ((show mFr [] g g1 from (mFr.tr mFr.rf hp1.1 rfl)).at 39 rfl) _))
        exact hQ _ _ v61 _ _ _ dX12_received_23 L1 ⟨(mFr.tr mFr.rf hp1.1 rfl), rg_w rv61 rfl, trivial⟩
theorem c_received (l : Launch) {G : mG} {h0 : Nat} {ad : Nat → Nat} (nn X : Int) (g : mSt) (p1 : Int32) (p2 : Int32) (p3 : Int32) (hnn : 2 ≤ nn ∧ nn ≤ 4) (hX : 0 ≤ X ∧ X ≤ 2000000000) : Met l yX12_received (wm (Cond.code yX12_received cX12_received 5 (some .int))) rm_received (va_Pc [.ref h0, .int p1, .int p2, .int p3] (mPre G h0 ad nn X g)) (mQi G h0 ad nn X (fun r g1 => mFr [] g g1 ∧ rg (-2147483648) (2147483647) r ∧ True)) 0 0 (mA h0 ad) := by
  refine Met.ofW (cc := cX12_received) (maxL := 5) (ret := (some .int)) (by decide) rfl ?_
  intro p e s m args below meth c s₁ B hml hv
  obtain ⟨rfl, hv⟩ := hv
  have hr := B.returns
  have hlocks := B.notSynchronized
  obtain ⟨x, L⟩ := m_start B rfl wm_X hv
  have hl := lv_entry ([.ref h0, .int p1, .int p2, .int p3]) (n := 5) (Nat.le_of_ble_eq_true rfl)
  rw [lg_entry_eq]
  generalize (lg_sl ([.ref h0, .int p1, .int p2, .int p3]) ++ List.replicate (5 - (lg_sl ([.ref h0, .int p1, .int p2, .int p3])).length) Slot.unset).toArray = ls at hl ⊢
  exact w_received x hml L hnn hX p1 p2 p3 hl (fun pc' ls' r g1 H1 locs1 hdg L hp => m_iret x L hr hlocks (Int.le_refl _) hp hdg)

def rm_byteOf : Room := { frames := 2, cells := 0, slots := 0, locals := 43 }
theorem hd_byteOf : yX12_byteOf.cls = RX12 ∧ yX12_byteOf.cls ≠ "java/lang/invoke/MethodHandle" ∧ yX12_byteOf.cls ≠ "java/lang/invoke/VarHandle" ∧ (parseMethodDescriptor yX12_byteOf.desc).map (fun d => d.parameters.length) = some 3 := by decide +kernel
set_option maxHeartbeats 4000000 in
set_option maxRecDepth 100000 in
theorem w_byteOf {p : Program} {l : Launch} {e : Env} {s : State} {m : MethodId} {args : Array Value} {below : List Frame} {meth : Method} {c : Code} {H : Heap} {locs : List Loc} {Q : State → Prop} {ls : Array Slot} {G : mG} {h0 : Nat} {ad : Nat → Nat} {g : mSt} {H0 : Heap} {nn X : Int} (x : mX p c cX12_byteOf s args (wm (Cond.code yX12_byteOf cX12_byteOf 5 (some .int))) m G h0 ad) (hml : c.maxLocals = 5) (L : mL G h0 ad H0 nn X g H locs) (hnn : 2 ≤ nn ∧ nn ≤ 4) (hX : 0 ≤ X ∧ X ≤ 2000000000) (p1 : Int32) (p2 : Int32) (p3 : Int32) (hl : lv_has ls 5 [(0, .ref h0), (1, .int p1), (2, .int p2), (3, .int p3)]) (hQ : ∀ (pc' : Nat) (ls' : Array Slot) (r : Int32) (g1 : mSt) (H1 : Heap) (locs1 : List Loc), decode cX12_byteOf pc' = .ok (.ireturn, 1) → mL G h0 ad H0 nn X g1 H1 locs1 → (mFr [] g g1 ∧ rg (-2147483648) (2147483647) r ∧ True) → W p l e rm_byteOf s m args below meth c H1 locs1 0 0 Q (F0 m pc' ls' [.int r])) : W p l e rm_byteOf s m args below meth c H locs 0 0 Q (F0 m 0 ls []) := by
  have hx := x.1
  have hb := x.2.1
  have up1 : (-2147483648 : Int) ≤ p1.toInt ∧ p1.toInt ≤ 2147483647 := (rg_any p1)
  have up2 : (-2147483648 : Int) ≤ p2.toInt ∧ p2.toInt ≤ 2147483647 := (rg_any p2)
  have up3 : (-2147483648 : Int) ≤ p3.toInt ∧ p3.toInt ≤ 2147483647 := (rg_any p3)
  refine lv_aload_n hx hb dX12_byteOf_0 rfl (lv_at hl 0 rfl) ?_
  refine lv_iload_n hx hb dX12_byteOf_1 rfl (lv_at hl 1 rfl) ?_
  refine lv_iload_n hx hb dX12_byteOf_2 rfl (lv_at hl 2 rfl) ?_
  refine m_ci (As := [.int p1, .int p2]) (rest := []) x hml L (c_isReceived l nn X g p1 p2 hnn hX) (wm_V uc_isReceived ul_384 ui_isReceived us_isReceived u_init) rfl ⟨rfl, rfl⟩ hd_isReceived ⟨Nat.le_of_ble_eq_true rfl, Nat.le_of_ble_eq_true rfl⟩ rfl hl.1 rfl (lv_room (Nat.le_of_ble_eq_true rfl)) dX12_byteOf_3 (fun v2 g1 H1 k1 hp1 L1 => ?_)
  have rv2 : rg (0) (1) v2 := hp1.2.1
  have uv2 : (0 : Int) ≤ v2.toInt ∧ v2.toInt ≤ 1 := rv2
  have hw3 := hp1.2.2.2.2
  rw [(show mFr [] g g from mFr.rf).at 39 rfl] at hw3
  refine lv_if_ne (tgt := 11) hx hb dX12_byteOf_6 (by decide) (fun c6_4 => ?_) (fun c6_4 => ?_)
  · skip
    have ic6_4 : v2.toInt ≠ (0 : Int32).toInt := fun z => c6_4 (Int32.toInt_inj.mp z)
    have y5 : (0 : Int32).toInt = 0 := by decide
    have q6 : rg (0) (3) p1 ∧ p1.toInt < 1 * nn := hp1.2.2.1 c6_4
    have uq6 : (0 : Int) ≤ p1.toInt ∧ p1.toInt ≤ 3 := q6.1
    have wq6 := q6.2
    have q7 : rg (0) (19) p2 ∧ p2.toInt < 10 * nn := hp1.2.2.2.1 c6_4
    have uq7 : (0 : Int) ≤ p2.toInt ∧ p2.toInt ≤ 19 := q7.1
    have wq7 := q7.2
    have q8 : rg (1) (1) v2 := rg_neL c6_4 rv2 kc_0
    have uq8 : (1 : Int) ≤ v2.toInt ∧ v2.toInt ≤ 1 := q8
    refine lv_bipush (v := 20) hx hb dX12_byteOf_11 (by decide) ?_
    refine lv_iload_n hx hb dX12_byteOf_13 rfl (lv_at hl 1 rfl) ?_
    refine lv_imul hx hb dX12_byteOf_14 ?_
    refine lv_topi (fun v9 ev9 => ?_)
    have rv9 : rg (0) (60) v9 := (rg_mulL ev9 kc_20 q6.1 rfl).1
    have tv9 := (rg_mulL ev9 kc_20 q6.1 rfl).2
    have y10 : (20 : Int32).toInt = 20 := by decide
    have b20v9 : v9.toInt < 20 * nn := by have := q6.2; have : (20 : Int32).toInt = 20 := (by decide); omega
    have uv9 : (0 : Int) ≤ v9.toInt ∧ v9.toInt ≤ 60 := rv9
    refine lv_aload_n hx hb dX12_byteOf_15 rfl (lv_at hl 0 rfl) ?_
    refine m_geta x L1 39 rfl rfl (wm_in uf_104) dX12_byteOf_16 ?_
    refine lv_iload_n hx hb dX12_byteOf_19 rfl (lv_at hl 1 rfl) ?_
    refine m_ld x L1 39 rfl q6.1 rfl dX12_byteOf_20 (fun v11 ev11 wv11 => ?_)
    have rv11 : rg 0 2000000000 v11 := rg_X hX (lj_39 wv11)
    have uv11 : (0 : Int) ≤ v11.toInt ∧ v11.toInt ≤ 2000000000 := rv11
    have sv11 : v11.toInt = (g 39 p1.toNatClampNeg).toInt := congrArg Int32.toInt (ev11.trans (congrFun ((show mFr [] g g1 from (mFr.tr mFr.rf hp1.1 rfl)).at 39 rfl) _))
    refine lv_iconst (v := 1) hx hb dX12_byteOf_21 (by decide) ?_
    refine lv_isub hx hb dX12_byteOf_22 ?_
    refine lv_topi (fun v12 ev12 => ?_)
    have rv12 : rg (-1) (1999999999) v12 := (rg_sub ev12 rv11 kc_1 rfl).1
    have tv12 := (rg_sub ev12 rv11 kc_1 rfl).2
    have y13 : (1 : Int32).toInt = 1 := by decide
    have uv12 : (-1 : Int) ≤ v12.toInt ∧ v12.toInt ≤ 1999999999 := rv12
    refine lv_iload_n hx hb dX12_byteOf_23 rfl (lv_at hl 2 rfl) ?_
    refine lv_isub hx hb dX12_byteOf_24 ?_
    refine lv_topi (fun v14 ev14 => ?_)
    have rv14 : rg (-20) (1999999999) v14 := (rg_sub ev14 rv12 q7.1 rfl).1
    have tv14 := (rg_sub ev14 rv12 q7.1 rfl).2
    have q15 : rg (0) (2000000000) v14 := ⟨by omega, by omega⟩
    have uv14 : (0 : Int) ≤ v14.toInt ∧ v14.toInt ≤ 2000000000 := q15
    refine lv_bipush (v := 20) hx hb dX12_byteOf_25 (by decide) ?_
    refine lv_irem hx hb dX12_byteOf_27 (by decide) ?_
    refine lv_topi (fun v16 ev16 => ?_)
    have rv16 : rg (0) (19) v16 := (rg_rem ev16 q15 kc_20 rfl).1
    have tv16 := (rg_rem ev16 q15 kc_20 rfl).2
    have y17 : (20 : Int32).toInt = 20 := by decide
    have uv16 : (0 : Int) ≤ v16.toInt ∧ v16.toInt ≤ 19 := rv16
    refine lv_iadd hx hb dX12_byteOf_28 ?_
    refine lv_topi (fun v18 ev18 => ?_)
    have rv18 : rg (0) (79) v18 := (rg_add ev18 rv9 rv16 rfl).1
    have tv18 := (rg_add ev18 rv9 rv16 rfl).2
    have uv18 : (0 : Int) ≤ v18.toInt ∧ v18.toInt ≤ 79 := rv18
    refine lv_istore (lv' := [(4, .int v18), (0, .ref h0), (1, .int p1), (2, .int p2), (3, .int p3)]) hx hb dX12_byteOf_29 hl (by decide) rfl (fun ls hl => ?_)
    refine lv_iload_n hx hb dX12_byteOf_31 rfl (lv_at hl 4 rfl) ?_
    have j63_20 : ∀ (b63_0_19 : Int32) (g20 : mSt) (H20 : Heap) (k20 : List Loc) (ls : Array Slot), mFr [] g1 g20 → mL G h0 ad H0 nn X g20 H20 k20 → rg (-2147483648) (2147483647) b63_0_19 → lv_has ls 5 [(0, .ref h0)] → W p l e rm_byteOf s m args below meth c H20 k20 0 0 Q (F0 m 63 ls [.int b63_0_19]) := by
      intro b63_0_19 g20 H20 k20 ls hF20 L20 rb63_0_19 hl
      have ub63_0_19 : (-2147483648 : Int) ≤ b63_0_19.toInt ∧ b63_0_19.toInt ≤ 2147483647 := rb63_0_19
      exact hQ _ _ b63_0_19 _ _ _ dX12_byteOf_63 L20 ⟨(mFr.tr (mFr.tr mFr.rf hp1.1 rfl) hF20 rfl), rg_w rb63_0_19 rfl, trivial⟩
    have j46_21 : ∀ (g21 : mSt) (H21 : Heap) (k21 : List Loc) (ls : Array Slot), mFr [] g1 g21 → mL G h0 ad H0 nn X g21 H21 k21 → lv_has ls 5 [(0, .ref h0)] → W p l e rm_byteOf s m args below meth c H21 k21 0 0 Q (F0 m 46 ls []) := by
      intro  g21 H21 k21 ls hF21 L21  hl
      refine lv_iconst (v := (-1)) hx hb dX12_byteOf_46 (by decide) ?_
      refine lv_goto (tgt := 63) hx hb dX12_byteOf_47 (by decide) ?_
      have y22 : (-1 : Int32).toInt = -1 := by decide
      exact j63_20 (-1 : Int32) g21 _ _ ls (mFr.tr mFr.rf hF21 rfl) L21 (rg_w kc_m1 rfl) (lv_sub hl [0] rfl)
    refine lv_if_lt (tgt := 46) hx hb dX12_byteOf_32 (by decide) (fun c32_23 => ?_) (fun c32_23 => ?_)
    · skip
      have ic32_23 := Int32.lt_iff_toInt_lt.mp c32_23
      have q24 : rg (-2147483648) (-1) p3 := (rg_lt c32_23 (rg_any p3) kc_0).1
      have uq24 : (-2147483648 : Int) ≤ p3.toInt ∧ p3.toInt ≤ -1 := q24
      exact j46_21  g1 _ _ ls mFr.rf L1  (lv_sub hl [1] rfl)
    · skip
      have ic32_23 := Int32.le_iff_toInt_le.mp (rg_nlt c32_23)
      have q25 : rg (0) (2147483647) p3 := (rg_le (rg_nlt c32_23) kc_0 (rg_any p3)).2
      have uq25 : (0 : Int) ≤ p3.toInt ∧ p3.toInt ≤ 2147483647 := q25
      refine lv_iload_n hx hb dX12_byteOf_35 rfl (lv_at hl 4 rfl) ?_
      refine lv_aload_n hx hb dX12_byteOf_36 rfl (lv_at hl 1 rfl) ?_
      refine m_geta x L1 36 rfl rfl (wm_in uf_95) dX12_byteOf_37 ?_
      refine lv_iload hx hb dX12_byteOf_40 (lv_at hl 0 rfl) ?_
      refine m_ld x L1 36 rfl rv18 rfl dX12_byteOf_42 (fun v26 ev26 wv26 => ?_)
      have rv26 : rg (0) (200) v26 := lj_36 wv26
      have uv26 : (0 : Int) ≤ v26.toInt ∧ v26.toInt ≤ 200 := rv26
      have sv26 : v26.toInt = (g 36 v18.toNatClampNeg).toInt := congrArg Int32.toInt (ev26.trans (congrFun ((show mFr [] g g1 from (mFr.tr mFr.rf hp1.1 rfl)).at 36 rfl) _))
      refine lv_icmp_lt (tgt := 50) hx hb dX12_byteOf_43 (by decide) (fun c43_27 => ?_) (fun c43_27 => ?_)
      · skip
        have ic43_27 := Int32.lt_iff_toInt_lt.mp c43_27
        have q28 : rg (0) (199) p3 := (rg_lt c43_27 q25 rv26).1
        have uq28 : (0 : Int) ≤ p3.toInt ∧ p3.toInt ≤ 199 := q28
        have q29 : rg (1) (200) v26 := (rg_lt c43_27 q25 rv26).2
        have uq29 : (1 : Int) ≤ v26.toInt ∧ v26.toInt ≤ 200 := q29
        refine lv_aload_n hx hb dX12_byteOf_50 rfl (lv_at hl 1 rfl) ?_
        refine m_geta x L1 38 rfl rfl (wm_in uf_101) dX12_byteOf_51 ?_
        refine lv_sipush (v := 200) hx hb dX12_byteOf_54 (by decide) ?_
        refine lv_iload hx hb dX12_byteOf_57 (lv_at hl 0 rfl) ?_
        refine lv_imul hx hb dX12_byteOf_59 ?_
        refine lv_topi (fun v30 ev30 => ?_)
        have rv30 : rg (0) (15800) v30 := (rg_mulL ev30 kc_200 rv18 rfl).1
        have tv30 := (rg_mulL ev30 kc_200 rv18 rfl).2
        have y31 : (200 : Int32).toInt = 200 := by decide
        have uv30 : (0 : Int) ≤ v30.toInt ∧ v30.toInt ≤ 15800 := rv30
        refine lv_iload_n hx hb dX12_byteOf_60 rfl (lv_at hl 4 rfl) ?_
        refine lv_iadd hx hb dX12_byteOf_61 ?_
        refine lv_topi (fun v32 ev32 => ?_)
        have rv32 : rg (0) (15999) v32 := (rg_add ev32 rv30 q28 rfl).1
        have tv32 := (rg_add ev32 rv30 q28 rfl).2
        have uv32 : (0 : Int) ≤ v32.toInt ∧ v32.toInt ≤ 15999 := rv32
        refine m_ld x L1 38 rfl rv32 rfl dX12_byteOf_62 (fun v33 ev33 wv33 => ?_)
        have rv33 : rg (-2147483648) (2147483647) v33 := lj_38 wv33
        have uv33 : (-2147483648 : Int) ≤ v33.toInt ∧ v33.toInt ≤ 2147483647 := rv33
        have sv33 : v33.toInt = (g 38 v32.toNatClampNeg).toInt := congrArg Int32.toInt (ev33.trans (congrFun ((show mFr [] g g1 from (mFr.tr mFr.rf hp1.1 rfl)).at 38 rfl) _))
        exact j63_20 v33 g1 _ _ ls mFr.rf L1 (rg_w rv33 rfl) (lv_sub hl [1] rfl)
      · skip
        have ic43_27 := Int32.le_iff_toInt_le.mp (rg_nlt c43_27)
        exact j46_21  g1 _ _ ls mFr.rf L1  (lv_sub hl [1] rfl)
  · skip
    have ic6_4 := congrArg Int32.toInt c6_4
    have y34 : (0 : Int32).toInt = 0 := by decide
    have q35 : rg (0) (0) v2 := (rg_eq c6_4 rv2 kc_0).1
    have uq35 : (0 : Int) ≤ v2.toInt ∧ v2.toInt ≤ 0 := q35
    refine lv_iconst (v := (-1)) hx hb dX12_byteOf_9 (by decide) ?_
    exact hQ _ _ (-1 : Int32) _ _ _ dX12_byteOf_10 L1 ⟨(mFr.tr mFr.rf hp1.1 rfl), rg_w kc_m1 rfl, trivial⟩
theorem c_byteOf (l : Launch) {G : mG} {h0 : Nat} {ad : Nat → Nat} (nn X : Int) (g : mSt) (p1 : Int32) (p2 : Int32) (p3 : Int32) (hnn : 2 ≤ nn ∧ nn ≤ 4) (hX : 0 ≤ X ∧ X ≤ 2000000000) : Met l yX12_byteOf (wm (Cond.code yX12_byteOf cX12_byteOf 5 (some .int))) rm_byteOf (va_Pc [.ref h0, .int p1, .int p2, .int p3] (mPre G h0 ad nn X g)) (mQi G h0 ad nn X (fun r g1 => mFr [] g g1 ∧ rg (-2147483648) (2147483647) r ∧ True)) 0 0 (mA h0 ad) := by
  refine Met.ofW (cc := cX12_byteOf) (maxL := 5) (ret := (some .int)) (by decide) rfl ?_
  intro p e s m args below meth c s₁ B hml hv
  obtain ⟨rfl, hv⟩ := hv
  have hr := B.returns
  have hlocks := B.notSynchronized
  obtain ⟨x, L⟩ := m_start B rfl wm_X hv
  have hl := lv_entry ([.ref h0, .int p1, .int p2, .int p3]) (n := 5) (Nat.le_of_ble_eq_true rfl)
  rw [lg_entry_eq]
  generalize (lg_sl ([.ref h0, .int p1, .int p2, .int p3]) ++ List.replicate (5 - (lg_sl ([.ref h0, .int p1, .int p2, .int p3])).length) Slot.unset).toArray = ls at hl ⊢
  exact w_byteOf x hml L hnn hX p1 p2 p3 hl (fun pc' ls' r g1 H1 locs1 hdg L hp => m_iret x L hr hlocks (Int.le_refl _) hp hdg)
