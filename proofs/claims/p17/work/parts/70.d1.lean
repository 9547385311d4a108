def im_kcellsFor (Z : cZ) (p1 : Int32) : List (Nat × Nat × Nat) := []
def po_kcellsFor (Z : cZ) (p1 : Int32) (g : mSt) (r : Int32) (g1 : mSt) : Prop := mFi (im_kcellsFor Z p1) g g1 ∧ mFr [] g g1 ∧ rg (1) (5) r ∧ (r.toInt = (p1.toInt + 55) / 48)
def wp_kcellsFor (Z : cZ) (p1 : Int32) (g : mSt) (Φ : Int32 → mSt → Prop) : Prop :=
  ∀ (v1 : Int32), v1 = p1 + (8 : Int32) → rg (9) (208) v1 → v1.toInt = p1.toInt + 8 → ∀ (v3 : Int32), v3 = v1 + (48 : Int32) → rg (57) (256) v3 → v3.toInt = v1.toInt + 48 → ∀ (v5 : Int32), v5 = v3 - (1 : Int32) → rg (56) (255) v5 → v5.toInt = v3.toInt - 1 → ∀ (v7 : Int32), v7 = v5 / (48 : Int32) → rg (1) (5) v7 → v7.toInt = v5.toInt / 48 → Φ v7 g
set_option maxHeartbeats 4000000 in
set_option maxRecDepth 100000 in
theorem v_kcellsFor {p : Program} {l : Launch} {e : Env} {s : State} {m : MethodId} {args : Array Value} {below : List Frame} {meth : Method} {c : Code} {H : Heap} {locs : List Loc} {Q : State → Prop} {ls : Array Slot} {G : cG} {Z : cZ} {A : Nat → Prop} {g : mSt} {H0 : Heap} {X : Int} (x : cX p c cX11_cellsFor s args (wk (Cond.code yX11_cellsFor cX11_cellsFor 1 (some .int))) m G Z A RX11 H0) (hml : c.maxLocals = 1) (L : cL G Z A H0 X g H locs) (hX : 0 ≤ X ∧ X ≤ 2000000000) (p1 : Int32) (rp1 : rg (1) (200) p1) {Φ : Int32 → mSt → Prop} (hW : wfP (wp_kcellsFor Z p1 g Φ)) (hl : lv_has ls 1 [(0, .int p1)]) (hQ : ∀ (pc' : Nat) (ls' : Array Slot) (r : Int32) (g1 : mSt) (H1 : Heap) (locs1 : List Loc), decode cX11_cellsFor pc' = .ok (.ireturn, 1) → cL G Z A H0 X g1 H1 locs1 → (wfP (Φ r g1) ∧ mFi (im_kcellsFor Z p1) g g1 ∧ (mFr [] g g1 ∧ rg (1) (5) r ∧ (r.toInt = (p1.toInt + 55) / 48))) → W p l e rm_kcellsFor s m args below meth c H1 locs1 0 0 Q (F0 m pc' ls' [.int r])) : W p l e rm_kcellsFor s m args below meth c H locs 0 0 Q (F0 m 0 ls []) := by
  have hx := x.1
  have hb := x.2.1
  have hz := x.2.2.2.2.2.2.2.1
  have hzn := hz.1
  have up1 : (1 : Int) ≤ p1.toInt ∧ p1.toInt ≤ 200 := rp1
  refine lv_iload_n hx hb dX11_cellsFor_0 rfl (lv_at hl 0 rfl) ?_
  refine lv_bipush (v := 8) hx hb dX11_cellsFor_1 (by decide) ?_
  refine lv_iadd hx hb dX11_cellsFor_3 ?_
  refine lv_topi (fun v1 ev1 => ?_)
  have rv1 : rg (9) (208) v1 := (rg_add ev1 rp1 kc_8 rfl).1
  replace hW := (wfP_i (wfP_i (wfP_i (wfP_a hW v1) ev1) rv1) (w_iadd ((rg_add ev1 rp1 kc_8 rfl).2) rfl (rg_i kc_8)))
  have tv1 := (rg_add ev1 rp1 kc_8 rfl).2
  have y2 : (8 : Int32).toInt = 8 := by decide
  have uv1 : (9 : Int) ≤ v1.toInt ∧ v1.toInt ≤ 208 := rv1
  refine lv_bipush (v := 48) hx hb dX11_cellsFor_4 (by decide) ?_
  refine lv_iadd hx hb dX11_cellsFor_6 ?_
  refine lv_topi (fun v3 ev3 => ?_)
  have rv3 : rg (57) (256) v3 := (rg_add ev3 rv1 kc_48 rfl).1
  replace hW := (wfP_i (wfP_i (wfP_i (wfP_a hW v3) ev3) rv3) (w_iadd ((rg_add ev3 rv1 kc_48 rfl).2) rfl (rg_i kc_48)))
  have tv3 := (rg_add ev3 rv1 kc_48 rfl).2
  have y4 : (48 : Int32).toInt = 48 := by decide
  have uv3 : (57 : Int) ≤ v3.toInt ∧ v3.toInt ≤ 256 := rv3
  refine lv_iconst (v := 1) hx hb dX11_cellsFor_7 (by decide) ?_
  refine lv_isub hx hb dX11_cellsFor_8 ?_
  refine lv_topi (fun v5 ev5 => ?_)
  have rv5 : rg (56) (255) v5 := (rg_sub ev5 rv3 kc_1 rfl).1
  replace hW := (wfP_i (wfP_i (wfP_i (wfP_a hW v5) ev5) rv5) (w_isub ((rg_sub ev5 rv3 kc_1 rfl).2) rfl (rg_i kc_1)))
  have tv5 := (rg_sub ev5 rv3 kc_1 rfl).2
  have y6 : (1 : Int32).toInt = 1 := by decide
  have uv5 : (56 : Int) ≤ v5.toInt ∧ v5.toInt ≤ 255 := rv5
  refine lv_bipush (v := 48) hx hb dX11_cellsFor_9 (by decide) ?_
  refine lv_idiv hx hb dX11_cellsFor_11 (by decide) ?_
  refine lv_topi (fun v7 ev7 => ?_)
  have rv7 : rg (1) (5) v7 := (rg_div ev7 rv5 kc_48 rfl).1
  replace hW := (wfP_i (wfP_i (wfP_i (wfP_a hW v7) ev7) rv7) ((rg_div ev7 rv5 kc_48 rfl).2))
  have tv7 := (rg_div ev7 rv5 kc_48 rfl).2
  have y8 : (48 : Int32).toInt = 48 := by decide
  have uv7 : (1 : Int) ≤ v7.toInt ∧ v7.toInt ≤ 5 := rv7
  exact hQ _ _ v7 _ _ _ dX11_cellsFor_12 L ⟨hW, mFi.rf, mFr.rf, rg_w rv7 rfl, (by omega)⟩
theorem d_kcellsFor (l : Launch) {G : cG} {Z : cZ} (X : Int) (g : mSt) (p1 : Int32) (hX : 0 ≤ X ∧ X ≤ 2000000000) (rp1 : rg (1) (200) p1) {Φ : Int32 → mSt → Prop} (hW : wfP (wp_kcellsFor Z p1 g Φ)) : Met l yX11_cellsFor (wk (Cond.code yX11_cellsFor cX11_cellsFor 1 (some .int))) rm_kcellsFor (va_Pc [.int p1] (cPre G Z X g)) (cQi G Z X (fun r g1 => wfP (Φ r g1) ∧ mFi (im_kcellsFor Z p1) g g1 ∧ (mFr [] g g1 ∧ rg (1) (5) r ∧ (r.toInt = (p1.toInt + 55) / 48)))) 0 0 (cAd Z) := by
  refine Met.ofW (cc := cX11_cellsFor) (maxL := 1) (ret := (some .int)) (by decide) rfl ?_
  intro p e s m args below meth c s₁ B hml hv
  obtain ⟨rfl, hv⟩ := hv
  have hr := B.returns
  have hlocks := B.notSynchronized
  obtain ⟨x, L⟩ := c_start B rfl (fun w h => wk_in h) hv
  have hl := lv_entry ([.int p1]) (n := 1) (Nat.le_of_ble_eq_true rfl)
  rw [lg_entry_eq]
  generalize (lg_sl ([.int p1]) ++ List.replicate (1 - (lg_sl ([.int p1])).length) Slot.unset).toArray = ls at hl ⊢
  exact v_kcellsFor x hml L hX p1 rp1 hW hl (fun pc' ls' r g1 H1 locs1 hdg L hp => c_iret x L hr hlocks (Int.le_refl _) hp hdg)

def im_krangeCheck (Z : cZ) (p1 : Int32) (p2 : Int32) (p3 : Int32) : List (Nat × Nat × Nat) := []
def po_krangeCheck (Z : cZ) (p1 : Int32) (p2 : Int32) (p3 : Int32) (g : mSt) (r : Int32) (g1 : mSt) : Prop := mFi (im_krangeCheck Z p1 p2 p3) g g1 ∧ mFr [] g g1 ∧ True
def wp_krangeCheck (Z : cZ) (p1 : Int32) (p2 : Int32) (p3 : Int32) (g : mSt) (Φ : Int32 → mSt → Prop) : Prop :=
  ((p2.toInt ≤ p3.toInt) → ((0 ≤ p2.toInt) → ((p3.toInt ≤ p1.toInt) → Φ 0 g) ∧ ((p1.toInt < p3.toInt) → True)) ∧ ((p2.toInt < 0) → True)) ∧ ((p3.toInt < p2.toInt) → True)
set_option maxHeartbeats 4000000 in
set_option maxRecDepth 100000 in
theorem v_krangeCheck {p : Program} {l : Launch} {e : Env} {s : State} {m : MethodId} {args : Array Value} {below : List Frame} {meth : Method} {c : Code} {H : Heap} {locs : List Loc} {Q : State → Prop} {ls : Array Slot} {G : cG} {Z : cZ} {A : Nat → Prop} {g : mSt} {H0 : Heap} {X : Int} (x : cX p c cJ7_rangeCheck_23922 s args (wk (Cond.code yJ7_rangeCheck_23922 cJ7_rangeCheck_23922 3 none)) m G Z A RJ7 H0) (hml : c.maxLocals = 3) (L : cL G Z A H0 X g H locs) (hX : 0 ≤ X ∧ X ≤ 2000000000) (p1 : Int32) (p2 : Int32) (p3 : Int32) (h1 : p2.toInt ≤ p3.toInt ∧ 0 ≤ p2.toInt ∧ p3.toInt ≤ p1.toInt) {Φ : Int32 → mSt → Prop} (hW : wfP (wp_krangeCheck Z p1 p2 p3 g Φ)) (hl : lv_has ls 3 [(0, .int p1), (1, .int p2), (2, .int p3)]) (hQ : ∀ (pc' : Nat) (ls' : Array Slot) (g1 : mSt) (H1 : Heap) (locs1 : List Loc), decode cJ7_rangeCheck_23922 pc' = .ok (.return_, 1) → cL G Z A H0 X g1 H1 locs1 → (wfP (Φ 0 g1) ∧ mFi (im_krangeCheck Z p1 p2 p3) g g1 ∧ (mFr [] g g1 ∧ True)) → W p l e rm_krangeCheck s m args below meth c H1 locs1 0 0 Q (F0 m pc' ls' [])) : W p l e rm_krangeCheck s m args below meth c H locs 0 0 Q (F0 m 0 ls []) := by
  have hx := x.1
  have hb := x.2.1
  have hz := x.2.2.2.2.2.2.2.1
  have hzn := hz.1
  have up1 : (-2147483648 : Int) ≤ p1.toInt ∧ p1.toInt ≤ 2147483647 := (rg_any p1)
  have up2 : (-2147483648 : Int) ≤ p2.toInt ∧ p2.toInt ≤ 2147483647 := (rg_any p2)
  have up3 : (-2147483648 : Int) ≤ p3.toInt ∧ p3.toInt ≤ 2147483647 := (rg_any p3)
  refine lv_iload_n hx hb dJ7_rangeCheck_23922_0 rfl (lv_at hl 1 rfl) ?_
  refine lv_iload_n hx hb dJ7_rangeCheck_23922_1 rfl (lv_at hl 2 rfl) ?_
  refine lv_icmp_le (tgt := 46) hx hb dJ7_rangeCheck_23922_2 (by decide) (fun c2_1 => ?_) (fun c2_1 => ?_)
  · skip
    replace hW := wfP_i (wfP_l hW) (i_le c2_1 rfl rfl)
    have ic2_1 := Int32.le_iff_toInt_le.mp c2_1
    refine lv_iload_n hx hb dJ7_rangeCheck_23922_46 rfl (lv_at hl 1 rfl) ?_
    refine lv_if_ge (tgt := 59) hx hb dJ7_rangeCheck_23922_47 (by decide) (fun c47_2 => ?_) (fun c47_2 => ?_)
    · skip
      replace hW := wfP_i (wfP_l hW) (i_le c47_2 (rg_i kc_0) rfl)
      have ic47_2 := Int32.le_iff_toInt_le.mp c47_2
      have q3 : rg (0) (2147483647) p2 := (rg_le c47_2 kc_0 (rg_any p2)).2
      have uq3 : (0 : Int) ≤ p2.toInt ∧ p2.toInt ≤ 2147483647 := q3
      refine lv_iload_n hx hb dJ7_rangeCheck_23922_59 rfl (lv_at hl 2 rfl) ?_
      refine lv_iload_n hx hb dJ7_rangeCheck_23922_60 rfl (lv_at hl 0 rfl) ?_
      refine lv_icmp_le (tgt := 73) hx hb dJ7_rangeCheck_23922_61 (by decide) (fun c61_4 => ?_) (fun c61_4 => ?_)
      · skip
        replace hW := wfP_i (wfP_l hW) (i_le c61_4 rfl rfl)
        have ic61_4 := Int32.le_iff_toInt_le.mp c61_4
        exact hQ _ _ _ _ _ dJ7_rangeCheck_23922_73 L ⟨hW, mFi.rf, mFr.rf, trivial⟩
      · skip
        replace hW := wfP_i (wfP_r hW) (i_lt (rg_nle c61_4) rfl rfl)
        have ic61_4 := Int32.lt_iff_toInt_lt.mp (rg_nle c61_4)
        have q5 : rg (-2147483648) (2147483646) p1 := (rg_lt (rg_nle c61_4) (rg_any p1) (rg_any p3)).1
        have uq5 : (-2147483648 : Int) ≤ p1.toInt ∧ p1.toInt ≤ 2147483646 := q5
        have q6 : rg (-2147483647) (2147483647) p3 := (rg_lt (rg_nle c61_4) (rg_any p1) (rg_any p3)).2
        have uq6 : (-2147483647 : Int) ≤ p3.toInt ∧ p3.toInt ≤ 2147483647 := q6
        exfalso; omega
    · skip
      replace hW := wfP_i (wfP_r hW) (i_lt (rg_nle c47_2) rfl (rg_i kc_0))
      have ic47_2 := Int32.lt_iff_toInt_lt.mp (rg_nle c47_2)
      have q7 : rg (-2147483648) (-1) p2 := (rg_lt (rg_nle c47_2) (rg_any p2) kc_0).1
      have uq7 : (-2147483648 : Int) ≤ p2.toInt ∧ p2.toInt ≤ -1 := q7
      exfalso; omega
  · skip
    replace hW := wfP_i (wfP_r hW) (i_lt (rg_nle c2_1) rfl rfl)
    have ic2_1 := Int32.lt_iff_toInt_lt.mp (rg_nle c2_1)
    have q8 : rg (-2147483648) (2147483646) p3 := (rg_lt (rg_nle c2_1) (rg_any p3) (rg_any p2)).1
    have uq8 : (-2147483648 : Int) ≤ p3.toInt ∧ p3.toInt ≤ 2147483646 := q8
    have q9 : rg (-2147483647) (2147483647) p2 := (rg_lt (rg_nle c2_1) (rg_any p3) (rg_any p2)).2
    have uq9 : (-2147483647 : Int) ≤ p2.toInt ∧ p2.toInt ≤ 2147483647 := q9
    exfalso; omega
theorem d_krangeCheck (l : Launch) {G : cG} {Z : cZ} (X : Int) (g : mSt) (p1 : Int32) (p2 : Int32) (p3 : Int32) (hX : 0 ≤ X ∧ X ≤ 2000000000) (h1 : p2.toInt ≤ p3.toInt ∧ 0 ≤ p2.toInt ∧ p3.toInt ≤ p1.toInt) {Φ : Int32 → mSt → Prop} (hW : wfP (wp_krangeCheck Z p1 p2 p3 g Φ)) : Met l yJ7_rangeCheck_23922 (wk (Cond.code yJ7_rangeCheck_23922 cJ7_rangeCheck_23922 3 none)) rm_krangeCheck (va_Pc [.int p1, .int p2, .int p3] (cPre G Z X g)) (cQv G Z X (fun g1 => wfP (Φ 0 g1) ∧ mFi (im_krangeCheck Z p1 p2 p3) g g1 ∧ (mFr [] g g1 ∧ True))) 0 0 (cAd Z) := by
  refine Met.ofW (cc := cJ7_rangeCheck_23922) (maxL := 3) (ret := none) (by decide) rfl ?_
  intro p e s m args below meth c s₁ B hml hv
  obtain ⟨rfl, hv⟩ := hv
  have hr := B.returns
  have hlocks := B.notSynchronized
  obtain ⟨x, L⟩ := c_start B rfl (fun w h => wk_in h) hv
  have hl := lv_entry ([.int p1, .int p2, .int p3]) (n := 3) (Nat.le_of_ble_eq_true rfl)
  rw [lg_entry_eq]
  generalize (lg_sl ([.int p1, .int p2, .int p3]) ++ List.replicate (3 - (lg_sl ([.int p1, .int p2, .int p3])).length) Slot.unset).toArray = ls at hl ⊢
  exact v_krangeCheck x hml L hX p1 p2 p3 h1 hW hl (fun pc' ls' g1 H1 locs1 hdg L hp => c_vret x L hr hlocks (Int.le_refl _) hp hdg)

def im_kcrcOf_16 (Z : cZ) (q1 : Nat) (p2 : Int32) : List (Nat × Nat × Nat) := []
def po_kcrcOf_16 (Z : cZ) (q1 : Nat) (p2 : Int32) (g : mSt) (r : Int32) (g1 : mSt) : Prop := mFi (im_kcrcOf_16 Z q1 p2) g g1 ∧ mFr [] g g1 ∧ rg (-2147483648) (2147483647) r ∧ True
def wp_kcrcOf_16 (Z : cZ) (q1 : Nat) (p2 : Int32) (g : mSt) (Φ : Int32 → mSt → Prop) : Prop :=
  ∃ P3 : Int32 → Int32 → mSt → Prop, (∀ (a4_2_1 a4_3_2 : Int32) (g3 : mSt), mFr [] g g3 → mFi (im_kcrcOf_16 Z q1 p2) g g3 → rg (-2147483648) (2147483647) a4_2_1 → rg (0) (240) a4_3_2 → P3 a4_2_1 a4_3_2 g3 → ∃ P4 : mSt → Prop, (∀ (g4 : mSt), mFr [] g3 g4 → mFi (im_kcrcOf_16 Z q1 p2) g3 g4 → P4 g4 → ∀ (v5 : Int32), v5 = a4_2_1 ^^^ (-1 : Int32) → rg (-2147483648) (2147483647) v5 → Φ v5 g4) ∧ ((p2.toInt ≤ a4_3_2.toInt) → P4 g3) ∧ ((a4_3_2.toInt < p2.toInt) → ((240 ≤ a4_3_2.toInt) → P4 g3) ∧ ((a4_3_2.toInt < 240) → ∀ (v12 : Int32), v12 = g3 512 (8192 * q1 + a4_3_2.toNatClampNeg) → rg (-2147483648) (2147483647) v12 → ∀ (v13 : Int32), v13 = v12 <<< ((24 : Int32) &&& 31) → rg (-2147483648) (2147483647) v13 → ∀ (v14 : Int32), v14 = a4_2_1 ^^^ v13 → rg (-2147483648) (2147483647) v14 → ∃ P17 : Int32 → Int32 → mSt → Prop, (∀ (a27_2_15 a27_4_16 : Int32) (g17 : mSt), mFr [] g3 g17 → mFi (im_kcrcOf_16 Z q1 p2) g3 g17 → rg (-2147483648) (2147483647) a27_2_15 → rg (0) (8) a27_4_16 → P17 a27_2_15 a27_4_16 g17 → ((8 ≤ a27_4_16.toInt) → ∀ (v20 : Int32), v20 = a4_3_2 + (1 : Int32) → rg (1) (240) v20 → v20.toInt = a4_3_2.toInt + 1 → P3 a27_2_15 v20 g17) ∧ ((a27_4_16.toInt < 8) → ∃ P23 : Int32 → mSt → Prop, (∀ (b51_0_22 : Int32) (g23 : mSt), mFr [] g17 g23 → mFi (im_kcrcOf_16 Z q1 p2) g17 g23 → rg (-2147483648) (2147483647) b51_0_22 → P23 b51_0_22 g23 → ∀ (v24 : Int32), v24 = a27_4_16 + (1 : Int32) → rg (1) (8) v24 → v24.toInt = a27_4_16.toInt + 1 → P17 b51_0_22 v24 g23) ∧ ((0 ≤ a27_2_15.toInt) → ∀ (v27 : Int32), v27 = a27_2_15 <<< ((1 : Int32) &&& 31) → rg (-2147483648) (2147483647) v27 → P23 v27 g17) ∧ ((a27_2_15.toInt < 0) → ∀ (v29 : Int32), v29 = a27_2_15 <<< ((1 : Int32) &&& 31) → rg (-2147483648) (2147483647) v29 → ∀ (v30 : Int32), v30 = v29 ^^^ (79764919 : Int32) → rg (-2147483648) (2147483647) v30 → P23 v30 g17))) ∧ P17 v14 (0 : Int32) g3))) ∧ P3 (-1 : Int32) (0 : Int32) g
set_option maxHeartbeats 4000000 in
set_option maxRecDepth 100000 in
theorem v_kcrcOf_16 {p : Program} {l : Launch} {e : Env} {s : State} {m : MethodId} {args : Array Value} {below : List Frame} {meth : Method} {c : Code} {H : Heap} {locs : List Loc} {Q : State → Prop} {ls : Array Slot} {G : cG} {Z : cZ} {A : Nat → Prop} {g : mSt} {H0 : Heap} {X : Int} (x : cX p c cX11_crcOf s args (wk (Cond.code yX11_crcOf cX11_crcOf 5 (some .int))) m G Z A RX11 H0) (hml : c.maxLocals = 5) (L : cL G Z A H0 X g H locs) (hX : 0 ≤ X ∧ X ≤ 2000000000) (q1 : Nat) (p2 : Int32) (hq1 : Z.al 16 q1) {Φ : Int32 → mSt → Prop} (hW : wfP (wp_kcrcOf_16 Z q1 p2 g Φ)) (hl : lv_has ls 5 [(0, .ref (Z.ad 16 q1)), (1, .int p2)]) (hQ : ∀ (pc' : Nat) (ls' : Array Slot) (r : Int32) (g1 : mSt) (H1 : Heap) (locs1 : List Loc), decode cX11_crcOf pc' = .ok (.ireturn, 1) → cL G Z A H0 X g1 H1 locs1 → (wfP (Φ r g1) ∧ mFi (im_kcrcOf_16 Z q1 p2) g g1 ∧ (mFr [] g g1 ∧ rg (-2147483648) (2147483647) r ∧ True)) → W p l e rm_kcrcOf_16 s m args below meth c H1 locs1 0 0 Q (F0 m pc' ls' [.int r])) : W p l e rm_kcrcOf_16 s m args below meth c H locs 0 0 Q (F0 m 0 ls []) := by
  have hx := x.1
  have hb := x.2.1
  have hz := x.2.2.2.2.2.2.2.1
  have hzn := hz.1
  have up2 : (-2147483648 : Int) ≤ p2.toInt ∧ p2.toInt ≤ 2147483647 := (rg_any p2)
  refine lv_iconst (v := (-1)) hx hb dX11_crcOf_0 (by decide) ?_
  refine lv_istore_n (lv' := [(2, .int (-1 : Int32)), (0, .ref (Z.ad 16 q1)), (1, .int p2)]) hx hb dX11_crcOf_1 rfl hl (by decide) rfl (fun ls hl => ?_)
  refine lv_iconst (v := 0) hx hb dX11_crcOf_2 (by decide) ?_
  refine lv_istore_n (lv' := [(3, .int (0 : Int32)), (2, .int (-1 : Int32)), (0, .ref (Z.ad 16 q1)), (1, .int p2)]) hx hb dX11_crcOf_3 rfl hl (by decide) rfl (fun ls hl => ?_)
  obtain ⟨P3, hP3, hW⟩ := wfP_ex hW
  have j4_3 : ∀ (n : Nat) (a4_2_1 a4_3_2 : Int32) (g3 : mSt) (H3 : Heap) (k3 : List Loc) (ls : Array Slot), mFr [] g g3 → cL G Z A H0 X g3 H3 k3 → rg (-2147483648) (2147483647) a4_2_1 → rg (0) (240) a4_3_2 → mFi (im_kcrcOf_16 Z q1 p2) g g3 → wfP (P3 a4_2_1 a4_3_2 g3) → lv_has ls 5 [(0, .ref (Z.ad 16 q1)), (1, .int p2), (2, .int a4_2_1), (3, .int a4_3_2)] → ((240 : Int) - a4_3_2.toInt).toNat = n → W p l e rm_kcrcOf_16 s m args below meth c H3 k3 0 0 Q (F0 m 4 ls []) := by
    intro n
    induction n using Nat.strongRecOn with
    | _ n ih3 =>
      intro a4_2_1 a4_3_2 g3 H3 k3 ls hF3 L3 ra4_2_1 ra4_3_2 hI3 hW hl hn3
      subst hn3
      replace hW := wfP_i (wfP_i (wfP_i (wfP_i (wfP_i (wfP_a (wfP_a (wfP_a hP3 a4_2_1) a4_3_2) g3) hF3) hI3) ra4_2_1) ra4_3_2) hW
      have ua4_2_1 : (-2147483648 : Int) ≤ a4_2_1.toInt ∧ a4_2_1.toInt ≤ 2147483647 := ra4_2_1
      have ua4_3_2 : (0 : Int) ≤ a4_3_2.toInt ∧ a4_3_2.toInt ≤ 240 := ra4_3_2
      refine lv_iload_n hx hb dX11_crcOf_4 rfl (lv_at hl 3 rfl) ?_
      refine lv_iload_n hx hb dX11_crcOf_5 rfl (lv_at hl 1 rfl) ?_
      obtain ⟨P4, hP4, hW⟩ := wfP_ex hW
      have j64_4 : ∀ (g4 : mSt) (H4 : Heap) (k4 : List Loc) (ls : Array Slot), mFr [] g3 g4 → cL G Z A H0 X g4 H4 k4 → mFi (im_kcrcOf_16 Z q1 p2) g3 g4 → wfP (P4 g4) → lv_has ls 5 [(2, .int a4_2_1)] → W p l e rm_kcrcOf_16 s m args below meth c H4 k4 0 0 Q (F0 m 64 ls []) := by
        intro  g4 H4 k4 ls hF4 L4  hI4 hW hl
        replace hW := wfP_i (wfP_i (wfP_i (wfP_a hP4 g4) hF4) hI4) hW
        refine lv_iload_n hx hb dX11_crcOf_64 rfl (lv_at hl 0 rfl) ?_
        refine lv_iconst (v := (-1)) hx hb dX11_crcOf_65 (by decide) ?_
        refine lv_ixor hx hb dX11_crcOf_66 ?_
        refine lv_topi (fun v5 ev5 => ?_)
        have rv5 : rg (-2147483648) (2147483647) v5 := rg_any v5
        replace hW := (wfP_i (wfP_i (wfP_a hW v5) ev5) rv5)
        have uv5 : (-2147483648 : Int) ≤ v5.toInt ∧ v5.toInt ≤ 2147483647 := rv5
        exact hQ _ _ v5 _ _ _ dX11_crcOf_67 L4 ⟨hW, (mFi.tr (mFi.tr mFi.rf hI3) hI4), (mFr.tr (mFr.tr mFr.rf hF3 rfl) hF4 rfl), rg_w rv5 rfl, trivial⟩
      refine lv_icmp_ge (tgt := 64) hx hb dX11_crcOf_6 (by decide) (fun c6_6 => ?_) (fun c6_6 => ?_)
      · skip
        replace hW := wfP_i (wfP_l hW) (i_le c6_6 rfl rfl)
        have ic6_6 := Int32.le_iff_toInt_le.mp c6_6
        have q7 : rg (-2147483648) (240) p2 := (rg_le c6_6 (rg_any p2) ra4_3_2).1
        have uq7 : (-2147483648 : Int) ≤ p2.toInt ∧ p2.toInt ≤ 240 := q7
        exact j64_4  g3 _ _ ls mFr.rf L3 mFi.rf hW (lv_sub hl [2] rfl)
      · skip
        replace hW := wfP_i (wfP_r hW) (i_lt (rg_nle c6_6) rfl rfl)
        have ic6_6 := Int32.lt_iff_toInt_lt.mp (rg_nle c6_6)
        have q8 : rg (1) (2147483647) p2 := (rg_lt (rg_nle c6_6) ra4_3_2 (rg_any p2)).2
        have uq8 : (1 : Int) ≤ p2.toInt ∧ p2.toInt ≤ 2147483647 := q8
        refine lv_iload_n hx hb dX11_crcOf_9 rfl (lv_at hl 3 rfl) ?_
        refine lv_aload_n hx hb dX11_crcOf_10 rfl (lv_at hl 0 rfl) ?_
        refine c_len (n := 240) x L3 16 q1 hq1 rfl (by decide) dX11_crcOf_11 ?_
        refine lv_icmp_ge (tgt := 64) hx hb dX11_crcOf_12 (by decide) (fun c12_9 => ?_) (fun c12_9 => ?_)
        · skip
          replace hW := wfP_i (wfP_l hW) (i_le c12_9 (rg_i kc_240) rfl)
          have ic12_9 := Int32.le_iff_toInt_le.mp c12_9
          have q10 : rg (240) (240) a4_3_2 := (rg_le c12_9 kc_240 ra4_3_2).2
          have uq10 : (240 : Int) ≤ a4_3_2.toInt ∧ a4_3_2.toInt ≤ 240 := q10
          exact j64_4  g3 _ _ ls mFr.rf L3 mFi.rf hW (lv_sub hl [2] rfl)
        · skip
          replace hW := wfP_i (wfP_r hW) (i_lt (rg_nle c12_9) rfl (rg_i kc_240))
          have ic12_9 := Int32.lt_iff_toInt_lt.mp (rg_nle c12_9)
          have q11 : rg (0) (239) a4_3_2 := (rg_lt (rg_nle c12_9) ra4_3_2 kc_240).1
          have uq11 : (0 : Int) ≤ a4_3_2.toInt ∧ a4_3_2.toInt ≤ 239 := q11
          refine lv_iload_n hx hb dX11_crcOf_15 rfl (lv_at hl 2 rfl) ?_
          refine lv_aload_n hx hb dX11_crcOf_16 rfl (lv_at hl 0 rfl) ?_
          refine lv_iload_n hx hb dX11_crcOf_17 rfl (lv_at hl 3 rfl) ?_
          refine c_ld x L3 16 q1 512 hq1 rfl rfl q11 rfl dX11_crcOf_18 (fun v12 ev12 wv12 => ?_)
          have rv12 : rg (-2147483648) (2147483647) v12 := rg_any v12
          replace hW := (wfP_i (wfP_i (wfP_a hW v12) ev12) rv12)
          have uv12 : (-2147483648 : Int) ≤ v12.toInt ∧ v12.toInt ≤ 2147483647 := rv12
          have sv12 : v12.toInt = (g 512 (8192 * q1 + a4_3_2.toNatClampNeg)).toInt := congrArg Int32.toInt (ev12.trans (congrFun ((show mFr [] g g3 from (mFr.tr mFr.rf hF3 rfl)).at 512 rfl) _))
          refine lv_bipush (v := 24) hx hb dX11_crcOf_19 (by decide) ?_
          refine lv_ishl hx hb dX11_crcOf_21 ?_
          refine lv_topi (fun v13 ev13 => ?_)
          have rv13 : rg (-2147483648) (2147483647) v13 := rg_any v13
          replace hW := (wfP_i (wfP_i (wfP_a hW v13) ev13) rv13)
          have uv13 : (-2147483648 : Int) ≤ v13.toInt ∧ v13.toInt ≤ 2147483647 := rv13
          refine lv_ixor hx hb dX11_crcOf_22 ?_
          refine lv_topi (fun v14 ev14 => ?_)
          have rv14 : rg (-2147483648) (2147483647) v14 := rg_any v14
          replace hW := (wfP_i (wfP_i (wfP_a hW v14) ev14) rv14)
          have uv14 : (-2147483648 : Int) ≤ v14.toInt ∧ v14.toInt ≤ 2147483647 := rv14
          refine lv_istore_n (lv' := [(2, .int v14), (0, .ref (Z.ad 16 q1)), (1, .int p2), (3, .int a4_3_2)]) hx hb dX11_crcOf_23 rfl hl (by decide) rfl (fun ls hl => ?_)
          refine lv_iconst (v := 0) hx hb dX11_crcOf_24 (by decide) ?_
          refine lv_istore (lv' := [(4, .int (0 : Int32)), (2, .int v14), (0, .ref (Z.ad 16 q1)), (1, .int p2), (3, .int a4_3_2)]) hx hb dX11_crcOf_25 hl (by decide) rfl (fun ls hl => ?_)
          obtain ⟨P17, hP17, hW⟩ := wfP_ex hW
          have j27_17 : ∀ (n : Nat) (a27_2_15 a27_4_16 : Int32) (g17 : mSt) (H17 : Heap) (k17 : List Loc) (ls : Array Slot), mFr [] g3 g17 → cL G Z A H0 X g17 H17 k17 → rg (-2147483648) (2147483647) a27_2_15 → rg (0) (8) a27_4_16 → mFi (im_kcrcOf_16 Z q1 p2) g3 g17 → wfP (P17 a27_2_15 a27_4_16 g17) → lv_has ls 5 [(0, .ref (Z.ad 16 q1)), (1, .int p2), (2, .int a27_2_15), (3, .int a4_3_2), (4, .int a27_4_16)] → ((8 : Int) - a27_4_16.toInt).toNat = n → W p l e rm_kcrcOf_16 s m args below meth c H17 k17 0 0 Q (F0 m 27 ls []) := by
            intro n
            induction n using Nat.strongRecOn with
            | _ n ih17 =>
              intro a27_2_15 a27_4_16 g17 H17 k17 ls hF17 L17 ra27_2_15 ra27_4_16 hI17 hW hl hn17
              subst hn17
              replace hW := wfP_i (wfP_i (wfP_i (wfP_i (wfP_i (wfP_a (wfP_a (wfP_a hP17 a27_2_15) a27_4_16) g17) hF17) hI17) ra27_2_15) ra27_4_16) hW
              have ua27_2_15 : (-2147483648 : Int) ≤ a27_2_15.toInt ∧ a27_2_15.toInt ≤ 2147483647 := ra27_2_15
              have ua27_4_16 : (0 : Int) ≤ a27_4_16.toInt ∧ a27_4_16.toInt ≤ 8 := ra27_4_16
              refine lv_iload hx hb dX11_crcOf_27 (lv_at hl 4 rfl) ?_
              refine lv_bipush (v := 8) hx hb dX11_crcOf_29 (by decide) ?_
              refine lv_icmp_ge (tgt := 58) hx hb dX11_crcOf_31 (by decide) (fun c31_18 => ?_) (fun c31_18 => ?_)
              · skip
                replace hW := wfP_i (wfP_l hW) (i_le c31_18 (rg_i kc_8) rfl)
                have ic31_18 := Int32.le_iff_toInt_le.mp c31_18
                have q19 : rg (8) (8) a27_4_16 := (rg_le c31_18 kc_8 ra27_4_16).2
                have uq19 : (8 : Int) ≤ a27_4_16.toInt ∧ a27_4_16.toInt ≤ 8 := q19
                obtain ⟨v20, ev20, fv20⟩ := inc_ex a4_3_2 (1) (1 : Int32) (by decide)
                have rv20 : rg (1) (240) v20 := (rg_add ev20 q11 kc_1 rfl).1
                have tv20 := (rg_add ev20 q11 kc_1 rfl).2
                have yv20 : (1 : Int32).toInt = 1 := by decide
                replace hW := (wfP_i (wfP_i (wfP_i (wfP_a hW v20) ev20) rv20) (w_iadd tv20 rfl (rg_i kc_1)))
                refine lv_iinc (v := v20) (lv' := [(3, .int v20), (0, .ref (Z.ad 16 q1)), (1, .int p2), (2, .int a27_2_15), (4, .int a27_4_16)]) hx hb dX11_crcOf_58 hl (k := 3) rfl fv20 (by decide) rfl (fun ls hl => ?_)
                refine lv_goto (tgt := 4) hx hb dX11_crcOf_61 (by decide) ?_
                exact ih3 _ (ms_up tv20 kc_1 q11 rfl rfl) a27_2_15 v20 g17 _ _ ls (mFr.tr hF3 hF17 rfl) L17 (rg_w ra27_2_15 rfl) (rg_w rv20 rfl) (mFi.tr hI3 hI17) hW (lv_sub hl [1, 2, 3, 0] rfl) rfl
              · skip
                replace hW := wfP_i (wfP_r hW) (i_lt (rg_nle c31_18) rfl (rg_i kc_8))
                have ic31_18 := Int32.lt_iff_toInt_lt.mp (rg_nle c31_18)
                have q21 : rg (0) (7) a27_4_16 := (rg_lt (rg_nle c31_18) ra27_4_16 kc_8).1
                have uq21 : (0 : Int) ≤ a27_4_16.toInt ∧ a27_4_16.toInt ≤ 7 := q21
                refine lv_iload_n hx hb dX11_crcOf_34 rfl (lv_at hl 2 rfl) ?_
                obtain ⟨P23, hP23, hW⟩ := wfP_ex hW
                have j51_23 : ∀ (b51_0_22 : Int32) (g23 : mSt) (H23 : Heap) (k23 : List Loc) (ls : Array Slot), mFr [] g17 g23 → cL G Z A H0 X g23 H23 k23 → rg (-2147483648) (2147483647) b51_0_22 → mFi (im_kcrcOf_16 Z q1 p2) g17 g23 → wfP (P23 b51_0_22 g23) → lv_has ls 5 [(0, .ref (Z.ad 16 q1)), (1, .int p2), (3, .int a4_3_2), (4, .int a27_4_16)] → W p l e rm_kcrcOf_16 s m args below meth c H23 k23 0 0 Q (F0 m 51 ls [.int b51_0_22]) := by
                  intro b51_0_22 g23 H23 k23 ls hF23 L23 rb51_0_22 hI23 hW hl
                  replace hW := wfP_i (wfP_i (wfP_i (wfP_i (wfP_a (wfP_a hP23 b51_0_22) g23) hF23) hI23) rb51_0_22) hW
                  have ub51_0_22 : (-2147483648 : Int) ≤ b51_0_22.toInt ∧ b51_0_22.toInt ≤ 2147483647 := rb51_0_22
                  refine lv_istore_n (lv' := [(2, .int b51_0_22), (0, .ref (Z.ad 16 q1)), (1, .int p2), (3, .int a4_3_2), (4, .int a27_4_16)]) hx hb dX11_crcOf_51 rfl hl (by decide) rfl (fun ls hl => ?_)
                  obtain ⟨v24, ev24, fv24⟩ := inc_ex a27_4_16 (1) (1 : Int32) (by decide)
                  have rv24 : rg (1) (8) v24 := (rg_add ev24 q21 kc_1 rfl).1
                  have tv24 := (rg_add ev24 q21 kc_1 rfl).2
                  have yv24 : (1 : Int32).toInt = 1 := by decide
                  replace hW := (wfP_i (wfP_i (wfP_i (wfP_a hW v24) ev24) rv24) (w_iadd tv24 rfl (rg_i kc_1)))
                  refine lv_iinc (v := v24) (lv' := [(4, .int v24), (2, .int b51_0_22), (0, .ref (Z.ad 16 q1)), (1, .int p2), (3, .int a4_3_2)]) hx hb dX11_crcOf_52 hl (k := 4) rfl fv24 (by decide) rfl (fun ls hl => ?_)
                  refine lv_goto (tgt := 27) hx hb dX11_crcOf_55 (by decide) ?_
                  exact ih17 _ (ms_up tv24 kc_1 q21 rfl rfl) b51_0_22 v24 g23 _ _ ls (mFr.tr hF17 hF23 rfl) L23 (rg_w rb51_0_22 rfl) (rg_w rv24 rfl) (mFi.tr hI17 hI23) hW (lv_sub hl [2, 3, 1, 4, 0] rfl) rfl
                refine lv_if_ge (tgt := 48) hx hb dX11_crcOf_35 (by decide) (fun c35_25 => ?_) (fun c35_25 => ?_)
                · skip
                  replace hW := wfP_i (wfP_l hW) (i_le c35_25 (rg_i kc_0) rfl)
                  have ic35_25 := Int32.le_iff_toInt_le.mp c35_25
                  have q26 : rg (0) (2147483647) a27_2_15 := (rg_le c35_25 kc_0 ra27_2_15).2
                  have uq26 : (0 : Int) ≤ a27_2_15.toInt ∧ a27_2_15.toInt ≤ 2147483647 := q26
                  refine lv_iload_n hx hb dX11_crcOf_48 rfl (lv_at hl 2 rfl) ?_
                  refine lv_iconst (v := 1) hx hb dX11_crcOf_49 (by decide) ?_
                  refine lv_ishl hx hb dX11_crcOf_50 ?_
                  refine lv_topi (fun v27 ev27 => ?_)
                  have rv27 : rg (-2147483648) (2147483647) v27 := rg_any v27
                  replace hW := (wfP_i (wfP_i (wfP_a hW v27) ev27) rv27)
                  have uv27 : (-2147483648 : Int) ≤ v27.toInt ∧ v27.toInt ≤ 2147483647 := rv27
                  exact j51_23 v27 g17 _ _ ls mFr.rf L17 (rg_w rv27 rfl) mFi.rf hW (lv_sub hl [0, 1, 3, 4] rfl)
                · skip
                  replace hW := wfP_i (wfP_r hW) (i_lt (rg_nle c35_25) rfl (rg_i kc_0))
                  have ic35_25 := Int32.lt_iff_toInt_lt.mp (rg_nle c35_25)
                  have q28 : rg (-2147483648) (-1) a27_2_15 := (rg_lt (rg_nle c35_25) ra27_2_15 kc_0).1
                  have uq28 : (-2147483648 : Int) ≤ a27_2_15.toInt ∧ a27_2_15.toInt ≤ -1 := q28
                  refine lv_iload_n hx hb dX11_crcOf_38 rfl (lv_at hl 2 rfl) ?_
                  refine lv_iconst (v := 1) hx hb dX11_crcOf_39 (by decide) ?_
                  refine lv_ishl hx hb dX11_crcOf_40 ?_
                  refine lv_topi (fun v29 ev29 => ?_)
                  have rv29 : rg (-2147483648) (2147483647) v29 := rg_any v29
                  replace hW := (wfP_i (wfP_i (wfP_a hW v29) ev29) rv29)
                  have uv29 : (-2147483648 : Int) ≤ v29.toInt ∧ v29.toInt ≤ 2147483647 := rv29
                  refine lv_ldcw (own := RX11) (v := 79764919) hx hb x.2.2.2.2.1 (x.2.2.1 _ (wk_in kk_X11_360)) dX11_crcOf_41 ?_
                  refine lv_ixor hx hb dX11_crcOf_44 ?_
                  refine lv_topi (fun v30 ev30 => ?_)
                  have rv30 : rg (-2147483648) (2147483647) v30 := rg_any v30
                  replace hW := (wfP_i (wfP_i (wfP_a hW v30) ev30) rv30)
                  have uv30 : (-2147483648 : Int) ≤ v30.toInt ∧ v30.toInt ≤ 2147483647 := rv30
                  refine lv_goto (tgt := 51) hx hb dX11_crcOf_45 (by decide) ?_
                  exact j51_23 v30 g17 _ _ ls mFr.rf L17 (rg_w rv30 rfl) mFi.rf hW (lv_sub hl [0, 1, 3, 4] rfl)
          have y31 : (0 : Int32).toInt = 0 := by decide
          exact j27_17 _ v14 (0 : Int32) g3 _ _ ls mFr.rf L3 (rg_w rv14 rfl) (rg_w kc_0 rfl) mFi.rf hW (lv_sub hl [2, 3, 1, 4, 0] rfl) rfl
  have y32 : (-1 : Int32).toInt = -1 := by decide
  have y33 : (0 : Int32).toInt = 0 := by decide
  exact j4_3 _ (-1 : Int32) (0 : Int32) g _ _ ls mFr.rf L (rg_w kc_m1 rfl) (rg_w kc_0 rfl) mFi.rf hW (lv_sub hl [2, 3, 1, 0] rfl) rfl
theorem d_kcrcOf_16 (l : Launch) {G : cG} {Z : cZ} (X : Int) (g : mSt) (q1 : Nat) (p2 : Int32) (hX : 0 ≤ X ∧ X ≤ 2000000000) (hq1 : Z.al 16 q1) {Φ : Int32 → mSt → Prop} (hW : wfP (wp_kcrcOf_16 Z q1 p2 g Φ)) : Met l yX11_crcOf (wk (Cond.code yX11_crcOf cX11_crcOf 5 (some .int))) rm_kcrcOf_16 (va_Pc [.ref (Z.ad 16 q1), .int p2] (cPre G Z X g)) (cQi G Z X (fun r g1 => wfP (Φ r g1) ∧ mFi (im_kcrcOf_16 Z q1 p2) g g1 ∧ (mFr [] g g1 ∧ rg (-2147483648) (2147483647) r ∧ True))) 0 0 (cAd Z) := by
  refine Met.ofW (cc := cX11_crcOf) (maxL := 5) (ret := (some .int)) (by decide) rfl ?_
  intro p e s m args below meth c s₁ B hml hv
  obtain ⟨rfl, hv⟩ := hv
  have hr := B.returns
  have hlocks := B.notSynchronized
  obtain ⟨x, L⟩ := c_start B rfl (fun w h => wk_in h) hv
  have hl := lv_entry ([.ref (Z.ad 16 q1), .int p2]) (n := 5) (Nat.le_of_ble_eq_true rfl)
  rw [lg_entry_eq]
  generalize (lg_sl ([.ref (Z.ad 16 q1), .int p2]) ++ List.replicate (5 - (lg_sl ([.ref (Z.ad 16 q1), .int p2])).length) Slot.unset).toArray = ls at hl ⊢
  exact v_kcrcOf_16 x hml L hX q1 p2 hq1 hW hl (fun pc' ls' r g1 H1 locs1 hdg L hp => c_iret x L hr hlocks (Int.le_refl _) hp hdg)

def im_kcrcOf_24 (Z : cZ) (q1 : Nat) (p2 : Int32) : List (Nat × Nat × Nat) := []
def po_kcrcOf_24 (Z : cZ) (q1 : Nat) (p2 : Int32) (g : mSt) (r : Int32) (g1 : mSt) : Prop := mFi (im_kcrcOf_24 Z q1 p2) g g1 ∧ mFr [] g g1 ∧ rg (-2147483648) (2147483647) r ∧ True
def wp_kcrcOf_24 (Z : cZ) (q1 : Nat) (p2 : Int32) (g : mSt) (Φ : Int32 → mSt → Prop) : Prop :=
  ∃ P3 : Int32 → Int32 → mSt → Prop, (∀ (a4_2_1 a4_3_2 : Int32) (g3 : mSt), mFr [] g g3 → mFi (im_kcrcOf_24 Z q1 p2) g g3 → rg (-2147483648) (2147483647) a4_2_1 → rg (0) (240) a4_3_2 → P3 a4_2_1 a4_3_2 g3 → ∃ P4 : mSt → Prop, (∀ (g4 : mSt), mFr [] g3 g4 → mFi (im_kcrcOf_24 Z q1 p2) g3 g4 → P4 g4 → ∀ (v5 : Int32), v5 = a4_2_1 ^^^ (-1 : Int32) → rg (-2147483648) (2147483647) v5 → Φ v5 g4) ∧ ((p2.toInt ≤ a4_3_2.toInt) → P4 g3) ∧ ((a4_3_2.toInt < p2.toInt) → ((240 ≤ a4_3_2.toInt) → P4 g3) ∧ ((a4_3_2.toInt < 240) → ∀ (v12 : Int32), v12 = g3 768 (8192 * q1 + a4_3_2.toNatClampNeg) → rg (-2147483648) (2147483647) v12 → ∀ (v13 : Int32), v13 = v12 <<< ((24 : Int32) &&& 31) → rg (-2147483648) (2147483647) v13 → ∀ (v14 : Int32), v14 = a4_2_1 ^^^ v13 → rg (-2147483648) (2147483647) v14 → ∃ P17 : Int32 → Int32 → mSt → Prop, (∀ (a27_2_15 a27_4_16 : Int32) (g17 : mSt), mFr [] g3 g17 → mFi (im_kcrcOf_24 Z q1 p2) g3 g17 → rg (-2147483648) (2147483647) a27_2_15 → rg (0) (8) a27_4_16 → P17 a27_2_15 a27_4_16 g17 → ((8 ≤ a27_4_16.toInt) → ∀ (v20 : Int32), v20 = a4_3_2 + (1 : Int32) → rg (1) (240) v20 → v20.toInt = a4_3_2.toInt + 1 → P3 a27_2_15 v20 g17) ∧ ((a27_4_16.toInt < 8) → ∃ P23 : Int32 → mSt → Prop, (∀ (b51_0_22 : Int32) (g23 : mSt), mFr [] g17 g23 → mFi (im_kcrcOf_24 Z q1 p2) g17 g23 → rg (-2147483648) (2147483647) b51_0_22 → P23 b51_0_22 g23 → ∀ (v24 : Int32), v24 = a27_4_16 + (1 : Int32) → rg (1) (8) v24 → v24.toInt = a27_4_16.toInt + 1 → P17 b51_0_22 v24 g23) ∧ ((0 ≤ a27_2_15.toInt) → ∀ (v27 : Int32), v27 = a27_2_15 <<< ((1 : Int32) &&& 31) → rg (-2147483648) (2147483647) v27 → P23 v27 g17) ∧ ((a27_2_15.toInt < 0) → ∀ (v29 : Int32), v29 = a27_2_15 <<< ((1 : Int32) &&& 31) → rg (-2147483648) (2147483647) v29 → ∀ (v30 : Int32), v30 = v29 ^^^ (79764919 : Int32) → rg (-2147483648) (2147483647) v30 → P23 v30 g17))) ∧ P17 v14 (0 : Int32) g3))) ∧ P3 (-1 : Int32) (0 : Int32) g
set_option maxHeartbeats 4000000 in
set_option maxRecDepth 100000 in
theorem v_kcrcOf_24 {p : Program} {l : Launch} {e : Env} {s : State} {m : MethodId} {args : Array Value} {below : List Frame} {meth : Method} {c : Code} {H : Heap} {locs : List Loc} {Q : State → Prop} {ls : Array Slot} {G : cG} {Z : cZ} {A : Nat → Prop} {g : mSt} {H0 : Heap} {X : Int} (x : cX p c cX11_crcOf s args (wk (Cond.code yX11_crcOf cX11_crcOf 5 (some .int))) m G Z A RX11 H0) (hml : c.maxLocals = 5) (L : cL G Z A H0 X g H locs) (hX : 0 ≤ X ∧ X ≤ 2000000000) (q1 : Nat) (p2 : Int32) (hq1 : Z.al 24 q1) {Φ : Int32 → mSt → Prop} (hW : wfP (wp_kcrcOf_24 Z q1 p2 g Φ)) (hl : lv_has ls 5 [(0, .ref (Z.ad 24 q1)), (1, .int p2)]) (hQ : ∀ (pc' : Nat) (ls' : Array Slot) (r : Int32) (g1 : mSt) (H1 : Heap) (locs1 : List Loc), decode cX11_crcOf pc' = .ok (.ireturn, 1) → cL G Z A H0 X g1 H1 locs1 → (wfP (Φ r g1) ∧ mFi (im_kcrcOf_24 Z q1 p2) g g1 ∧ (mFr [] g g1 ∧ rg (-2147483648) (2147483647) r ∧ True)) → W p l e rm_kcrcOf_24 s m args below meth c H1 locs1 0 0 Q (F0 m pc' ls' [.int r])) : W p l e rm_kcrcOf_24 s m args below meth c H locs 0 0 Q (F0 m 0 ls []) := by
  have hx := x.1
  have hb := x.2.1
  have hz := x.2.2.2.2.2.2.2.1
  have hzn := hz.1
  have up2 : (-2147483648 : Int) ≤ p2.toInt ∧ p2.toInt ≤ 2147483647 := (rg_any p2)
  refine lv_iconst (v := (-1)) hx hb dX11_crcOf_0 (by decide) ?_
  refine lv_istore_n (lv' := [(2, .int (-1 : Int32)), (0, .ref (Z.ad 24 q1)), (1, .int p2)]) hx hb dX11_crcOf_1 rfl hl (by decide) rfl (fun ls hl => ?_)
  refine lv_iconst (v := 0) hx hb dX11_crcOf_2 (by decide) ?_
  refine lv_istore_n (lv' := [(3, .int (0 : Int32)), (2, .int (-1 : Int32)), (0, .ref (Z.ad 24 q1)), (1, .int p2)]) hx hb dX11_crcOf_3 rfl hl (by decide) rfl (fun ls hl => ?_)
  obtain ⟨P3, hP3, hW⟩ := wfP_ex hW
  have j4_3 : ∀ (n : Nat) (a4_2_1 a4_3_2 : Int32) (g3 : mSt) (H3 : Heap) (k3 : List Loc) (ls : Array Slot), mFr [] g g3 → cL G Z A H0 X g3 H3 k3 → rg (-2147483648) (2147483647) a4_2_1 → rg (0) (240) a4_3_2 → mFi (im_kcrcOf_24 Z q1 p2) g g3 → wfP (P3 a4_2_1 a4_3_2 g3) → lv_has ls 5 [(0, .ref (Z.ad 24 q1)), (1, .int p2), (2, .int a4_2_1), (3, .int a4_3_2)] → ((240 : Int) - a4_3_2.toInt).toNat = n → W p l e rm_kcrcOf_24 s m args below meth c H3 k3 0 0 Q (F0 m 4 ls []) := by
    intro n
    induction n using Nat.strongRecOn with
    | _ n ih3 =>
      intro a4_2_1 a4_3_2 g3 H3 k3 ls hF3 L3 ra4_2_1 ra4_3_2 hI3 hW hl hn3
      subst hn3
      replace hW := wfP_i (wfP_i (wfP_i (wfP_i (wfP_i (wfP_a (wfP_a (wfP_a hP3 a4_2_1) a4_3_2) g3) hF3) hI3) ra4_2_1) ra4_3_2) hW
      have ua4_2_1 : (-2147483648 : Int) ≤ a4_2_1.toInt ∧ a4_2_1.toInt ≤ 2147483647 := ra4_2_1
      have ua4_3_2 : (0 : Int) ≤ a4_3_2.toInt ∧ a4_3_2.toInt ≤ 240 := ra4_3_2
      refine lv_iload_n hx hb dX11_crcOf_4 rfl (lv_at hl 3 rfl) ?_
      refine lv_iload_n hx hb dX11_crcOf_5 rfl (lv_at hl 1 rfl) ?_
      obtain ⟨P4, hP4, hW⟩ := wfP_ex hW
      have j64_4 : ∀ (g4 : mSt) (H4 : Heap) (k4 : List Loc) (ls : Array Slot), mFr [] g3 g4 → cL G Z A H0 X g4 H4 k4 → mFi (im_kcrcOf_24 Z q1 p2) g3 g4 → wfP (P4 g4) → lv_has ls 5 [(2, .int a4_2_1)] → W p l e rm_kcrcOf_24 s m args below meth c H4 k4 0 0 Q (F0 m 64 ls []) := by
        intro  g4 H4 k4 ls hF4 L4  hI4 hW hl
        replace hW := wfP_i (wfP_i (wfP_i (wfP_a hP4 g4) hF4) hI4) hW
        refine lv_iload_n hx hb dX11_crcOf_64 rfl (lv_at hl 0 rfl) ?_
        refine lv_iconst (v := (-1)) hx hb dX11_crcOf_65 (by decide) ?_
        refine lv_ixor hx hb dX11_crcOf_66 ?_
        refine lv_topi (fun v5 ev5 => ?_)
        have rv5 : rg (-2147483648) (2147483647) v5 := rg_any v5
        replace hW := (wfP_i (wfP_i (wfP_a hW v5) ev5) rv5)
        have uv5 : (-2147483648 : Int) ≤ v5.toInt ∧ v5.toInt ≤ 2147483647 := rv5
        exact hQ _ _ v5 _ _ _ dX11_crcOf_67 L4 ⟨hW, (mFi.tr (mFi.tr mFi.rf hI3) hI4), (mFr.tr (mFr.tr mFr.rf hF3 rfl) hF4 rfl), rg_w rv5 rfl, trivial⟩
      refine lv_icmp_ge (tgt := 64) hx hb dX11_crcOf_6 (by decide) (fun c6_6 => ?_) (fun c6_6 => ?_)
      · skip
        replace hW := wfP_i (wfP_l hW) (i_le c6_6 rfl rfl)
        have ic6_6 := Int32.le_iff_toInt_le.mp c6_6
        have q7 : rg (-2147483648) (240) p2 := (rg_le c6_6 (rg_any p2) ra4_3_2).1
        have uq7 : (-2147483648 : Int) ≤ p2.toInt ∧ p2.toInt ≤ 240 := q7
        exact j64_4  g3 _ _ ls mFr.rf L3 mFi.rf hW (lv_sub hl [2] rfl)
      · skip
        replace hW := wfP_i (wfP_r hW) (i_lt (rg_nle c6_6) rfl rfl)
        have ic6_6 := Int32.lt_iff_toInt_lt.mp (rg_nle c6_6)
        have q8 : rg (1) (2147483647) p2 := (rg_lt (rg_nle c6_6) ra4_3_2 (rg_any p2)).2
        have uq8 : (1 : Int) ≤ p2.toInt ∧ p2.toInt ≤ 2147483647 := q8
        refine lv_iload_n hx hb dX11_crcOf_9 rfl (lv_at hl 3 rfl) ?_
        refine lv_aload_n hx hb dX11_crcOf_10 rfl (lv_at hl 0 rfl) ?_
        refine c_len (n := 240) x L3 24 q1 hq1 rfl (by decide) dX11_crcOf_11 ?_
        refine lv_icmp_ge (tgt := 64) hx hb dX11_crcOf_12 (by decide) (fun c12_9 => ?_) (fun c12_9 => ?_)
        · skip
          replace hW := wfP_i (wfP_l hW) (i_le c12_9 (rg_i kc_240) rfl)
          have ic12_9 := Int32.le_iff_toInt_le.mp c12_9
          have q10 : rg (240) (240) a4_3_2 := (rg_le c12_9 kc_240 ra4_3_2).2
          have uq10 : (240 : Int) ≤ a4_3_2.toInt ∧ a4_3_2.toInt ≤ 240 := q10
          exact j64_4  g3 _ _ ls mFr.rf L3 mFi.rf hW (lv_sub hl [2] rfl)
        · skip
          replace hW := wfP_i (wfP_r hW) (i_lt (rg_nle c12_9) rfl (rg_i kc_240))
          have ic12_9 := Int32.lt_iff_toInt_lt.mp (rg_nle c12_9)
          have q11 : rg (0) (239) a4_3_2 := (rg_lt (rg_nle c12_9) ra4_3_2 kc_240).1
          have uq11 : (0 : Int) ≤ a4_3_2.toInt ∧ a4_3_2.toInt ≤ 239 := q11
          refine lv_iload_n hx hb dX11_crcOf_15 rfl (lv_at hl 2 rfl) ?_
          refine lv_aload_n hx hb dX11_crcOf_16 rfl (lv_at hl 0 rfl) ?_
          refine lv_iload_n hx hb dX11_crcOf_17 rfl (lv_at hl 3 rfl) ?_
          refine c_ld x L3 24 q1 768 hq1 rfl rfl q11 rfl dX11_crcOf_18 (fun v12 ev12 wv12 => ?_)
          have rv12 : rg (-2147483648) (2147483647) v12 := rg_any v12
          replace hW := (wfP_i (wfP_i (wfP_a hW v12) ev12) rv12)
          have uv12 : (-2147483648 : Int) ≤ v12.toInt ∧ v12.toInt ≤ 2147483647 := rv12
          have sv12 : v12.toInt = (g 768 (8192 * q1 + a4_3_2.toNatClampNeg)).toInt := congrArg Int32.toInt (ev12.trans (congrFun ((show mFr [] g g3 from (mFr.tr mFr.rf hF3 rfl)).at 768 rfl) _))
          refine lv_bipush (v := 24) hx hb dX11_crcOf_19 (by decide) ?_
          refine lv_ishl hx hb dX11_crcOf_21 ?_
          refine lv_topi (fun v13 ev13 => ?_)
          have rv13 : rg (-2147483648) (2147483647) v13 := rg_any v13
          replace hW := (wfP_i (wfP_i (wfP_a hW v13) ev13) rv13)
          have uv13 : (-2147483648 : Int) ≤ v13.toInt ∧ v13.toInt ≤ 2147483647 := rv13
          refine lv_ixor hx hb dX11_crcOf_22 ?_
          refine lv_topi (fun v14 ev14 => ?_)
          have rv14 : rg (-2147483648) (2147483647) v14 := rg_any v14
          replace hW := (wfP_i (wfP_i (wfP_a hW v14) ev14) rv14)
          have uv14 : (-2147483648 : Int) ≤ v14.toInt ∧ v14.toInt ≤ 2147483647 := rv14
          refine lv_istore_n (lv' := [(2, .int v14), (0, .ref (Z.ad 24 q1)), (1, .int p2), (3, .int a4_3_2)]) hx hb dX11_crcOf_23 rfl hl (by decide) rfl (fun ls hl => ?_)
          refine lv_iconst (v := 0) hx hb dX11_crcOf_24 (by decide) ?_
          refine lv_istore (lv' := [(4, .int (0 : Int32)), (2, .int v14), (0, .ref (Z.ad 24 q1)), (1, .int p2), (3, .int a4_3_2)]) hx hb dX11_crcOf_25 hl (by decide) rfl (fun ls hl => ?_)
          obtain ⟨P17, hP17, hW⟩ := wfP_ex hW
          have j27_17 : ∀ (n : Nat) (a27_2_15 a27_4_16 : Int32) (g17 : mSt) (H17 : Heap) (k17 : List Loc) (ls : Array Slot), mFr [] g3 g17 → cL G Z A H0 X g17 H17 k17 → rg (-2147483648) (2147483647) a27_2_15 → rg (0) (8) a27_4_16 → mFi (im_kcrcOf_24 Z q1 p2) g3 g17 → wfP (P17 a27_2_15 a27_4_16 g17) → lv_has ls 5 [(0, .ref (Z.ad 24 q1)), (1, .int p2), (2, .int a27_2_15), (3, .int a4_3_2), (4, .int a27_4_16)] → ((8 : Int) - a27_4_16.toInt).toNat = n → W p l e rm_kcrcOf_24 s m args below meth c H17 k17 0 0 Q (F0 m 27 ls []) := by
            intro n
            induction n using Nat.strongRecOn with
            | _ n ih17 =>
              intro a27_2_15 a27_4_16 g17 H17 k17 ls hF17 L17 ra27_2_15 ra27_4_16 hI17 hW hl hn17
              subst hn17
              replace hW := wfP_i (wfP_i (wfP_i (wfP_i (wfP_i (wfP_a (wfP_a (wfP_a hP17 a27_2_15) a27_4_16) g17) hF17) hI17) ra27_2_15) ra27_4_16) hW
              have ua27_2_15 : (-2147483648 : Int) ≤ a27_2_15.toInt ∧ a27_2_15.toInt ≤ 2147483647 := ra27_2_15
              have ua27_4_16 : (0 : Int) ≤ a27_4_16.toInt ∧ a27_4_16.toInt ≤ 8 := ra27_4_16
              refine lv_iload hx hb dX11_crcOf_27 (lv_at hl 4 rfl) ?_
              refine lv_bipush (v := 8) hx hb dX11_crcOf_29 (by decide) ?_
              refine lv_icmp_ge (tgt := 58) hx hb dX11_crcOf_31 (by decide) (fun c31_18 => ?_) (fun c31_18 => ?_)
              · skip
                replace hW := wfP_i (wfP_l hW) (i_le c31_18 (rg_i kc_8) rfl)
                have ic31_18 := Int32.le_iff_toInt_le.mp c31_18
                have q19 : rg (8) (8) a27_4_16 := (rg_le c31_18 kc_8 ra27_4_16).2
                have uq19 : (8 : Int) ≤ a27_4_16.toInt ∧ a27_4_16.toInt ≤ 8 := q19
                obtain ⟨v20, ev20, fv20⟩ := inc_ex a4_3_2 (1) (1 : Int32) (by decide)
                have rv20 : rg (1) (240) v20 := (rg_add ev20 q11 kc_1 rfl).1
                have tv20 := (rg_add ev20 q11 kc_1 rfl).2
                have yv20 : (1 : Int32).toInt = 1 := by decide
                replace hW := (wfP_i (wfP_i (wfP_i (wfP_a hW v20) ev20) rv20) (w_iadd tv20 rfl (rg_i kc_1)))
                refine lv_iinc (v := v20) (lv' := [(3, .int v20), (0, .ref (Z.ad 24 q1)), (1, .int p2), (2, .int a27_2_15), (4, .int a27_4_16)]) hx hb dX11_crcOf_58 hl (k := 3) rfl fv20 (by decide) rfl (fun ls hl => ?_)
                refine lv_goto (tgt := 4) hx hb dX11_crcOf_61 (by decide) ?_
                exact ih3 _ (ms_up tv20 kc_1 q11 rfl rfl) a27_2_15 v20 g17 _ _ ls (mFr.tr hF3 hF17 rfl) L17 (rg_w ra27_2_15 rfl) (rg_w rv20 rfl) (mFi.tr hI3 hI17) hW (lv_sub hl [1, 2, 3, 0] rfl) rfl
              · skip
                replace hW := wfP_i (wfP_r hW) (i_lt (rg_nle c31_18) rfl (rg_i kc_8))
                have ic31_18 := Int32.lt_iff_toInt_lt.mp (rg_nle c31_18)
                have q21 : rg (0) (7) a27_4_16 := (rg_lt (rg_nle c31_18) ra27_4_16 kc_8).1
                have uq21 : (0 : Int) ≤ a27_4_16.toInt ∧ a27_4_16.toInt ≤ 7 := q21
                refine lv_iload_n hx hb dX11_crcOf_34 rfl (lv_at hl 2 rfl) ?_
                obtain ⟨P23, hP23, hW⟩ := wfP_ex hW
                have j51_23 : ∀ (b51_0_22 : Int32) (g23 : mSt) (H23 : Heap) (k23 : List Loc) (ls : Array Slot), mFr [] g17 g23 → cL G Z A H0 X g23 H23 k23 → rg (-2147483648) (2147483647) b51_0_22 → mFi (im_kcrcOf_24 Z q1 p2) g17 g23 → wfP (P23 b51_0_22 g23) → lv_has ls 5 [(0, .ref (Z.ad 24 q1)), (1, .int p2), (3, .int a4_3_2), (4, .int a27_4_16)] → W p l e rm_kcrcOf_24 s m args below meth c H23 k23 0 0 Q (F0 m 51 ls [.int b51_0_22]) := by
                  intro b51_0_22 g23 H23 k23 ls hF23 L23 rb51_0_22 hI23 hW hl
                  replace hW := wfP_i (wfP_i (wfP_i (wfP_i (wfP_a (wfP_a hP23 b51_0_22) g23) hF23) hI23) rb51_0_22) hW
                  have ub51_0_22 : (-2147483648 : Int) ≤ b51_0_22.toInt ∧ b51_0_22.toInt ≤ 2147483647 := rb51_0_22
                  refine lv_istore_n (lv' := [(2, .int b51_0_22), (0, .ref (Z.ad 24 q1)), (1, .int p2), (3, .int a4_3_2), (4, .int a27_4_16)]) hx hb dX11_crcOf_51 rfl hl (by decide) rfl (fun ls hl => ?_)
                  obtain ⟨v24, ev24, fv24⟩ := inc_ex a27_4_16 (1) (1 : Int32) (by decide)
                  have rv24 : rg (1) (8) v24 := (rg_add ev24 q21 kc_1 rfl).1
                  have tv24 := (rg_add ev24 q21 kc_1 rfl).2
                  have yv24 : (1 : Int32).toInt = 1 := by decide
                  replace hW := (wfP_i (wfP_i (wfP_i (wfP_a hW v24) ev24) rv24) (w_iadd tv24 rfl (rg_i kc_1)))
                  refine lv_iinc (v := v24) (lv' := [(4, .int v24), (2, .int b51_0_22), (0, .ref (Z.ad 24 q1)), (1, .int p2), (3, .int a4_3_2)]) hx hb dX11_crcOf_52 hl (k := 4) rfl fv24 (by decide) rfl (fun ls hl => ?_)
                  refine lv_goto (tgt := 27) hx hb dX11_crcOf_55 (by decide) ?_
                  exact ih17 _ (ms_up tv24 kc_1 q21 rfl rfl) b51_0_22 v24 g23 _ _ ls (mFr.tr hF17 hF23 rfl) L23 (rg_w rb51_0_22 rfl) (rg_w rv24 rfl) (mFi.tr hI17 hI23) hW (lv_sub hl [2, 3, 1, 4, 0] rfl) rfl
                refine lv_if_ge (tgt := 48) hx hb dX11_crcOf_35 (by decide) (fun c35_25 => ?_) (fun c35_25 => ?_)
                · skip
                  replace hW := wfP_i (wfP_l hW) (i_le c35_25 (rg_i kc_0) rfl)
                  have ic35_25 := Int32.le_iff_toInt_le.mp c35_25
                  have q26 : rg (0) (2147483647) a27_2_15 := (rg_le c35_25 kc_0 ra27_2_15).2
                  have uq26 : (0 : Int) ≤ a27_2_15.toInt ∧ a27_2_15.toInt ≤ 2147483647 := q26
                  refine lv_iload_n hx hb dX11_crcOf_48 rfl (lv_at hl 2 rfl) ?_
                  refine lv_iconst (v := 1) hx hb dX11_crcOf_49 (by decide) ?_
                  refine lv_ishl hx hb dX11_crcOf_50 ?_
                  refine lv_topi (fun v27 ev27 => ?_)
                  have rv27 : rg (-2147483648) (2147483647) v27 := rg_any v27
                  replace hW := (wfP_i (wfP_i (wfP_a hW v27) ev27) rv27)
                  have uv27 : (-2147483648 : Int) ≤ v27.toInt ∧ v27.toInt ≤ 2147483647 := rv27
                  exact j51_23 v27 g17 _ _ ls mFr.rf L17 (rg_w rv27 rfl) mFi.rf hW (lv_sub hl [0, 1, 3, 4] rfl)
                · skip
                  replace hW := wfP_i (wfP_r hW) (i_lt (rg_nle c35_25) rfl (rg_i kc_0))
                  have ic35_25 := Int32.lt_iff_toInt_lt.mp (rg_nle c35_25)
                  have q28 : rg (-2147483648) (-1) a27_2_15 := (rg_lt (rg_nle c35_25) ra27_2_15 kc_0).1
                  have uq28 : (-2147483648 : Int) ≤ a27_2_15.toInt ∧ a27_2_15.toInt ≤ -1 := q28
                  refine lv_iload_n hx hb dX11_crcOf_38 rfl (lv_at hl 2 rfl) ?_
                  refine lv_iconst (v := 1) hx hb dX11_crcOf_39 (by decide) ?_
                  refine lv_ishl hx hb dX11_crcOf_40 ?_
                  refine lv_topi (fun v29 ev29 => ?_)
                  have rv29 : rg (-2147483648) (2147483647) v29 := rg_any v29
                  replace hW := (wfP_i (wfP_i (wfP_a hW v29) ev29) rv29)
                  have uv29 : (-2147483648 : Int) ≤ v29.toInt ∧ v29.toInt ≤ 2147483647 := rv29
                  refine lv_ldcw (own := RX11) (v := 79764919) hx hb x.2.2.2.2.1 (x.2.2.1 _ (wk_in kk_X11_360)) dX11_crcOf_41 ?_
                  refine lv_ixor hx hb dX11_crcOf_44 ?_
                  refine lv_topi (fun v30 ev30 => ?_)
                  have rv30 : rg (-2147483648) (2147483647) v30 := rg_any v30
                  replace hW := (wfP_i (wfP_i (wfP_a hW v30) ev30) rv30)
                  have uv30 : (-2147483648 : Int) ≤ v30.toInt ∧ v30.toInt ≤ 2147483647 := rv30
                  refine lv_goto (tgt := 51) hx hb dX11_crcOf_45 (by decide) ?_
                  exact j51_23 v30 g17 _ _ ls mFr.rf L17 (rg_w rv30 rfl) mFi.rf hW (lv_sub hl [0, 1, 3, 4] rfl)
          have y31 : (0 : Int32).toInt = 0 := by decide
          exact j27_17 _ v14 (0 : Int32) g3 _ _ ls mFr.rf L3 (rg_w rv14 rfl) (rg_w kc_0 rfl) mFi.rf hW (lv_sub hl [2, 3, 1, 4, 0] rfl) rfl
  have y32 : (-1 : Int32).toInt = -1 := by decide
  have y33 : (0 : Int32).toInt = 0 := by decide
  exact j4_3 _ (-1 : Int32) (0 : Int32) g _ _ ls mFr.rf L (rg_w kc_m1 rfl) (rg_w kc_0 rfl) mFi.rf hW (lv_sub hl [2, 3, 1, 0] rfl) rfl
theorem d_kcrcOf_24 (l : Launch) {G : cG} {Z : cZ} (X : Int) (g : mSt) (q1 : Nat) (p2 : Int32) (hX : 0 ≤ X ∧ X ≤ 2000000000) (hq1 : Z.al 24 q1) {Φ : Int32 → mSt → Prop} (hW : wfP (wp_kcrcOf_24 Z q1 p2 g Φ)) : Met l yX11_crcOf (wk (Cond.code yX11_crcOf cX11_crcOf 5 (some .int))) rm_kcrcOf_24 (va_Pc [.ref (Z.ad 24 q1), .int p2] (cPre G Z X g)) (cQi G Z X (fun r g1 => wfP (Φ r g1) ∧ mFi (im_kcrcOf_24 Z q1 p2) g g1 ∧ (mFr [] g g1 ∧ rg (-2147483648) (2147483647) r ∧ True))) 0 0 (cAd Z) := by
  refine Met.ofW (cc := cX11_crcOf) (maxL := 5) (ret := (some .int)) (by decide) rfl ?_
  intro p e s m args below meth c s₁ B hml hv
  obtain ⟨rfl, hv⟩ := hv
  have hr := B.returns
  have hlocks := B.notSynchronized
  obtain ⟨x, L⟩ := c_start B rfl (fun w h => wk_in h) hv
  have hl := lv_entry ([.ref (Z.ad 24 q1), .int p2]) (n := 5) (Nat.le_of_ble_eq_true rfl)
  rw [lg_entry_eq]
  generalize (lg_sl ([.ref (Z.ad 24 q1), .int p2]) ++ List.replicate (5 - (lg_sl ([.ref (Z.ad 24 q1), .int p2])).length) Slot.unset).toArray = ls at hl ⊢
  exact v_kcrcOf_24 x hml L hX q1 p2 hq1 hW hl (fun pc' ls' r g1 H1 locs1 hdg L hp => c_iret x L hr hlocks (Int.le_refl _) hp hdg)

def im_kcrcOf_35 (Z : cZ) (q1 : Nat) (p2 : Int32) : List (Nat × Nat × Nat) := []
def po_kcrcOf_35 (Z : cZ) (q1 : Nat) (p2 : Int32) (g : mSt) (r : Int32) (g1 : mSt) : Prop := mFi (im_kcrcOf_35 Z q1 p2) g g1 ∧ mFr [] g g1 ∧ rg (-2147483648) (2147483647) r ∧ True
def wp_kcrcOf_35 (Z : cZ) (q1 : Nat) (p2 : Int32) (g : mSt) (Φ : Int32 → mSt → Prop) : Prop :=
  ∃ P3 : Int32 → Int32 → mSt → Prop, (∀ (a4_2_1 a4_3_2 : Int32) (g3 : mSt), mFr [] g g3 → mFi (im_kcrcOf_35 Z q1 p2) g g3 → rg (-2147483648) (2147483647) a4_2_1 → rg (0) (240) a4_3_2 → P3 a4_2_1 a4_3_2 g3 → ∃ P4 : mSt → Prop, (∀ (g4 : mSt), mFr [] g3 g4 → mFi (im_kcrcOf_35 Z q1 p2) g3 g4 → P4 g4 → ∀ (v5 : Int32), v5 = a4_2_1 ^^^ (-1 : Int32) → rg (-2147483648) (2147483647) v5 → Φ v5 g4) ∧ ((p2.toInt ≤ a4_3_2.toInt) → P4 g3) ∧ ((a4_3_2.toInt < p2.toInt) → ((240 ≤ a4_3_2.toInt) → P4 g3) ∧ ((a4_3_2.toInt < 240) → ∀ (v12 : Int32), v12 = g3 1120 (8192 * q1 + a4_3_2.toNatClampNeg) → rg (-2147483648) (2147483647) v12 → ∀ (v13 : Int32), v13 = v12 <<< ((24 : Int32) &&& 31) → rg (-2147483648) (2147483647) v13 → ∀ (v14 : Int32), v14 = a4_2_1 ^^^ v13 → rg (-2147483648) (2147483647) v14 → ∃ P17 : Int32 → Int32 → mSt → Prop, (∀ (a27_2_15 a27_4_16 : Int32) (g17 : mSt), mFr [] g3 g17 → mFi (im_kcrcOf_35 Z q1 p2) g3 g17 → rg (-2147483648) (2147483647) a27_2_15 → rg (0) (8) a27_4_16 → P17 a27_2_15 a27_4_16 g17 → ((8 ≤ a27_4_16.toInt) → ∀ (v20 : Int32), v20 = a4_3_2 + (1 : Int32) → rg (1) (240) v20 → v20.toInt = a4_3_2.toInt + 1 → P3 a27_2_15 v20 g17) ∧ ((a27_4_16.toInt < 8) → ∃ P23 : Int32 → mSt → Prop, (∀ (b51_0_22 : Int32) (g23 : mSt), mFr [] g17 g23 → mFi (im_kcrcOf_35 Z q1 p2) g17 g23 → rg (-2147483648) (2147483647) b51_0_22 → P23 b51_0_22 g23 → ∀ (v24 : Int32), v24 = a27_4_16 + (1 : Int32) → rg (1) (8) v24 → v24.toInt = a27_4_16.toInt + 1 → P17 b51_0_22 v24 g23) ∧ ((0 ≤ a27_2_15.toInt) → ∀ (v27 : Int32), v27 = a27_2_15 <<< ((1 : Int32) &&& 31) → rg (-2147483648) (2147483647) v27 → P23 v27 g17) ∧ ((a27_2_15.toInt < 0) → ∀ (v29 : Int32), v29 = a27_2_15 <<< ((1 : Int32) &&& 31) → rg (-2147483648) (2147483647) v29 → ∀ (v30 : Int32), v30 = v29 ^^^ (79764919 : Int32) → rg (-2147483648) (2147483647) v30 → P23 v30 g17))) ∧ P17 v14 (0 : Int32) g3))) ∧ P3 (-1 : Int32) (0 : Int32) g
set_option maxHeartbeats 4000000 in
set_option maxRecDepth 100000 in
theorem v_kcrcOf_35 {p : Program} {l : Launch} {e : Env} {s : State} {m : MethodId} {args : Array Value} {below : List Frame} {meth : Method} {c : Code} {H : Heap} {locs : List Loc} {Q : State → Prop} {ls : Array Slot} {G : cG} {Z : cZ} {A : Nat → Prop} {g : mSt} {H0 : Heap} {X : Int} (x : cX p c cX11_crcOf s args (wk (Cond.code yX11_crcOf cX11_crcOf 5 (some .int))) m G Z A RX11 H0) (hml : c.maxLocals = 5) (L : cL G Z A H0 X g H locs) (hX : 0 ≤ X ∧ X ≤ 2000000000) (q1 : Nat) (p2 : Int32) (hq1 : Z.al 35 q1) {Φ : Int32 → mSt → Prop} (hW : wfP (wp_kcrcOf_35 Z q1 p2 g Φ)) (hl : lv_has ls 5 [(0, .ref (Z.ad 35 q1)), (1, .int p2)]) (hQ : ∀ (pc' : Nat) (ls' : Array Slot) (r : Int32) (g1 : mSt) (H1 : Heap) (locs1 : List Loc), decode cX11_crcOf pc' = .ok (.ireturn, 1) → cL G Z A H0 X g1 H1 locs1 → (wfP (Φ r g1) ∧ mFi (im_kcrcOf_35 Z q1 p2) g g1 ∧ (mFr [] g g1 ∧ rg (-2147483648) (2147483647) r ∧ True)) → W p l e rm_kcrcOf_35 s m args below meth c H1 locs1 0 0 Q (F0 m pc' ls' [.int r])) : W p l e rm_kcrcOf_35 s m args below meth c H locs 0 0 Q (F0 m 0 ls []) := by
  have hx := x.1
  have hb := x.2.1
  have hz := x.2.2.2.2.2.2.2.1
  have hzn := hz.1
  have up2 : (-2147483648 : Int) ≤ p2.toInt ∧ p2.toInt ≤ 2147483647 := (rg_any p2)
  refine lv_iconst (v := (-1)) hx hb dX11_crcOf_0 (by decide) ?_
  refine lv_istore_n (lv' := [(2, .int (-1 : Int32)), (0, .ref (Z.ad 35 q1)), (1, .int p2)]) hx hb dX11_crcOf_1 rfl hl (by decide) rfl (fun ls hl => ?_)
  refine lv_iconst (v := 0) hx hb dX11_crcOf_2 (by decide) ?_
  refine lv_istore_n (lv' := [(3, .int (0 : Int32)), (2, .int (-1 : Int32)), (0, .ref (Z.ad 35 q1)), (1, .int p2)]) hx hb dX11_crcOf_3 rfl hl (by decide) rfl (fun ls hl => ?_)
  obtain ⟨P3, hP3, hW⟩ := wfP_ex hW
  have j4_3 : ∀ (n : Nat) (a4_2_1 a4_3_2 : Int32) (g3 : mSt) (H3 : Heap) (k3 : List Loc) (ls : Array Slot), mFr [] g g3 → cL G Z A H0 X g3 H3 k3 → rg (-2147483648) (2147483647) a4_2_1 → rg (0) (240) a4_3_2 → mFi (im_kcrcOf_35 Z q1 p2) g g3 → wfP (P3 a4_2_1 a4_3_2 g3) → lv_has ls 5 [(0, .ref (Z.ad 35 q1)), (1, .int p2), (2, .int a4_2_1), (3, .int a4_3_2)] → ((240 : Int) - a4_3_2.toInt).toNat = n → W p l e rm_kcrcOf_35 s m args below meth c H3 k3 0 0 Q (F0 m 4 ls []) := by
    intro n
    induction n using Nat.strongRecOn with
    | _ n ih3 =>
      intro a4_2_1 a4_3_2 g3 H3 k3 ls hF3 L3 ra4_2_1 ra4_3_2 hI3 hW hl hn3
      subst hn3
      replace hW := wfP_i (wfP_i (wfP_i (wfP_i (wfP_i (wfP_a (wfP_a (wfP_a hP3 a4_2_1) a4_3_2) g3) hF3) hI3) ra4_2_1) ra4_3_2) hW
      have ua4_2_1 : (-2147483648 : Int) ≤ a4_2_1.toInt ∧ a4_2_1.toInt ≤ 2147483647 := ra4_2_1
      have ua4_3_2 : (0 : Int) ≤ a4_3_2.toInt ∧ a4_3_2.toInt ≤ 240 := ra4_3_2
      refine lv_iload_n hx hb dX11_crcOf_4 rfl (lv_at hl 3 rfl) ?_
      refine lv_iload_n hx hb dX11_crcOf_5 rfl (lv_at hl 1 rfl) ?_
      obtain ⟨P4, hP4, hW⟩ := wfP_ex hW
      have j64_4 : ∀ (g4 : mSt) (H4 : Heap) (k4 : List Loc) (ls : Array Slot), mFr [] g3 g4 → cL G Z A H0 X g4 H4 k4 → mFi (im_kcrcOf_35 Z q1 p2) g3 g4 → wfP (P4 g4) → lv_has ls 5 [(2, .int a4_2_1)] → W p l e rm_kcrcOf_35 s m args below meth c H4 k4 0 0 Q (F0 m 64 ls []) := by
        intro  g4 H4 k4 ls hF4 L4  hI4 hW hl
        replace hW := wfP_i (wfP_i (wfP_i (wfP_a hP4 g4) hF4) hI4) hW
        refine lv_iload_n hx hb dX11_crcOf_64 rfl (lv_at hl 0 rfl) ?_
        refine lv_iconst (v := (-1)) hx hb dX11_crcOf_65 (by decide) ?_
        refine lv_ixor hx hb dX11_crcOf_66 ?_
        refine lv_topi (fun v5 ev5 => ?_)
        have rv5 : rg (-2147483648) (2147483647) v5 := rg_any v5
        replace hW := (wfP_i (wfP_i (wfP_a hW v5) ev5) rv5)
        have uv5 : (-2147483648 : Int) ≤ v5.toInt ∧ v5.toInt ≤ 2147483647 := rv5
        exact hQ _ _ v5 _ _ _ dX11_crcOf_67 L4 ⟨hW, (mFi.tr (mFi.tr mFi.rf hI3) hI4), (mFr.tr (mFr.tr mFr.rf hF3 rfl) hF4 rfl), rg_w rv5 rfl, trivial⟩
      refine lv_icmp_ge (tgt := 64) hx hb dX11_crcOf_6 (by decide) (fun c6_6 => ?_) (fun c6_6 => ?_)
      · skip
        replace hW := wfP_i (wfP_l hW) (i_le c6_6 rfl rfl)
        have ic6_6 := Int32.le_iff_toInt_le.mp c6_6
        have q7 : rg (-2147483648) (240) p2 := (rg_le c6_6 (rg_any p2) ra4_3_2).1
        have uq7 : (-2147483648 : Int) ≤ p2.toInt ∧ p2.toInt ≤ 240 := q7
        exact j64_4  g3 _ _ ls mFr.rf L3 mFi.rf hW (lv_sub hl [2] rfl)
      · skip
        replace hW := wfP_i (wfP_r hW) (i_lt (rg_nle c6_6) rfl rfl)
        have ic6_6 := Int32.lt_iff_toInt_lt.mp (rg_nle c6_6)
        have q8 : rg (1) (2147483647) p2 := (rg_lt (rg_nle c6_6) ra4_3_2 (rg_any p2)).2
        have uq8 : (1 : Int) ≤ p2.toInt ∧ p2.toInt ≤ 2147483647 := q8
        refine lv_iload_n hx hb dX11_crcOf_9 rfl (lv_at hl 3 rfl) ?_
        refine lv_aload_n hx hb dX11_crcOf_10 rfl (lv_at hl 0 rfl) ?_
        refine c_len (n := 240) x L3 35 q1 hq1 rfl (by decide) dX11_crcOf_11 ?_
        refine lv_icmp_ge (tgt := 64) hx hb dX11_crcOf_12 (by decide) (fun c12_9 => ?_) (fun c12_9 => ?_)
        · skip
          replace hW := wfP_i (wfP_l hW) (i_le c12_9 (rg_i kc_240) rfl)
          have ic12_9 := Int32.le_iff_toInt_le.mp c12_9
          have q10 : rg (240) (240) a4_3_2 := (rg_le c12_9 kc_240 ra4_3_2).2
          have uq10 : (240 : Int) ≤ a4_3_2.toInt ∧ a4_3_2.toInt ≤ 240 := q10
          exact j64_4  g3 _ _ ls mFr.rf L3 mFi.rf hW (lv_sub hl [2] rfl)
        · skip
          replace hW := wfP_i (wfP_r hW) (i_lt (rg_nle c12_9) rfl (rg_i kc_240))
          have ic12_9 := Int32.lt_iff_toInt_lt.mp (rg_nle c12_9)
          have q11 : rg (0) (239) a4_3_2 := (rg_lt (rg_nle c12_9) ra4_3_2 kc_240).1
          have uq11 : (0 : Int) ≤ a4_3_2.toInt ∧ a4_3_2.toInt ≤ 239 := q11
          refine lv_iload_n hx hb dX11_crcOf_15 rfl (lv_at hl 2 rfl) ?_
          refine lv_aload_n hx hb dX11_crcOf_16 rfl (lv_at hl 0 rfl) ?_
          refine lv_iload_n hx hb dX11_crcOf_17 rfl (lv_at hl 3 rfl) ?_
          refine c_ld x L3 35 q1 1120 hq1 rfl rfl q11 rfl dX11_crcOf_18 (fun v12 ev12 wv12 => ?_)
          have rv12 : rg (-2147483648) (2147483647) v12 := rg_any v12
          replace hW := (wfP_i (wfP_i (wfP_a hW v12) ev12) rv12)
          have uv12 : (-2147483648 : Int) ≤ v12.toInt ∧ v12.toInt ≤ 2147483647 := rv12
          have sv12 : v12.toInt = (g 1120 (8192 * q1 + a4_3_2.toNatClampNeg)).toInt := congrArg Int32.toInt (ev12.trans (congrFun ((show mFr [] g g3 from (mFr.tr mFr.rf hF3 rfl)).at 1120 rfl) _))
          refine lv_bipush (v := 24) hx hb dX11_crcOf_19 (by decide) ?_
          refine lv_ishl hx hb dX11_crcOf_21 ?_
          refine lv_topi (fun v13 ev13 => ?_)
          have rv13 : rg (-2147483648) (2147483647) v13 := rg_any v13
          replace hW := (wfP_i (wfP_i (wfP_a hW v13) ev13) rv13)
          have uv13 : (-2147483648 : Int) ≤ v13.toInt ∧ v13.toInt ≤ 2147483647 := rv13
          refine lv_ixor hx hb dX11_crcOf_22 ?_
          refine lv_topi (fun v14 ev14 => ?_)
          have rv14 : rg (-2147483648) (2147483647) v14 := rg_any v14
          replace hW := (wfP_i (wfP_i (wfP_a hW v14) ev14) rv14)
          have uv14 : (-2147483648 : Int) ≤ v14.toInt ∧ v14.toInt ≤ 2147483647 := rv14
          refine lv_istore_n (lv' := [(2, .int v14), (0, .ref (Z.ad 35 q1)), (1, .int p2), (3, .int a4_3_2)]) hx hb dX11_crcOf_23 rfl hl (by decide) rfl (fun ls hl => ?_)
          refine lv_iconst (v := 0) hx hb dX11_crcOf_24 (by decide) ?_
          refine lv_istore (lv' := [(4, .int (0 : Int32)), (2, .int v14), (0, .ref (Z.ad 35 q1)), (1, .int p2), (3, .int a4_3_2)]) hx hb dX11_crcOf_25 hl (by decide) rfl (fun ls hl => ?_)
          obtain ⟨P17, hP17, hW⟩ := wfP_ex hW
          have j27_17 : ∀ (n : Nat) (a27_2_15 a27_4_16 : Int32) (g17 : mSt) (H17 : Heap) (k17 : List Loc) (ls : Array Slot), mFr [] g3 g17 → cL G Z A H0 X g17 H17 k17 → rg (-2147483648) (2147483647) a27_2_15 → rg (0) (8) a27_4_16 → mFi (im_kcrcOf_35 Z q1 p2) g3 g17 → wfP (P17 a27_2_15 a27_4_16 g17) → lv_has ls 5 [(0, .ref (Z.ad 35 q1)), (1, .int p2), (2, .int a27_2_15), (3, .int a4_3_2), (4, .int a27_4_16)] → ((8 : Int) - a27_4_16.toInt).toNat = n → W p l e rm_kcrcOf_35 s m args below meth c H17 k17 0 0 Q (F0 m 27 ls []) := by
            intro n
            induction n using Nat.strongRecOn with
            | _ n ih17 =>
              intro a27_2_15 a27_4_16 g17 H17 k17 ls hF17 L17 ra27_2_15 ra27_4_16 hI17 hW hl hn17
              subst hn17
              replace hW := wfP_i (wfP_i (wfP_i (wfP_i (wfP_i (wfP_a (wfP_a (wfP_a hP17 a27_2_15) a27_4_16) g17) hF17) hI17) ra27_2_15) ra27_4_16) hW
              have ua27_2_15 : (-2147483648 : Int) ≤ a27_2_15.toInt ∧ a27_2_15.toInt ≤ 2147483647 := ra27_2_15
              have ua27_4_16 : (0 : Int) ≤ a27_4_16.toInt ∧ a27_4_16.toInt ≤ 8 := ra27_4_16
              refine lv_iload hx hb dX11_crcOf_27 (lv_at hl 4 rfl) ?_
              refine lv_bipush (v := 8) hx hb dX11_crcOf_29 (by decide) ?_
              refine lv_icmp_ge (tgt := 58) hx hb dX11_crcOf_31 (by decide) (fun c31_18 => ?_) (fun c31_18 => ?_)
              · skip
                replace hW := wfP_i (wfP_l hW) (i_le c31_18 (rg_i kc_8) rfl)
                have ic31_18 := Int32.le_iff_toInt_le.mp c31_18
                have q19 : rg (8) (8) a27_4_16 := (rg_le c31_18 kc_8 ra27_4_16).2
                have uq19 : (8 : Int) ≤ a27_4_16.toInt ∧ a27_4_16.toInt ≤ 8 := q19
                obtain ⟨v20, ev20, fv20⟩ := inc_ex a4_3_2 (1) (1 : Int32) (by decide)
                have rv20 : rg (1) (240) v20 := (rg_add ev20 q11 kc_1 rfl).1
                have tv20 := (rg_add ev20 q11 kc_1 rfl).2
                have yv20 : (1 : Int32).toInt = 1 := by decide
                replace hW := (wfP_i (wfP_i (wfP_i (wfP_a hW v20) ev20) rv20) (w_iadd tv20 rfl (rg_i kc_1)))
                refine lv_iinc (v := v20) (lv' := [(3, .int v20), (0, .ref (Z.ad 35 q1)), (1, .int p2), (2, .int a27_2_15), (4, .int a27_4_16)]) hx hb dX11_crcOf_58 hl (k := 3) rfl fv20 (by decide) rfl (fun ls hl => ?_)
                refine lv_goto (tgt := 4) hx hb dX11_crcOf_61 (by decide) ?_
                exact ih3 _ (ms_up tv20 kc_1 q11 rfl rfl) a27_2_15 v20 g17 _ _ ls (mFr.tr hF3 hF17 rfl) L17 (rg_w ra27_2_15 rfl) (rg_w rv20 rfl) (mFi.tr hI3 hI17) hW (lv_sub hl [1, 2, 3, 0] rfl) rfl
              · skip
                replace hW := wfP_i (wfP_r hW) (i_lt (rg_nle c31_18) rfl (rg_i kc_8))
                have ic31_18 := Int32.lt_iff_toInt_lt.mp (rg_nle c31_18)
                have q21 : rg (0) (7) a27_4_16 := (rg_lt (rg_nle c31_18) ra27_4_16 kc_8).1
                have uq21 : (0 : Int) ≤ a27_4_16.toInt ∧ a27_4_16.toInt ≤ 7 := q21
                refine lv_iload_n hx hb dX11_crcOf_34 rfl (lv_at hl 2 rfl) ?_
                obtain ⟨P23, hP23, hW⟩ := wfP_ex hW
                have j51_23 : ∀ (b51_0_22 : Int32) (g23 : mSt) (H23 : Heap) (k23 : List Loc) (ls : Array Slot), mFr [] g17 g23 → cL G Z A H0 X g23 H23 k23 → rg (-2147483648) (2147483647) b51_0_22 → mFi (im_kcrcOf_35 Z q1 p2) g17 g23 → wfP (P23 b51_0_22 g23) → lv_has ls 5 [(0, .ref (Z.ad 35 q1)), (1, .int p2), (3, .int a4_3_2), (4, .int a27_4_16)] → W p l e rm_kcrcOf_35 s m args below meth c H23 k23 0 0 Q (F0 m 51 ls [.int b51_0_22]) := by
                  intro b51_0_22 g23 H23 k23 ls hF23 L23 rb51_0_22 hI23 hW hl
                  replace hW := wfP_i (wfP_i (wfP_i (wfP_i (wfP_a (wfP_a hP23 b51_0_22) g23) hF23) hI23) rb51_0_22) hW
                  have ub51_0_22 : (-2147483648 : Int) ≤ b51_0_22.toInt ∧ b51_0_22.toInt ≤ 2147483647 := rb51_0_22
                  refine lv_istore_n (lv' := [(2, .int b51_0_22), (0, .ref (Z.ad 35 q1)), (1, .int p2), (3, .int a4_3_2), (4, .int a27_4_16)]) hx hb dX11_crcOf_51 rfl hl (by decide) rfl (fun ls hl => ?_)
                  obtain ⟨v24, ev24, fv24⟩ := inc_ex a27_4_16 (1) (1 : Int32) (by decide)
                  have rv24 : rg (1) (8) v24 := (rg_add ev24 q21 kc_1 rfl).1
                  have tv24 := (rg_add ev24 q21 kc_1 rfl).2
                  have yv24 : (1 : Int32).toInt = 1 := by decide
                  replace hW := (wfP_i (wfP_i (wfP_i (wfP_a hW v24) ev24) rv24) (w_iadd tv24 rfl (rg_i kc_1)))
                  refine lv_iinc (v := v24) (lv' := [(4, .int v24), (2, .int b51_0_22), (0, .ref (Z.ad 35 q1)), (1, .int p2), (3, .int a4_3_2)]) hx hb dX11_crcOf_52 hl (k := 4) rfl fv24 (by decide) rfl (fun ls hl => ?_)
                  refine lv_goto (tgt := 27) hx hb dX11_crcOf_55 (by decide) ?_
                  exact ih17 _ (ms_up tv24 kc_1 q21 rfl rfl) b51_0_22 v24 g23 _ _ ls (mFr.tr hF17 hF23 rfl) L23 (rg_w rb51_0_22 rfl) (rg_w rv24 rfl) (mFi.tr hI17 hI23) hW (lv_sub hl [2, 3, 1, 4, 0] rfl) rfl
                refine lv_if_ge (tgt := 48) hx hb dX11_crcOf_35 (by decide) (fun c35_25 => ?_) (fun c35_25 => ?_)
                · skip
                  replace hW := wfP_i (wfP_l hW) (i_le c35_25 (rg_i kc_0) rfl)
                  have ic35_25 := Int32.le_iff_toInt_le.mp c35_25
                  have q26 : rg (0) (2147483647) a27_2_15 := (rg_le c35_25 kc_0 ra27_2_15).2
                  have uq26 : (0 : Int) ≤ a27_2_15.toInt ∧ a27_2_15.toInt ≤ 2147483647 := q26
                  refine lv_iload_n hx hb dX11_crcOf_48 rfl (lv_at hl 2 rfl) ?_
                  refine lv_iconst (v := 1) hx hb dX11_crcOf_49 (by decide) ?_
                  refine lv_ishl hx hb dX11_crcOf_50 ?_
                  refine lv_topi (fun v27 ev27 => ?_)
                  have rv27 : rg (-2147483648) (2147483647) v27 := rg_any v27
                  replace hW := (wfP_i (wfP_i (wfP_a hW v27) ev27) rv27)
                  have uv27 : (-2147483648 : Int) ≤ v27.toInt ∧ v27.toInt ≤ 2147483647 := rv27
                  exact j51_23 v27 g17 _ _ ls mFr.rf L17 (rg_w rv27 rfl) mFi.rf hW (lv_sub hl [0, 1, 3, 4] rfl)
                · skip
                  replace hW := wfP_i (wfP_r hW) (i_lt (rg_nle c35_25) rfl (rg_i kc_0))
                  have ic35_25 := Int32.lt_iff_toInt_lt.mp (rg_nle c35_25)
                  have q28 : rg (-2147483648) (-1) a27_2_15 := (rg_lt (rg_nle c35_25) ra27_2_15 kc_0).1
                  have uq28 : (-2147483648 : Int) ≤ a27_2_15.toInt ∧ a27_2_15.toInt ≤ -1 := q28
                  refine lv_iload_n hx hb dX11_crcOf_38 rfl (lv_at hl 2 rfl) ?_
                  refine lv_iconst (v := 1) hx hb dX11_crcOf_39 (by decide) ?_
                  refine lv_ishl hx hb dX11_crcOf_40 ?_
                  refine lv_topi (fun v29 ev29 => ?_)
                  have rv29 : rg (-2147483648) (2147483647) v29 := rg_any v29
                  replace hW := (wfP_i (wfP_i (wfP_a hW v29) ev29) rv29)
                  have uv29 : (-2147483648 : Int) ≤ v29.toInt ∧ v29.toInt ≤ 2147483647 := rv29
                  refine lv_ldcw (own := RX11) (v := 79764919) hx hb x.2.2.2.2.1 (x.2.2.1 _ (wk_in kk_X11_360)) dX11_crcOf_41 ?_
                  refine lv_ixor hx hb dX11_crcOf_44 ?_
                  refine lv_topi (fun v30 ev30 => ?_)
                  have rv30 : rg (-2147483648) (2147483647) v30 := rg_any v30
                  replace hW := (wfP_i (wfP_i (wfP_a hW v30) ev30) rv30)
                  have uv30 : (-2147483648 : Int) ≤ v30.toInt ∧ v30.toInt ≤ 2147483647 := rv30
                  refine lv_goto (tgt := 51) hx hb dX11_crcOf_45 (by decide) ?_
                  exact j51_23 v30 g17 _ _ ls mFr.rf L17 (rg_w rv30 rfl) mFi.rf hW (lv_sub hl [0, 1, 3, 4] rfl)
          have y31 : (0 : Int32).toInt = 0 := by decide
          exact j27_17 _ v14 (0 : Int32) g3 _ _ ls mFr.rf L3 (rg_w rv14 rfl) (rg_w kc_0 rfl) mFi.rf hW (lv_sub hl [2, 3, 1, 4, 0] rfl) rfl
  have y32 : (-1 : Int32).toInt = -1 := by decide
  have y33 : (0 : Int32).toInt = 0 := by decide
  exact j4_3 _ (-1 : Int32) (0 : Int32) g _ _ ls mFr.rf L (rg_w kc_m1 rfl) (rg_w kc_0 rfl) mFi.rf hW (lv_sub hl [2, 3, 1, 0] rfl) rfl
theorem d_kcrcOf_35 (l : Launch) {G : cG} {Z : cZ} (X : Int) (g : mSt) (q1 : Nat) (p2 : Int32) (hX : 0 ≤ X ∧ X ≤ 2000000000) (hq1 : Z.al 35 q1) {Φ : Int32 → mSt → Prop} (hW : wfP (wp_kcrcOf_35 Z q1 p2 g Φ)) : Met l yX11_crcOf (wk (Cond.code yX11_crcOf cX11_crcOf 5 (some .int))) rm_kcrcOf_35 (va_Pc [.ref (Z.ad 35 q1), .int p2] (cPre G Z X g)) (cQi G Z X (fun r g1 => wfP (Φ r g1) ∧ mFi (im_kcrcOf_35 Z q1 p2) g g1 ∧ (mFr [] g g1 ∧ rg (-2147483648) (2147483647) r ∧ True))) 0 0 (cAd Z) := by
  refine Met.ofW (cc := cX11_crcOf) (maxL := 5) (ret := (some .int)) (by decide) rfl ?_
  intro p e s m args below meth c s₁ B hml hv
  obtain ⟨rfl, hv⟩ := hv
  have hr := B.returns
  have hlocks := B.notSynchronized
  obtain ⟨x, L⟩ := c_start B rfl (fun w h => wk_in h) hv
  have hl := lv_entry ([.ref (Z.ad 35 q1), .int p2]) (n := 5) (Nat.le_of_ble_eq_true rfl)
  rw [lg_entry_eq]
  generalize (lg_sl ([.ref (Z.ad 35 q1), .int p2]) ++ List.replicate (5 - (lg_sl ([.ref (Z.ad 35 q1), .int p2])).length) Slot.unset).toArray = ls at hl ⊢
  exact v_kcrcOf_35 x hml L hX q1 p2 hq1 hW hl (fun pc' ls' r g1 H1 locs1 hdg L hp => c_iret x L hr hlocks (Int.le_refl _) hp hdg)

def im_kwordAt_16 (Z : cZ) (q1 : Nat) (p2 : Int32) : List (Nat × Nat × Nat) := []
def po_kwordAt_16 (Z : cZ) (q1 : Nat) (p2 : Int32) (g : mSt) (r : Int32) (g1 : mSt) : Prop := mFi (im_kwordAt_16 Z q1 p2) g g1 ∧ mFr [] g g1 ∧ rg (-2147483648) (2147483647) r ∧ True
def wp_kwordAt_16 (Z : cZ) (q1 : Nat) (p2 : Int32) (g : mSt) (Φ : Int32 → mSt → Prop) : Prop :=
  ((p2.toInt < 0) → Φ (0 : Int32) g) ∧ ((0 ≤ p2.toInt) → ∀ (v4 : Int32), v4 = p2 + (4 : Int32) → rg (4) (100004) v4 → v4.toInt = p2.toInt + 4 → ((v4.toInt ≤ 240) → ∀ (v9 : Int32), v9 = g 512 (8192 * q1 + p2.toNatClampNeg) → rg (-2147483648) (2147483647) v9 → ∀ (v10 : Int32), v10 = v9 <<< ((24 : Int32) &&& 31) → rg (-2147483648) (2147483647) v10 → ∀ (v11 : Int32), v11 = p2 + (1 : Int32) → rg (1) (237) v11 → v11.toInt = p2.toInt + 1 → ∀ (v13 : Int32), v13 = g 512 (8192 * q1 + v11.toNatClampNeg) → rg (-2147483648) (2147483647) v13 → ∀ (v14 : Int32), v14 = v13 <<< ((16 : Int32) &&& 31) → rg (-2147483648) (2147483647) v14 → ∀ (v15 : Int32), v15 = v10 ||| v14 → rg (-2147483648) (2147483647) v15 → ∀ (v16 : Int32), v16 = p2 + (2 : Int32) → rg (2) (238) v16 → v16.toInt = p2.toInt + 2 → ∀ (v18 : Int32), v18 = g 512 (8192 * q1 + v16.toNatClampNeg) → rg (-2147483648) (2147483647) v18 → ∀ (v19 : Int32), v19 = v18 <<< ((8 : Int32) &&& 31) → rg (-2147483648) (2147483647) v19 → ∀ (v20 : Int32), v20 = v15 ||| v19 → rg (-2147483648) (2147483647) v20 → ∀ (v21 : Int32), v21 = p2 + (3 : Int32) → rg (3) (239) v21 → v21.toInt = p2.toInt + 3 → ∀ (v23 : Int32), v23 = g 512 (8192 * q1 + v21.toNatClampNeg) → rg (-2147483648) (2147483647) v23 → ∀ (v24 : Int32), v24 = v20 ||| v23 → rg (-2147483648) (2147483647) v24 → Φ v24 g) ∧ ((240 < v4.toInt) → Φ (0 : Int32) g))
set_option maxHeartbeats 4000000 in
set_option maxRecDepth 100000 in
theorem v_kwordAt_16 {p : Program} {l : Launch} {e : Env} {s : State} {m : MethodId} {args : Array Value} {below : List Frame} {meth : Method} {c : Code} {H : Heap} {locs : List Loc} {Q : State → Prop} {ls : Array Slot} {G : cG} {Z : cZ} {A : Nat → Prop} {g : mSt} {H0 : Heap} {X : Int} (x : cX p c cX11_wordAt s args (wk (Cond.code yX11_wordAt cX11_wordAt 2 (some .int))) m G Z A RX11 H0) (hml : c.maxLocals = 2) (L : cL G Z A H0 X g H locs) (hX : 0 ≤ X ∧ X ≤ 2000000000) (q1 : Nat) (p2 : Int32) (hq1 : Z.al 16 q1) (rp2 : rg (-100) (100000) p2) {Φ : Int32 → mSt → Prop} (hW : wfP (wp_kwordAt_16 Z q1 p2 g Φ)) (hl : lv_has ls 2 [(0, .ref (Z.ad 16 q1)), (1, .int p2)]) (hQ : ∀ (pc' : Nat) (ls' : Array Slot) (r : Int32) (g1 : mSt) (H1 : Heap) (locs1 : List Loc), decode cX11_wordAt pc' = .ok (.ireturn, 1) → cL G Z A H0 X g1 H1 locs1 → (wfP (Φ r g1) ∧ mFi (im_kwordAt_16 Z q1 p2) g g1 ∧ (mFr [] g g1 ∧ rg (-2147483648) (2147483647) r ∧ True)) → W p l e rm_kwordAt_16 s m args below meth c H1 locs1 0 0 Q (F0 m pc' ls' [.int r])) : W p l e rm_kwordAt_16 s m args below meth c H locs 0 0 Q (F0 m 0 ls []) := by
  have hx := x.1
  have hb := x.2.1
  have hz := x.2.2.2.2.2.2.2.1
  have hzn := hz.1
  have up2 : (-100 : Int) ≤ p2.toInt ∧ p2.toInt ≤ 100000 := rp2
  refine lv_iload_n hx hb dX11_wordAt_0 rfl (lv_at hl 1 rfl) ?_
  refine lv_if_lt (tgt := 12) hx hb dX11_wordAt_1 (by decide) (fun c1_1 => ?_) (fun c1_1 => ?_)
  · skip
    replace hW := wfP_i (wfP_l hW) (i_lt c1_1 rfl (rg_i kc_0))
    have ic1_1 := Int32.lt_iff_toInt_lt.mp c1_1
    have q2 : rg (-100) (-1) p2 := (rg_lt c1_1 rp2 kc_0).1
    have uq2 : (-100 : Int) ≤ p2.toInt ∧ p2.toInt ≤ -1 := q2
    refine lv_iconst (v := 0) hx hb dX11_wordAt_12 (by decide) ?_
    exact hQ _ _ (0 : Int32) _ _ _ dX11_wordAt_13 L ⟨hW, mFi.rf, mFr.rf, rg_w kc_0 rfl, trivial⟩
  · skip
    replace hW := wfP_i (wfP_r hW) (i_le (rg_nlt c1_1) (rg_i kc_0) rfl)
    have ic1_1 := Int32.le_iff_toInt_le.mp (rg_nlt c1_1)
    have q3 : rg (0) (100000) p2 := (rg_le (rg_nlt c1_1) kc_0 rp2).2
    have uq3 : (0 : Int) ≤ p2.toInt ∧ p2.toInt ≤ 100000 := q3
    refine lv_iload_n hx hb dX11_wordAt_4 rfl (lv_at hl 1 rfl) ?_
    refine lv_iconst (v := 4) hx hb dX11_wordAt_5 (by decide) ?_
    refine lv_iadd hx hb dX11_wordAt_6 ?_
    refine lv_topi (fun v4 ev4 => ?_)
    have rv4 : rg (4) (100004) v4 := (rg_add ev4 q3 kc_4 rfl).1
    replace hW := (wfP_i (wfP_i (wfP_i (wfP_a hW v4) ev4) rv4) (w_iadd ((rg_add ev4 q3 kc_4 rfl).2) rfl (rg_i kc_4)))
    have dv4 := (rg_add ev4 q3 kc_4 rfl).2
    have tv4 := (rg_add ev4 q3 kc_4 rfl).2
    have y5 : (4 : Int32).toInt = 4 := by decide
    have uv4 : (4 : Int) ≤ v4.toInt ∧ v4.toInt ≤ 100004 := rv4
    refine lv_aload_n hx hb dX11_wordAt_7 rfl (lv_at hl 0 rfl) ?_
    refine c_len (n := 240) x L 16 q1 hq1 rfl (by decide) dX11_wordAt_8 ?_
    refine lv_icmp_le (tgt := 14) hx hb dX11_wordAt_9 (by decide) (fun c9_6 => ?_) (fun c9_6 => ?_)
    · skip
      replace hW := wfP_i (wfP_l hW) (i_le c9_6 rfl (rg_i kc_240))
      have ic9_6 := Int32.le_iff_toInt_le.mp c9_6
      have q7 : rg (4) (240) v4 := (rg_le c9_6 rv4 kc_240).1
      have uq7 : (4 : Int) ≤ v4.toInt ∧ v4.toInt ≤ 240 := q7
      have q8 : rg (0) (236) p2 := rg_back dv4 kc_4 q7
      refine lv_aload_n hx hb dX11_wordAt_14 rfl (lv_at hl 0 rfl) ?_
      refine lv_iload_n hx hb dX11_wordAt_15 rfl (lv_at hl 1 rfl) ?_
      refine c_ld x L 16 q1 512 hq1 rfl rfl q8 rfl dX11_wordAt_16 (fun v9 ev9 wv9 => ?_)
      have rv9 : rg (-2147483648) (2147483647) v9 := rg_any v9
      replace hW := (wfP_i (wfP_i (wfP_a hW v9) ev9) rv9)
      have uv9 : (-2147483648 : Int) ≤ v9.toInt ∧ v9.toInt ≤ 2147483647 := rv9
      have sv9 : v9.toInt = (g 512 (8192 * q1 + p2.toNatClampNeg)).toInt := congrArg Int32.toInt (ev9.trans (congrFun ((show mFr [] g g from mFr.rf).at 512 rfl) _))
      refine lv_bipush (v := 24) hx hb dX11_wordAt_17 (by decide) ?_
      refine lv_ishl hx hb dX11_wordAt_19 ?_
      refine lv_topi (fun v10 ev10 => ?_)
      have rv10 : rg (-2147483648) (2147483647) v10 := rg_any v10
      replace hW := (wfP_i (wfP_i (wfP_a hW v10) ev10) rv10)
      have uv10 : (-2147483648 : Int) ≤ v10.toInt ∧ v10.toInt ≤ 2147483647 := rv10
      refine lv_aload_n hx hb dX11_wordAt_20 rfl (lv_at hl 0 rfl) ?_
      refine lv_iload_n hx hb dX11_wordAt_21 rfl (lv_at hl 1 rfl) ?_
      refine lv_iconst (v := 1) hx hb dX11_wordAt_22 (by decide) ?_
      refine lv_iadd hx hb dX11_wordAt_23 ?_
      refine lv_topi (fun v11 ev11 => ?_)
      have rv11 : rg (1) (237) v11 := (rg_add ev11 q8 kc_1 rfl).1
      replace hW := (wfP_i (wfP_i (wfP_i (wfP_a hW v11) ev11) rv11) (w_iadd ((rg_add ev11 q8 kc_1 rfl).2) rfl (rg_i kc_1)))
      have dv11 := (rg_add ev11 q8 kc_1 rfl).2
      have tv11 := (rg_add ev11 q8 kc_1 rfl).2
      have y12 : (1 : Int32).toInt = 1 := by decide
      have uv11 : (1 : Int) ≤ v11.toInt ∧ v11.toInt ≤ 237 := rv11
      refine c_ld x L 16 q1 512 hq1 rfl rfl rv11 rfl dX11_wordAt_24 (fun v13 ev13 wv13 => ?_)
      have rv13 : rg (-2147483648) (2147483647) v13 := rg_any v13
      replace hW := (wfP_i (wfP_i (wfP_a hW v13) ev13) rv13)
      have uv13 : (-2147483648 : Int) ≤ v13.toInt ∧ v13.toInt ≤ 2147483647 := rv13
      have sv13 : v13.toInt = (g 512 (8192 * q1 + v11.toNatClampNeg)).toInt := congrArg Int32.toInt (ev13.trans (congrFun ((show mFr [] g g from mFr.rf).at 512 rfl) _))
      refine lv_bipush (v := 16) hx hb dX11_wordAt_25 (by decide) ?_
      refine lv_ishl hx hb dX11_wordAt_27 ?_
      refine lv_topi (fun v14 ev14 => ?_)
      have rv14 : rg (-2147483648) (2147483647) v14 := rg_any v14
      replace hW := (wfP_i (wfP_i (wfP_a hW v14) ev14) rv14)
      have uv14 : (-2147483648 : Int) ≤ v14.toInt ∧ v14.toInt ≤ 2147483647 := rv14
      refine lv_ior hx hb dX11_wordAt_28 ?_
      refine lv_topi (fun v15 ev15 => ?_)
      have rv15 : rg (-2147483648) (2147483647) v15 := rg_any v15
      replace hW := (wfP_i (wfP_i (wfP_a hW v15) ev15) rv15)
      have uv15 : (-2147483648 : Int) ≤ v15.toInt ∧ v15.toInt ≤ 2147483647 := rv15
      refine lv_aload_n hx hb dX11_wordAt_29 rfl (lv_at hl 0 rfl) ?_
      refine lv_iload_n hx hb dX11_wordAt_30 rfl (lv_at hl 1 rfl) ?_
      refine lv_iconst (v := 2) hx hb dX11_wordAt_31 (by decide) ?_
      refine lv_iadd hx hb dX11_wordAt_32 ?_
      refine lv_topi (fun v16 ev16 => ?_)
      have rv16 : rg (2) (238) v16 := (rg_add ev16 q8 kc_2 rfl).1
      replace hW := (wfP_i (wfP_i (wfP_i (wfP_a hW v16) ev16) rv16) (w_iadd ((rg_add ev16 q8 kc_2 rfl).2) rfl (rg_i kc_2)))
      have dv16 := (rg_add ev16 q8 kc_2 rfl).2
      have tv16 := (rg_add ev16 q8 kc_2 rfl).2
      have y17 : (2 : Int32).toInt = 2 := by decide
      have uv16 : (2 : Int) ≤ v16.toInt ∧ v16.toInt ≤ 238 := rv16
      refine c_ld x L 16 q1 512 hq1 rfl rfl rv16 rfl dX11_wordAt_33 (fun v18 ev18 wv18 => ?_)
      have rv18 : rg (-2147483648) (2147483647) v18 := rg_any v18
      replace hW := (wfP_i (wfP_i (wfP_a hW v18) ev18) rv18)
      have uv18 : (-2147483648 : Int) ≤ v18.toInt ∧ v18.toInt ≤ 2147483647 := rv18
      have sv18 : v18.toInt = (g 512 (8192 * q1 + v16.toNatClampNeg)).toInt := congrArg Int32.toInt (ev18.trans (congrFun ((show mFr [] g g from mFr.rf).at 512 rfl) _))
      refine lv_bipush (v := 8) hx hb dX11_wordAt_34 (by decide) ?_
      refine lv_ishl hx hb dX11_wordAt_36 ?_
      refine lv_topi (fun v19 ev19 => ?_)
      have rv19 : rg (-2147483648) (2147483647) v19 := rg_any v19
      replace hW := (wfP_i (wfP_i (wfP_a hW v19) ev19) rv19)
      have uv19 : (-2147483648 : Int) ≤ v19.toInt ∧ v19.toInt ≤ 2147483647 := rv19
      refine lv_ior hx hb dX11_wordAt_37 ?_
      refine lv_topi (fun v20 ev20 => ?_)
      have rv20 : rg (-2147483648) (2147483647) v20 := rg_any v20
      replace hW := (wfP_i (wfP_i (wfP_a hW v20) ev20) rv20)
      have uv20 : (-2147483648 : Int) ≤ v20.toInt ∧ v20.toInt ≤ 2147483647 := rv20
      refine lv_aload_n hx hb dX11_wordAt_38 rfl (lv_at hl 0 rfl) ?_
      refine lv_iload_n hx hb dX11_wordAt_39 rfl (lv_at hl 1 rfl) ?_
      refine lv_iconst (v := 3) hx hb dX11_wordAt_40 (by decide) ?_
      refine lv_iadd hx hb dX11_wordAt_41 ?_
      refine lv_topi (fun v21 ev21 => ?_)
      have rv21 : rg (3) (239) v21 := (rg_add ev21 q8 kc_3 rfl).1
      replace hW := (wfP_i (wfP_i (wfP_i (wfP_a hW v21) ev21) rv21) (w_iadd ((rg_add ev21 q8 kc_3 rfl).2) rfl (rg_i kc_3)))
      have dv21 := (rg_add ev21 q8 kc_3 rfl).2
      have tv21 := (rg_add ev21 q8 kc_3 rfl).2
      have y22 : (3 : Int32).toInt = 3 := by decide
      have uv21 : (3 : Int) ≤ v21.toInt ∧ v21.toInt ≤ 239 := rv21
      refine c_ld x L 16 q1 512 hq1 rfl rfl rv21 rfl dX11_wordAt_42 (fun v23 ev23 wv23 => ?_)
      have rv23 : rg (-2147483648) (2147483647) v23 := rg_any v23
      replace hW := (wfP_i (wfP_i (wfP_a hW v23) ev23) rv23)
      have uv23 : (-2147483648 : Int) ≤ v23.toInt ∧ v23.toInt ≤ 2147483647 := rv23
      have sv23 : v23.toInt = (g 512 (8192 * q1 + v21.toNatClampNeg)).toInt := congrArg Int32.toInt (ev23.trans (congrFun ((show mFr [] g g from mFr.rf).at 512 rfl) _))
      refine lv_ior hx hb dX11_wordAt_43 ?_
      refine lv_topi (fun v24 ev24 => ?_)
      have rv24 : rg (-2147483648) (2147483647) v24 := rg_any v24
      replace hW := (wfP_i (wfP_i (wfP_a hW v24) ev24) rv24)
      have uv24 : (-2147483648 : Int) ≤ v24.toInt ∧ v24.toInt ≤ 2147483647 := rv24
      exact hQ _ _ v24 _ _ _ dX11_wordAt_44 L ⟨hW, mFi.rf, mFr.rf, rg_w rv24 rfl, trivial⟩
    · skip
      replace hW := wfP_i (wfP_r hW) (i_lt (rg_nle c9_6) (rg_i kc_240) rfl)
      have ic9_6 := Int32.lt_iff_toInt_lt.mp (rg_nle c9_6)
      have q25 : rg (241) (100004) v4 := (rg_lt (rg_nle c9_6) kc_240 rv4).2
      have uq25 : (241 : Int) ≤ v4.toInt ∧ v4.toInt ≤ 100004 := q25
      have q26 : rg (237) (100000) p2 := rg_back dv4 kc_4 q25
      refine lv_iconst (v := 0) hx hb dX11_wordAt_12 (by decide) ?_
      exact hQ _ _ (0 : Int32) _ _ _ dX11_wordAt_13 L ⟨hW, mFi.rf, mFr.rf, rg_w kc_0 rfl, trivial⟩
theorem d_kwordAt_16 (l : Launch) {G : cG} {Z : cZ} (X : Int) (g : mSt) (q1 : Nat) (p2 : Int32) (hX : 0 ≤ X ∧ X ≤ 2000000000) (hq1 : Z.al 16 q1) (rp2 : rg (-100) (100000) p2) {Φ : Int32 → mSt → Prop} (hW : wfP (wp_kwordAt_16 Z q1 p2 g Φ)) : Met l yX11_wordAt (wk (Cond.code yX11_wordAt cX11_wordAt 2 (some .int))) rm_kwordAt_16 (va_Pc [.ref (Z.ad 16 q1), .int p2] (cPre G Z X g)) (cQi G Z X (fun r g1 => wfP (Φ r g1) ∧ mFi (im_kwordAt_16 Z q1 p2) g g1 ∧ (mFr [] g g1 ∧ rg (-2147483648) (2147483647) r ∧ True))) 0 0 (cAd Z) := by
  refine Met.ofW (cc := cX11_wordAt) (maxL := 2) (ret := (some .int)) (by decide) rfl ?_
  intro p e s m args below meth c s₁ B hml hv
  obtain ⟨rfl, hv⟩ := hv
  have hr := B.returns
  have hlocks := B.notSynchronized
  obtain ⟨x, L⟩ := c_start B rfl (fun w h => wk_in h) hv
  have hl := lv_entry ([.ref (Z.ad 16 q1), .int p2]) (n := 2) (Nat.le_of_ble_eq_true rfl)
  rw [lg_entry_eq]
  generalize (lg_sl ([.ref (Z.ad 16 q1), .int p2]) ++ List.replicate (2 - (lg_sl ([.ref (Z.ad 16 q1), .int p2])).length) Slot.unset).toArray = ls at hl ⊢
  exact v_kwordAt_16 x hml L hX q1 p2 hq1 rp2 hW hl (fun pc' ls' r g1 H1 locs1 hdg L hp => c_iret x L hr hlocks (Int.le_refl _) hp hdg)

def im_kwordAt_34 (Z : cZ) (q1 : Nat) (p2 : Int32) : List (Nat × Nat × Nat) := []
def po_kwordAt_34 (Z : cZ) (q1 : Nat) (p2 : Int32) (g : mSt) (r : Int32) (g1 : mSt) : Prop := mFi (im_kwordAt_34 Z q1 p2) g g1 ∧ mFr [] g g1 ∧ rg (-2147483648) (2147483647) r ∧ True
def wp_kwordAt_34 (Z : cZ) (q1 : Nat) (p2 : Int32) (g : mSt) (Φ : Int32 → mSt → Prop) : Prop :=
  ((p2.toInt < 0) → Φ (0 : Int32) g) ∧ ((0 ≤ p2.toInt) → ∀ (v4 : Int32), v4 = p2 + (4 : Int32) → rg (4) (100004) v4 → v4.toInt = p2.toInt + 4 → ((v4.toInt ≤ 60) → ∀ (v9 : Int32), v9 = g 1088 (8192 * q1 + p2.toNatClampNeg) → rg (-2147483648) (2147483647) v9 → ∀ (v10 : Int32), v10 = v9 <<< ((24 : Int32) &&& 31) → rg (-2147483648) (2147483647) v10 → ∀ (v11 : Int32), v11 = p2 + (1 : Int32) → rg (1) (57) v11 → v11.toInt = p2.toInt + 1 → ∀ (v13 : Int32), v13 = g 1088 (8192 * q1 + v11.toNatClampNeg) → rg (-2147483648) (2147483647) v13 → ∀ (v14 : Int32), v14 = v13 <<< ((16 : Int32) &&& 31) → rg (-2147483648) (2147483647) v14 → ∀ (v15 : Int32), v15 = v10 ||| v14 → rg (-2147483648) (2147483647) v15 → ∀ (v16 : Int32), v16 = p2 + (2 : Int32) → rg (2) (58) v16 → v16.toInt = p2.toInt + 2 → ∀ (v18 : Int32), v18 = g 1088 (8192 * q1 + v16.toNatClampNeg) → rg (-2147483648) (2147483647) v18 → ∀ (v19 : Int32), v19 = v18 <<< ((8 : Int32) &&& 31) → rg (-2147483648) (2147483647) v19 → ∀ (v20 : Int32), v20 = v15 ||| v19 → rg (-2147483648) (2147483647) v20 → ∀ (v21 : Int32), v21 = p2 + (3 : Int32) → rg (3) (59) v21 → v21.toInt = p2.toInt + 3 → ∀ (v23 : Int32), v23 = g 1088 (8192 * q1 + v21.toNatClampNeg) → rg (-2147483648) (2147483647) v23 → ∀ (v24 : Int32), v24 = v20 ||| v23 → rg (-2147483648) (2147483647) v24 → Φ v24 g) ∧ ((60 < v4.toInt) → Φ (0 : Int32) g))
set_option maxHeartbeats 4000000 in
set_option maxRecDepth 100000 in
theorem v_kwordAt_34 {p : Program} {l : Launch} {e : Env} {s : State} {m : MethodId} {args : Array Value} {below : List Frame} {meth : Method} {c : Code} {H : Heap} {locs : List Loc} {Q : State → Prop} {ls : Array Slot} {G : cG} {Z : cZ} {A : Nat → Prop} {g : mSt} {H0 : Heap} {X : Int} (x : cX p c cX11_wordAt s args (wk (Cond.code yX11_wordAt cX11_wordAt 2 (some .int))) m G Z A RX11 H0) (hml : c.maxLocals = 2) (L : cL G Z A H0 X g H locs) (hX : 0 ≤ X ∧ X ≤ 2000000000) (q1 : Nat) (p2 : Int32) (hq1 : Z.al 34 q1) (rp2 : rg (-100) (100000) p2) {Φ : Int32 → mSt → Prop} (hW : wfP (wp_kwordAt_34 Z q1 p2 g Φ)) (hl : lv_has ls 2 [(0, .ref (Z.ad 34 q1)), (1, .int p2)]) (hQ : ∀ (pc' : Nat) (ls' : Array Slot) (r : Int32) (g1 : mSt) (H1 : Heap) (locs1 : List Loc), decode cX11_wordAt pc' = .ok (.ireturn, 1) → cL G Z A H0 X g1 H1 locs1 → (wfP (Φ r g1) ∧ mFi (im_kwordAt_34 Z q1 p2) g g1 ∧ (mFr [] g g1 ∧ rg (-2147483648) (2147483647) r ∧ True)) → W p l e rm_kwordAt_34 s m args below meth c H1 locs1 0 0 Q (F0 m pc' ls' [.int r])) : W p l e rm_kwordAt_34 s m args below meth c H locs 0 0 Q (F0 m 0 ls []) := by
  have hx := x.1
  have hb := x.2.1
  have hz := x.2.2.2.2.2.2.2.1
  have hzn := hz.1
  have up2 : (-100 : Int) ≤ p2.toInt ∧ p2.toInt ≤ 100000 := rp2
  refine lv_iload_n hx hb dX11_wordAt_0 rfl (lv_at hl 1 rfl) ?_
  refine lv_if_lt (tgt := 12) hx hb dX11_wordAt_1 (by decide) (fun c1_1 => ?_) (fun c1_1 => ?_)
  · skip
    replace hW := wfP_i (wfP_l hW) (i_lt c1_1 rfl (rg_i kc_0))
    have ic1_1 := Int32.lt_iff_toInt_lt.mp c1_1
    have q2 : rg (-100) (-1) p2 := (rg_lt c1_1 rp2 kc_0).1
    have uq2 : (-100 : Int) ≤ p2.toInt ∧ p2.toInt ≤ -1 := q2
    refine lv_iconst (v := 0) hx hb dX11_wordAt_12 (by decide) ?_
    exact hQ _ _ (0 : Int32) _ _ _ dX11_wordAt_13 L ⟨hW, mFi.rf, mFr.rf, rg_w kc_0 rfl, trivial⟩
  · skip
    replace hW := wfP_i (wfP_r hW) (i_le (rg_nlt c1_1) (rg_i kc_0) rfl)
    have ic1_1 := Int32.le_iff_toInt_le.mp (rg_nlt c1_1)
    have q3 : rg (0) (100000) p2 := (rg_le (rg_nlt c1_1) kc_0 rp2).2
    have uq3 : (0 : Int) ≤ p2.toInt ∧ p2.toInt ≤ 100000 := q3
    refine lv_iload_n hx hb dX11_wordAt_4 rfl (lv_at hl 1 rfl) ?_
    refine lv_iconst (v := 4) hx hb dX11_wordAt_5 (by decide) ?_
    refine lv_iadd hx hb dX11_wordAt_6 ?_
    refine lv_topi (fun v4 ev4 => ?_)
    have rv4 : rg (4) (100004) v4 := (rg_add ev4 q3 kc_4 rfl).1
    replace hW := (wfP_i (wfP_i (wfP_i (wfP_a hW v4) ev4) rv4) (w_iadd ((rg_add ev4 q3 kc_4 rfl).2) rfl (rg_i kc_4)))
    have dv4 := (rg_add ev4 q3 kc_4 rfl).2
    have tv4 := (rg_add ev4 q3 kc_4 rfl).2
    have y5 : (4 : Int32).toInt = 4 := by decide
    have uv4 : (4 : Int) ≤ v4.toInt ∧ v4.toInt ≤ 100004 := rv4
    refine lv_aload_n hx hb dX11_wordAt_7 rfl (lv_at hl 0 rfl) ?_
    refine c_len (n := 60) x L 34 q1 hq1 rfl (by decide) dX11_wordAt_8 ?_
    refine lv_icmp_le (tgt := 14) hx hb dX11_wordAt_9 (by decide) (fun c9_6 => ?_) (fun c9_6 => ?_)
    · skip
      replace hW := wfP_i (wfP_l hW) (i_le c9_6 rfl (rg_i kc_60))
      have ic9_6 := Int32.le_iff_toInt_le.mp c9_6
      have q7 : rg (4) (60) v4 := (rg_le c9_6 rv4 kc_60).1
      have uq7 : (4 : Int) ≤ v4.toInt ∧ v4.toInt ≤ 60 := q7
      have q8 : rg (0) (56) p2 := rg_back dv4 kc_4 q7
      refine lv_aload_n hx hb dX11_wordAt_14 rfl (lv_at hl 0 rfl) ?_
      refine lv_iload_n hx hb dX11_wordAt_15 rfl (lv_at hl 1 rfl) ?_
      refine c_ld x L 34 q1 1088 hq1 rfl rfl q8 rfl dX11_wordAt_16 (fun v9 ev9 wv9 => ?_)
      have rv9 : rg (-2147483648) (2147483647) v9 := rg_any v9
      replace hW := (wfP_i (wfP_i (wfP_a hW v9) ev9) rv9)
      have uv9 : (-2147483648 : Int) ≤ v9.toInt ∧ v9.toInt ≤ 2147483647 := rv9
      have sv9 : v9.toInt = (g 1088 (8192 * q1 + p2.toNatClampNeg)).toInt := congrArg Int32.toInt (ev9.trans (congrFun ((show mFr [] g g from mFr.rf).at 1088 rfl) _))
      refine lv_bipush (v := 24) hx hb dX11_wordAt_17 (by decide) ?_
      refine lv_ishl hx hb dX11_wordAt_19 ?_
      refine lv_topi (fun v10 ev10 => ?_)
      have rv10 : rg (-2147483648) (2147483647) v10 := rg_any v10
      replace hW := (wfP_i (wfP_i (wfP_a hW v10) ev10) rv10)
      have uv10 : (-2147483648 : Int) ≤ v10.toInt ∧ v10.toInt ≤ 2147483647 := rv10
      refine lv_aload_n hx hb dX11_wordAt_20 rfl (lv_at hl 0 rfl) ?_
      refine lv_iload_n hx hb dX11_wordAt_21 rfl (lv_at hl 1 rfl) ?_
      refine lv_iconst (v := 1) hx hb dX11_wordAt_22 (by decide) ?_
      refine lv_iadd hx hb dX11_wordAt_23 ?_
      refine lv_topi (fun v11 ev11 => ?_)
      have rv11 : rg (1) (57) v11 := (rg_add ev11 q8 kc_1 rfl).1
      replace hW := (wfP_i (wfP_i (wfP_i (wfP_a hW v11) ev11) rv11) (w_iadd ((rg_add ev11 q8 kc_1 rfl).2) rfl (rg_i kc_1)))
      have dv11 := (rg_add ev11 q8 kc_1 rfl).2
      have tv11 := (rg_add ev11 q8 kc_1 rfl).2
      have y12 : (1 : Int32).toInt = 1 := by decide
      have uv11 : (1 : Int) ≤ v11.toInt ∧ v11.toInt ≤ 57 := rv11
      refine c_ld x L 34 q1 1088 hq1 rfl rfl rv11 rfl dX11_wordAt_24 (fun v13 ev13 wv13 => ?_)
      have rv13 : rg (-2147483648) (2147483647) v13 := rg_any v13
      replace hW := (wfP_i (wfP_i (wfP_a hW v13) ev13) rv13)
      have uv13 : (-2147483648 : Int) ≤ v13.toInt ∧ v13.toInt ≤ 2147483647 := rv13
      have sv13 : v13.toInt = (g 1088 (8192 * q1 + v11.toNatClampNeg)).toInt := congrArg Int32.toInt (ev13.trans (congrFun ((show mFr [] g g from mFr.rf).at 1088 rfl) _))
      refine lv_bipush (v := 16) hx hb dX11_wordAt_25 (by decide) ?_
      refine lv_ishl hx hb dX11_wordAt_27 ?_
      refine lv_topi (fun v14 ev14 => ?_)
      have rv14 : rg (-2147483648) (2147483647) v14 := rg_any v14
      replace hW := (wfP_i (wfP_i (wfP_a hW v14) ev14) rv14)
      have uv14 : (-2147483648 : Int) ≤ v14.toInt ∧ v14.toInt ≤ 2147483647 := rv14
      refine lv_ior hx hb dX11_wordAt_28 ?_
      refine lv_topi (fun v15 ev15 => ?_)
      have rv15 : rg (-2147483648) (2147483647) v15 := rg_any v15
      replace hW := (wfP_i (wfP_i (wfP_a hW v15) ev15) rv15)
      have uv15 : (-2147483648 : Int) ≤ v15.toInt ∧ v15.toInt ≤ 2147483647 := rv15
      refine lv_aload_n hx hb dX11_wordAt_29 rfl (lv_at hl 0 rfl) ?_
      refine lv_iload_n hx hb dX11_wordAt_30 rfl (lv_at hl 1 rfl) ?_
      refine lv_iconst (v := 2) hx hb dX11_wordAt_31 (by decide) ?_
      refine lv_iadd hx hb dX11_wordAt_32 ?_
      refine lv_topi (fun v16 ev16 => ?_)
      have rv16 : rg (2) (58) v16 := (rg_add ev16 q8 kc_2 rfl).1
      replace hW := (wfP_i (wfP_i (wfP_i (wfP_a hW v16) ev16) rv16) (w_iadd ((rg_add ev16 q8 kc_2 rfl).2) rfl (rg_i kc_2)))
      have dv16 := (rg_add ev16 q8 kc_2 rfl).2
      have tv16 := (rg_add ev16 q8 kc_2 rfl).2
      have y17 : (2 : Int32).toInt = 2 := by decide
      have uv16 : (2 : Int) ≤ v16.toInt ∧ v16.toInt ≤ 58 := rv16
      refine c_ld x L 34 q1 1088 hq1 rfl rfl rv16 rfl dX11_wordAt_33 (fun v18 ev18 wv18 => ?_)
      have rv18 : rg (-2147483648) (2147483647) v18 := rg_any v18
      replace hW := (wfP_i (wfP_i (wfP_a hW v18) ev18) rv18)
      have uv18 : (-2147483648 : Int) ≤ v18.toInt ∧ v18.toInt ≤ 2147483647 := rv18
      have sv18 : v18.toInt = (g 1088 (8192 * q1 + v16.toNatClampNeg)).toInt := congrArg Int32.toInt (ev18.trans (congrFun ((show mFr [] g g from mFr.rf).at 1088 rfl) _))
      refine lv_bipush (v := 8) hx hb dX11_wordAt_34 (by decide) ?_
      refine lv_ishl hx hb dX11_wordAt_36 ?_
      refine lv_topi (fun v19 ev19 => ?_)
      have rv19 : rg (-2147483648) (2147483647) v19 := rg_any v19
      replace hW := (wfP_i (wfP_i (wfP_a hW v19) ev19) rv19)
      have uv19 : (-2147483648 : Int) ≤ v19.toInt ∧ v19.toInt ≤ 2147483647 := rv19
      refine lv_ior hx hb dX11_wordAt_37 ?_
      refine lv_topi (fun v20 ev20 => ?_)
      have rv20 : rg (-2147483648) (2147483647) v20 := rg_any v20
      replace hW := (wfP_i (wfP_i (wfP_a hW v20) ev20) rv20)
      have uv20 : (-2147483648 : Int) ≤ v20.toInt ∧ v20.toInt ≤ 2147483647 := rv20
      refine lv_aload_n hx hb dX11_wordAt_38 rfl (lv_at hl 0 rfl) ?_
      refine lv_iload_n hx hb dX11_wordAt_39 rfl (lv_at hl 1 rfl) ?_
      refine lv_iconst (v := 3) hx hb dX11_wordAt_40 (by decide) ?_
      refine lv_iadd hx hb dX11_wordAt_41 ?_
      refine lv_topi (fun v21 ev21 => ?_)
      have rv21 : rg (3) (59) v21 := (rg_add ev21 q8 kc_3 rfl).1
      replace hW := (wfP_i (wfP_i (wfP_i (wfP_a hW v21) ev21) rv21) (w_iadd ((rg_add ev21 q8 kc_3 rfl).2) rfl (rg_i kc_3)))
      have dv21 := (rg_add ev21 q8 kc_3 rfl).2
      have tv21 := (rg_add ev21 q8 kc_3 rfl).2
      have y22 : (3 : Int32).toInt = 3 := by decide
      have uv21 : (3 : Int) ≤ v21.toInt ∧ v21.toInt ≤ 59 := rv21
      refine c_ld x L 34 q1 1088 hq1 rfl rfl rv21 rfl dX11_wordAt_42 (fun v23 ev23 wv23 => ?_)
      have rv23 : rg (-2147483648) (2147483647) v23 := rg_any v23
      replace hW := (wfP_i (wfP_i (wfP_a hW v23) ev23) rv23)
      have uv23 : (-2147483648 : Int) ≤ v23.toInt ∧ v23.toInt ≤ 2147483647 := rv23
      have sv23 : v23.toInt = (g 1088 (8192 * q1 + v21.toNatClampNeg)).toInt := congrArg Int32.toInt (ev23.trans (congrFun ((show mFr [] g g from mFr.rf).at 1088 rfl) _))
      refine lv_ior hx hb dX11_wordAt_43 ?_
      refine lv_topi (fun v24 ev24 => ?_)
      have rv24 : rg (-2147483648) (2147483647) v24 := rg_any v24
      replace hW := (wfP_i (wfP_i (wfP_a hW v24) ev24) rv24)
      have uv24 : (-2147483648 : Int) ≤ v24.toInt ∧ v24.toInt ≤ 2147483647 := rv24
      exact hQ _ _ v24 _ _ _ dX11_wordAt_44 L ⟨hW, mFi.rf, mFr.rf, rg_w rv24 rfl, trivial⟩
    · skip
      replace hW := wfP_i (wfP_r hW) (i_lt (rg_nle c9_6) (rg_i kc_60) rfl)
      have ic9_6 := Int32.lt_iff_toInt_lt.mp (rg_nle c9_6)
      have q25 : rg (61) (100004) v4 := (rg_lt (rg_nle c9_6) kc_60 rv4).2
      have uq25 : (61 : Int) ≤ v4.toInt ∧ v4.toInt ≤ 100004 := q25
      have q26 : rg (57) (100000) p2 := rg_back dv4 kc_4 q25
      refine lv_iconst (v := 0) hx hb dX11_wordAt_12 (by decide) ?_
      exact hQ _ _ (0 : Int32) _ _ _ dX11_wordAt_13 L ⟨hW, mFi.rf, mFr.rf, rg_w kc_0 rfl, trivial⟩
theorem d_kwordAt_34 (l : Launch) {G : cG} {Z : cZ} (X : Int) (g : mSt) (q1 : Nat) (p2 : Int32) (hX : 0 ≤ X ∧ X ≤ 2000000000) (hq1 : Z.al 34 q1) (rp2 : rg (-100) (100000) p2) {Φ : Int32 → mSt → Prop} (hW : wfP (wp_kwordAt_34 Z q1 p2 g Φ)) : Met l yX11_wordAt (wk (Cond.code yX11_wordAt cX11_wordAt 2 (some .int))) rm_kwordAt_34 (va_Pc [.ref (Z.ad 34 q1), .int p2] (cPre G Z X g)) (cQi G Z X (fun r g1 => wfP (Φ r g1) ∧ mFi (im_kwordAt_34 Z q1 p2) g g1 ∧ (mFr [] g g1 ∧ rg (-2147483648) (2147483647) r ∧ True))) 0 0 (cAd Z) := by
  refine Met.ofW (cc := cX11_wordAt) (maxL := 2) (ret := (some .int)) (by decide) rfl ?_
  intro p e s m args below meth c s₁ B hml hv
  obtain ⟨rfl, hv⟩ := hv
  have hr := B.returns
  have hlocks := B.notSynchronized
  obtain ⟨x, L⟩ := c_start B rfl (fun w h => wk_in h) hv
  have hl := lv_entry ([.ref (Z.ad 34 q1), .int p2]) (n := 2) (Nat.le_of_ble_eq_true rfl)
  rw [lg_entry_eq]
  generalize (lg_sl ([.ref (Z.ad 34 q1), .int p2]) ++ List.replicate (2 - (lg_sl ([.ref (Z.ad 34 q1), .int p2])).length) Slot.unset).toArray = ls at hl ⊢
  exact v_kwordAt_34 x hml L hX q1 p2 hq1 rp2 hW hl (fun pc' ls' r g1 H1 locs1 hdg L hp => c_iret x L hr hlocks (Int.le_refl _) hp hdg)

def im_kfill_19 (Z : cZ) (q1 : Nat) (p2 : Int32) (p3 : Int32) (p4 : Int32) : List (Nat × Nat × Nat) := [(608, q1, 8192)]
def po_kfill_19 (Z : cZ) (q1 : Nat) (p2 : Int32) (p3 : Int32) (p4 : Int32) (g : mSt) (r : Int32) (g1 : mSt) : Prop := mFi (im_kfill_19 Z q1 p2 p3 p4) g g1 ∧ mFr [608] g g1 ∧ True
def wp_kfill_19 (Z : cZ) (q1 : Nat) (p2 : Int32) (p3 : Int32) (p4 : Int32) (g : mSt) (Φ : Int32 → mSt → Prop) : Prop :=
  wp_krangeCheck Z (212 : Int32) p2 p3 g (fun (_ : Int32) (g2 : mSt) => po_krangeCheck Z (212 : Int32) p2 p3 g 0 g2 → ∃ P4 : Int32 → mSt → Prop, (∀ (a10_4_3 : Int32) (g4 : mSt), mFr [608] g2 g4 → mFi (im_kfill_19 Z q1 p2 p3 p4) g2 g4 → rg (0) (212) a10_4_3 → P4 a10_4_3 g4 → ((p3.toInt ≤ a10_4_3.toInt) → Φ 0 g4) ∧ ((a10_4_3.toInt < p3.toInt) → ∀ (g8 : mSt), g8 = up2 g4 608 (8192 * q1 + a10_4_3.toNatClampNeg) p4 → ∀ (v9 : Int32), v9 = a10_4_3 + (1 : Int32) → rg (1) (212) v9 → v9.toInt = a10_4_3.toInt + 1 → P4 v9 g8)) ∧ P4 p2 g2)
set_option maxHeartbeats 4000000 in
set_option maxRecDepth 100000 in
theorem v_kfill_19 {p : Program} {l : Launch} {e : Env} {s : State} {m : MethodId} {args : Array Value} {below : List Frame} {meth : Method} {c : Code} {H : Heap} {locs : List Loc} {Q : State → Prop} {ls : Array Slot} {G : cG} {Z : cZ} {A : Nat → Prop} {g : mSt} {H0 : Heap} {X : Int} (x : cX p c cJ7_fill_fda19 s args (wk (Cond.code yJ7_fill_fda19 cJ7_fill_fda19 5 none)) m G Z A RJ7 H0) (hml : c.maxLocals = 5) (L : cL G Z A H0 X g H locs) (hX : 0 ≤ X ∧ X ≤ 2000000000) (q1 : Nat) (p2 : Int32) (p3 : Int32) (p4 : Int32) (hq1 : Z.al 19 q1) (rp2 : rg (0) (212) p2) (rp3 : rg (0) (212) p3) (h1 : p2.toInt ≤ p3.toInt) {Φ : Int32 → mSt → Prop} (hW : wfP (wp_kfill_19 Z q1 p2 p3 p4 g Φ)) (hl : lv_has ls 5 [(0, .ref (Z.ad 19 q1)), (1, .int p2), (2, .int p3), (3, .int p4)]) (hQ : ∀ (pc' : Nat) (ls' : Array Slot) (g1 : mSt) (H1 : Heap) (locs1 : List Loc), decode cJ7_fill_fda19 pc' = .ok (.return_, 1) → cL G Z A H0 X g1 H1 locs1 → (wfP (Φ 0 g1) ∧ mFi (im_kfill_19 Z q1 p2 p3 p4) g g1 ∧ (mFr [608] g g1 ∧ True)) → W p l e rm_kfill_19 s m args below meth c H1 locs1 0 0 Q (F0 m pc' ls' [])) : W p l e rm_kfill_19 s m args below meth c H locs 0 0 Q (F0 m 0 ls []) := by
  have hx := x.1
  have hb := x.2.1
  have hz := x.2.2.2.2.2.2.2.1
  have hzn := hz.1
  have up2 : (0 : Int) ≤ p2.toInt ∧ p2.toInt ≤ 212 := rp2
  have up3 : (0 : Int) ≤ p3.toInt ∧ p3.toInt ≤ 212 := rp3
  have up4 : (-2147483648 : Int) ≤ p4.toInt ∧ p4.toInt ≤ 2147483647 := (rg_any p4)
  refine lv_aload_n hx hb dJ7_fill_fda19_0 rfl (lv_at hl 0 rfl) ?_
  refine c_len (n := 212) x L 19 q1 hq1 rfl (by decide) dJ7_fill_fda19_1 ?_
  refine lv_iload_n hx hb dJ7_fill_fda19_2 rfl (lv_at hl 1 rfl) ?_
  refine lv_iload_n hx hb dJ7_fill_fda19_3 rfl (lv_at hl 2 rfl) ?_
  have y1 : (212 : Int32).toInt = 212 := by decide
  refine c_sv (As := [.int (212 : Int32), .int p2, .int p3]) (rest := []) x hml L (d_krangeCheck l X g (212 : Int32) p2 p3 hX (by omega) hW) (wk_T kt_J7_rangeCheck_23922 kl_J7_13 kn_J7 (wk_all kd_J7_rangeCheck_23922)) rfl ⟨rfl, rfl⟩ hd_krangeCheck ⟨Nat.le_of_ble_eq_true rfl, Nat.le_of_ble_eq_true rfl⟩ rfl hl.1 rfl (lv_room (Nat.le_of_ble_eq_true rfl)) dJ7_fill_fda19_4 (fun  g2 H2 k2 hp2 L2 => ?_)
  obtain ⟨hW, hi2, hp2⟩ := hp2
  replace hW := wfP_i hW ⟨hi2, hp2⟩
  refine lv_iload_n hx hb dJ7_fill_fda19_7 rfl (lv_at hl 1 rfl) ?_
  refine lv_istore (lv' := [(4, .int p2), (0, .ref (Z.ad 19 q1)), (1, .int p2), (2, .int p3), (3, .int p4)]) hx hb dJ7_fill_fda19_8 hl (by decide) rfl (fun ls hl => ?_)
  obtain ⟨P4, hP4, hW⟩ := wfP_ex hW
  have j10_4 : ∀ (n : Nat) (a10_4_3 : Int32) (g4 : mSt) (H4 : Heap) (k4 : List Loc) (ls : Array Slot), mFr [608] g2 g4 → cL G Z A H0 X g4 H4 k4 → rg (0) (212) a10_4_3 → mFi (im_kfill_19 Z q1 p2 p3 p4) g2 g4 → wfP (P4 a10_4_3 g4) → lv_has ls 5 [(0, .ref (Z.ad 19 q1)), (2, .int p3), (3, .int p4), (4, .int a10_4_3)] → ((212 : Int) - a10_4_3.toInt).toNat = n → W p l e rm_kfill_19 s m args below meth c H4 k4 0 0 Q (F0 m 10 ls []) := by
    intro n
    induction n using Nat.strongRecOn with
    | _ n ih4 =>
      intro a10_4_3 g4 H4 k4 ls hF4 L4 ra10_4_3 hI4 hW hl hn4
      subst hn4
      replace hW := wfP_i (wfP_i (wfP_i (wfP_i (wfP_a (wfP_a hP4 a10_4_3) g4) hF4) hI4) ra10_4_3) hW
      have ua10_4_3 : (0 : Int) ≤ a10_4_3.toInt ∧ a10_4_3.toInt ≤ 212 := ra10_4_3
      refine lv_iload hx hb dJ7_fill_fda19_10 (lv_at hl 3 rfl) ?_
      refine lv_iload_n hx hb dJ7_fill_fda19_12 rfl (lv_at hl 1 rfl) ?_
      refine lv_icmp_ge (tgt := 27) hx hb dJ7_fill_fda19_13 (by decide) (fun c13_5 => ?_) (fun c13_5 => ?_)
      · skip
        replace hW := wfP_i (wfP_l hW) (i_le c13_5 rfl rfl)
        have ic13_5 := Int32.le_iff_toInt_le.mp c13_5
        exact hQ _ _ _ _ _ dJ7_fill_fda19_27 L4 ⟨hW, (mFi.tr (mFi.sub mFi.rf hi2 mSub_nil) hI4), (mFr.tr (mFr.tr mFr.rf hp2.1 rfl) hF4 rfl), trivial⟩
      · skip
        replace hW := wfP_i (wfP_r hW) (i_lt (rg_nle c13_5) rfl rfl)
        have ic13_5 := Int32.lt_iff_toInt_lt.mp (rg_nle c13_5)
        have q6 : rg (0) (211) a10_4_3 := (rg_lt (rg_nle c13_5) ra10_4_3 rp3).1
        have uq6 : (0 : Int) ≤ a10_4_3.toInt ∧ a10_4_3.toInt ≤ 211 := q6
        have q7 : rg (1) (212) p3 := (rg_lt (rg_nle c13_5) ra10_4_3 rp3).2
        have uq7 : (1 : Int) ≤ p3.toInt ∧ p3.toInt ≤ 212 := q7
        refine lv_aload_n hx hb dJ7_fill_fda19_16 rfl (lv_at hl 0 rfl) ?_
        refine lv_iload hx hb dJ7_fill_fda19_17 (lv_at hl 3 rfl) ?_
        refine lv_iload_n hx hb dJ7_fill_fda19_19 rfl (lv_at hl 2 rfl) ?_
        refine c_st x L4 19 q1 608 hq1 rfl rfl q6 rfl (rg_any p4) dJ7_fill_fda19_20 (fun g8 H8 k8 eg8 L8 => ?_)
        replace hW := (wfP_i (wfP_a hW g8) eg8)
        obtain ⟨v9, ev9, fv9⟩ := inc_ex a10_4_3 (1) (1 : Int32) (by decide)
        have rv9 : rg (1) (212) v9 := (rg_add ev9 q6 kc_1 rfl).1
        have tv9 := (rg_add ev9 q6 kc_1 rfl).2
        have yv9 : (1 : Int32).toInt = 1 := by decide
        replace hW := (wfP_i (wfP_i (wfP_i (wfP_a hW v9) ev9) rv9) (w_iadd tv9 rfl (rg_i kc_1)))
        refine lv_iinc (v := v9) (lv' := [(4, .int v9), (0, .ref (Z.ad 19 q1)), (2, .int p3), (3, .int p4)]) hx hb dJ7_fill_fda19_21 hl (k := 3) rfl fv9 (by decide) rfl (fun ls hl => ?_)
        refine lv_goto (tgt := 10) hx hb dJ7_fill_fda19_24 (by decide) ?_
        exact ih4 _ (ms_up tv9 kc_1 q6 rfl rfl) v9 g8 _ _ ls (mFr.upE hF4 eg8 rfl) L8 (rg_w rv9 rfl) (mFi.up hI4 eg8 (mIn_at 0 rfl (Or.inr (mIx q6 rfl)))) hW (lv_sub hl [1, 2, 3, 0] rfl) rfl
  exact j10_4 _ p2 g2 _ _ ls mFr.rf L2 (rg_w rp2 rfl) mFi.rf hW (lv_sub hl [1, 3, 4, 0] rfl) rfl
theorem d_kfill_19 (l : Launch) {G : cG} {Z : cZ} (X : Int) (g : mSt) (q1 : Nat) (p2 : Int32) (p3 : Int32) (p4 : Int32) (hX : 0 ≤ X ∧ X ≤ 2000000000) (hq1 : Z.al 19 q1) (rp2 : rg (0) (212) p2) (rp3 : rg (0) (212) p3) (h1 : p2.toInt ≤ p3.toInt) {Φ : Int32 → mSt → Prop} (hW : wfP (wp_kfill_19 Z q1 p2 p3 p4 g Φ)) : Met l yJ7_fill_fda19 (wk (Cond.code yJ7_fill_fda19 cJ7_fill_fda19 5 none)) rm_kfill_19 (va_Pc [.ref (Z.ad 19 q1), .int p2, .int p3, .int p4] (cPre G Z X g)) (cQv G Z X (fun g1 => wfP (Φ 0 g1) ∧ mFi (im_kfill_19 Z q1 p2 p3 p4) g g1 ∧ (mFr [608] g g1 ∧ True))) 0 0 (cAd Z) := by
  refine Met.ofW (cc := cJ7_fill_fda19) (maxL := 5) (ret := none) (by decide) rfl ?_
  intro p e s m args below meth c s₁ B hml hv
  obtain ⟨rfl, hv⟩ := hv
  have hr := B.returns
  have hlocks := B.notSynchronized
  obtain ⟨x, L⟩ := c_start B rfl (fun w h => wk_in h) hv
  have hl := lv_entry ([.ref (Z.ad 19 q1), .int p2, .int p3, .int p4]) (n := 5) (Nat.le_of_ble_eq_true rfl)
  rw [lg_entry_eq]
  generalize (lg_sl ([.ref (Z.ad 19 q1), .int p2, .int p3, .int p4]) ++ List.replicate (5 - (lg_sl ([.ref (Z.ad 19 q1), .int p2, .int p3, .int p4])).length) Slot.unset).toArray = ls at hl ⊢
  exact v_kfill_19 x hml L hX q1 p2 p3 p4 hq1 rp2 rp3 h1 hW hl (fun pc' ls' g1 H1 locs1 hdg L hp => c_vret x L hr hlocks (Int.le_refl _) hp hdg)

def im_kfill_24 (Z : cZ) (q1 : Nat) (p2 : Int32) (p3 : Int32) (p4 : Int32) : List (Nat × Nat × Nat) := [(768, q1, 8192)]
def po_kfill_24 (Z : cZ) (q1 : Nat) (p2 : Int32) (p3 : Int32) (p4 : Int32) (g : mSt) (r : Int32) (g1 : mSt) : Prop := mFi (im_kfill_24 Z q1 p2 p3 p4) g g1 ∧ mFr [768] g g1 ∧ True
def wp_kfill_24 (Z : cZ) (q1 : Nat) (p2 : Int32) (p3 : Int32) (p4 : Int32) (g : mSt) (Φ : Int32 → mSt → Prop) : Prop :=
  wp_krangeCheck Z (240 : Int32) p2 p3 g (fun (_ : Int32) (g2 : mSt) => po_krangeCheck Z (240 : Int32) p2 p3 g 0 g2 → ∃ P4 : Int32 → mSt → Prop, (∀ (a10_4_3 : Int32) (g4 : mSt), mFr [768] g2 g4 → mFi (im_kfill_24 Z q1 p2 p3 p4) g2 g4 → rg (0) (240) a10_4_3 → P4 a10_4_3 g4 → ((p3.toInt ≤ a10_4_3.toInt) → Φ 0 g4) ∧ ((a10_4_3.toInt < p3.toInt) → ∀ (g8 : mSt), g8 = up2 g4 768 (8192 * q1 + a10_4_3.toNatClampNeg) p4 → ∀ (v9 : Int32), v9 = a10_4_3 + (1 : Int32) → rg (1) (240) v9 → v9.toInt = a10_4_3.toInt + 1 → P4 v9 g8)) ∧ P4 p2 g2)
set_option maxHeartbeats 4000000 in
set_option maxRecDepth 100000 in
theorem v_kfill_24 {p : Program} {l : Launch} {e : Env} {s : State} {m : MethodId} {args : Array Value} {below : List Frame} {meth : Method} {c : Code} {H : Heap} {locs : List Loc} {Q : State → Prop} {ls : Array Slot} {G : cG} {Z : cZ} {A : Nat → Prop} {g : mSt} {H0 : Heap} {X : Int} (x : cX p c cJ7_fill_fda19 s args (wk (Cond.code yJ7_fill_fda19 cJ7_fill_fda19 5 none)) m G Z A RJ7 H0) (hml : c.maxLocals = 5) (L : cL G Z A H0 X g H locs) (hX : 0 ≤ X ∧ X ≤ 2000000000) (q1 : Nat) (p2 : Int32) (p3 : Int32) (p4 : Int32) (hq1 : Z.al 24 q1) (rp2 : rg (0) (240) p2) (rp3 : rg (0) (240) p3) (h1 : p2.toInt ≤ p3.toInt) {Φ : Int32 → mSt → Prop} (hW : wfP (wp_kfill_24 Z q1 p2 p3 p4 g Φ)) (hl : lv_has ls 5 [(0, .ref (Z.ad 24 q1)), (1, .int p2), (2, .int p3), (3, .int p4)]) (hQ : ∀ (pc' : Nat) (ls' : Array Slot) (g1 : mSt) (H1 : Heap) (locs1 : List Loc), decode cJ7_fill_fda19 pc' = .ok (.return_, 1) → cL G Z A H0 X g1 H1 locs1 → (wfP (Φ 0 g1) ∧ mFi (im_kfill_24 Z q1 p2 p3 p4) g g1 ∧ (mFr [768] g g1 ∧ True)) → W p l e rm_kfill_24 s m args below meth c H1 locs1 0 0 Q (F0 m pc' ls' [])) : W p l e rm_kfill_24 s m args below meth c H locs 0 0 Q (F0 m 0 ls []) := by
  have hx := x.1
  have hb := x.2.1
  have hz := x.2.2.2.2.2.2.2.1
  have hzn := hz.1
  have up2 : (0 : Int) ≤ p2.toInt ∧ p2.toInt ≤ 240 := rp2
  have up3 : (0 : Int) ≤ p3.toInt ∧ p3.toInt ≤ 240 := rp3
  have up4 : (-2147483648 : Int) ≤ p4.toInt ∧ p4.toInt ≤ 2147483647 := (rg_any p4)
  refine lv_aload_n hx hb dJ7_fill_fda19_0 rfl (lv_at hl 0 rfl) ?_
  refine c_len (n := 240) x L 24 q1 hq1 rfl (by decide) dJ7_fill_fda19_1 ?_
  refine lv_iload_n hx hb dJ7_fill_fda19_2 rfl (lv_at hl 1 rfl) ?_
  refine lv_iload_n hx hb dJ7_fill_fda19_3 rfl (lv_at hl 2 rfl) ?_
  have y1 : (240 : Int32).toInt = 240 := by decide
  refine c_sv (As := [.int (240 : Int32), .int p2, .int p3]) (rest := []) x hml L (d_krangeCheck l X g (240 : Int32) p2 p3 hX (by omega) hW) (wk_T kt_J7_rangeCheck_23922 kl_J7_13 kn_J7 (wk_all kd_J7_rangeCheck_23922)) rfl ⟨rfl, rfl⟩ hd_krangeCheck ⟨Nat.le_of_ble_eq_true rfl, Nat.le_of_ble_eq_true rfl⟩ rfl hl.1 rfl (lv_room (Nat.le_of_ble_eq_true rfl)) dJ7_fill_fda19_4 (fun  g2 H2 k2 hp2 L2 => ?_)
  obtain ⟨hW, hi2, hp2⟩ := hp2
  replace hW := wfP_i hW ⟨hi2, hp2⟩
  refine lv_iload_n hx hb dJ7_fill_fda19_7 rfl (lv_at hl 1 rfl) ?_
  refine lv_istore (lv' := [(4, .int p2), (0, .ref (Z.ad 24 q1)), (1, .int p2), (2, .int p3), (3, .int p4)]) hx hb dJ7_fill_fda19_8 hl (by decide) rfl (fun ls hl => ?_)
  obtain ⟨P4, hP4, hW⟩ := wfP_ex hW
  have j10_4 : ∀ (n : Nat) (a10_4_3 : Int32) (g4 : mSt) (H4 : Heap) (k4 : List Loc) (ls : Array Slot), mFr [768] g2 g4 → cL G Z A H0 X g4 H4 k4 → rg (0) (240) a10_4_3 → mFi (im_kfill_24 Z q1 p2 p3 p4) g2 g4 → wfP (P4 a10_4_3 g4) → lv_has ls 5 [(0, .ref (Z.ad 24 q1)), (2, .int p3), (3, .int p4), (4, .int a10_4_3)] → ((240 : Int) - a10_4_3.toInt).toNat = n → W p l e rm_kfill_24 s m args below meth c H4 k4 0 0 Q (F0 m 10 ls []) := by
    intro n
    induction n using Nat.strongRecOn with
    | _ n ih4 =>
      intro a10_4_3 g4 H4 k4 ls hF4 L4 ra10_4_3 hI4 hW hl hn4
      subst hn4
      replace hW := wfP_i (wfP_i (wfP_i (wfP_i (wfP_a (wfP_a hP4 a10_4_3) g4) hF4) hI4) ra10_4_3) hW
      have ua10_4_3 : (0 : Int) ≤ a10_4_3.toInt ∧ a10_4_3.toInt ≤ 240 := ra10_4_3
      refine lv_iload hx hb dJ7_fill_fda19_10 (lv_at hl 3 rfl) ?_
      refine lv_iload_n hx hb dJ7_fill_fda19_12 rfl (lv_at hl 1 rfl) ?_
      refine lv_icmp_ge (tgt := 27) hx hb dJ7_fill_fda19_13 (by decide) (fun c13_5 => ?_) (fun c13_5 => ?_)
      · skip
        replace hW := wfP_i (wfP_l hW) (i_le c13_5 rfl rfl)
        have ic13_5 := Int32.le_iff_toInt_le.mp c13_5
        exact hQ _ _ _ _ _ dJ7_fill_fda19_27 L4 ⟨hW, (mFi.tr (mFi.sub mFi.rf hi2 mSub_nil) hI4), (mFr.tr (mFr.tr mFr.rf hp2.1 rfl) hF4 rfl), trivial⟩
      · skip
        replace hW := wfP_i (wfP_r hW) (i_lt (rg_nle c13_5) rfl rfl)
        have ic13_5 := Int32.lt_iff_toInt_lt.mp (rg_nle c13_5)
        have q6 : rg (0) (239) a10_4_3 := (rg_lt (rg_nle c13_5) ra10_4_3 rp3).1
        have uq6 : (0 : Int) ≤ a10_4_3.toInt ∧ a10_4_3.toInt ≤ 239 := q6
        have q7 : rg (1) (240) p3 := (rg_lt (rg_nle c13_5) ra10_4_3 rp3).2
        have uq7 : (1 : Int) ≤ p3.toInt ∧ p3.toInt ≤ 240 := q7
        refine lv_aload_n hx hb dJ7_fill_fda19_16 rfl (lv_at hl 0 rfl) ?_
        refine lv_iload hx hb dJ7_fill_fda19_17 (lv_at hl 3 rfl) ?_
        refine lv_iload_n hx hb dJ7_fill_fda19_19 rfl (lv_at hl 2 rfl) ?_
        refine c_st x L4 24 q1 768 hq1 rfl rfl q6 rfl (rg_any p4) dJ7_fill_fda19_20 (fun g8 H8 k8 eg8 L8 => ?_)
        replace hW := (wfP_i (wfP_a hW g8) eg8)
        obtain ⟨v9, ev9, fv9⟩ := inc_ex a10_4_3 (1) (1 : Int32) (by decide)
        have rv9 : rg (1) (240) v9 := (rg_add ev9 q6 kc_1 rfl).1
        have tv9 := (rg_add ev9 q6 kc_1 rfl).2
        have yv9 : (1 : Int32).toInt = 1 := by decide
        replace hW := (wfP_i (wfP_i (wfP_i (wfP_a hW v9) ev9) rv9) (w_iadd tv9 rfl (rg_i kc_1)))
        refine lv_iinc (v := v9) (lv' := [(4, .int v9), (0, .ref (Z.ad 24 q1)), (2, .int p3), (3, .int p4)]) hx hb dJ7_fill_fda19_21 hl (k := 3) rfl fv9 (by decide) rfl (fun ls hl => ?_)
        refine lv_goto (tgt := 10) hx hb dJ7_fill_fda19_24 (by decide) ?_
        exact ih4 _ (ms_up tv9 kc_1 q6 rfl rfl) v9 g8 _ _ ls (mFr.upE hF4 eg8 rfl) L8 (rg_w rv9 rfl) (mFi.up hI4 eg8 (mIn_at 0 rfl (Or.inr (mIx q6 rfl)))) hW (lv_sub hl [1, 2, 3, 0] rfl) rfl
  exact j10_4 _ p2 g2 _ _ ls mFr.rf L2 (rg_w rp2 rfl) mFi.rf hW (lv_sub hl [1, 3, 4, 0] rfl) rfl
theorem d_kfill_24 (l : Launch) {G : cG} {Z : cZ} (X : Int) (g : mSt) (q1 : Nat) (p2 : Int32) (p3 : Int32) (p4 : Int32) (hX : 0 ≤ X ∧ X ≤ 2000000000) (hq1 : Z.al 24 q1) (rp2 : rg (0) (240) p2) (rp3 : rg (0) (240) p3) (h1 : p2.toInt ≤ p3.toInt) {Φ : Int32 → mSt → Prop} (hW : wfP (wp_kfill_24 Z q1 p2 p3 p4 g Φ)) : Met l yJ7_fill_fda19 (wk (Cond.code yJ7_fill_fda19 cJ7_fill_fda19 5 none)) rm_kfill_24 (va_Pc [.ref (Z.ad 24 q1), .int p2, .int p3, .int p4] (cPre G Z X g)) (cQv G Z X (fun g1 => wfP (Φ 0 g1) ∧ mFi (im_kfill_24 Z q1 p2 p3 p4) g g1 ∧ (mFr [768] g g1 ∧ True))) 0 0 (cAd Z) := by
  refine Met.ofW (cc := cJ7_fill_fda19) (maxL := 5) (ret := none) (by decide) rfl ?_
  intro p e s m args below meth c s₁ B hml hv
  obtain ⟨rfl, hv⟩ := hv
  have hr := B.returns
  have hlocks := B.notSynchronized
  obtain ⟨x, L⟩ := c_start B rfl (fun w h => wk_in h) hv
  have hl := lv_entry ([.ref (Z.ad 24 q1), .int p2, .int p3, .int p4]) (n := 5) (Nat.le_of_ble_eq_true rfl)
  rw [lg_entry_eq]
  generalize (lg_sl ([.ref (Z.ad 24 q1), .int p2, .int p3, .int p4]) ++ List.replicate (5 - (lg_sl ([.ref (Z.ad 24 q1), .int p2, .int p3, .int p4])).length) Slot.unset).toArray = ls at hl ⊢
  exact v_kfill_24 x hml L hX q1 p2 p3 p4 hq1 rp2 rp3 h1 hW hl (fun pc' ls' g1 H1 locs1 hdg L hp => c_vret x L hr hlocks (Int.le_refl _) hp hdg)

def im_kfill_35 (Z : cZ) (q1 : Nat) (p2 : Int32) (p3 : Int32) (p4 : Int32) : List (Nat × Nat × Nat) := [(1120, q1, 8192)]
def po_kfill_35 (Z : cZ) (q1 : Nat) (p2 : Int32) (p3 : Int32) (p4 : Int32) (g : mSt) (r : Int32) (g1 : mSt) : Prop := mFi (im_kfill_35 Z q1 p2 p3 p4) g g1 ∧ mFr [1120] g g1 ∧ True
def wp_kfill_35 (Z : cZ) (q1 : Nat) (p2 : Int32) (p3 : Int32) (p4 : Int32) (g : mSt) (Φ : Int32 → mSt → Prop) : Prop :=
  wp_krangeCheck Z (240 : Int32) p2 p3 g (fun (_ : Int32) (g2 : mSt) => po_krangeCheck Z (240 : Int32) p2 p3 g 0 g2 → ∃ P4 : Int32 → mSt → Prop, (∀ (a10_4_3 : Int32) (g4 : mSt), mFr [1120] g2 g4 → mFi (im_kfill_35 Z q1 p2 p3 p4) g2 g4 → rg (0) (240) a10_4_3 → P4 a10_4_3 g4 → ((p3.toInt ≤ a10_4_3.toInt) → Φ 0 g4) ∧ ((a10_4_3.toInt < p3.toInt) → ∀ (g8 : mSt), g8 = up2 g4 1120 (8192 * q1 + a10_4_3.toNatClampNeg) p4 → ∀ (v9 : Int32), v9 = a10_4_3 + (1 : Int32) → rg (1) (240) v9 → v9.toInt = a10_4_3.toInt + 1 → P4 v9 g8)) ∧ P4 p2 g2)
set_option maxHeartbeats 4000000 in
set_option maxRecDepth 100000 in
theorem v_kfill_35 {p : Program} {l : Launch} {e : Env} {s : State} {m : MethodId} {args : Array Value} {below : List Frame} {meth : Method} {c : Code} {H : Heap} {locs : List Loc} {Q : State → Prop} {ls : Array Slot} {G : cG} {Z : cZ} {A : Nat → Prop} {g : mSt} {H0 : Heap} {X : Int} (x : cX p c cJ7_fill_fda19 s args (wk (Cond.code yJ7_fill_fda19 cJ7_fill_fda19 5 none)) m G Z A RJ7 H0) (hml : c.maxLocals = 5) (L : cL G Z A H0 X g H locs) (hX : 0 ≤ X ∧ X ≤ 2000000000) (q1 : Nat) (p2 : Int32) (p3 : Int32) (p4 : Int32) (hq1 : Z.al 35 q1) (rp2 : rg (0) (240) p2) (rp3 : rg (0) (240) p3) (h1 : p2.toInt ≤ p3.toInt) {Φ : Int32 → mSt → Prop} (hW : wfP (wp_kfill_35 Z q1 p2 p3 p4 g Φ)) (hl : lv_has ls 5 [(0, .ref (Z.ad 35 q1)), (1, .int p2), (2, .int p3), (3, .int p4)]) (hQ : ∀ (pc' : Nat) (ls' : Array Slot) (g1 : mSt) (H1 : Heap) (locs1 : List Loc), decode cJ7_fill_fda19 pc' = .ok (.return_, 1) → cL G Z A H0 X g1 H1 locs1 → (wfP (Φ 0 g1) ∧ mFi (im_kfill_35 Z q1 p2 p3 p4) g g1 ∧ (mFr [1120] g g1 ∧ True)) → W p l e rm_kfill_35 s m args below meth c H1 locs1 0 0 Q (F0 m pc' ls' [])) : W p l e rm_kfill_35 s m args below meth c H locs 0 0 Q (F0 m 0 ls []) := by
  have hx := x.1
  have hb := x.2.1
  have hz := x.2.2.2.2.2.2.2.1
  have hzn := hz.1
  have up2 : (0 : Int) ≤ p2.toInt ∧ p2.toInt ≤ 240 := rp2
  have up3 : (0 : Int) ≤ p3.toInt ∧ p3.toInt ≤ 240 := rp3
  have up4 : (-2147483648 : Int) ≤ p4.toInt ∧ p4.toInt ≤ 2147483647 := (rg_any p4)
  refine lv_aload_n hx hb dJ7_fill_fda19_0 rfl (lv_at hl 0 rfl) ?_
  refine c_len (n := 240) x L 35 q1 hq1 rfl (by decide) dJ7_fill_fda19_1 ?_
  refine lv_iload_n hx hb dJ7_fill_fda19_2 rfl (lv_at hl 1 rfl) ?_
  refine lv_iload_n hx hb dJ7_fill_fda19_3 rfl (lv_at hl 2 rfl) ?_
  have y1 : (240 : Int32).toInt = 240 := by decide
  refine c_sv (As := [.int (240 : Int32), .int p2, .int p3]) (rest := []) x hml L (d_krangeCheck l X g (240 : Int32) p2 p3 hX (by omega) hW) (wk_T kt_J7_rangeCheck_23922 kl_J7_13 kn_J7 (wk_all kd_J7_rangeCheck_23922)) rfl ⟨rfl, rfl⟩ hd_krangeCheck ⟨Nat.le_of_ble_eq_true rfl, Nat.le_of_ble_eq_true rfl⟩ rfl hl.1 rfl (lv_room (Nat.le_of_ble_eq_true rfl)) dJ7_fill_fda19_4 (fun  g2 H2 k2 hp2 L2 => ?_)
  obtain ⟨hW, hi2, hp2⟩ := hp2
  replace hW := wfP_i hW ⟨hi2, hp2⟩
  refine lv_iload_n hx hb dJ7_fill_fda19_7 rfl (lv_at hl 1 rfl) ?_
  refine lv_istore (lv' := [(4, .int p2), (0, .ref (Z.ad 35 q1)), (1, .int p2), (2, .int p3), (3, .int p4)]) hx hb dJ7_fill_fda19_8 hl (by decide) rfl (fun ls hl => ?_)
  obtain ⟨P4, hP4, hW⟩ := wfP_ex hW
  have j10_4 : ∀ (n : Nat) (a10_4_3 : Int32) (g4 : mSt) (H4 : Heap) (k4 : List Loc) (ls : Array Slot), mFr [1120] g2 g4 → cL G Z A H0 X g4 H4 k4 → rg (0) (240) a10_4_3 → mFi (im_kfill_35 Z q1 p2 p3 p4) g2 g4 → wfP (P4 a10_4_3 g4) → lv_has ls 5 [(0, .ref (Z.ad 35 q1)), (2, .int p3), (3, .int p4), (4, .int a10_4_3)] → ((240 : Int) - a10_4_3.toInt).toNat = n → W p l e rm_kfill_35 s m args below meth c H4 k4 0 0 Q (F0 m 10 ls []) := by
    intro n
    induction n using Nat.strongRecOn with
    | _ n ih4 =>
      intro a10_4_3 g4 H4 k4 ls hF4 L4 ra10_4_3 hI4 hW hl hn4
      subst hn4
      replace hW := wfP_i (wfP_i (wfP_i (wfP_i (wfP_a (wfP_a hP4 a10_4_3) g4) hF4) hI4) ra10_4_3) hW
      have ua10_4_3 : (0 : Int) ≤ a10_4_3.toInt ∧ a10_4_3.toInt ≤ 240 := ra10_4_3
      refine lv_iload hx hb dJ7_fill_fda19_10 (lv_at hl 3 rfl) ?_
      refine lv_iload_n hx hb dJ7_fill_fda19_12 rfl (lv_at hl 1 rfl) ?_
      refine lv_icmp_ge (tgt := 27) hx hb dJ7_fill_fda19_13 (by decide) (fun c13_5 => ?_) (fun c13_5 => ?_)
      · skip
        replace hW := wfP_i (wfP_l hW) (i_le c13_5 rfl rfl)
        have ic13_5 := Int32.le_iff_toInt_le.mp c13_5
        exact hQ _ _ _ _ _ dJ7_fill_fda19_27 L4 ⟨hW, (mFi.tr (mFi.sub mFi.rf hi2 mSub_nil) hI4), (mFr.tr (mFr.tr mFr.rf hp2.1 rfl) hF4 rfl), trivial⟩
      · skip
        replace hW := wfP_i (wfP_r hW) (i_lt (rg_nle c13_5) rfl rfl)
        have ic13_5 := Int32.lt_iff_toInt_lt.mp (rg_nle c13_5)
        have q6 : rg (0) (239) a10_4_3 := (rg_lt (rg_nle c13_5) ra10_4_3 rp3).1
        have uq6 : (0 : Int) ≤ a10_4_3.toInt ∧ a10_4_3.toInt ≤ 239 := q6
        have q7 : rg (1) (240) p3 := (rg_lt (rg_nle c13_5) ra10_4_3 rp3).2
        have uq7 : (1 : Int) ≤ p3.toInt ∧ p3.toInt ≤ 240 := q7
        refine lv_aload_n hx hb dJ7_fill_fda19_16 rfl (lv_at hl 0 rfl) ?_
        refine lv_iload hx hb dJ7_fill_fda19_17 (lv_at hl 3 rfl) ?_
        refine lv_iload_n hx hb dJ7_fill_fda19_19 rfl (lv_at hl 2 rfl) ?_
        refine c_st x L4 35 q1 1120 hq1 rfl rfl q6 rfl (rg_any p4) dJ7_fill_fda19_20 (fun g8 H8 k8 eg8 L8 => ?_)
        replace hW := (wfP_i (wfP_a hW g8) eg8)
        obtain ⟨v9, ev9, fv9⟩ := inc_ex a10_4_3 (1) (1 : Int32) (by decide)
        have rv9 : rg (1) (240) v9 := (rg_add ev9 q6 kc_1 rfl).1
        have tv9 := (rg_add ev9 q6 kc_1 rfl).2
        have yv9 : (1 : Int32).toInt = 1 := by decide
        replace hW := (wfP_i (wfP_i (wfP_i (wfP_a hW v9) ev9) rv9) (w_iadd tv9 rfl (rg_i kc_1)))
        refine lv_iinc (v := v9) (lv' := [(4, .int v9), (0, .ref (Z.ad 35 q1)), (2, .int p3), (3, .int p4)]) hx hb dJ7_fill_fda19_21 hl (k := 3) rfl fv9 (by decide) rfl (fun ls hl => ?_)
        refine lv_goto (tgt := 10) hx hb dJ7_fill_fda19_24 (by decide) ?_
        exact ih4 _ (ms_up tv9 kc_1 q6 rfl rfl) v9 g8 _ _ ls (mFr.upE hF4 eg8 rfl) L8 (rg_w rv9 rfl) (mFi.up hI4 eg8 (mIn_at 0 rfl (Or.inr (mIx q6 rfl)))) hW (lv_sub hl [1, 2, 3, 0] rfl) rfl
  exact j10_4 _ p2 g2 _ _ ls mFr.rf L2 (rg_w rp2 rfl) mFi.rf hW (lv_sub hl [1, 3, 4, 0] rfl) rfl
theorem d_kfill_35 (l : Launch) {G : cG} {Z : cZ} (X : Int) (g : mSt) (q1 : Nat) (p2 : Int32) (p3 : Int32) (p4 : Int32) (hX : 0 ≤ X ∧ X ≤ 2000000000) (hq1 : Z.al 35 q1) (rp2 : rg (0) (240) p2) (rp3 : rg (0) (240) p3) (h1 : p2.toInt ≤ p3.toInt) {Φ : Int32 → mSt → Prop} (hW : wfP (wp_kfill_35 Z q1 p2 p3 p4 g Φ)) : Met l yJ7_fill_fda19 (wk (Cond.code yJ7_fill_fda19 cJ7_fill_fda19 5 none)) rm_kfill_35 (va_Pc [.ref (Z.ad 35 q1), .int p2, .int p3, .int p4] (cPre G Z X g)) (cQv G Z X (fun g1 => wfP (Φ 0 g1) ∧ mFi (im_kfill_35 Z q1 p2 p3 p4) g g1 ∧ (mFr [1120] g g1 ∧ True))) 0 0 (cAd Z) := by
  refine Met.ofW (cc := cJ7_fill_fda19) (maxL := 5) (ret := none) (by decide) rfl ?_
  intro p e s m args below meth c s₁ B hml hv
  obtain ⟨rfl, hv⟩ := hv
  have hr := B.returns
  have hlocks := B.notSynchronized
  obtain ⟨x, L⟩ := c_start B rfl (fun w h => wk_in h) hv
  have hl := lv_entry ([.ref (Z.ad 35 q1), .int p2, .int p3, .int p4]) (n := 5) (Nat.le_of_ble_eq_true rfl)
  rw [lg_entry_eq]
  generalize (lg_sl ([.ref (Z.ad 35 q1), .int p2, .int p3, .int p4]) ++ List.replicate (5 - (lg_sl ([.ref (Z.ad 35 q1), .int p2, .int p3, .int p4])).length) Slot.unset).toArray = ls at hl ⊢
  exact v_kfill_35 x hml L hX q1 p2 p3 p4 hq1 rp2 rp3 h1 hW hl (fun pc' ls' g1 H1 locs1 hdg L hp => c_vret x L hr hlocks (Int.le_refl _) hp hdg)

def im_kcloseFrame_24 (Z : cZ) (q1 : Nat) (p2 : Int32) : List (Nat × Nat × Nat) := [(768, q1, 8192)]
def po_kcloseFrame_24 (Z : cZ) (q1 : Nat) (p2 : Int32) (g : mSt) (r : Int32) (g1 : mSt) : Prop := mFi (im_kcloseFrame_24 Z q1 p2) g g1 ∧ mFr [768] g g1 ∧ rg (0) (5) r ∧ True
def wp_kcloseFrame_24 (Z : cZ) (q1 : Nat) (p2 : Int32) (g : mSt) (Φ : Int32 → mSt → Prop) : Prop :=
  ((p2.toInt < 1) → Φ (0 : Int32) g) ∧ ((1 ≤ p2.toInt) → ((200 < p2.toInt) → Φ (0 : Int32) g) ∧ ((p2.toInt ≤ 200) → wp_kcellsFor Z p2 g (fun (v9 : Int32) (g8 : mSt) => po_kcellsFor Z p2 g v9 g8 → ∀ (v11 : Int32), v11 = v9 * (48 : Int32) → rg (48) (240) v11 → v11.toInt = v9.toInt * 48 → wp_kfill_24 Z q1 p2 v11 (0 : Int32) g8 (fun (_ : Int32) (g14 : mSt) => po_kfill_24 Z q1 p2 v11 (0 : Int32) g8 0 g14 → ∀ (v15 : Int32), v15 = v11 - (6 : Int32) → rg (42) (234) v15 → v15.toInt = v11.toInt - 6 → ∀ (v17 : Int32), v17 = (p2.toUInt32 >>> ((8 : Int32).toUInt32 &&& Int32.toUInt32 31)).toInt32 → rg (0) (16777215) v17 → ∀ (g18 : mSt), g18 = up2 g14 768 (8192 * q1 + v15.toNatClampNeg) v17 → ∀ (v19 : Int32), v19 = v11 - (5 : Int32) → rg (43) (235) v19 → v19.toInt = v11.toInt - 5 → ∀ (v21 : Int32), v21 = p2 &&& (255 : Int32) → rg (0) (255) v21 → ∀ (g22 : mSt), g22 = up2 g18 768 (8192 * q1 + v19.toNatClampNeg) v21 → ∀ (v23 : Int32), v23 = v11 - (4 : Int32) → rg (44) (236) v23 → v23.toInt = v11.toInt - 4 → wp_kcrcOf_24 Z q1 v23 g22 (fun (v26 : Int32) (g25 : mSt) => po_kcrcOf_24 Z q1 v23 g22 v26 g25 → ∃ P29 : Int32 → Int32 → mSt → Prop, (∀ (a71_4_27 a71_5_28 : Int32) (g29 : mSt), mFr [768] g25 g29 → mFi (im_kcloseFrame_24 Z q1 p2) g25 g29 → rg (-2147483648) (2147483647) a71_4_27 → rg (1) (5) a71_5_28 → P29 a71_4_27 a71_5_28 g29 → ((4 < a71_5_28.toInt) → Φ v9 g29) ∧ ((a71_5_28.toInt ≤ 4) → ∀ (v33 : Int32), v33 = v11 - a71_5_28 → rg (44) (239) v33 → v33.toInt = v11.toInt - a71_5_28.toInt → ∀ (v34 : Int32), v34 = a71_4_27 &&& (255 : Int32) → rg (0) (255) v34 → ∀ (g35 : mSt), g35 = up2 g29 768 (8192 * q1 + v33.toNatClampNeg) v34 → ∀ (v36 : Int32), v36 = (a71_4_27.toUInt32 >>> ((8 : Int32).toUInt32 &&& Int32.toUInt32 31)).toInt32 → rg (0) (16777215) v36 → ∀ (v37 : Int32), v37 = a71_5_28 + (1 : Int32) → rg (2) (5) v37 → v37.toInt = a71_5_28.toInt + 1 → P29 v36 v37 g35)) ∧ P29 v26 (1 : Int32) g25)))))
set_option maxHeartbeats 4000000 in
set_option maxRecDepth 100000 in
theorem v_kcloseFrame_24 {p : Program} {l : Launch} {e : Env} {s : State} {m : MethodId} {args : Array Value} {below : List Frame} {meth : Method} {c : Code} {H : Heap} {locs : List Loc} {Q : State → Prop} {ls : Array Slot} {G : cG} {Z : cZ} {A : Nat → Prop} {g : mSt} {H0 : Heap} {X : Int} (x : cX p c cX11_closeFrame s args (wk (Cond.code yX11_closeFrame cX11_closeFrame 6 (some .int))) m G Z A RX11 H0) (hml : c.maxLocals = 6) (L : cL G Z A H0 X g H locs) (hX : 0 ≤ X ∧ X ≤ 2000000000) (q1 : Nat) (p2 : Int32) (hq1 : Z.al 24 q1) {Φ : Int32 → mSt → Prop} (hW : wfP (wp_kcloseFrame_24 Z q1 p2 g Φ)) (hl : lv_has ls 6 [(0, .ref (Z.ad 24 q1)), (1, .int p2)]) (hQ : ∀ (pc' : Nat) (ls' : Array Slot) (r : Int32) (g1 : mSt) (H1 : Heap) (locs1 : List Loc), decode cX11_closeFrame pc' = .ok (.ireturn, 1) → cL G Z A H0 X g1 H1 locs1 → (wfP (Φ r g1) ∧ mFi (im_kcloseFrame_24 Z q1 p2) g g1 ∧ (mFr [768] g g1 ∧ rg (0) (5) r ∧ True)) → W p l e rm_kcloseFrame_24 s m args below meth c H1 locs1 0 0 Q (F0 m pc' ls' [.int r])) : W p l e rm_kcloseFrame_24 s m args below meth c H locs 0 0 Q (F0 m 0 ls []) := by
  have hx := x.1
  have hb := x.2.1
  have hz := x.2.2.2.2.2.2.2.1
  have hzn := hz.1
  have up2 : (-2147483648 : Int) ≤ p2.toInt ∧ p2.toInt ≤ 2147483647 := (rg_any p2)
  refine lv_iload_n hx hb dX11_closeFrame_0 rfl (lv_at hl 1 rfl) ?_
  refine lv_iconst (v := 1) hx hb dX11_closeFrame_1 (by decide) ?_
  refine lv_icmp_lt (tgt := 20) hx hb dX11_closeFrame_2 (by decide) (fun c2_1 => ?_) (fun c2_1 => ?_)
  · skip
    replace hW := wfP_i (wfP_l hW) (i_lt c2_1 rfl (rg_i kc_1))
    have ic2_1 := Int32.lt_iff_toInt_lt.mp c2_1
    have q2 : rg (-2147483648) (0) p2 := (rg_lt c2_1 (rg_any p2) kc_1).1
    have uq2 : (-2147483648 : Int) ≤ p2.toInt ∧ p2.toInt ≤ 0 := q2
    refine lv_iconst (v := 0) hx hb dX11_closeFrame_20 (by decide) ?_
    exact hQ _ _ (0 : Int32) _ _ _ dX11_closeFrame_21 L ⟨hW, mFi.rf, mFr.rf, rg_w kc_0 rfl, trivial⟩
  · skip
    replace hW := wfP_i (wfP_r hW) (i_le (rg_nlt c2_1) (rg_i kc_1) rfl)
    have ic2_1 := Int32.le_iff_toInt_le.mp (rg_nlt c2_1)
    have q3 : rg (1) (2147483647) p2 := (rg_le (rg_nlt c2_1) kc_1 (rg_any p2)).2
    have uq3 : (1 : Int) ≤ p2.toInt ∧ p2.toInt ≤ 2147483647 := q3
    refine lv_iload_n hx hb dX11_closeFrame_5 rfl (lv_at hl 1 rfl) ?_
    refine lv_sipush (v := 200) hx hb dX11_closeFrame_6 (by decide) ?_
    refine lv_icmp_gt (tgt := 20) hx hb dX11_closeFrame_9 (by decide) (fun c9_4 => ?_) (fun c9_4 => ?_)
    · skip
      replace hW := wfP_i (wfP_l hW) (i_lt c9_4 (rg_i kc_200) rfl)
      have ic9_4 := Int32.lt_iff_toInt_lt.mp c9_4
      have q5 : rg (201) (2147483647) p2 := (rg_lt c9_4 kc_200 q3).2
      have uq5 : (201 : Int) ≤ p2.toInt ∧ p2.toInt ≤ 2147483647 := q5
      refine lv_iconst (v := 0) hx hb dX11_closeFrame_20 (by decide) ?_
      exact hQ _ _ (0 : Int32) _ _ _ dX11_closeFrame_21 L ⟨hW, mFi.rf, mFr.rf, rg_w kc_0 rfl, trivial⟩
    · skip
      replace hW := wfP_i (wfP_r hW) (i_le (rg_nlt c9_4) rfl (rg_i kc_200))
      have ic9_4 := Int32.le_iff_toInt_le.mp (rg_nlt c9_4)
      have q6 : rg (1) (200) p2 := (rg_le (rg_nlt c9_4) q3 kc_200).1
      have uq6 : (1 : Int) ≤ p2.toInt ∧ p2.toInt ≤ 200 := q6
      refine lv_aload_n hx hb dX11_closeFrame_12 rfl (lv_at hl 0 rfl) ?_
      refine c_len (n := 240) x L 24 q1 hq1 rfl (by decide) dX11_closeFrame_13 ?_
      refine lv_sipush (v := 240) hx hb dX11_closeFrame_14 (by decide) ?_
      refine lv_icmp_ge (tgt := 22) hx hb dX11_closeFrame_17 (by decide) (fun c17_7 => ?_) (fun c17_7 => ?_)
      · skip
        refine lv_iload_n hx hb dX11_closeFrame_22 rfl (lv_at hl 1 rfl) ?_
        refine c_si (As := [.int p2]) (rest := []) x hml L (d_kcellsFor l X g p2 hX (rg_w q6 rfl) hW) (wk_T kt_X11_cellsFor kl_X11_361 kn_X11 (wk_all kd_X11_cellsFor)) rfl ⟨rfl, rfl⟩ hd_kcellsFor ⟨Nat.le_of_ble_eq_true rfl, Nat.le_of_ble_eq_true rfl⟩ rfl hl.1 rfl (lv_room (Nat.le_of_ble_eq_true rfl)) dX11_closeFrame_23 (fun v9 g8 H8 k8 hp8 L8 => ?_)
        obtain ⟨hW, hi8, hp8⟩ := hp8
        replace hW := wfP_i hW ⟨hi8, hp8⟩
        have rv9 : rg (1) (5) v9 := hp8.2.1
        have uv9 : (1 : Int) ≤ v9.toInt ∧ v9.toInt ≤ 5 := rv9
        have hw10 := hp8.2.2
        refine lv_istore_n (lv' := [(2, .int v9), (0, .ref (Z.ad 24 q1)), (1, .int p2)]) hx hb dX11_closeFrame_26 rfl hl (by decide) rfl (fun ls hl => ?_)
        refine lv_iload_n hx hb dX11_closeFrame_27 rfl (lv_at hl 0 rfl) ?_
        refine lv_bipush (v := 48) hx hb dX11_closeFrame_28 (by decide) ?_
        refine lv_imul hx hb dX11_closeFrame_30 ?_
        refine lv_topi (fun v11 ev11 => ?_)
        have rv11 : rg (48) (240) v11 := (rg_mul ev11 rv9 kc_48 rfl).1
        replace hW := (wfP_i (wfP_i (wfP_i (wfP_a hW v11) ev11) rv11) ((rg_mul ev11 rv9 kc_48 rfl).2))
        have tv11 := (rg_mul ev11 rv9 kc_48 rfl).2
        have y12 : (48 : Int32).toInt = 48 := by decide
        have uv11 : (48 : Int) ≤ v11.toInt ∧ v11.toInt ≤ 240 := rv11
        refine lv_istore_n (lv' := [(3, .int v11), (2, .int v9), (0, .ref (Z.ad 24 q1)), (1, .int p2)]) hx hb dX11_closeFrame_31 rfl hl (by decide) rfl (fun ls hl => ?_)
        refine lv_aload_n hx hb dX11_closeFrame_32 rfl (lv_at hl 2 rfl) ?_
        refine lv_iload_n hx hb dX11_closeFrame_33 rfl (lv_at hl 3 rfl) ?_
        refine lv_iload_n hx hb dX11_closeFrame_34 rfl (lv_at hl 0 rfl) ?_
        refine lv_iconst (v := 0) hx hb dX11_closeFrame_35 (by decide) ?_
        have y13 : (0 : Int32).toInt = 0 := by decide
        refine c_sv (As := [.ref (Z.ad 24 q1), .int p2, .int v11, .int (0 : Int32)]) (rest := []) x hml L8 (d_kfill_24 l X g8 q1 p2 v11 (0 : Int32) hX hq1 (rg_w q6 rfl) (rg_w rv11 rfl) (by omega) hW) (wk_T kt_J7_fill_fda19 kl_X11_364 kn_J7 (wk_all kd_J7_fill_fda19)) rfl ⟨rfl, rfl⟩ hd_kfill_24 ⟨Nat.le_of_ble_eq_true rfl, Nat.le_of_ble_eq_true rfl⟩ rfl hl.1 rfl (lv_room (Nat.le_of_ble_eq_true rfl)) dX11_closeFrame_36 (fun  g14 H14 k14 hp14 L14 => ?_)
        obtain ⟨hW, hi14, hp14⟩ := hp14
        replace hW := wfP_i hW ⟨hi14, hp14⟩
        refine lv_aload_n hx hb dX11_closeFrame_39 rfl (lv_at hl 2 rfl) ?_
        refine lv_iload_n hx hb dX11_closeFrame_40 rfl (lv_at hl 0 rfl) ?_
        refine lv_bipush (v := 6) hx hb dX11_closeFrame_41 (by decide) ?_
        refine lv_isub hx hb dX11_closeFrame_43 ?_
        refine lv_topi (fun v15 ev15 => ?_)
        have rv15 : rg (42) (234) v15 := (rg_sub ev15 rv11 kc_6 rfl).1
        replace hW := (wfP_i (wfP_i (wfP_i (wfP_a hW v15) ev15) rv15) (w_isub ((rg_sub ev15 rv11 kc_6 rfl).2) rfl (rg_i kc_6)))
        have tv15 := (rg_sub ev15 rv11 kc_6 rfl).2
        have y16 : (6 : Int32).toInt = 6 := by decide
        have uv15 : (42 : Int) ≤ v15.toInt ∧ v15.toInt ≤ 234 := rv15
        refine lv_iload_n hx hb dX11_closeFrame_44 rfl (lv_at hl 3 rfl) ?_
        refine lv_bipush (v := 8) hx hb dX11_closeFrame_45 (by decide) ?_
        refine lv_iushr hx hb dX11_closeFrame_47 rfl ?_
        refine lv_topi (fun v17 ev17 => ?_)
        have rv17 : rg (0) (16777215) v17 := rg_ush ev17 8 rfl
        replace hW := (wfP_i (wfP_i (wfP_a hW v17) ev17) rv17)
        have uv17 : (0 : Int) ≤ v17.toInt ∧ v17.toInt ≤ 16777215 := rv17
        refine c_st x L14 24 q1 768 hq1 rfl rfl rv15 rfl (rg_any v17) dX11_closeFrame_48 (fun g18 H18 k18 eg18 L18 => ?_)
        replace hW := (wfP_i (wfP_a hW g18) eg18)
        refine lv_aload_n hx hb dX11_closeFrame_49 rfl (lv_at hl 2 rfl) ?_
        refine lv_iload_n hx hb dX11_closeFrame_50 rfl (lv_at hl 0 rfl) ?_
        refine lv_iconst (v := 5) hx hb dX11_closeFrame_51 (by decide) ?_
        refine lv_isub hx hb dX11_closeFrame_52 ?_
        refine lv_topi (fun v19 ev19 => ?_)
        have rv19 : rg (43) (235) v19 := (rg_sub ev19 rv11 kc_5 rfl).1
        replace hW := (wfP_i (wfP_i (wfP_i (wfP_a hW v19) ev19) rv19) (w_isub ((rg_sub ev19 rv11 kc_5 rfl).2) rfl (rg_i kc_5)))
        have tv19 := (rg_sub ev19 rv11 kc_5 rfl).2
        have y20 : (5 : Int32).toInt = 5 := by decide
        have uv19 : (43 : Int) ≤ v19.toInt ∧ v19.toInt ≤ 235 := rv19
        refine lv_iload_n hx hb dX11_closeFrame_53 rfl (lv_at hl 3 rfl) ?_
        refine lv_sipush (v := 255) hx hb dX11_closeFrame_54 (by decide) ?_
        refine lv_iand hx hb dX11_closeFrame_57 ?_
        refine lv_topi (fun v21 ev21 => ?_)
        have rv21 : rg (0) (255) v21 := rg_and ev21 8 255 (by decide) rfl
        replace hW := (wfP_i (wfP_i (wfP_a hW v21) ev21) rv21)
        have uv21 : (0 : Int) ≤ v21.toInt ∧ v21.toInt ≤ 255 := rv21
        refine c_st x L18 24 q1 768 hq1 rfl rfl rv19 rfl (rg_any v21) dX11_closeFrame_58 (fun g22 H22 k22 eg22 L22 => ?_)
        replace hW := (wfP_i (wfP_a hW g22) eg22)
        refine lv_aload_n hx hb dX11_closeFrame_59 rfl (lv_at hl 2 rfl) ?_
        refine lv_iload_n hx hb dX11_closeFrame_60 rfl (lv_at hl 0 rfl) ?_
        refine lv_iconst (v := 4) hx hb dX11_closeFrame_61 (by decide) ?_
        refine lv_isub hx hb dX11_closeFrame_62 ?_
        refine lv_topi (fun v23 ev23 => ?_)
        have rv23 : rg (44) (236) v23 := (rg_sub ev23 rv11 kc_4 rfl).1
        replace hW := (wfP_i (wfP_i (wfP_i (wfP_a hW v23) ev23) rv23) (w_isub ((rg_sub ev23 rv11 kc_4 rfl).2) rfl (rg_i kc_4)))
        have tv23 := (rg_sub ev23 rv11 kc_4 rfl).2
        have y24 : (4 : Int32).toInt = 4 := by decide
        have uv23 : (44 : Int) ≤ v23.toInt ∧ v23.toInt ≤ 236 := rv23
        refine c_si (As := [.ref (Z.ad 24 q1), .int v23]) (rest := []) x hml L22 (d_kcrcOf_24 l X g22 q1 v23 hX hq1 hW) (wk_T kt_X11_crcOf kl_X11_346 kn_X11 (wk_all kd_X11_crcOf)) rfl ⟨rfl, rfl⟩ hd_kcrcOf_24 ⟨Nat.le_of_ble_eq_true rfl, Nat.le_of_ble_eq_true rfl⟩ rfl hl.1 rfl (lv_room (Nat.le_of_ble_eq_true rfl)) dX11_closeFrame_63 (fun v26 g25 H25 k25 hp25 L25 => ?_)
        obtain ⟨hW, hi25, hp25⟩ := hp25
        replace hW := wfP_i hW ⟨hi25, hp25⟩
        have rv26 : rg (-2147483648) (2147483647) v26 := hp25.2.1
        have uv26 : (-2147483648 : Int) ≤ v26.toInt ∧ v26.toInt ≤ 2147483647 := rv26
        refine lv_istore (lv' := [(4, .int v26), (3, .int v11), (2, .int v9), (0, .ref (Z.ad 24 q1)), (1, .int p2)]) hx hb dX11_closeFrame_66 hl (by decide) rfl (fun ls hl => ?_)
        refine lv_iconst (v := 1) hx hb dX11_closeFrame_68 (by decide) ?_
        refine lv_istore (lv' := [(5, .int (1 : Int32)), (4, .int v26), (3, .int v11), (2, .int v9), (0, .ref (Z.ad 24 q1)), (1, .int p2)]) hx hb dX11_closeFrame_69 hl (by decide) rfl (fun ls hl => ?_)
        obtain ⟨P29, hP29, hW⟩ := wfP_ex hW
        have j71_29 : ∀ (n : Nat) (a71_4_27 a71_5_28 : Int32) (g29 : mSt) (H29 : Heap) (k29 : List Loc) (ls : Array Slot), mFr [768] g25 g29 → cL G Z A H0 X g29 H29 k29 → rg (-2147483648) (2147483647) a71_4_27 → rg (1) (5) a71_5_28 → mFi (im_kcloseFrame_24 Z q1 p2) g25 g29 → wfP (P29 a71_4_27 a71_5_28 g29) → lv_has ls 6 [(0, .ref (Z.ad 24 q1)), (2, .int v9), (3, .int v11), (4, .int a71_4_27), (5, .int a71_5_28)] → ((5 : Int) - a71_5_28.toInt).toNat = n → W p l e rm_kcloseFrame_24 s m args below meth c H29 k29 0 0 Q (F0 m 71 ls []) := by
          intro n
          induction n using Nat.strongRecOn with
          | _ n ih29 =>
            intro a71_4_27 a71_5_28 g29 H29 k29 ls hF29 L29 ra71_4_27 ra71_5_28 hI29 hW hl hn29
            subst hn29
            replace hW := wfP_i (wfP_i (wfP_i (wfP_i (wfP_i (wfP_a (wfP_a (wfP_a hP29 a71_4_27) a71_5_28) g29) hF29) hI29) ra71_4_27) ra71_5_28) hW
            have ua71_4_27 : (-2147483648 : Int) ≤ a71_4_27.toInt ∧ a71_4_27.toInt ≤ 2147483647 := ra71_4_27
            have ua71_5_28 : (1 : Int) ≤ a71_5_28.toInt ∧ a71_5_28.toInt ≤ 5 := ra71_5_28
            refine lv_iload hx hb dX11_closeFrame_71 (lv_at hl 4 rfl) ?_
            refine lv_iconst (v := 4) hx hb dX11_closeFrame_73 (by decide) ?_
            refine lv_icmp_gt (tgt := 102) hx hb dX11_closeFrame_74 (by decide) (fun c74_30 => ?_) (fun c74_30 => ?_)
            · skip
              replace hW := wfP_i (wfP_l hW) (i_lt c74_30 (rg_i kc_4) rfl)
              have ic74_30 := Int32.lt_iff_toInt_lt.mp c74_30
              have q31 : rg (5) (5) a71_5_28 := (rg_lt c74_30 kc_4 ra71_5_28).2
              have uq31 : (5 : Int) ≤ a71_5_28.toInt ∧ a71_5_28.toInt ≤ 5 := q31
              refine lv_iload_n hx hb dX11_closeFrame_102 rfl (lv_at hl 1 rfl) ?_
              exact hQ _ _ v9 _ _ _ dX11_closeFrame_103 L29 ⟨hW, (mFi.tr (mFi.sub (mFi.up (mFi.up (mFi.sub (mFi.sub mFi.rf hi8 mSub_nil) hi14 (mSub_eq 0 rfl mSub_nil)) eg18 (mIn_at 0 rfl (Or.inr (mIx rv15 rfl)))) eg22 (mIn_at 0 rfl (Or.inr (mIx rv19 rfl)))) hi25 mSub_nil) hI29), (mFr.tr (mFr.tr (mFr.upE (mFr.upE (mFr.tr (mFr.tr mFr.rf hp8.1 rfl) hp14.1 rfl) eg18 rfl) eg22 rfl) hp25.1 rfl) hF29 rfl), rg_w rv9 rfl, trivial⟩
            · skip
              replace hW := wfP_i (wfP_r hW) (i_le (rg_nlt c74_30) rfl (rg_i kc_4))
              have ic74_30 := Int32.le_iff_toInt_le.mp (rg_nlt c74_30)
              have q32 : rg (1) (4) a71_5_28 := (rg_le (rg_nlt c74_30) ra71_5_28 kc_4).1
              have uq32 : (1 : Int) ≤ a71_5_28.toInt ∧ a71_5_28.toInt ≤ 4 := q32
              refine lv_aload_n hx hb dX11_closeFrame_77 rfl (lv_at hl 0 rfl) ?_
              refine lv_iload_n hx hb dX11_closeFrame_78 rfl (lv_at hl 2 rfl) ?_
              refine lv_iload hx hb dX11_closeFrame_79 (lv_at hl 4 rfl) ?_
              refine lv_isub hx hb dX11_closeFrame_81 ?_
              refine lv_topi (fun v33 ev33 => ?_)
              have rv33 : rg (44) (239) v33 := (rg_sub ev33 rv11 q32 rfl).1
              replace hW := (wfP_i (wfP_i (wfP_i (wfP_a hW v33) ev33) rv33) (w_isub ((rg_sub ev33 rv11 q32 rfl).2) rfl rfl))
              have tv33 := (rg_sub ev33 rv11 q32 rfl).2
              have uv33 : (44 : Int) ≤ v33.toInt ∧ v33.toInt ≤ 239 := rv33
              refine lv_iload hx hb dX11_closeFrame_82 (lv_at hl 3 rfl) ?_
              refine lv_sipush (v := 255) hx hb dX11_closeFrame_84 (by decide) ?_
              refine lv_iand hx hb dX11_closeFrame_87 ?_
              refine lv_topi (fun v34 ev34 => ?_)
              have rv34 : rg (0) (255) v34 := rg_and ev34 8 255 (by decide) rfl
              replace hW := (wfP_i (wfP_i (wfP_a hW v34) ev34) rv34)
              have uv34 : (0 : Int) ≤ v34.toInt ∧ v34.toInt ≤ 255 := rv34
              refine c_st x L29 24 q1 768 hq1 rfl rfl rv33 rfl (rg_any v34) dX11_closeFrame_88 (fun g35 H35 k35 eg35 L35 => ?_)
              replace hW := (wfP_i (wfP_a hW g35) eg35)
              refine lv_iload hx hb dX11_closeFrame_89 (lv_at hl 3 rfl) ?_
              refine lv_bipush (v := 8) hx hb dX11_closeFrame_91 (by decide) ?_
              refine lv_iushr hx hb dX11_closeFrame_93 rfl ?_
              refine lv_topi (fun v36 ev36 => ?_)
              have rv36 : rg (0) (16777215) v36 := rg_ush ev36 8 rfl
              replace hW := (wfP_i (wfP_i (wfP_a hW v36) ev36) rv36)
              have uv36 : (0 : Int) ≤ v36.toInt ∧ v36.toInt ≤ 16777215 := rv36
              refine lv_istore (lv' := [(4, .int v36), (0, .ref (Z.ad 24 q1)), (2, .int v9), (3, .int v11), (5, .int a71_5_28)]) hx hb dX11_closeFrame_94 hl (by decide) rfl (fun ls hl => ?_)
              obtain ⟨v37, ev37, fv37⟩ := inc_ex a71_5_28 (1) (1 : Int32) (by decide)
              have rv37 : rg (2) (5) v37 := (rg_add ev37 q32 kc_1 rfl).1
              have tv37 := (rg_add ev37 q32 kc_1 rfl).2
              have yv37 : (1 : Int32).toInt = 1 := by decide
              replace hW := (wfP_i (wfP_i (wfP_i (wfP_a hW v37) ev37) rv37) (w_iadd tv37 rfl (rg_i kc_1)))
              refine lv_iinc (v := v37) (lv' := [(5, .int v37), (4, .int v36), (0, .ref (Z.ad 24 q1)), (2, .int v9), (3, .int v11)]) hx hb dX11_closeFrame_96 hl (k := 4) rfl fv37 (by decide) rfl (fun ls hl => ?_)
              refine lv_goto (tgt := 71) hx hb dX11_closeFrame_99 (by decide) ?_
              exact ih29 _ (ms_up tv37 kc_1 q32 rfl rfl) v36 v37 g35 _ _ ls (mFr.upE hF29 eg35 rfl) L35 (rg_w rv36 rfl) (rg_w rv37 rfl) (mFi.up hI29 eg35 (mIn_at 0 rfl (Or.inr (mIx rv33 rfl)))) hW (lv_sub hl [2, 3, 4, 1, 0] rfl) rfl
        have y38 : (1 : Int32).toInt = 1 := by decide
        exact j71_29 _ v26 (1 : Int32) g25 _ _ ls mFr.rf L25 (rg_w rv26 rfl) (rg_w kc_1 rfl) mFi.rf hW (lv_sub hl [4, 3, 2, 1, 0] rfl) rfl
      · skip
        exact absurd c17_7 (by decide)
theorem d_kcloseFrame_24 (l : Launch) {G : cG} {Z : cZ} (X : Int) (g : mSt) (q1 : Nat) (p2 : Int32) (hX : 0 ≤ X ∧ X ≤ 2000000000) (hq1 : Z.al 24 q1) {Φ : Int32 → mSt → Prop} (hW : wfP (wp_kcloseFrame_24 Z q1 p2 g Φ)) : Met l yX11_closeFrame (wk (Cond.code yX11_closeFrame cX11_closeFrame 6 (some .int))) rm_kcloseFrame_24 (va_Pc [.ref (Z.ad 24 q1), .int p2] (cPre G Z X g)) (cQi G Z X (fun r g1 => wfP (Φ r g1) ∧ mFi (im_kcloseFrame_24 Z q1 p2) g g1 ∧ (mFr [768] g g1 ∧ rg (0) (5) r ∧ True))) 0 0 (cAd Z) := by
  refine Met.ofW (cc := cX11_closeFrame) (maxL := 6) (ret := (some .int)) (by decide) rfl ?_
  intro p e s m args below meth c s₁ B hml hv
  obtain ⟨rfl, hv⟩ := hv
  have hr := B.returns
  have hlocks := B.notSynchronized
  obtain ⟨x, L⟩ := c_start B rfl (fun w h => wk_in h) hv
  have hl := lv_entry ([.ref (Z.ad 24 q1), .int p2]) (n := 6) (Nat.le_of_ble_eq_true rfl)
  rw [lg_entry_eq]
  generalize (lg_sl ([.ref (Z.ad 24 q1), .int p2]) ++ List.replicate (6 - (lg_sl ([.ref (Z.ad 24 q1), .int p2])).length) Slot.unset).toArray = ls at hl ⊢
  exact v_kcloseFrame_24 x hml L hX q1 p2 hq1 hW hl (fun pc' ls' r g1 H1 locs1 hdg L hp => c_iret x L hr hlocks (Int.le_refl _) hp hdg)

def im_kcloseFrame_35 (Z : cZ) (q1 : Nat) (p2 : Int32) : List (Nat × Nat × Nat) := [(1120, q1, 8192)]
def po_kcloseFrame_35 (Z : cZ) (q1 : Nat) (p2 : Int32) (g : mSt) (r : Int32) (g1 : mSt) : Prop := mFi (im_kcloseFrame_35 Z q1 p2) g g1 ∧ mFr [1120] g g1 ∧ rg (0) (5) r ∧ True
def wp_kcloseFrame_35 (Z : cZ) (q1 : Nat) (p2 : Int32) (g : mSt) (Φ : Int32 → mSt → Prop) : Prop :=
  ((p2.toInt < 1) → Φ (0 : Int32) g) ∧ ((1 ≤ p2.toInt) → ((200 < p2.toInt) → Φ (0 : Int32) g) ∧ ((p2.toInt ≤ 200) → wp_kcellsFor Z p2 g (fun (v9 : Int32) (g8 : mSt) => po_kcellsFor Z p2 g v9 g8 → ∀ (v11 : Int32), v11 = v9 * (48 : Int32) → rg (48) (240) v11 → v11.toInt = v9.toInt * 48 → wp_kfill_35 Z q1 p2 v11 (0 : Int32) g8 (fun (_ : Int32) (g14 : mSt) => po_kfill_35 Z q1 p2 v11 (0 : Int32) g8 0 g14 → ∀ (v15 : Int32), v15 = v11 - (6 : Int32) → rg (42) (234) v15 → v15.toInt = v11.toInt - 6 → ∀ (v17 : Int32), v17 = (p2.toUInt32 >>> ((8 : Int32).toUInt32 &&& Int32.toUInt32 31)).toInt32 → rg (0) (16777215) v17 → ∀ (g18 : mSt), g18 = up2 g14 1120 (8192 * q1 + v15.toNatClampNeg) v17 → ∀ (v19 : Int32), v19 = v11 - (5 : Int32) → rg (43) (235) v19 → v19.toInt = v11.toInt - 5 → ∀ (v21 : Int32), v21 = p2 &&& (255 : Int32) → rg (0) (255) v21 → ∀ (g22 : mSt), g22 = up2 g18 1120 (8192 * q1 + v19.toNatClampNeg) v21 → ∀ (v23 : Int32), v23 = v11 - (4 : Int32) → rg (44) (236) v23 → v23.toInt = v11.toInt - 4 → wp_kcrcOf_35 Z q1 v23 g22 (fun (v26 : Int32) (g25 : mSt) => po_kcrcOf_35 Z q1 v23 g22 v26 g25 → ∃ P29 : Int32 → Int32 → mSt → Prop, (∀ (a71_4_27 a71_5_28 : Int32) (g29 : mSt), mFr [1120] g25 g29 → mFi (im_kcloseFrame_35 Z q1 p2) g25 g29 → rg (-2147483648) (2147483647) a71_4_27 → rg (1) (5) a71_5_28 → P29 a71_4_27 a71_5_28 g29 → ((4 < a71_5_28.toInt) → Φ v9 g29) ∧ ((a71_5_28.toInt ≤ 4) → ∀ (v33 : Int32), v33 = v11 - a71_5_28 → rg (44) (239) v33 → v33.toInt = v11.toInt - a71_5_28.toInt → ∀ (v34 : Int32), v34 = a71_4_27 &&& (255 : Int32) → rg (0) (255) v34 → ∀ (g35 : mSt), g35 = up2 g29 1120 (8192 * q1 + v33.toNatClampNeg) v34 → ∀ (v36 : Int32), v36 = (a71_4_27.toUInt32 >>> ((8 : Int32).toUInt32 &&& Int32.toUInt32 31)).toInt32 → rg (0) (16777215) v36 → ∀ (v37 : Int32), v37 = a71_5_28 + (1 : Int32) → rg (2) (5) v37 → v37.toInt = a71_5_28.toInt + 1 → P29 v36 v37 g35)) ∧ P29 v26 (1 : Int32) g25)))))
set_option maxHeartbeats 4000000 in
set_option maxRecDepth 100000 in
theorem v_kcloseFrame_35 {p : Program} {l : Launch} {e : Env} {s : State} {m : MethodId} {args : Array Value} {below : List Frame} {meth : Method} {c : Code} {H : Heap} {locs : List Loc} {Q : State → Prop} {ls : Array Slot} {G : cG} {Z : cZ} {A : Nat → Prop} {g : mSt} {H0 : Heap} {X : Int} (x : cX p c cX11_closeFrame s args (wk (Cond.code yX11_closeFrame cX11_closeFrame 6 (some .int))) m G Z A RX11 H0) (hml : c.maxLocals = 6) (L : cL G Z A H0 X g H locs) (hX : 0 ≤ X ∧ X ≤ 2000000000) (q1 : Nat) (p2 : Int32) (hq1 : Z.al 35 q1) {Φ : Int32 → mSt → Prop} (hW : wfP (wp_kcloseFrame_35 Z q1 p2 g Φ)) (hl : lv_has ls 6 [(0, .ref (Z.ad 35 q1)), (1, .int p2)]) (hQ : ∀ (pc' : Nat) (ls' : Array Slot) (r : Int32) (g1 : mSt) (H1 : Heap) (locs1 : List Loc), decode cX11_closeFrame pc' = .ok (.ireturn, 1) → cL G Z A H0 X g1 H1 locs1 → (wfP (Φ r g1) ∧ mFi (im_kcloseFrame_35 Z q1 p2) g g1 ∧ (mFr [1120] g g1 ∧ rg (0) (5) r ∧ True)) → W p l e rm_kcloseFrame_35 s m args below meth c H1 locs1 0 0 Q (F0 m pc' ls' [.int r])) : W p l e rm_kcloseFrame_35 s m args below meth c H locs 0 0 Q (F0 m 0 ls []) := by
  have hx := x.1
  have hb := x.2.1
  have hz := x.2.2.2.2.2.2.2.1
  have hzn := hz.1
  have up2 : (-2147483648 : Int) ≤ p2.toInt ∧ p2.toInt ≤ 2147483647 := (rg_any p2)
  refine lv_iload_n hx hb dX11_closeFrame_0 rfl (lv_at hl 1 rfl) ?_
  refine lv_iconst (v := 1) hx hb dX11_closeFrame_1 (by decide) ?_
  refine lv_icmp_lt (tgt := 20) hx hb dX11_closeFrame_2 (by decide) (fun c2_1 => ?_) (fun c2_1 => ?_)
  · skip
    replace hW := wfP_i (wfP_l hW) (i_lt c2_1 rfl (rg_i kc_1))
    have ic2_1 := Int32.lt_iff_toInt_lt.mp c2_1
    have q2 : rg (-2147483648) (0) p2 := (rg_lt c2_1 (rg_any p2) kc_1).1
    have uq2 : (-2147483648 : Int) ≤ p2.toInt ∧ p2.toInt ≤ 0 := q2
    refine lv_iconst (v := 0) hx hb dX11_closeFrame_20 (by decide) ?_
    exact hQ _ _ (0 : Int32) _ _ _ dX11_closeFrame_21 L ⟨hW, mFi.rf, mFr.rf, rg_w kc_0 rfl, trivial⟩
  · skip
    replace hW := wfP_i (wfP_r hW) (i_le (rg_nlt c2_1) (rg_i kc_1) rfl)
    have ic2_1 := Int32.le_iff_toInt_le.mp (rg_nlt c2_1)
    have q3 : rg (1) (2147483647) p2 := (rg_le (rg_nlt c2_1) kc_1 (rg_any p2)).2
    have uq3 : (1 : Int) ≤ p2.toInt ∧ p2.toInt ≤ 2147483647 := q3
    refine lv_iload_n hx hb dX11_closeFrame_5 rfl (lv_at hl 1 rfl) ?_
    refine lv_sipush (v := 200) hx hb dX11_closeFrame_6 (by decide) ?_
    refine lv_icmp_gt (tgt := 20) hx hb dX11_closeFrame_9 (by decide) (fun c9_4 => ?_) (fun c9_4 => ?_)
    · skip
      replace hW := wfP_i (wfP_l hW) (i_lt c9_4 (rg_i kc_200) rfl)
      have ic9_4 := Int32.lt_iff_toInt_lt.mp c9_4
      have q5 : rg (201) (2147483647) p2 := (rg_lt c9_4 kc_200 q3).2
      have uq5 : (201 : Int) ≤ p2.toInt ∧ p2.toInt ≤ 2147483647 := q5
      refine lv_iconst (v := 0) hx hb dX11_closeFrame_20 (by decide) ?_
      exact hQ _ _ (0 : Int32) _ _ _ dX11_closeFrame_21 L ⟨hW, mFi.rf, mFr.rf, rg_w kc_0 rfl, trivial⟩
    · skip
      replace hW := wfP_i (wfP_r hW) (i_le (rg_nlt c9_4) rfl (rg_i kc_200))
      have ic9_4 := Int32.le_iff_toInt_le.mp (rg_nlt c9_4)
      have q6 : rg (1) (200) p2 := (rg_le (rg_nlt c9_4) q3 kc_200).1
      have uq6 : (1 : Int) ≤ p2.toInt ∧ p2.toInt ≤ 200 := q6
      refine lv_aload_n hx hb dX11_closeFrame_12 rfl (lv_at hl 0 rfl) ?_
      refine c_len (n := 240) x L 35 q1 hq1 rfl (by decide) dX11_closeFrame_13 ?_
      refine lv_sipush (v := 240) hx hb dX11_closeFrame_14 (by decide) ?_
      refine lv_icmp_ge (tgt := 22) hx hb dX11_closeFrame_17 (by decide) (fun c17_7 => ?_) (fun c17_7 => ?_)
      · skip
        refine lv_iload_n hx hb dX11_closeFrame_22 rfl (lv_at hl 1 rfl) ?_
        refine c_si (As := [.int p2]) (rest := []) x hml L (d_kcellsFor l X g p2 hX (rg_w q6 rfl) hW) (wk_T kt_X11_cellsFor kl_X11_361 kn_X11 (wk_all kd_X11_cellsFor)) rfl ⟨rfl, rfl⟩ hd_kcellsFor ⟨Nat.le_of_ble_eq_true rfl, Nat.le_of_ble_eq_true rfl⟩ rfl hl.1 rfl (lv_room (Nat.le_of_ble_eq_true rfl)) dX11_closeFrame_23 (fun v9 g8 H8 k8 hp8 L8 => ?_)
        obtain ⟨hW, hi8, hp8⟩ := hp8
        replace hW := wfP_i hW ⟨hi8, hp8⟩
        have rv9 : rg (1) (5) v9 := hp8.2.1
        have uv9 : (1 : Int) ≤ v9.toInt ∧ v9.toInt ≤ 5 := rv9
        have hw10 := hp8.2.2
        refine lv_istore_n (lv' := [(2, .int v9), (0, .ref (Z.ad 35 q1)), (1, .int p2)]) hx hb dX11_closeFrame_26 rfl hl (by decide) rfl (fun ls hl => ?_)
        refine lv_iload_n hx hb dX11_closeFrame_27 rfl (lv_at hl 0 rfl) ?_
        refine lv_bipush (v := 48) hx hb dX11_closeFrame_28 (by decide) ?_
        refine lv_imul hx hb dX11_closeFrame_30 ?_
        refine lv_topi (fun v11 ev11 => ?_)
        have rv11 : rg (48) (240) v11 := (rg_mul ev11 rv9 kc_48 rfl).1
        replace hW := (wfP_i (wfP_i (wfP_i (wfP_a hW v11) ev11) rv11) ((rg_mul ev11 rv9 kc_48 rfl).2))
        have tv11 := (rg_mul ev11 rv9 kc_48 rfl).2
        have y12 : (48 : Int32).toInt = 48 := by decide
        have uv11 : (48 : Int) ≤ v11.toInt ∧ v11.toInt ≤ 240 := rv11
        refine lv_istore_n (lv' := [(3, .int v11), (2, .int v9), (0, .ref (Z.ad 35 q1)), (1, .int p2)]) hx hb dX11_closeFrame_31 rfl hl (by decide) rfl (fun ls hl => ?_)
        refine lv_aload_n hx hb dX11_closeFrame_32 rfl (lv_at hl 2 rfl) ?_
        refine lv_iload_n hx hb dX11_closeFrame_33 rfl (lv_at hl 3 rfl) ?_
        refine lv_iload_n hx hb dX11_closeFrame_34 rfl (lv_at hl 0 rfl) ?_
        refine lv_iconst (v := 0) hx hb dX11_closeFrame_35 (by decide) ?_
        have y13 : (0 : Int32).toInt = 0 := by decide
        refine c_sv (As := [.ref (Z.ad 35 q1), .int p2, .int v11, .int (0 : Int32)]) (rest := []) x hml L8 (d_kfill_35 l X g8 q1 p2 v11 (0 : Int32) hX hq1 (rg_w q6 rfl) (rg_w rv11 rfl) (by omega) hW) (wk_T kt_J7_fill_fda19 kl_X11_364 kn_J7 (wk_all kd_J7_fill_fda19)) rfl ⟨rfl, rfl⟩ hd_kfill_35 ⟨Nat.le_of_ble_eq_true rfl, Nat.le_of_ble_eq_true rfl⟩ rfl hl.1 rfl (lv_room (Nat.le_of_ble_eq_true rfl)) dX11_closeFrame_36 (fun  g14 H14 k14 hp14 L14 => ?_)
        obtain ⟨hW, hi14, hp14⟩ := hp14
        replace hW := wfP_i hW ⟨hi14, hp14⟩
        refine lv_aload_n hx hb dX11_closeFrame_39 rfl (lv_at hl 2 rfl) ?_
        refine lv_iload_n hx hb dX11_closeFrame_40 rfl (lv_at hl 0 rfl) ?_
        refine lv_bipush (v := 6) hx hb dX11_closeFrame_41 (by decide) ?_
        refine lv_isub hx hb dX11_closeFrame_43 ?_
        refine lv_topi (fun v15 ev15 => ?_)
        have rv15 : rg (42) (234) v15 := (rg_sub ev15 rv11 kc_6 rfl).1
        replace hW := (wfP_i (wfP_i (wfP_i (wfP_a hW v15) ev15) rv15) (w_isub ((rg_sub ev15 rv11 kc_6 rfl).2) rfl (rg_i kc_6)))
        have tv15 := (rg_sub ev15 rv11 kc_6 rfl).2
        have y16 : (6 : Int32).toInt = 6 := by decide
        have uv15 : (42 : Int) ≤ v15.toInt ∧ v15.toInt ≤ 234 := rv15
        refine lv_iload_n hx hb dX11_closeFrame_44 rfl (lv_at hl 3 rfl) ?_
        refine lv_bipush (v := 8) hx hb dX11_closeFrame_45 (by decide) ?_
        refine lv_iushr hx hb dX11_closeFrame_47 rfl ?_
        refine lv_topi (fun v17 ev17 => ?_)
        have rv17 : rg (0) (16777215) v17 := rg_ush ev17 8 rfl
        replace hW := (wfP_i (wfP_i (wfP_a hW v17) ev17) rv17)
        have uv17 : (0 : Int) ≤ v17.toInt ∧ v17.toInt ≤ 16777215 := rv17
        refine c_st x L14 35 q1 1120 hq1 rfl rfl rv15 rfl (rg_any v17) dX11_closeFrame_48 (fun g18 H18 k18 eg18 L18 => ?_)
        replace hW := (wfP_i (wfP_a hW g18) eg18)
        refine lv_aload_n hx hb dX11_closeFrame_49 rfl (lv_at hl 2 rfl) ?_
        refine lv_iload_n hx hb dX11_closeFrame_50 rfl (lv_at hl 0 rfl) ?_
        refine lv_iconst (v := 5) hx hb dX11_closeFrame_51 (by decide) ?_
        refine lv_isub hx hb dX11_closeFrame_52 ?_
        refine lv_topi (fun v19 ev19 => ?_)
        have rv19 : rg (43) (235) v19 := (rg_sub ev19 rv11 kc_5 rfl).1
        replace hW := (wfP_i (wfP_i (wfP_i (wfP_a hW v19) ev19) rv19) (w_isub ((rg_sub ev19 rv11 kc_5 rfl).2) rfl (rg_i kc_5)))
        have tv19 := (rg_sub ev19 rv11 kc_5 rfl).2
        have y20 : (5 : Int32).toInt = 5 := by decide
        have uv19 : (43 : Int) ≤ v19.toInt ∧ v19.toInt ≤ 235 := rv19
        refine lv_iload_n hx hb dX11_closeFrame_53 rfl (lv_at hl 3 rfl) ?_
        refine lv_sipush (v := 255) hx hb dX11_closeFrame_54 (by decide) ?_
        refine lv_iand hx hb dX11_closeFrame_57 ?_
        refine lv_topi (fun v21 ev21 => ?_)
        have rv21 : rg (0) (255) v21 := rg_and ev21 8 255 (by decide) rfl
        replace hW := (wfP_i (wfP_i (wfP_a hW v21) ev21) rv21)
        have uv21 : (0 : Int) ≤ v21.toInt ∧ v21.toInt ≤ 255 := rv21
        refine c_st x L18 35 q1 1120 hq1 rfl rfl rv19 rfl (rg_any v21) dX11_closeFrame_58 (fun g22 H22 k22 eg22 L22 => ?_)
        replace hW := (wfP_i (wfP_a hW g22) eg22)
        refine lv_aload_n hx hb dX11_closeFrame_59 rfl (lv_at hl 2 rfl) ?_
        refine lv_iload_n hx hb dX11_closeFrame_60 rfl (lv_at hl 0 rfl) ?_
        refine lv_iconst (v := 4) hx hb dX11_closeFrame_61 (by decide) ?_
        refine lv_isub hx hb dX11_closeFrame_62 ?_
        refine lv_topi (fun v23 ev23 => ?_)
        have rv23 : rg (44) (236) v23 := (rg_sub ev23 rv11 kc_4 rfl).1
        replace hW := (wfP_i (wfP_i (wfP_i (wfP_a hW v23) ev23) rv23) (w_isub ((rg_sub ev23 rv11 kc_4 rfl).2) rfl (rg_i kc_4)))
        have tv23 := (rg_sub ev23 rv11 kc_4 rfl).2
        have y24 : (4 : Int32).toInt = 4 := by decide
        have uv23 : (44 : Int) ≤ v23.toInt ∧ v23.toInt ≤ 236 := rv23
        refine c_si (As := [.ref (Z.ad 35 q1), .int v23]) (rest := []) x hml L22 (d_kcrcOf_35 l X g22 q1 v23 hX hq1 hW) (wk_T kt_X11_crcOf kl_X11_346 kn_X11 (wk_all kd_X11_crcOf)) rfl ⟨rfl, rfl⟩ hd_kcrcOf_35 ⟨Nat.le_of_ble_eq_true rfl, Nat.le_of_ble_eq_true rfl⟩ rfl hl.1 rfl (lv_room (Nat.le_of_ble_eq_true rfl)) dX11_closeFrame_63 (fun v26 g25 H25 k25 hp25 L25 => ?_)
        obtain ⟨hW, hi25, hp25⟩ := hp25
        replace hW := wfP_i hW ⟨hi25, hp25⟩
        have rv26 : rg (-2147483648) (2147483647) v26 := hp25.2.1
        have uv26 : (-2147483648 : Int) ≤ v26.toInt ∧ v26.toInt ≤ 2147483647 := rv26
        refine lv_istore (lv' := [(4, .int v26), (3, .int v11), (2, .int v9), (0, .ref (Z.ad 35 q1)), (1, .int p2)]) hx hb dX11_closeFrame_66 hl (by decide) rfl (fun ls hl => ?_)
        refine lv_iconst (v := 1) hx hb dX11_closeFrame_68 (by decide) ?_
        refine lv_istore (lv' := [(5, .int (1 : Int32)), (4, .int v26), (3, .int v11), (2, .int v9), (0, .ref (Z.ad 35 q1)), (1, .int p2)]) hx hb dX11_closeFrame_69 hl (by decide) rfl (fun ls hl => ?_)
        obtain ⟨P29, hP29, hW⟩ := wfP_ex hW
        have j71_29 : ∀ (n : Nat) (a71_4_27 a71_5_28 : Int32) (g29 : mSt) (H29 : Heap) (k29 : List Loc) (ls : Array Slot), mFr [1120] g25 g29 → cL G Z A H0 X g29 H29 k29 → rg (-2147483648) (2147483647) a71_4_27 → rg (1) (5) a71_5_28 → mFi (im_kcloseFrame_35 Z q1 p2) g25 g29 → wfP (P29 a71_4_27 a71_5_28 g29) → lv_has ls 6 [(0, .ref (Z.ad 35 q1)), (2, .int v9), (3, .int v11), (4, .int a71_4_27), (5, .int a71_5_28)] → ((5 : Int) - a71_5_28.toInt).toNat = n → W p l e rm_kcloseFrame_35 s m args below meth c H29 k29 0 0 Q (F0 m 71 ls []) := by
          intro n
          induction n using Nat.strongRecOn with
          | _ n ih29 =>
            intro a71_4_27 a71_5_28 g29 H29 k29 ls hF29 L29 ra71_4_27 ra71_5_28 hI29 hW hl hn29
            subst hn29
            replace hW := wfP_i (wfP_i (wfP_i (wfP_i (wfP_i (wfP_a (wfP_a (wfP_a hP29 a71_4_27) a71_5_28) g29) hF29) hI29) ra71_4_27) ra71_5_28) hW
            have ua71_4_27 : (-2147483648 : Int) ≤ a71_4_27.toInt ∧ a71_4_27.toInt ≤ 2147483647 := ra71_4_27
            have ua71_5_28 : (1 : Int) ≤ a71_5_28.toInt ∧ a71_5_28.toInt ≤ 5 := ra71_5_28
            refine lv_iload hx hb dX11_closeFrame_71 (lv_at hl 4 rfl) ?_
            refine lv_iconst (v := 4) hx hb dX11_closeFrame_73 (by decide) ?_
            refine lv_icmp_gt (tgt := 102) hx hb dX11_closeFrame_74 (by decide) (fun c74_30 => ?_) (fun c74_30 => ?_)
            · skip
              replace hW := wfP_i (wfP_l hW) (i_lt c74_30 (rg_i kc_4) rfl)
              have ic74_30 := Int32.lt_iff_toInt_lt.mp c74_30
              have q31 : rg (5) (5) a71_5_28 := (rg_lt c74_30 kc_4 ra71_5_28).2
              have uq31 : (5 : Int) ≤ a71_5_28.toInt ∧ a71_5_28.toInt ≤ 5 := q31
              refine lv_iload_n hx hb dX11_closeFrame_102 rfl (lv_at hl 1 rfl) ?_
              exact hQ _ _ v9 _ _ _ dX11_closeFrame_103 L29 ⟨hW, (mFi.tr (mFi.sub (mFi.up (mFi.up (mFi.sub (mFi.sub mFi.rf hi8 mSub_nil) hi14 (mSub_eq 0 rfl mSub_nil)) eg18 (mIn_at 0 rfl (Or.inr (mIx rv15 rfl)))) eg22 (mIn_at 0 rfl (Or.inr (mIx rv19 rfl)))) hi25 mSub_nil) hI29), (mFr.tr (mFr.tr (mFr.upE (mFr.upE (mFr.tr (mFr.tr mFr.rf hp8.1 rfl) hp14.1 rfl) eg18 rfl) eg22 rfl) hp25.1 rfl) hF29 rfl), rg_w rv9 rfl, trivial⟩
            · skip
              replace hW := wfP_i (wfP_r hW) (i_le (rg_nlt c74_30) rfl (rg_i kc_4))
              have ic74_30 := Int32.le_iff_toInt_le.mp (rg_nlt c74_30)
              have q32 : rg (1) (4) a71_5_28 := (rg_le (rg_nlt c74_30) ra71_5_28 kc_4).1
              have uq32 : (1 : Int) ≤ a71_5_28.toInt ∧ a71_5_28.toInt ≤ 4 := q32
              refine lv_aload_n hx hb dX11_closeFrame_77 rfl (lv_at hl 0 rfl) ?_
              refine lv_iload_n hx hb dX11_closeFrame_78 rfl (lv_at hl 2 rfl) ?_
              refine lv_iload hx hb dX11_closeFrame_79 (lv_at hl 4 rfl) ?_
              refine lv_isub hx hb dX11_closeFrame_81 ?_
              refine lv_topi (fun v33 ev33 => ?_)
              have rv33 : rg (44) (239) v33 := (rg_sub ev33 rv11 q32 rfl).1
              replace hW := (wfP_i (wfP_i (wfP_i (wfP_a hW v33) ev33) rv33) (w_isub ((rg_sub ev33 rv11 q32 rfl).2) rfl rfl))
              have tv33 := (rg_sub ev33 rv11 q32 rfl).2
              have uv33 : (44 : Int) ≤ v33.toInt ∧ v33.toInt ≤ 239 := rv33
              refine lv_iload hx hb dX11_closeFrame_82 (lv_at hl 3 rfl) ?_
              refine lv_sipush (v := 255) hx hb dX11_closeFrame_84 (by decide) ?_
              refine lv_iand hx hb dX11_closeFrame_87 ?_
              refine lv_topi (fun v34 ev34 => ?_)
              have rv34 : rg (0) (255) v34 := rg_and ev34 8 255 (by decide) rfl
              replace hW := (wfP_i (wfP_i (wfP_a hW v34) ev34) rv34)
              have uv34 : (0 : Int) ≤ v34.toInt ∧ v34.toInt ≤ 255 := rv34
              refine c_st x L29 35 q1 1120 hq1 rfl rfl rv33 rfl (rg_any v34) dX11_closeFrame_88 (fun g35 H35 k35 eg35 L35 => ?_)
              replace hW := (wfP_i (wfP_a hW g35) eg35)
              refine lv_iload hx hb dX11_closeFrame_89 (lv_at hl 3 rfl) ?_
              refine lv_bipush (v := 8) hx hb dX11_closeFrame_91 (by decide) ?_
              refine lv_iushr hx hb dX11_closeFrame_93 rfl ?_
              refine lv_topi (fun v36 ev36 => ?_)
              have rv36 : rg (0) (16777215) v36 := rg_ush ev36 8 rfl
              replace hW := (wfP_i (wfP_i (wfP_a hW v36) ev36) rv36)
              have uv36 : (0 : Int) ≤ v36.toInt ∧ v36.toInt ≤ 16777215 := rv36
              refine lv_istore (lv' := [(4, .int v36), (0, .ref (Z.ad 35 q1)), (2, .int v9), (3, .int v11), (5, .int a71_5_28)]) hx hb dX11_closeFrame_94 hl (by decide) rfl (fun ls hl => ?_)
              obtain ⟨v37, ev37, fv37⟩ := inc_ex a71_5_28 (1) (1 : Int32) (by decide)
              have rv37 : rg (2) (5) v37 := (rg_add ev37 q32 kc_1 rfl).1
              have tv37 := (rg_add ev37 q32 kc_1 rfl).2
              have yv37 : (1 : Int32).toInt = 1 := by decide
              replace hW := (wfP_i (wfP_i (wfP_i (wfP_a hW v37) ev37) rv37) (w_iadd tv37 rfl (rg_i kc_1)))
              refine lv_iinc (v := v37) (lv' := [(5, .int v37), (4, .int v36), (0, .ref (Z.ad 35 q1)), (2, .int v9), (3, .int v11)]) hx hb dX11_closeFrame_96 hl (k := 4) rfl fv37 (by decide) rfl (fun ls hl => ?_)
              refine lv_goto (tgt := 71) hx hb dX11_closeFrame_99 (by decide) ?_
              exact ih29 _ (ms_up tv37 kc_1 q32 rfl rfl) v36 v37 g35 _ _ ls (mFr.upE hF29 eg35 rfl) L35 (rg_w rv36 rfl) (rg_w rv37 rfl) (mFi.up hI29 eg35 (mIn_at 0 rfl (Or.inr (mIx rv33 rfl)))) hW (lv_sub hl [2, 3, 4, 1, 0] rfl) rfl
        have y38 : (1 : Int32).toInt = 1 := by decide
        exact j71_29 _ v26 (1 : Int32) g25 _ _ ls mFr.rf L25 (rg_w rv26 rfl) (rg_w kc_1 rfl) mFi.rf hW (lv_sub hl [4, 3, 2, 1, 0] rfl) rfl
      · skip
        exact absurd c17_7 (by decide)
theorem d_kcloseFrame_35 (l : Launch) {G : cG} {Z : cZ} (X : Int) (g : mSt) (q1 : Nat) (p2 : Int32) (hX : 0 ≤ X ∧ X ≤ 2000000000) (hq1 : Z.al 35 q1) {Φ : Int32 → mSt → Prop} (hW : wfP (wp_kcloseFrame_35 Z q1 p2 g Φ)) : Met l yX11_closeFrame (wk (Cond.code yX11_closeFrame cX11_closeFrame 6 (some .int))) rm_kcloseFrame_35 (va_Pc [.ref (Z.ad 35 q1), .int p2] (cPre G Z X g)) (cQi G Z X (fun r g1 => wfP (Φ r g1) ∧ mFi (im_kcloseFrame_35 Z q1 p2) g g1 ∧ (mFr [1120] g g1 ∧ rg (0) (5) r ∧ True))) 0 0 (cAd Z) := by
  refine Met.ofW (cc := cX11_closeFrame) (maxL := 6) (ret := (some .int)) (by decide) rfl ?_
  intro p e s m args below meth c s₁ B hml hv
  obtain ⟨rfl, hv⟩ := hv
  have hr := B.returns
  have hlocks := B.notSynchronized
  obtain ⟨x, L⟩ := c_start B rfl (fun w h => wk_in h) hv
  have hl := lv_entry ([.ref (Z.ad 35 q1), .int p2]) (n := 6) (Nat.le_of_ble_eq_true rfl)
  rw [lg_entry_eq]
  generalize (lg_sl ([.ref (Z.ad 35 q1), .int p2]) ++ List.replicate (6 - (lg_sl ([.ref (Z.ad 35 q1), .int p2])).length) Slot.unset).toArray = ls at hl ⊢
  exact v_kcloseFrame_35 x hml L hX q1 p2 hq1 hW hl (fun pc' ls' r g1 H1 locs1 hdg L hp => c_iret x L hr hlocks (Int.le_refl _) hp hdg)

def im_kqadd_24 (Z : cZ) (i0 : Nat) (p1 : Int32) (q2 : Nat) (p3 : Int32) : List (Nat × Nat × Nat) := [(67, i0, 1), (544, i0, 8192), (576, i0, 8192)]
def po_kqadd_24 (Z : cZ) (i0 : Nat) (p1 : Int32) (q2 : Nat) (p3 : Int32) (g : mSt) (r : Int32) (g1 : mSt) : Prop := mFi (im_kqadd_24 Z i0 p1 q2 p3) g g1 ∧ mFr [67, 544, 576] g g1 ∧ rg (0) (1) r ∧ True
def wp_kqadd_24 (Z : cZ) (i0 : Nat) (p1 : Int32) (q2 : Nat) (p3 : Int32) (g : mSt) (Φ : Int32 → mSt → Prop) : Prop :=
  ∀ (v1 : Int32), v1 = g 67 i0 → rg (0) (40) v1 → ((40 ≤ v1.toInt) → Φ (0 : Int32) g) ∧ ((v1.toInt < 40) → ((p3.toInt < 0) → True) ∧ ((0 ≤ p3.toInt) → ∀ (v6 : Int32), v6 = p3 + (48 : Int32) → rg (48) (10048) v6 → v6.toInt = p3.toInt + 48 → ((v6.toInt ≤ 240) → ∀ (v11 : Int32), v11 = g 66 i0 → rg (0) (39) v11 → ∀ (v13 : Int32), v13 = v11 + v1 → rg (0) (78) v13 → v13.toInt = v11.toInt + v1.toInt → ∀ (v14 : Int32), v14 = v13 - v13 / (40 : Int32) * (40 : Int32) → rg (0) (39) v14 → v14.toInt = v13.toInt % 40 → ∀ (g17 : mSt), g17 = up2 g 576 (8192 * i0 + v14.toNatClampNeg) p1 → ∀ (v19 : Int32), v19 = v14 * (48 : Int32) → rg (0) (1872) v19 → v19.toInt = v14.toInt * 48 → ∀ (g21 : mSt), g21 = cCpy g17 768 (8192 * q2 + p3.toNatClampNeg) 544 (8192 * i0 + v19.toNatClampNeg) (48 : Int32).toNatClampNeg → ∀ (v23 : Int32), v23 = v1 + (1 : Int32) → rg (1) (40) v23 → v23.toInt = v1.toInt + 1 → ∀ (g25 : mSt), g25 = up2 g21 67 i0 v23 → Φ (1 : Int32) g25) ∧ ((240 < v6.toInt) → Φ (0 : Int32) g)))
set_option maxHeartbeats 4000000 in
set_option maxRecDepth 100000 in
theorem v_kqadd_24 {p : Program} {l : Launch} {e : Env} {s : State} {m : MethodId} {args : Array Value} {below : List Frame} {meth : Method} {c : Code} {H : Heap} {locs : List Loc} {Q : State → Prop} {ls : Array Slot} {G : cG} {Z : cZ} {A : Nat → Prop} {g : mSt} {H0 : Heap} {X : Int} (x : cX p c cX2_add s args (wk (Cond.code yX2_add cX2_add 5 (some .boolean))) m G Z A RX2 H0) (hml : c.maxLocals = 5) (L : cL G Z A H0 X g H locs) (hX : 0 ≤ X ∧ X ≤ 2000000000) (i0 : Nat) (p1 : Int32) (q2 : Nat) (p3 : Int32) (hi0 : i0 < 4 * Z.n) (hq2 : Z.al 24 q2) (rp3 : rg (0) (10000) p3) {Φ : Int32 → mSt → Prop} (hW : wfP (wp_kqadd_24 Z i0 p1 q2 p3 g Φ)) (hl : lv_has ls 5 [(0, .ref (Z.ad 2 i0)), (1, .int p1), (2, .ref (Z.ad 24 q2)), (3, .int p3)]) (hQ : ∀ (pc' : Nat) (ls' : Array Slot) (r : Int32) (g1 : mSt) (H1 : Heap) (locs1 : List Loc), decode cX2_add pc' = .ok (.ireturn, 1) → cL G Z A H0 X g1 H1 locs1 → (wfP (Φ r g1) ∧ mFi (im_kqadd_24 Z i0 p1 q2 p3) g g1 ∧ (mFr [67, 544, 576] g g1 ∧ rg (0) (1) r ∧ True)) → W p l e rm_kqadd_24 s m args below meth c H1 locs1 0 0 Q (F0 m pc' ls' [.int r])) : W p l e rm_kqadd_24 s m args below meth c H locs 0 0 Q (F0 m 0 ls []) := by
  have hx := x.1
  have hb := x.2.1
  have hz := x.2.2.2.2.2.2.2.1
  have hzn := hz.1
  have hal0 : Z.al 2 i0 := hz.2 2 i0 (show i0 < 4 * Z.n from hi0)
  have up1 : (-2147483648 : Int) ≤ p1.toInt ∧ p1.toInt ≤ 2147483647 := (rg_any p1)
  have up3 : (0 : Int) ≤ p3.toInt ∧ p3.toInt ≤ 10000 := rp3
  refine lv_aload_n hx hb dX2_add_0 rfl (lv_at hl 0 rfl) ?_
  refine c_geti x L 2 i0 3 67 hal0 rfl rfl (wk_in kf_X2_18) dX2_add_1 (fun v1 ev1 wv1 => ?_)
  have rv1 : rg (0) (40) v1 := clj_67 wv1
  replace hW := (wfP_i (wfP_i (wfP_a hW v1) ev1) rv1)
  have uv1 : (0 : Int) ≤ v1.toInt ∧ v1.toInt ≤ 40 := rv1
  have sv1 := congrArg Int32.toInt ev1
  refine lv_bipush (v := 40) hx hb dX2_add_4 (by decide) ?_
  refine lv_icmp_ge (tgt := 22) hx hb dX2_add_6 (by decide) (fun c6_2 => ?_) (fun c6_2 => ?_)
  · skip
    replace hW := wfP_i (wfP_l hW) (i_le c6_2 (rg_i kc_40) rfl)
    have ic6_2 := Int32.le_iff_toInt_le.mp c6_2
    have q3 : rg (40) (40) v1 := (rg_le c6_2 kc_40 rv1).2
    have uq3 : (40 : Int) ≤ v1.toInt ∧ v1.toInt ≤ 40 := q3
    refine lv_iconst (v := 0) hx hb dX2_add_22 (by decide) ?_
    exact hQ _ _ (0 : Int32) _ _ _ dX2_add_23 L ⟨hW, mFi.rf, mFr.rf, rg_w kc_0 rfl, trivial⟩
  · skip
    replace hW := wfP_i (wfP_r hW) (i_lt (rg_nle c6_2) rfl (rg_i kc_40))
    have ic6_2 := Int32.lt_iff_toInt_lt.mp (rg_nle c6_2)
    have q4 : rg (0) (39) v1 := (rg_lt (rg_nle c6_2) rv1 kc_40).1
    have uq4 : (0 : Int) ≤ v1.toInt ∧ v1.toInt ≤ 39 := q4
    refine lv_iload_n hx hb dX2_add_9 rfl (lv_at hl 3 rfl) ?_
    refine lv_if_lt (tgt := 22) hx hb dX2_add_10 (by decide) (fun c10_5 => ?_) (fun c10_5 => ?_)
    · skip
      replace hW := wfP_i (wfP_l hW) (i_lt c10_5 rfl (rg_i kc_0))
      have ic10_5 := Int32.lt_iff_toInt_lt.mp c10_5
      exact absurd ((rg_lt c10_5 rp3 kc_0).1 : rg (0) (-1) p3) (fun q => rg_dead q rfl)
    · skip
      replace hW := wfP_i (wfP_r hW) (i_le (rg_nlt c10_5) (rg_i kc_0) rfl)
      have ic10_5 := Int32.le_iff_toInt_le.mp (rg_nlt c10_5)
      refine lv_iload_n hx hb dX2_add_13 rfl (lv_at hl 3 rfl) ?_
      refine lv_bipush (v := 48) hx hb dX2_add_14 (by decide) ?_
      refine lv_iadd hx hb dX2_add_16 ?_
      refine lv_topi (fun v6 ev6 => ?_)
      have rv6 : rg (48) (10048) v6 := (rg_add ev6 rp3 kc_48 rfl).1
      replace hW := (wfP_i (wfP_i (wfP_i (wfP_a hW v6) ev6) rv6) (w_iadd ((rg_add ev6 rp3 kc_48 rfl).2) rfl (rg_i kc_48)))
      have dv6 := (rg_add ev6 rp3 kc_48 rfl).2
      have tv6 := (rg_add ev6 rp3 kc_48 rfl).2
      have y7 : (48 : Int32).toInt = 48 := by decide
      have uv6 : (48 : Int) ≤ v6.toInt ∧ v6.toInt ≤ 10048 := rv6
      refine lv_aload_n hx hb dX2_add_17 rfl (lv_at hl 2 rfl) ?_
      refine c_len (n := 240) x L 24 q2 hq2 rfl (by decide) dX2_add_18 ?_
      refine lv_icmp_le (tgt := 24) hx hb dX2_add_19 (by decide) (fun c19_8 => ?_) (fun c19_8 => ?_)
      · skip
        replace hW := wfP_i (wfP_l hW) (i_le c19_8 rfl (rg_i kc_240))
        have ic19_8 := Int32.le_iff_toInt_le.mp c19_8
        have q9 : rg (48) (240) v6 := (rg_le c19_8 rv6 kc_240).1
        have uq9 : (48 : Int) ≤ v6.toInt ∧ v6.toInt ≤ 240 := q9
        have q10 : rg (0) (192) p3 := rg_back dv6 kc_48 q9
        refine lv_aload_n hx hb dX2_add_24 rfl (lv_at hl 0 rfl) ?_
        refine c_geti x L 2 i0 2 66 hal0 rfl rfl (wk_in kf_X2_22) dX2_add_25 (fun v11 ev11 wv11 => ?_)
        have rv11 : rg (0) (39) v11 := clj_66 wv11
        replace hW := (wfP_i (wfP_i (wfP_a hW v11) ev11) rv11)
        have uv11 : (0 : Int) ≤ v11.toInt ∧ v11.toInt ≤ 39 := rv11
        have sv11 : v11.toInt = (g 66 i0).toInt := congrArg Int32.toInt (ev11.trans (congrFun ((show mFr [67, 544, 576] g g from mFr.rf).at 66 rfl) _))
        refine lv_aload_n hx hb dX2_add_28 rfl (lv_at hl 0 rfl) ?_
        refine c_geti x L 2 i0 3 67 hal0 rfl rfl (wk_in kf_X2_18) dX2_add_29 (fun v12 ev12 wv12 => ?_)
        refine m_top ((ev1).trans ev12.symm) ?_
        refine lv_iadd hx hb dX2_add_32 ?_
        refine lv_topi (fun v13 ev13 => ?_)
        have rv13 : rg (0) (78) v13 := (rg_add ev13 rv11 q4 rfl).1
        replace hW := (wfP_i (wfP_i (wfP_i (wfP_a hW v13) ev13) rv13) (w_iadd ((rg_add ev13 rv11 q4 rfl).2) rfl rfl))
        have tv13 := (rg_add ev13 rv11 q4 rfl).2
        have uv13 : (0 : Int) ≤ v13.toInt ∧ v13.toInt ≤ 78 := rv13
        refine lv_bipush (v := 40) hx hb dX2_add_33 (by decide) ?_
        refine lv_irem hx hb dX2_add_35 (by decide) ?_
        refine lv_topi (fun v14 ev14 => ?_)
        have rv14 : rg (0) (39) v14 := (rg_rem ev14 rv13 kc_40 rfl).1
        replace hW := (wfP_i (wfP_i (wfP_i (wfP_a hW v14) ev14) rv14) ((rg_rem ev14 rv13 kc_40 rfl).2))
        have tv14 := (rg_rem ev14 rv13 kc_40 rfl).2
        have y15 : (40 : Int32).toInt = 40 := by decide
        have uv14 : (0 : Int) ≤ v14.toInt ∧ v14.toInt ≤ 39 := rv14
        refine lv_istore (lv' := [(4, .int v14), (0, .ref (Z.ad 2 i0)), (1, .int p1), (2, .ref (Z.ad 24 q2)), (3, .int p3)]) hx hb dX2_add_36 hl (by decide) rfl (fun ls hl => ?_)
        refine lv_aload_n hx hb dX2_add_38 rfl (lv_at hl 1 rfl) ?_
        have al16 : Z.al 18 i0 := hz.2 18 i0 (show i0 < 4 * Z.n from (by omega))
        refine c_getr (a := Z.ad 18 i0) x L 2 i0 1 hal0 rfl rfl (wk_in kf_X2_15) dX2_add_39 ?_
        refine lv_iload hx hb dX2_add_42 (lv_at hl 0 rfl) ?_
        refine lv_iload_n hx hb dX2_add_44 rfl (lv_at hl 2 rfl) ?_
        refine c_st x L 18 i0 576 al16 rfl rfl rv14 rfl (rg_any p1) dX2_add_45 (fun g17 H17 k17 eg17 L17 => ?_)
        replace hW := (wfP_i (wfP_a hW g17) eg17)
        refine lv_aload_n hx hb dX2_add_46 rfl (lv_at hl 3 rfl) ?_
        refine lv_iload_n hx hb dX2_add_47 rfl (lv_at hl 4 rfl) ?_
        refine lv_aload_n hx hb dX2_add_48 rfl (lv_at hl 1 rfl) ?_
        have al18 : Z.al 17 i0 := hz.2 17 i0 (show i0 < 4 * Z.n from (by omega))
        refine c_getr (a := Z.ad 17 i0) x L17 2 i0 0 hal0 rfl rfl (wk_in kf_X2_9) dX2_add_49 ?_
        refine lv_iload hx hb dX2_add_52 (lv_at hl 0 rfl) ?_
        refine lv_bipush (v := 48) hx hb dX2_add_54 (by decide) ?_
        refine lv_imul hx hb dX2_add_56 ?_
        refine lv_topi (fun v19 ev19 => ?_)
        have rv19 : rg (0) (1872) v19 := (rg_mul ev19 rv14 kc_48 rfl).1
        replace hW := (wfP_i (wfP_i (wfP_i (wfP_a hW v19) ev19) rv19) ((rg_mul ev19 rv14 kc_48 rfl).2))
        have tv19 := (rg_mul ev19 rv14 kc_48 rfl).2
        have y20 : (48 : Int32).toInt = 48 := by decide
        have uv19 : (0 : Int) ≤ v19.toInt ∧ v19.toInt ≤ 1872 := rv19
        refine lv_bipush (v := 48) hx hb dX2_add_57 (by decide) ?_
        refine c_copy (rest := []) x (hml.trans hl.1.symm) L17 24 q2 17 i0 768 544 hq2 al18 rfl rfl rfl rfl ⟨rfl, rfl⟩ kl_X2_25 kw_cp (Int.le_trans (by decide) q10.1) (Int.le_trans (by decide) rv19.1) (Int.le_trans (by decide) kc_48.1) (Int.le_trans (Int.add_le_add q10.2 kc_48.2) (by decide)) (Int.le_trans (Int.add_le_add rv19.2 kc_48.2) (by decide)) (Nat.le_of_ble_eq_true rfl) (Nat.le_of_ble_eq_true rfl) dX2_add_59 (fun g21 H21 k21 ec21 L21 => ?_)
        replace hW := (wfP_i (wfP_a hW g21) ec21)
        refine lv_aload_n hx hb dX2_add_62 rfl (lv_at hl 1 rfl) ?_
        refine lv_dup hx hb dX2_add_63 rfl ?_
        refine c_geti x L21 2 i0 3 67 hal0 rfl rfl (wk_in kf_X2_18) dX2_add_64 (fun v22 ev22 wv22 => ?_)
        refine m_top (((mm_fr (mm_up ev1 eg17 rfl) (cCpy_fr ec21) rfl)).trans ev22.symm) ?_
        refine lv_iconst (v := 1) hx hb dX2_add_67 (by decide) ?_
        refine lv_iadd hx hb dX2_add_68 ?_
        refine lv_topi (fun v23 ev23 => ?_)
        have rv23 : rg (1) (40) v23 := (rg_add ev23 q4 kc_1 rfl).1
        replace hW := (wfP_i (wfP_i (wfP_i (wfP_a hW v23) ev23) rv23) (w_iadd ((rg_add ev23 q4 kc_1 rfl).2) rfl (rg_i kc_1)))
        have dv23 := (rg_add ev23 q4 kc_1 rfl).2
        have tv23 := (rg_add ev23 q4 kc_1 rfl).2
        have y24 : (1 : Int32).toInt = 1 := by decide
        have uv23 : (1 : Int) ≤ v23.toInt ∧ v23.toInt ≤ 40 := rv23
        refine c_puti x L21 2 i0 3 67 hal0 rfl rfl ⟨rfl, by decide +kernel⟩ (wk_in kf_X2_18) dX2_add_69 (crj_67 (rg_w rv23 rfl)) (fun g25 H25 k25 eg25 L25 => ?_)
        replace hW := (wfP_i (wfP_a hW g25) eg25)
        refine lv_iconst (v := 1) hx hb dX2_add_72 (by decide) ?_
        exact hQ _ _ (1 : Int32) _ _ _ dX2_add_73 L25 ⟨hW, (mFi.up (mFi.cpy (L := 1920) (mFi.up mFi.rf eg17 (mIn_at 2 rfl (Or.inr (mIx rv14 rfl)))) ec21 1 rfl (Int.le_trans (by decide) rv19.1) (Int.le_trans (Int.add_le_add rv19.2 kc_48.2) (by decide)) (Int.le_trans (by decide) kc_48.1) (by decide)) eg25 (mIn_at 0 rfl (Or.inr (Nat.div_one _)))), (mFr.upE (mFr.tr (mFr.upE mFr.rf eg17 rfl) (cCpy_fr ec21) rfl) eg25 rfl), rg_w kc_1 rfl, trivial⟩
      · skip
        replace hW := wfP_i (wfP_r hW) (i_lt (rg_nle c19_8) (rg_i kc_240) rfl)
        have ic19_8 := Int32.lt_iff_toInt_lt.mp (rg_nle c19_8)
        have q26 : rg (241) (10048) v6 := (rg_lt (rg_nle c19_8) kc_240 rv6).2
        have uq26 : (241 : Int) ≤ v6.toInt ∧ v6.toInt ≤ 10048 := q26
        have q27 : rg (193) (10000) p3 := rg_back dv6 kc_48 q26
        refine lv_iconst (v := 0) hx hb dX2_add_22 (by decide) ?_
        exact hQ _ _ (0 : Int32) _ _ _ dX2_add_23 L ⟨hW, mFi.rf, mFr.rf, rg_w kc_0 rfl, trivial⟩
theorem d_kqadd_24 (l : Launch) {G : cG} {Z : cZ} (X : Int) (g : mSt) (i0 : Nat) (p1 : Int32) (q2 : Nat) (p3 : Int32) (hX : 0 ≤ X ∧ X ≤ 2000000000) (hi0 : i0 < 4 * Z.n) (hq2 : Z.al 24 q2) (rp3 : rg (0) (10000) p3) {Φ : Int32 → mSt → Prop} (hW : wfP (wp_kqadd_24 Z i0 p1 q2 p3 g Φ)) : Met l yX2_add (wk (Cond.code yX2_add cX2_add 5 (some .boolean))) rm_kqadd_24 (va_Pc [.ref (Z.ad 2 i0), .int p1, .ref (Z.ad 24 q2), .int p3] (cPre G Z X g)) (cQi G Z X (fun r g1 => wfP (Φ r g1) ∧ mFi (im_kqadd_24 Z i0 p1 q2 p3) g g1 ∧ (mFr [67, 544, 576] g g1 ∧ rg (0) (1) r ∧ True))) 0 0 (cAd Z) := by
  refine Met.ofW (cc := cX2_add) (maxL := 5) (ret := (some .boolean)) (by decide) rfl ?_
  intro p e s m args below meth c s₁ B hml hv
  obtain ⟨rfl, hv⟩ := hv
  have hr := B.returns
  have hlocks := B.notSynchronized
  obtain ⟨x, L⟩ := c_start B rfl (fun w h => wk_in h) hv
  have hl := lv_entry ([.ref (Z.ad 2 i0), .int p1, .ref (Z.ad 24 q2), .int p3]) (n := 5) (Nat.le_of_ble_eq_true rfl)
  rw [lg_entry_eq]
  generalize (lg_sl ([.ref (Z.ad 2 i0), .int p1, .ref (Z.ad 24 q2), .int p3]) ++ List.replicate (5 - (lg_sl ([.ref (Z.ad 2 i0), .int p1, .ref (Z.ad 24 q2), .int p3])).length) Slot.unset).toArray = ls at hl ⊢
  exact v_kqadd_24 x hml L hX i0 p1 q2 p3 hi0 hq2 rp3 hW hl (fun pc' ls' r g1 H1 locs1 hdg L hp => c_zret x L hr hlocks (nar01 (rg_w hp.2.2.2.1 rfl)) (Int.le_refl _) hp hdg)

def im_kqadd_25 (Z : cZ) (i0 : Nat) (p1 : Int32) (q2 : Nat) (p3 : Int32) : List (Nat × Nat × Nat) := [(67, i0, 1), (544, i0, 8192), (576, i0, 8192)]
def po_kqadd_25 (Z : cZ) (i0 : Nat) (p1 : Int32) (q2 : Nat) (p3 : Int32) (g : mSt) (r : Int32) (g1 : mSt) : Prop := mFi (im_kqadd_25 Z i0 p1 q2 p3) g g1 ∧ mFr [67, 544, 576] g g1 ∧ rg (0) (1) r ∧ True
def wp_kqadd_25 (Z : cZ) (i0 : Nat) (p1 : Int32) (q2 : Nat) (p3 : Int32) (g : mSt) (Φ : Int32 → mSt → Prop) : Prop :=
  ∀ (v1 : Int32), v1 = g 67 i0 → rg (0) (40) v1 → ((40 ≤ v1.toInt) → Φ (0 : Int32) g) ∧ ((v1.toInt < 40) → ((p3.toInt < 0) → True) ∧ ((0 ≤ p3.toInt) → ∀ (v6 : Int32), v6 = p3 + (48 : Int32) → rg (48) (10048) v6 → v6.toInt = p3.toInt + 48 → ((v6.toInt ≤ 48) → ∀ (v11 : Int32), v11 = g 66 i0 → rg (0) (39) v11 → ∀ (v13 : Int32), v13 = v11 + v1 → rg (0) (78) v13 → v13.toInt = v11.toInt + v1.toInt → ∀ (v14 : Int32), v14 = v13 - v13 / (40 : Int32) * (40 : Int32) → rg (0) (39) v14 → v14.toInt = v13.toInt % 40 → ∀ (g17 : mSt), g17 = up2 g 576 (8192 * i0 + v14.toNatClampNeg) p1 → ∀ (v19 : Int32), v19 = v14 * (48 : Int32) → rg (0) (1872) v19 → v19.toInt = v14.toInt * 48 → ∀ (g21 : mSt), g21 = cCpy g17 800 (8192 * q2 + p3.toNatClampNeg) 544 (8192 * i0 + v19.toNatClampNeg) (48 : Int32).toNatClampNeg → ∀ (v23 : Int32), v23 = v1 + (1 : Int32) → rg (1) (40) v23 → v23.toInt = v1.toInt + 1 → ∀ (g25 : mSt), g25 = up2 g21 67 i0 v23 → Φ (1 : Int32) g25) ∧ ((48 < v6.toInt) → Φ (0 : Int32) g)))
set_option maxHeartbeats 4000000 in
set_option maxRecDepth 100000 in
theorem v_kqadd_25 {p : Program} {l : Launch} {e : Env} {s : State} {m : MethodId} {args : Array Value} {below : List Frame} {meth : Method} {c : Code} {H : Heap} {locs : List Loc} {Q : State → Prop} {ls : Array Slot} {G : cG} {Z : cZ} {A : Nat → Prop} {g : mSt} {H0 : Heap} {X : Int} (x : cX p c cX2_add s args (wk (Cond.code yX2_add cX2_add 5 (some .boolean))) m G Z A RX2 H0) (hml : c.maxLocals = 5) (L : cL G Z A H0 X g H locs) (hX : 0 ≤ X ∧ X ≤ 2000000000) (i0 : Nat) (p1 : Int32) (q2 : Nat) (p3 : Int32) (hi0 : i0 < 4 * Z.n) (hq2 : Z.al 25 q2) (rp3 : rg (0) (10000) p3) {Φ : Int32 → mSt → Prop} (hW : wfP (wp_kqadd_25 Z i0 p1 q2 p3 g Φ)) (hl : lv_has ls 5 [(0, .ref (Z.ad 2 i0)), (1, .int p1), (2, .ref (Z.ad 25 q2)), (3, .int p3)]) (hQ : ∀ (pc' : Nat) (ls' : Array Slot) (r : Int32) (g1 : mSt) (H1 : Heap) (locs1 : List Loc), decode cX2_add pc' = .ok (.ireturn, 1) → cL G Z A H0 X g1 H1 locs1 → (wfP (Φ r g1) ∧ mFi (im_kqadd_25 Z i0 p1 q2 p3) g g1 ∧ (mFr [67, 544, 576] g g1 ∧ rg (0) (1) r ∧ True)) → W p l e rm_kqadd_25 s m args below meth c H1 locs1 0 0 Q (F0 m pc' ls' [.int r])) : W p l e rm_kqadd_25 s m args below meth c H locs 0 0 Q (F0 m 0 ls []) := by
  have hx := x.1
  have hb := x.2.1
  have hz := x.2.2.2.2.2.2.2.1
  have hzn := hz.1
  have hal0 : Z.al 2 i0 := hz.2 2 i0 (show i0 < 4 * Z.n from hi0)
  have up1 : (-2147483648 : Int) ≤ p1.toInt ∧ p1.toInt ≤ 2147483647 := (rg_any p1)
  have up3 : (0 : Int) ≤ p3.toInt ∧ p3.toInt ≤ 10000 := rp3
  refine lv_aload_n hx hb dX2_add_0 rfl (lv_at hl 0 rfl) ?_
  refine c_geti x L 2 i0 3 67 hal0 rfl rfl (wk_in kf_X2_18) dX2_add_1 (fun v1 ev1 wv1 => ?_)
  have rv1 : rg (0) (40) v1 := clj_67 wv1
  replace hW := (wfP_i (wfP_i (wfP_a hW v1) ev1) rv1)
  have uv1 : (0 : Int) ≤ v1.toInt ∧ v1.toInt ≤ 40 := rv1
  have sv1 := congrArg Int32.toInt ev1
  refine lv_bipush (v := 40) hx hb dX2_add_4 (by decide) ?_
  refine lv_icmp_ge (tgt := 22) hx hb dX2_add_6 (by decide) (fun c6_2 => ?_) (fun c6_2 => ?_)
  · skip
    replace hW := wfP_i (wfP_l hW) (i_le c6_2 (rg_i kc_40) rfl)
    have ic6_2 := Int32.le_iff_toInt_le.mp c6_2
    have q3 : rg (40) (40) v1 := (rg_le c6_2 kc_40 rv1).2
    have uq3 : (40 : Int) ≤ v1.toInt ∧ v1.toInt ≤ 40 := q3
    refine lv_iconst (v := 0) hx hb dX2_add_22 (by decide) ?_
    exact hQ _ _ (0 : Int32) _ _ _ dX2_add_23 L ⟨hW, mFi.rf, mFr.rf, rg_w kc_0 rfl, trivial⟩
  · skip
    replace hW := wfP_i (wfP_r hW) (i_lt (rg_nle c6_2) rfl (rg_i kc_40))
    have ic6_2 := Int32.lt_iff_toInt_lt.mp (rg_nle c6_2)
    have q4 : rg (0) (39) v1 := (rg_lt (rg_nle c6_2) rv1 kc_40).1
    have uq4 : (0 : Int) ≤ v1.toInt ∧ v1.toInt ≤ 39 := q4
    refine lv_iload_n hx hb dX2_add_9 rfl (lv_at hl 3 rfl) ?_
    refine lv_if_lt (tgt := 22) hx hb dX2_add_10 (by decide) (fun c10_5 => ?_) (fun c10_5 => ?_)
    · skip
      replace hW := wfP_i (wfP_l hW) (i_lt c10_5 rfl (rg_i kc_0))
      have ic10_5 := Int32.lt_iff_toInt_lt.mp c10_5
      exact absurd ((rg_lt c10_5 rp3 kc_0).1 : rg (0) (-1) p3) (fun q => rg_dead q rfl)
    · skip
      replace hW := wfP_i (wfP_r hW) (i_le (rg_nlt c10_5) (rg_i kc_0) rfl)
      have ic10_5 := Int32.le_iff_toInt_le.mp (rg_nlt c10_5)
      refine lv_iload_n hx hb dX2_add_13 rfl (lv_at hl 3 rfl) ?_
      refine lv_bipush (v := 48) hx hb dX2_add_14 (by decide) ?_
      refine lv_iadd hx hb dX2_add_16 ?_
      refine lv_topi (fun v6 ev6 => ?_)
      have rv6 : rg (48) (10048) v6 := (rg_add ev6 rp3 kc_48 rfl).1
      replace hW := (wfP_i (wfP_i (wfP_i (wfP_a hW v6) ev6) rv6) (w_iadd ((rg_add ev6 rp3 kc_48 rfl).2) rfl (rg_i kc_48)))
      have dv6 := (rg_add ev6 rp3 kc_48 rfl).2
      have tv6 := (rg_add ev6 rp3 kc_48 rfl).2
      have y7 : (48 : Int32).toInt = 48 := by decide
      have uv6 : (48 : Int) ≤ v6.toInt ∧ v6.toInt ≤ 10048 := rv6
      refine lv_aload_n hx hb dX2_add_17 rfl (lv_at hl 2 rfl) ?_
      refine c_len (n := 48) x L 25 q2 hq2 rfl (by decide) dX2_add_18 ?_
      refine lv_icmp_le (tgt := 24) hx hb dX2_add_19 (by decide) (fun c19_8 => ?_) (fun c19_8 => ?_)
      · skip
        replace hW := wfP_i (wfP_l hW) (i_le c19_8 rfl (rg_i kc_48))
        have ic19_8 := Int32.le_iff_toInt_le.mp c19_8
        have q9 : rg (48) (48) v6 := (rg_le c19_8 rv6 kc_48).1
        have uq9 : (48 : Int) ≤ v6.toInt ∧ v6.toInt ≤ 48 := q9
        have q10 : rg (0) (0) p3 := rg_back dv6 kc_48 q9
        refine lv_aload_n hx hb dX2_add_24 rfl (lv_at hl 0 rfl) ?_
        refine c_geti x L 2 i0 2 66 hal0 rfl rfl (wk_in kf_X2_22) dX2_add_25 (fun v11 ev11 wv11 => ?_)
        have rv11 : rg (0) (39) v11 := clj_66 wv11
        replace hW := (wfP_i (wfP_i (wfP_a hW v11) ev11) rv11)
        have uv11 : (0 : Int) ≤ v11.toInt ∧ v11.toInt ≤ 39 := rv11
        have sv11 : v11.toInt = (g 66 i0).toInt := congrArg Int32.toInt (ev11.trans (congrFun ((show mFr [67, 544, 576] g g from mFr.rf).at 66 rfl) _))
        refine lv_aload_n hx hb dX2_add_28 rfl (lv_at hl 0 rfl) ?_
        refine c_geti x L 2 i0 3 67 hal0 rfl rfl (wk_in kf_X2_18) dX2_add_29 (fun v12 ev12 wv12 => ?_)
        refine m_top ((ev1).trans ev12.symm) ?_
        refine lv_iadd hx hb dX2_add_32 ?_
        refine lv_topi (fun v13 ev13 => ?_)
        have rv13 : rg (0) (78) v13 := (rg_add ev13 rv11 q4 rfl).1
        replace hW := (wfP_i (wfP_i (wfP_i (wfP_a hW v13) ev13) rv13) (w_iadd ((rg_add ev13 rv11 q4 rfl).2) rfl rfl))
        have tv13 := (rg_add ev13 rv11 q4 rfl).2
        have uv13 : (0 : Int) ≤ v13.toInt ∧ v13.toInt ≤ 78 := rv13
        refine lv_bipush (v := 40) hx hb dX2_add_33 (by decide) ?_
        refine lv_irem hx hb dX2_add_35 (by decide) ?_
        refine lv_topi (fun v14 ev14 => ?_)
        have rv14 : rg (0) (39) v14 := (rg_rem ev14 rv13 kc_40 rfl).1
        replace hW := (wfP_i (wfP_i (wfP_i (wfP_a hW v14) ev14) rv14) ((rg_rem ev14 rv13 kc_40 rfl).2))
        have tv14 := (rg_rem ev14 rv13 kc_40 rfl).2
        have y15 : (40 : Int32).toInt = 40 := by decide
        have uv14 : (0 : Int) ≤ v14.toInt ∧ v14.toInt ≤ 39 := rv14
        refine lv_istore (lv' := [(4, .int v14), (0, .ref (Z.ad 2 i0)), (1, .int p1), (2, .ref (Z.ad 25 q2)), (3, .int p3)]) hx hb dX2_add_36 hl (by decide) rfl (fun ls hl => ?_)
        refine lv_aload_n hx hb dX2_add_38 rfl (lv_at hl 1 rfl) ?_
        have al16 : Z.al 18 i0 := hz.2 18 i0 (show i0 < 4 * Z.n from (by omega))
        refine c_getr (a := Z.ad 18 i0) x L 2 i0 1 hal0 rfl rfl (wk_in kf_X2_15) dX2_add_39 ?_
        refine lv_iload hx hb dX2_add_42 (lv_at hl 0 rfl) ?_
        refine lv_iload_n hx hb dX2_add_44 rfl (lv_at hl 2 rfl) ?_
        refine c_st x L 18 i0 576 al16 rfl rfl rv14 rfl (rg_any p1) dX2_add_45 (fun g17 H17 k17 eg17 L17 => ?_)
        replace hW := (wfP_i (wfP_a hW g17) eg17)
        refine lv_aload_n hx hb dX2_add_46 rfl (lv_at hl 3 rfl) ?_
        refine lv_iload_n hx hb dX2_add_47 rfl (lv_at hl 4 rfl) ?_
        refine lv_aload_n hx hb dX2_add_48 rfl (lv_at hl 1 rfl) ?_
        have al18 : Z.al 17 i0 := hz.2 17 i0 (show i0 < 4 * Z.n from (by omega))
        refine c_getr (a := Z.ad 17 i0) x L17 2 i0 0 hal0 rfl rfl (wk_in kf_X2_9) dX2_add_49 ?_
        refine lv_iload hx hb dX2_add_52 (lv_at hl 0 rfl) ?_
        refine lv_bipush (v := 48) hx hb dX2_add_54 (by decide) ?_
        refine lv_imul hx hb dX2_add_56 ?_
        refine lv_topi (fun v19 ev19 => ?_)
        have rv19 : rg (0) (1872) v19 := (rg_mul ev19 rv14 kc_48 rfl).1
        replace hW := (wfP_i (wfP_i (wfP_i (wfP_a hW v19) ev19) rv19) ((rg_mul ev19 rv14 kc_48 rfl).2))
        have tv19 := (rg_mul ev19 rv14 kc_48 rfl).2
        have y20 : (48 : Int32).toInt = 48 := by decide
        have uv19 : (0 : Int) ≤ v19.toInt ∧ v19.toInt ≤ 1872 := rv19
        refine lv_bipush (v := 48) hx hb dX2_add_57 (by decide) ?_
        refine c_copy (rest := []) x (hml.trans hl.1.symm) L17 25 q2 17 i0 800 544 hq2 al18 rfl rfl rfl rfl ⟨rfl, rfl⟩ kl_X2_25 kw_cp (Int.le_trans (by decide) q10.1) (Int.le_trans (by decide) rv19.1) (Int.le_trans (by decide) kc_48.1) (Int.le_trans (Int.add_le_add q10.2 kc_48.2) (by decide)) (Int.le_trans (Int.add_le_add rv19.2 kc_48.2) (by decide)) (Nat.le_of_ble_eq_true rfl) (Nat.le_of_ble_eq_true rfl) dX2_add_59 (fun g21 H21 k21 ec21 L21 => ?_)
        replace hW := (wfP_i (wfP_a hW g21) ec21)
        refine lv_aload_n hx hb dX2_add_62 rfl (lv_at hl 1 rfl) ?_
        refine lv_dup hx hb dX2_add_63 rfl ?_
        refine c_geti x L21 2 i0 3 67 hal0 rfl rfl (wk_in kf_X2_18) dX2_add_64 (fun v22 ev22 wv22 => ?_)
        refine m_top (((mm_fr (mm_up ev1 eg17 rfl) (cCpy_fr ec21) rfl)).trans ev22.symm) ?_
        refine lv_iconst (v := 1) hx hb dX2_add_67 (by decide) ?_
        refine lv_iadd hx hb dX2_add_68 ?_
        refine lv_topi (fun v23 ev23 => ?_)
        have rv23 : rg (1) (40) v23 := (rg_add ev23 q4 kc_1 rfl).1
        replace hW := (wfP_i (wfP_i (wfP_i (wfP_a hW v23) ev23) rv23) (w_iadd ((rg_add ev23 q4 kc_1 rfl).2) rfl (rg_i kc_1)))
        have dv23 := (rg_add ev23 q4 kc_1 rfl).2
        have tv23 := (rg_add ev23 q4 kc_1 rfl).2
        have y24 : (1 : Int32).toInt = 1 := by decide
        have uv23 : (1 : Int) ≤ v23.toInt ∧ v23.toInt ≤ 40 := rv23
        refine c_puti x L21 2 i0 3 67 hal0 rfl rfl ⟨rfl, by decide +kernel⟩ (wk_in kf_X2_18) dX2_add_69 (crj_67 (rg_w rv23 rfl)) (fun g25 H25 k25 eg25 L25 => ?_)
        replace hW := (wfP_i (wfP_a hW g25) eg25)
        refine lv_iconst (v := 1) hx hb dX2_add_72 (by decide) ?_
        exact hQ _ _ (1 : Int32) _ _ _ dX2_add_73 L25 ⟨hW, (mFi.up (mFi.cpy (L := 1920) (mFi.up mFi.rf eg17 (mIn_at 2 rfl (Or.inr (mIx rv14 rfl)))) ec21 1 rfl (Int.le_trans (by decide) rv19.1) (Int.le_trans (Int.add_le_add rv19.2 kc_48.2) (by decide)) (Int.le_trans (by decide) kc_48.1) (by decide)) eg25 (mIn_at 0 rfl (Or.inr (Nat.div_one _)))), (mFr.upE (mFr.tr (mFr.upE mFr.rf eg17 rfl) (cCpy_fr ec21) rfl) eg25 rfl), rg_w kc_1 rfl, trivial⟩
      · skip
        replace hW := wfP_i (wfP_r hW) (i_lt (rg_nle c19_8) (rg_i kc_48) rfl)
        have ic19_8 := Int32.lt_iff_toInt_lt.mp (rg_nle c19_8)
        have q26 : rg (49) (10048) v6 := (rg_lt (rg_nle c19_8) kc_48 rv6).2
        have uq26 : (49 : Int) ≤ v6.toInt ∧ v6.toInt ≤ 10048 := q26
        have q27 : rg (1) (10000) p3 := rg_back dv6 kc_48 q26
        refine lv_iconst (v := 0) hx hb dX2_add_22 (by decide) ?_
        exact hQ _ _ (0 : Int32) _ _ _ dX2_add_23 L ⟨hW, mFi.rf, mFr.rf, rg_w kc_0 rfl, trivial⟩
theorem d_kqadd_25 (l : Launch) {G : cG} {Z : cZ} (X : Int) (g : mSt) (i0 : Nat) (p1 : Int32) (q2 : Nat) (p3 : Int32) (hX : 0 ≤ X ∧ X ≤ 2000000000) (hi0 : i0 < 4 * Z.n) (hq2 : Z.al 25 q2) (rp3 : rg (0) (10000) p3) {Φ : Int32 → mSt → Prop} (hW : wfP (wp_kqadd_25 Z i0 p1 q2 p3 g Φ)) : Met l yX2_add (wk (Cond.code yX2_add cX2_add 5 (some .boolean))) rm_kqadd_25 (va_Pc [.ref (Z.ad 2 i0), .int p1, .ref (Z.ad 25 q2), .int p3] (cPre G Z X g)) (cQi G Z X (fun r g1 => wfP (Φ r g1) ∧ mFi (im_kqadd_25 Z i0 p1 q2 p3) g g1 ∧ (mFr [67, 544, 576] g g1 ∧ rg (0) (1) r ∧ True))) 0 0 (cAd Z) := by
  refine Met.ofW (cc := cX2_add) (maxL := 5) (ret := (some .boolean)) (by decide) rfl ?_
  intro p e s m args below meth c s₁ B hml hv
  obtain ⟨rfl, hv⟩ := hv
  have hr := B.returns
  have hlocks := B.notSynchronized
  obtain ⟨x, L⟩ := c_start B rfl (fun w h => wk_in h) hv
  have hl := lv_entry ([.ref (Z.ad 2 i0), .int p1, .ref (Z.ad 25 q2), .int p3]) (n := 5) (Nat.le_of_ble_eq_true rfl)
  rw [lg_entry_eq]
  generalize (lg_sl ([.ref (Z.ad 2 i0), .int p1, .ref (Z.ad 25 q2), .int p3]) ++ List.replicate (5 - (lg_sl ([.ref (Z.ad 2 i0), .int p1, .ref (Z.ad 25 q2), .int p3])).length) Slot.unset).toArray = ls at hl ⊢
  exact v_kqadd_25 x hml L hX i0 p1 q2 p3 hi0 hq2 rp3 hW hl (fun pc' ls' r g1 H1 locs1 hdg L hp => c_zret x L hr hlocks (nar01 (rg_w hp.2.2.2.1 rfl)) (Int.le_refl _) hp hdg)

def im_kqtake (Z : cZ) (i0 : Nat) (q1 : Nat) (p2 : Int32) : List (Nat × Nat × Nat) := [(66, i0, 1), (67, i0, 1), (608, q1, 8192)]
def po_kqtake (Z : cZ) (i0 : Nat) (q1 : Nat) (p2 : Int32) (g : mSt) (r : Int32) (g1 : mSt) : Prop := mFi (im_kqtake Z i0 q1 p2) g g1 ∧ mFr [66, 67, 608] g g1 ∧ rg (-2147483648) (2147483647) r ∧ True
def wp_kqtake (Z : cZ) (i0 : Nat) (q1 : Nat) (p2 : Int32) (g : mSt) (Φ : Int32 → mSt → Prop) : Prop :=
  ∀ (v1 : Int32), v1 = g 67 i0 → rg (0) (40) v1 → ((v1.toInt < 1) → Φ (1 : Int32) g) ∧ ((1 ≤ v1.toInt) → ((p2.toInt < 0) → True) ∧ ((0 ≤ p2.toInt) → ∀ (v6 : Int32), v6 = p2 + (48 : Int32) → rg (48) (10048) v6 → v6.toInt = p2.toInt + 48 → ((v6.toInt ≤ 212) → ∀ (v11 : Int32), v11 = g 66 i0 → rg (0) (39) v11 → ∀ (v13 : Int32), v13 = v11 * (48 : Int32) → rg (0) (1872) v13 → v13.toInt = v11.toInt * 48 → ∀ (g15 : mSt), g15 = cCpy g 544 (8192 * i0 + v13.toNatClampNeg) 608 (8192 * q1 + p2.toNatClampNeg) (48 : Int32).toNatClampNeg → ∀ (v17 : Int32), v17 = v11 + (1 : Int32) → rg (1) (40) v17 → v17.toInt = v11.toInt + 1 → ∀ (v19 : Int32), v19 = v17 - v17 / (40 : Int32) * (40 : Int32) → rg (0) (39) v19 → v19.toInt = v17.toInt % 40 → ∀ (g21 : mSt), g21 = up2 g15 66 i0 v19 → ∀ (v23 : Int32), v23 = v1 - (1 : Int32) → rg (0) (39) v23 → v23.toInt = v1.toInt - 1 → ∀ (g25 : mSt), g25 = up2 g21 67 i0 v23 → ∀ (v27 : Int32), v27 = g25 576 (8192 * i0 + v11.toNatClampNeg) → rg (-2147483648) (2147483647) v27 → Φ v27 g25) ∧ ((212 < v6.toInt) → Φ (1 : Int32) g)))
set_option maxHeartbeats 4000000 in
set_option maxRecDepth 100000 in
theorem v_kqtake {p : Program} {l : Launch} {e : Env} {s : State} {m : MethodId} {args : Array Value} {below : List Frame} {meth : Method} {c : Code} {H : Heap} {locs : List Loc} {Q : State → Prop} {ls : Array Slot} {G : cG} {Z : cZ} {A : Nat → Prop} {g : mSt} {H0 : Heap} {X : Int} (x : cX p c cX2_takeFirst s args (wk (Cond.code yX2_takeFirst cX2_takeFirst 4 (some .int))) m G Z A RX2 H0) (hml : c.maxLocals = 4) (L : cL G Z A H0 X g H locs) (hX : 0 ≤ X ∧ X ≤ 2000000000) (i0 : Nat) (q1 : Nat) (p2 : Int32) (hi0 : i0 < 4 * Z.n) (hq1 : Z.al 19 q1) (rp2 : rg (0) (10000) p2) {Φ : Int32 → mSt → Prop} (hW : wfP (wp_kqtake Z i0 q1 p2 g Φ)) (hl : lv_has ls 4 [(0, .ref (Z.ad 2 i0)), (1, .ref (Z.ad 19 q1)), (2, .int p2)]) (hQ : ∀ (pc' : Nat) (ls' : Array Slot) (r : Int32) (g1 : mSt) (H1 : Heap) (locs1 : List Loc), decode cX2_takeFirst pc' = .ok (.ireturn, 1) → cL G Z A H0 X g1 H1 locs1 → (wfP (Φ r g1) ∧ mFi (im_kqtake Z i0 q1 p2) g g1 ∧ (mFr [66, 67, 608] g g1 ∧ rg (-2147483648) (2147483647) r ∧ True)) → W p l e rm_kqtake s m args below meth c H1 locs1 0 0 Q (F0 m pc' ls' [.int r])) : W p l e rm_kqtake s m args below meth c H locs 0 0 Q (F0 m 0 ls []) := by
  have hx := x.1
  have hb := x.2.1
  have hz := x.2.2.2.2.2.2.2.1
  have hzn := hz.1
  have hal0 : Z.al 2 i0 := hz.2 2 i0 (show i0 < 4 * Z.n from hi0)
  have up2 : (0 : Int) ≤ p2.toInt ∧ p2.toInt ≤ 10000 := rp2
  refine lv_aload_n hx hb dX2_takeFirst_0 rfl (lv_at hl 0 rfl) ?_
  refine c_geti x L 2 i0 3 67 hal0 rfl rfl (wk_in kf_X2_18) dX2_takeFirst_1 (fun v1 ev1 wv1 => ?_)
  have rv1 : rg (0) (40) v1 := clj_67 wv1
  replace hW := (wfP_i (wfP_i (wfP_a hW v1) ev1) rv1)
  have uv1 : (0 : Int) ≤ v1.toInt ∧ v1.toInt ≤ 40 := rv1
  have sv1 := congrArg Int32.toInt ev1
  refine lv_iconst (v := 1) hx hb dX2_takeFirst_4 (by decide) ?_
  refine lv_icmp_lt (tgt := 21) hx hb dX2_takeFirst_5 (by decide) (fun c5_2 => ?_) (fun c5_2 => ?_)
  · skip
    replace hW := wfP_i (wfP_l hW) (i_lt c5_2 rfl (rg_i kc_1))
    have ic5_2 := Int32.lt_iff_toInt_lt.mp c5_2
    have q3 : rg (0) (0) v1 := (rg_lt c5_2 rv1 kc_1).1
    have uq3 : (0 : Int) ≤ v1.toInt ∧ v1.toInt ≤ 0 := q3
    refine lv_iconst (v := 1) hx hb dX2_takeFirst_21 (by decide) ?_
    exact hQ _ _ (1 : Int32) _ _ _ dX2_takeFirst_22 L ⟨hW, mFi.rf, mFr.rf, rg_w kc_1 rfl, trivial⟩
  · skip
    replace hW := wfP_i (wfP_r hW) (i_le (rg_nlt c5_2) (rg_i kc_1) rfl)
    have ic5_2 := Int32.le_iff_toInt_le.mp (rg_nlt c5_2)
    have q4 : rg (1) (40) v1 := (rg_le (rg_nlt c5_2) kc_1 rv1).2
    have uq4 : (1 : Int) ≤ v1.toInt ∧ v1.toInt ≤ 40 := q4
    refine lv_iload_n hx hb dX2_takeFirst_8 rfl (lv_at hl 2 rfl) ?_
    refine lv_if_lt (tgt := 21) hx hb dX2_takeFirst_9 (by decide) (fun c9_5 => ?_) (fun c9_5 => ?_)
    · skip
      replace hW := wfP_i (wfP_l hW) (i_lt c9_5 rfl (rg_i kc_0))
      have ic9_5 := Int32.lt_iff_toInt_lt.mp c9_5
      exact absurd ((rg_lt c9_5 rp2 kc_0).1 : rg (0) (-1) p2) (fun q => rg_dead q rfl)
    · skip
      replace hW := wfP_i (wfP_r hW) (i_le (rg_nlt c9_5) (rg_i kc_0) rfl)
      have ic9_5 := Int32.le_iff_toInt_le.mp (rg_nlt c9_5)
      refine lv_iload_n hx hb dX2_takeFirst_12 rfl (lv_at hl 2 rfl) ?_
      refine lv_bipush (v := 48) hx hb dX2_takeFirst_13 (by decide) ?_
      refine lv_iadd hx hb dX2_takeFirst_15 ?_
      refine lv_topi (fun v6 ev6 => ?_)
      have rv6 : rg (48) (10048) v6 := (rg_add ev6 rp2 kc_48 rfl).1
      replace hW := (wfP_i (wfP_i (wfP_i (wfP_a hW v6) ev6) rv6) (w_iadd ((rg_add ev6 rp2 kc_48 rfl).2) rfl (rg_i kc_48)))
      have dv6 := (rg_add ev6 rp2 kc_48 rfl).2
      have tv6 := (rg_add ev6 rp2 kc_48 rfl).2
      have y7 : (48 : Int32).toInt = 48 := by decide
      have uv6 : (48 : Int) ≤ v6.toInt ∧ v6.toInt ≤ 10048 := rv6
      refine lv_aload_n hx hb dX2_takeFirst_16 rfl (lv_at hl 1 rfl) ?_
      refine c_len (n := 212) x L 19 q1 hq1 rfl (by decide) dX2_takeFirst_17 ?_
      refine lv_icmp_le (tgt := 23) hx hb dX2_takeFirst_18 (by decide) (fun c18_8 => ?_) (fun c18_8 => ?_)
      · skip
        replace hW := wfP_i (wfP_l hW) (i_le c18_8 rfl (rg_i kc_212))
        have ic18_8 := Int32.le_iff_toInt_le.mp c18_8
        have q9 : rg (48) (212) v6 := (rg_le c18_8 rv6 kc_212).1
        have uq9 : (48 : Int) ≤ v6.toInt ∧ v6.toInt ≤ 212 := q9
        have q10 : rg (0) (164) p2 := rg_back dv6 kc_48 q9
        refine lv_aload_n hx hb dX2_takeFirst_23 rfl (lv_at hl 0 rfl) ?_
        refine c_geti x L 2 i0 2 66 hal0 rfl rfl (wk_in kf_X2_22) dX2_takeFirst_24 (fun v11 ev11 wv11 => ?_)
        have rv11 : rg (0) (39) v11 := clj_66 wv11
        replace hW := (wfP_i (wfP_i (wfP_a hW v11) ev11) rv11)
        have uv11 : (0 : Int) ≤ v11.toInt ∧ v11.toInt ≤ 39 := rv11
        have sv11 := congrArg Int32.toInt ev11
        refine lv_istore_n (lv' := [(3, .int v11), (0, .ref (Z.ad 2 i0)), (1, .ref (Z.ad 19 q1)), (2, .int p2)]) hx hb dX2_takeFirst_27 rfl hl (by decide) rfl (fun ls hl => ?_)
        refine lv_aload_n hx hb dX2_takeFirst_28 rfl (lv_at hl 1 rfl) ?_
        have al12 : Z.al 17 i0 := hz.2 17 i0 (show i0 < 4 * Z.n from (by omega))
        refine c_getr (a := Z.ad 17 i0) x L 2 i0 0 hal0 rfl rfl (wk_in kf_X2_9) dX2_takeFirst_29 ?_
        refine lv_iload_n hx hb dX2_takeFirst_32 rfl (lv_at hl 0 rfl) ?_
        refine lv_bipush (v := 48) hx hb dX2_takeFirst_33 (by decide) ?_
        refine lv_imul hx hb dX2_takeFirst_35 ?_
        refine lv_topi (fun v13 ev13 => ?_)
        have rv13 : rg (0) (1872) v13 := (rg_mul ev13 rv11 kc_48 rfl).1
        replace hW := (wfP_i (wfP_i (wfP_i (wfP_a hW v13) ev13) rv13) ((rg_mul ev13 rv11 kc_48 rfl).2))
        have tv13 := (rg_mul ev13 rv11 kc_48 rfl).2
        have y14 : (48 : Int32).toInt = 48 := by decide
        have uv13 : (0 : Int) ≤ v13.toInt ∧ v13.toInt ≤ 1872 := rv13
        refine lv_aload_n hx hb dX2_takeFirst_36 rfl (lv_at hl 2 rfl) ?_
        refine lv_iload_n hx hb dX2_takeFirst_37 rfl (lv_at hl 3 rfl) ?_
        refine lv_bipush (v := 48) hx hb dX2_takeFirst_38 (by decide) ?_
        refine c_copy (rest := []) x (hml.trans hl.1.symm) L 17 i0 19 q1 544 608 al12 hq1 rfl rfl rfl rfl ⟨rfl, rfl⟩ kl_X2_25 kw_cp (Int.le_trans (by decide) rv13.1) (Int.le_trans (by decide) q10.1) (Int.le_trans (by decide) kc_48.1) (Int.le_trans (Int.add_le_add rv13.2 kc_48.2) (by decide)) (Int.le_trans (Int.add_le_add q10.2 kc_48.2) (by decide)) (Nat.le_of_ble_eq_true rfl) (Nat.le_of_ble_eq_true rfl) dX2_takeFirst_40 (fun g15 H15 k15 ec15 L15 => ?_)
        replace hW := (wfP_i (wfP_a hW g15) ec15)
        refine lv_aload_n hx hb dX2_takeFirst_43 rfl (lv_at hl 1 rfl) ?_
        refine lv_aload_n hx hb dX2_takeFirst_44 rfl (lv_at hl 1 rfl) ?_
        refine c_geti x L15 2 i0 2 66 hal0 rfl rfl (wk_in kf_X2_22) dX2_takeFirst_45 (fun v16 ev16 wv16 => ?_)
        refine m_top (((mm_fr ev11 (cCpy_fr ec15) rfl)).trans ev16.symm) ?_
        refine lv_iconst (v := 1) hx hb dX2_takeFirst_48 (by decide) ?_
        refine lv_iadd hx hb dX2_takeFirst_49 ?_
        refine lv_topi (fun v17 ev17 => ?_)
        have rv17 : rg (1) (40) v17 := (rg_add ev17 rv11 kc_1 rfl).1
        replace hW := (wfP_i (wfP_i (wfP_i (wfP_a hW v17) ev17) rv17) (w_iadd ((rg_add ev17 rv11 kc_1 rfl).2) rfl (rg_i kc_1)))
        have dv17 := (rg_add ev17 rv11 kc_1 rfl).2
        have tv17 := (rg_add ev17 rv11 kc_1 rfl).2
        have y18 : (1 : Int32).toInt = 1 := by decide
        have uv17 : (1 : Int) ≤ v17.toInt ∧ v17.toInt ≤ 40 := rv17
        refine lv_bipush (v := 40) hx hb dX2_takeFirst_50 (by decide) ?_
        refine lv_irem hx hb dX2_takeFirst_52 (by decide) ?_
        refine lv_topi (fun v19 ev19 => ?_)
        have rv19 : rg (0) (39) v19 := (rg_rem ev19 rv17 kc_40 rfl).1
        replace hW := (wfP_i (wfP_i (wfP_i (wfP_a hW v19) ev19) rv19) ((rg_rem ev19 rv17 kc_40 rfl).2))
        have tv19 := (rg_rem ev19 rv17 kc_40 rfl).2
        have y20 : (40 : Int32).toInt = 40 := by decide
        have uv19 : (0 : Int) ≤ v19.toInt ∧ v19.toInt ≤ 39 := rv19
        refine c_puti x L15 2 i0 2 66 hal0 rfl rfl ⟨rfl, by decide +kernel⟩ (wk_in kf_X2_22) dX2_takeFirst_53 (crj_66 (rg_w rv19 rfl)) (fun g21 H21 k21 eg21 L21 => ?_)
        replace hW := (wfP_i (wfP_a hW g21) eg21)
        refine lv_aload_n hx hb dX2_takeFirst_56 rfl (lv_at hl 1 rfl) ?_
        refine lv_dup hx hb dX2_takeFirst_57 rfl ?_
        refine c_geti x L21 2 i0 3 67 hal0 rfl rfl (wk_in kf_X2_18) dX2_takeFirst_58 (fun v22 ev22 wv22 => ?_)
        refine m_top (((mm_up (mm_fr ev1 (cCpy_fr ec15) rfl) eg21 rfl)).trans ev22.symm) ?_
        refine lv_iconst (v := 1) hx hb dX2_takeFirst_61 (by decide) ?_
        refine lv_isub hx hb dX2_takeFirst_62 ?_
        refine lv_topi (fun v23 ev23 => ?_)
        have rv23 : rg (0) (39) v23 := (rg_sub ev23 q4 kc_1 rfl).1
        replace hW := (wfP_i (wfP_i (wfP_i (wfP_a hW v23) ev23) rv23) (w_isub ((rg_sub ev23 q4 kc_1 rfl).2) rfl (rg_i kc_1)))
        have tv23 := (rg_sub ev23 q4 kc_1 rfl).2
        have y24 : (1 : Int32).toInt = 1 := by decide
        have uv23 : (0 : Int) ≤ v23.toInt ∧ v23.toInt ≤ 39 := rv23
        refine c_puti x L21 2 i0 3 67 hal0 rfl rfl ⟨rfl, by decide +kernel⟩ (wk_in kf_X2_18) dX2_takeFirst_63 (crj_67 (rg_w rv23 rfl)) (fun g25 H25 k25 eg25 L25 => ?_)
        replace hW := (wfP_i (wfP_a hW g25) eg25)
        refine lv_aload_n hx hb dX2_takeFirst_66 rfl (lv_at hl 1 rfl) ?_
        have al26 : Z.al 18 i0 := hz.2 18 i0 (show i0 < 4 * Z.n from (by omega))
        refine c_getr (a := Z.ad 18 i0) x L25 2 i0 1 hal0 rfl rfl (wk_in kf_X2_15) dX2_takeFirst_67 ?_
        refine lv_iload_n hx hb dX2_takeFirst_70 rfl (lv_at hl 0 rfl) ?_
        refine c_ld x L25 18 i0 576 al26 rfl rfl rv11 rfl dX2_takeFirst_71 (fun v27 ev27 wv27 => ?_)
        have rv27 : rg (-2147483648) (2147483647) v27 := rg_any v27
        replace hW := (wfP_i (wfP_i (wfP_a hW v27) ev27) rv27)
        have uv27 : (-2147483648 : Int) ≤ v27.toInt ∧ v27.toInt ≤ 2147483647 := rv27
        have sv27 : v27.toInt = (g 576 (8192 * i0 + v11.toNatClampNeg)).toInt := congrArg Int32.toInt (ev27.trans (congrFun ((show mFr [66, 67, 608] g g25 from (mFr.upE (mFr.upE (mFr.tr mFr.rf (cCpy_fr ec15) rfl) eg21 rfl) eg25 rfl)).at 576 rfl) _))
        exact hQ _ _ v27 _ _ _ dX2_takeFirst_72 L25 ⟨hW, (mFi.up (mFi.up (mFi.cpy (L := 212) mFi.rf ec15 2 rfl (Int.le_trans (by decide) q10.1) (Int.le_trans (Int.add_le_add q10.2 kc_48.2) (by decide)) (Int.le_trans (by decide) kc_48.1) (by decide)) eg21 (mIn_at 0 rfl (Or.inr (Nat.div_one _)))) eg25 (mIn_at 1 rfl (Or.inr (Nat.div_one _)))), (mFr.upE (mFr.upE (mFr.tr mFr.rf (cCpy_fr ec15) rfl) eg21 rfl) eg25 rfl), rg_w rv27 rfl, trivial⟩
      · skip
        replace hW := wfP_i (wfP_r hW) (i_lt (rg_nle c18_8) (rg_i kc_212) rfl)
        have ic18_8 := Int32.lt_iff_toInt_lt.mp (rg_nle c18_8)
        have q28 : rg (213) (10048) v6 := (rg_lt (rg_nle c18_8) kc_212 rv6).2
        have uq28 : (213 : Int) ≤ v6.toInt ∧ v6.toInt ≤ 10048 := q28
        have q29 : rg (165) (10000) p2 := rg_back dv6 kc_48 q28
        refine lv_iconst (v := 1) hx hb dX2_takeFirst_21 (by decide) ?_
        exact hQ _ _ (1 : Int32) _ _ _ dX2_takeFirst_22 L ⟨hW, mFi.rf, mFr.rf, rg_w kc_1 rfl, trivial⟩
theorem d_kqtake (l : Launch) {G : cG} {Z : cZ} (X : Int) (g : mSt) (i0 : Nat) (q1 : Nat) (p2 : Int32) (hX : 0 ≤ X ∧ X ≤ 2000000000) (hi0 : i0 < 4 * Z.n) (hq1 : Z.al 19 q1) (rp2 : rg (0) (10000) p2) {Φ : Int32 → mSt → Prop} (hW : wfP (wp_kqtake Z i0 q1 p2 g Φ)) : Met l yX2_takeFirst (wk (Cond.code yX2_takeFirst cX2_takeFirst 4 (some .int))) rm_kqtake (va_Pc [.ref (Z.ad 2 i0), .ref (Z.ad 19 q1), .int p2] (cPre G Z X g)) (cQi G Z X (fun r g1 => wfP (Φ r g1) ∧ mFi (im_kqtake Z i0 q1 p2) g g1 ∧ (mFr [66, 67, 608] g g1 ∧ rg (-2147483648) (2147483647) r ∧ True))) 0 0 (cAd Z) := by
  refine Met.ofW (cc := cX2_takeFirst) (maxL := 4) (ret := (some .int)) (by decide) rfl ?_
  intro p e s m args below meth c s₁ B hml hv
  obtain ⟨rfl, hv⟩ := hv
  have hr := B.returns
  have hlocks := B.notSynchronized
  obtain ⟨x, L⟩ := c_start B rfl (fun w h => wk_in h) hv
  have hl := lv_entry ([.ref (Z.ad 2 i0), .ref (Z.ad 19 q1), .int p2]) (n := 4) (Nat.le_of_ble_eq_true rfl)
  rw [lg_entry_eq]
  generalize (lg_sl ([.ref (Z.ad 2 i0), .ref (Z.ad 19 q1), .int p2]) ++ List.replicate (4 - (lg_sl ([.ref (Z.ad 2 i0), .ref (Z.ad 19 q1), .int p2])).length) Slot.unset).toArray = ls at hl ⊢
  exact v_kqtake x hml L hX i0 q1 p2 hi0 hq1 rp2 hW hl (fun pc' ls' r g1 H1 locs1 hdg L hp => c_iret x L hr hlocks (Int.le_refl _) hp hdg)

def im_kclearAll_6 (Z : cZ) (i0 : Nat) : List (Nat × Nat × Nat) := [(197, i0, 1), (198, i0, 1), (864, i0, 8192), (928, i0, 8192)]
def po_kclearAll_6 (Z : cZ) (i0 : Nat) (g : mSt) (r : Int32) (g1 : mSt) : Prop := mFi (im_kclearAll_6 Z i0) g g1 ∧ mFr [197, 198, 864, 928] g g1 ∧ True
def wp_kclearAll_6 (Z : cZ) (i0 : Nat) (g : mSt) (Φ : Int32 → mSt → Prop) : Prop :=
  ∀ (g1 : mSt), g1 = up2 g 197 i0 (0 : Int32) → ∀ (g2 : mSt), g2 = up2 g1 198 i0 (0 : Int32) → ∃ P4 : Int32 → mSt → Prop, (∀ (a12_1_3 : Int32) (g4 : mSt), mFr [864, 928] g2 g4 → mFi (im_kclearAll_6 Z i0) g2 g4 → rg (0) (10) a12_1_3 → P4 a12_1_3 g4 → ((10 ≤ a12_1_3.toInt) → Φ 0 g4) ∧ ((a12_1_3.toInt < 10) → ∀ (g10 : mSt), g10 = up2 g4 864 (8192 * i0 + a12_1_3.toNatClampNeg) (0 : Int32) → ∀ (g12 : mSt), g12 = up2 g10 928 (8192 * i0 + a12_1_3.toNatClampNeg) (0 : Int32) → ∀ (v13 : Int32), v13 = a12_1_3 + (1 : Int32) → rg (1) (10) v13 → v13.toInt = a12_1_3.toInt + 1 → P4 v13 g12)) ∧ P4 (0 : Int32) g2
set_option maxHeartbeats 4000000 in
set_option maxRecDepth 100000 in
theorem v_kclearAll_6 {p : Program} {l : Launch} {e : Env} {s : State} {m : MethodId} {args : Array Value} {below : List Frame} {meth : Method} {c : Code} {H : Heap} {locs : List Loc} {Q : State → Prop} {ls : Array Slot} {G : cG} {Z : cZ} {A : Nat → Prop} {g : mSt} {H0 : Heap} {X : Int} (x : cX p c cX6_clearAll s args (wk (Cond.code yX6_clearAll cX6_clearAll 2 none)) m G Z A RX6 H0) (hml : c.maxLocals = 2) (L : cL G Z A H0 X g H locs) (hX : 0 ≤ X ∧ X ≤ 2000000000) (i0 : Nat) (hi0 : i0 < 2 * Z.n) {Φ : Int32 → mSt → Prop} (hW : wfP (wp_kclearAll_6 Z i0 g Φ)) (hl : lv_has ls 2 [(0, .ref (Z.ad 6 i0))]) (hQ : ∀ (pc' : Nat) (ls' : Array Slot) (g1 : mSt) (H1 : Heap) (locs1 : List Loc), decode cX6_clearAll pc' = .ok (.return_, 1) → cL G Z A H0 X g1 H1 locs1 → (wfP (Φ 0 g1) ∧ mFi (im_kclearAll_6 Z i0) g g1 ∧ (mFr [197, 198, 864, 928] g g1 ∧ True)) → W p l e rm_kclearAll_6 s m args below meth c H1 locs1 0 0 Q (F0 m pc' ls' [])) : W p l e rm_kclearAll_6 s m args below meth c H locs 0 0 Q (F0 m 0 ls []) := by
  have hx := x.1
  have hb := x.2.1
  have hz := x.2.2.2.2.2.2.2.1
  have hzn := hz.1
  have hal0 : Z.al 6 i0 := hz.2 6 i0 (show i0 < 2 * Z.n from hi0)
  refine lv_aload_n hx hb dX6_clearAll_0 rfl (lv_at hl 0 rfl) ?_
  refine lv_iconst (v := 0) hx hb dX6_clearAll_1 (by decide) ?_
  refine c_puti x L 6 i0 5 197 hal0 rfl rfl ⟨rfl, by decide +kernel⟩ (wk_in kf_X6_35) dX6_clearAll_2 (crj_197 (rg_w kc_0 rfl)) (fun g1 H1 k1 eg1 L1 => ?_)
  replace hW := (wfP_i (wfP_a hW g1) eg1)
  refine lv_aload_n hx hb dX6_clearAll_5 rfl (lv_at hl 0 rfl) ?_
  refine lv_iconst (v := 0) hx hb dX6_clearAll_6 (by decide) ?_
  refine c_puti x L1 6 i0 6 198 hal0 rfl rfl ⟨rfl, by decide +kernel⟩ (wk_in kf_X6_38) dX6_clearAll_7 (crj_198 (rg_w kc_0 rfl)) (fun g2 H2 k2 eg2 L2 => ?_)
  replace hW := (wfP_i (wfP_a hW g2) eg2)
  refine lv_iconst (v := 0) hx hb dX6_clearAll_10 (by decide) ?_
  refine lv_istore_n (lv' := [(1, .int (0 : Int32)), (0, .ref (Z.ad 6 i0))]) hx hb dX6_clearAll_11 rfl hl (by decide) rfl (fun ls hl => ?_)
  obtain ⟨P4, hP4, hW⟩ := wfP_ex hW
  have j12_4 : ∀ (n : Nat) (a12_1_3 : Int32) (g4 : mSt) (H4 : Heap) (k4 : List Loc) (ls : Array Slot), mFr [864, 928] g2 g4 → cL G Z A H0 X g4 H4 k4 → rg (0) (10) a12_1_3 → mFi (im_kclearAll_6 Z i0) g2 g4 → wfP (P4 a12_1_3 g4) → lv_has ls 2 [(0, .ref (Z.ad 6 i0)), (1, .int a12_1_3)] → ((10 : Int) - a12_1_3.toInt).toNat = n → W p l e rm_kclearAll_6 s m args below meth c H4 k4 0 0 Q (F0 m 12 ls []) := by
    intro n
    induction n using Nat.strongRecOn with
    | _ n ih4 =>
      intro a12_1_3 g4 H4 k4 ls hF4 L4 ra12_1_3 hI4 hW hl hn4
      subst hn4
      replace hW := wfP_i (wfP_i (wfP_i (wfP_i (wfP_a (wfP_a hP4 a12_1_3) g4) hF4) hI4) ra12_1_3) hW
      refine lv_iload_n hx hb dX6_clearAll_12 rfl (lv_at hl 1 rfl) ?_
      refine lv_aload_n hx hb dX6_clearAll_13 rfl (lv_at hl 0 rfl) ?_
      refine c_geti x L4 6 i0 0 192 hal0 rfl rfl (wk_in kf_X6_15) dX6_clearAll_14 (fun v5 ev5 wv5 => ?_)
      have rv5 : rg (10) (10) v5 := clj_192 wv5
      refine m_top (rg_lit rv5 (show (10 : Int32).toInt = 10 from (by decide))) ?_
      refine lv_icmp_ge (tgt := 40) hx hb dX6_clearAll_17 (by decide) (fun c17_6 => ?_) (fun c17_6 => ?_)
      · skip
        replace hW := wfP_i (wfP_l hW) (i_le c17_6 (rg_i kc_10) rfl)
        have q7 : rg (10) (10) a12_1_3 := (rg_le c17_6 kc_10 ra12_1_3).2
        exact hQ _ _ _ _ _ dX6_clearAll_40 L4 ⟨hW, (mFi.tr (mFi.up (mFi.up mFi.rf eg1 (mIn_at 0 rfl (Or.inr (Nat.div_one _)))) eg2 (mIn_at 1 rfl (Or.inr (Nat.div_one _)))) hI4), (mFr.tr (mFr.upE (mFr.upE mFr.rf eg1 rfl) eg2 rfl) hF4 rfl), trivial⟩
      · skip
        replace hW := wfP_i (wfP_r hW) (i_lt (rg_nle c17_6) rfl (rg_i kc_10))
        have q8 : rg (0) (9) a12_1_3 := (rg_lt (rg_nle c17_6) ra12_1_3 kc_10).1
        refine lv_aload_n hx hb dX6_clearAll_20 rfl (lv_at hl 0 rfl) ?_
        have al9 : Z.al 27 i0 := hz.2 27 i0 (show i0 < 2 * Z.n from (by omega))
        refine c_getr (a := Z.ad 27 i0) x L4 6 i0 2 hal0 rfl rfl (wk_in kf_X6_25) dX6_clearAll_21 ?_
        refine lv_iload_n hx hb dX6_clearAll_24 rfl (lv_at hl 1 rfl) ?_
        refine lv_iconst (v := 0) hx hb dX6_clearAll_25 (by decide) ?_
        refine c_st x L4 27 i0 864 al9 rfl rfl q8 rfl (crj_864 (rg_w kc_0 rfl)) dX6_clearAll_26 (fun g10 H10 k10 eg10 L10 => ?_)
        replace hW := (wfP_i (wfP_a hW g10) eg10)
        refine lv_aload_n hx hb dX6_clearAll_27 rfl (lv_at hl 0 rfl) ?_
        have al11 : Z.al 29 i0 := hz.2 29 i0 (show i0 < 2 * Z.n from (by omega))
        refine c_getr (a := Z.ad 29 i0) x L10 6 i0 4 hal0 rfl rfl (wk_in kf_X6_31) dX6_clearAll_28 ?_
        refine lv_iload_n hx hb dX6_clearAll_31 rfl (lv_at hl 1 rfl) ?_
        refine lv_iconst (v := 0) hx hb dX6_clearAll_32 (by decide) ?_
        refine c_stz x L10 29 i0 928 al11 rfl rfl q8 rfl (rg_w kc_0 rfl) (crj_928 (rg_w kc_0 rfl)) dX6_clearAll_33 (fun g12 H12 k12 eg12 L12 => ?_)
        replace hW := (wfP_i (wfP_a hW g12) eg12)
        obtain ⟨v13, ev13, fv13⟩ := inc_ex a12_1_3 (1) (1 : Int32) (by decide)
        have rv13 : rg (1) (10) v13 := (rg_add ev13 q8 kc_1 rfl).1
        have tv13 := (rg_add ev13 q8 kc_1 rfl).2
        replace hW := (wfP_i (wfP_i (wfP_i (wfP_a hW v13) ev13) rv13) (w_iadd tv13 rfl (rg_i kc_1)))
        refine lv_iinc (v := v13) (lv' := [(1, .int v13), (0, .ref (Z.ad 6 i0))]) hx hb dX6_clearAll_34 hl (k := 1) rfl fv13 (by decide) rfl (fun ls hl => ?_)
        refine lv_goto (tgt := 12) hx hb dX6_clearAll_37 (by decide) ?_
        exact ih4 _ (ms_up tv13 kc_1 q8 rfl rfl) v13 g12 _ _ ls (mFr.upE (mFr.upE hF4 eg10 rfl) eg12 rfl) L12 (rg_w rv13 rfl) (mFi.up (mFi.up hI4 eg10 (mIn_at 2 rfl (Or.inr (mIx q8 rfl)))) eg12 (mIn_at 3 rfl (Or.inr (mIx q8 rfl)))) hW (lv_sub hl [1, 0] rfl) rfl
  exact j12_4 _ (0 : Int32) g2 _ _ ls mFr.rf L2 (rg_w kc_0 rfl) mFi.rf hW (lv_sub hl [1, 0] rfl) rfl
theorem d_kclearAll_6 (l : Launch) {G : cG} {Z : cZ} (X : Int) (g : mSt) (i0 : Nat) (hX : 0 ≤ X ∧ X ≤ 2000000000) (hi0 : i0 < 2 * Z.n) {Φ : Int32 → mSt → Prop} (hW : wfP (wp_kclearAll_6 Z i0 g Φ)) : Met l yX6_clearAll (wk (Cond.code yX6_clearAll cX6_clearAll 2 none)) rm_kclearAll_6 (va_Pc [.ref (Z.ad 6 i0)] (cPre G Z X g)) (cQv G Z X (fun g1 => wfP (Φ 0 g1) ∧ mFi (im_kclearAll_6 Z i0) g g1 ∧ (mFr [197, 198, 864, 928] g g1 ∧ True))) 0 0 (cAd Z) := by
  refine Met.ofW (cc := cX6_clearAll) (maxL := 2) (ret := none) (by decide) rfl ?_
  intro p e s m args below meth c s₁ B hml hv
  obtain ⟨rfl, hv⟩ := hv
  have hr := B.returns
  have hlocks := B.notSynchronized
  obtain ⟨x, L⟩ := c_start B rfl (fun w h => wk_in h) hv
  have hl := lv_entry ([.ref (Z.ad 6 i0)]) (n := 2) (Nat.le_of_ble_eq_true rfl)
  rw [lg_entry_eq]
  generalize (lg_sl ([.ref (Z.ad 6 i0)]) ++ List.replicate (2 - (lg_sl ([.ref (Z.ad 6 i0)])).length) Slot.unset).toArray = ls at hl ⊢
  exact v_kclearAll_6 x hml L hX i0 hi0 hW hl (fun pc' ls' g1 H1 locs1 hdg L hp => c_vret x L hr hlocks (Int.le_refl _) hp hdg)

def im_kclearAll_13 (Z : cZ) (i0 : Nat) : List (Nat × Nat × Nat) := [(421, i0, 1), (422, i0, 1), (1280, i0, 8192), (1344, i0, 8192)]
def po_kclearAll_13 (Z : cZ) (i0 : Nat) (g : mSt) (r : Int32) (g1 : mSt) : Prop := mFi (im_kclearAll_13 Z i0) g g1 ∧ mFr [421, 422, 1280, 1344] g g1 ∧ True
def wp_kclearAll_13 (Z : cZ) (i0 : Nat) (g : mSt) (Φ : Int32 → mSt → Prop) : Prop :=
  ∀ (g1 : mSt), g1 = up2 g 421 i0 (0 : Int32) → ∀ (g2 : mSt), g2 = up2 g1 422 i0 (0 : Int32) → ∃ P4 : Int32 → mSt → Prop, (∀ (a12_1_3 : Int32) (g4 : mSt), mFr [1280, 1344] g2 g4 → mFi (im_kclearAll_13 Z i0) g2 g4 → rg (0) (8) a12_1_3 → P4 a12_1_3 g4 → ((8 ≤ a12_1_3.toInt) → Φ 0 g4) ∧ ((a12_1_3.toInt < 8) → ∀ (g10 : mSt), g10 = up2 g4 1280 (8192 * i0 + a12_1_3.toNatClampNeg) (0 : Int32) → ∀ (g12 : mSt), g12 = up2 g10 1344 (8192 * i0 + a12_1_3.toNatClampNeg) (0 : Int32) → ∀ (v13 : Int32), v13 = a12_1_3 + (1 : Int32) → rg (1) (8) v13 → v13.toInt = a12_1_3.toInt + 1 → P4 v13 g12)) ∧ P4 (0 : Int32) g2
set_option maxHeartbeats 4000000 in
set_option maxRecDepth 100000 in
theorem v_kclearAll_13 {p : Program} {l : Launch} {e : Env} {s : State} {m : MethodId} {args : Array Value} {below : List Frame} {meth : Method} {c : Code} {H : Heap} {locs : List Loc} {Q : State → Prop} {ls : Array Slot} {G : cG} {Z : cZ} {A : Nat → Prop} {g : mSt} {H0 : Heap} {X : Int} (x : cX p c cX6_clearAll s args (wk (Cond.code yX6_clearAll cX6_clearAll 2 none)) m G Z A RX6 H0) (hml : c.maxLocals = 2) (L : cL G Z A H0 X g H locs) (hX : 0 ≤ X ∧ X ≤ 2000000000) (i0 : Nat) (hi0 : i0 < 4 * Z.n) {Φ : Int32 → mSt → Prop} (hW : wfP (wp_kclearAll_13 Z i0 g Φ)) (hl : lv_has ls 2 [(0, .ref (Z.ad 13 i0))]) (hQ : ∀ (pc' : Nat) (ls' : Array Slot) (g1 : mSt) (H1 : Heap) (locs1 : List Loc), decode cX6_clearAll pc' = .ok (.return_, 1) → cL G Z A H0 X g1 H1 locs1 → (wfP (Φ 0 g1) ∧ mFi (im_kclearAll_13 Z i0) g g1 ∧ (mFr [421, 422, 1280, 1344] g g1 ∧ True)) → W p l e rm_kclearAll_13 s m args below meth c H1 locs1 0 0 Q (F0 m pc' ls' [])) : W p l e rm_kclearAll_13 s m args below meth c H locs 0 0 Q (F0 m 0 ls []) := by
  have hx := x.1
  have hb := x.2.1
  have hz := x.2.2.2.2.2.2.2.1
  have hzn := hz.1
  have hal0 : Z.al 13 i0 := hz.2 13 i0 (show i0 < 4 * Z.n from hi0)
  refine lv_aload_n hx hb dX6_clearAll_0 rfl (lv_at hl 0 rfl) ?_
  refine lv_iconst (v := 0) hx hb dX6_clearAll_1 (by decide) ?_
  refine c_puti x L 13 i0 5 421 hal0 rfl rfl ⟨rfl, by decide +kernel⟩ (wk_in kf_X6_35) dX6_clearAll_2 (crj_421 (rg_w kc_0 rfl)) (fun g1 H1 k1 eg1 L1 => ?_)
  replace hW := (wfP_i (wfP_a hW g1) eg1)
  refine lv_aload_n hx hb dX6_clearAll_5 rfl (lv_at hl 0 rfl) ?_
  refine lv_iconst (v := 0) hx hb dX6_clearAll_6 (by decide) ?_
  refine c_puti x L1 13 i0 6 422 hal0 rfl rfl ⟨rfl, by decide +kernel⟩ (wk_in kf_X6_38) dX6_clearAll_7 (crj_422 (rg_w kc_0 rfl)) (fun g2 H2 k2 eg2 L2 => ?_)
  replace hW := (wfP_i (wfP_a hW g2) eg2)
  refine lv_iconst (v := 0) hx hb dX6_clearAll_10 (by decide) ?_
  refine lv_istore_n (lv' := [(1, .int (0 : Int32)), (0, .ref (Z.ad 13 i0))]) hx hb dX6_clearAll_11 rfl hl (by decide) rfl (fun ls hl => ?_)
  obtain ⟨P4, hP4, hW⟩ := wfP_ex hW
  have j12_4 : ∀ (n : Nat) (a12_1_3 : Int32) (g4 : mSt) (H4 : Heap) (k4 : List Loc) (ls : Array Slot), mFr [1280, 1344] g2 g4 → cL G Z A H0 X g4 H4 k4 → rg (0) (8) a12_1_3 → mFi (im_kclearAll_13 Z i0) g2 g4 → wfP (P4 a12_1_3 g4) → lv_has ls 2 [(0, .ref (Z.ad 13 i0)), (1, .int a12_1_3)] → ((8 : Int) - a12_1_3.toInt).toNat = n → W p l e rm_kclearAll_13 s m args below meth c H4 k4 0 0 Q (F0 m 12 ls []) := by
    intro n
    induction n using Nat.strongRecOn with
    | _ n ih4 =>
      intro a12_1_3 g4 H4 k4 ls hF4 L4 ra12_1_3 hI4 hW hl hn4
      subst hn4
      replace hW := wfP_i (wfP_i (wfP_i (wfP_i (wfP_a (wfP_a hP4 a12_1_3) g4) hF4) hI4) ra12_1_3) hW
      refine lv_iload_n hx hb dX6_clearAll_12 rfl (lv_at hl 1 rfl) ?_
      refine lv_aload_n hx hb dX6_clearAll_13 rfl (lv_at hl 0 rfl) ?_
      refine c_geti x L4 13 i0 0 416 hal0 rfl rfl (wk_in kf_X6_15) dX6_clearAll_14 (fun v5 ev5 wv5 => ?_)
      have rv5 : rg (8) (8) v5 := clj_416 wv5
      refine m_top (rg_lit rv5 (show (8 : Int32).toInt = 8 from (by decide))) ?_
      refine lv_icmp_ge (tgt := 40) hx hb dX6_clearAll_17 (by decide) (fun c17_6 => ?_) (fun c17_6 => ?_)
      · skip
        replace hW := wfP_i (wfP_l hW) (i_le c17_6 (rg_i kc_8) rfl)
        have q7 : rg (8) (8) a12_1_3 := (rg_le c17_6 kc_8 ra12_1_3).2
        exact hQ _ _ _ _ _ dX6_clearAll_40 L4 ⟨hW, (mFi.tr (mFi.up (mFi.up mFi.rf eg1 (mIn_at 0 rfl (Or.inr (Nat.div_one _)))) eg2 (mIn_at 1 rfl (Or.inr (Nat.div_one _)))) hI4), (mFr.tr (mFr.upE (mFr.upE mFr.rf eg1 rfl) eg2 rfl) hF4 rfl), trivial⟩
      · skip
        replace hW := wfP_i (wfP_r hW) (i_lt (rg_nle c17_6) rfl (rg_i kc_8))
        have q8 : rg (0) (7) a12_1_3 := (rg_lt (rg_nle c17_6) ra12_1_3 kc_8).1
        refine lv_aload_n hx hb dX6_clearAll_20 rfl (lv_at hl 0 rfl) ?_
        have al9 : Z.al 40 i0 := hz.2 40 i0 (show i0 < 4 * Z.n from (by omega))
        refine c_getr (a := Z.ad 40 i0) x L4 13 i0 2 hal0 rfl rfl (wk_in kf_X6_25) dX6_clearAll_21 ?_
        refine lv_iload_n hx hb dX6_clearAll_24 rfl (lv_at hl 1 rfl) ?_
        refine lv_iconst (v := 0) hx hb dX6_clearAll_25 (by decide) ?_
        refine c_st x L4 40 i0 1280 al9 rfl rfl q8 rfl (crj_1280 (rg_w kc_0 rfl)) dX6_clearAll_26 (fun g10 H10 k10 eg10 L10 => ?_)
        replace hW := (wfP_i (wfP_a hW g10) eg10)
        refine lv_aload_n hx hb dX6_clearAll_27 rfl (lv_at hl 0 rfl) ?_
        have al11 : Z.al 42 i0 := hz.2 42 i0 (show i0 < 4 * Z.n from (by omega))
        refine c_getr (a := Z.ad 42 i0) x L10 13 i0 4 hal0 rfl rfl (wk_in kf_X6_31) dX6_clearAll_28 ?_
        refine lv_iload_n hx hb dX6_clearAll_31 rfl (lv_at hl 1 rfl) ?_
        refine lv_iconst (v := 0) hx hb dX6_clearAll_32 (by decide) ?_
        refine c_stz x L10 42 i0 1344 al11 rfl rfl q8 rfl (rg_w kc_0 rfl) (crj_1344 (rg_w kc_0 rfl)) dX6_clearAll_33 (fun g12 H12 k12 eg12 L12 => ?_)
        replace hW := (wfP_i (wfP_a hW g12) eg12)
        obtain ⟨v13, ev13, fv13⟩ := inc_ex a12_1_3 (1) (1 : Int32) (by decide)
        have rv13 : rg (1) (8) v13 := (rg_add ev13 q8 kc_1 rfl).1
        have tv13 := (rg_add ev13 q8 kc_1 rfl).2
        replace hW := (wfP_i (wfP_i (wfP_i (wfP_a hW v13) ev13) rv13) (w_iadd tv13 rfl (rg_i kc_1)))
        refine lv_iinc (v := v13) (lv' := [(1, .int v13), (0, .ref (Z.ad 13 i0))]) hx hb dX6_clearAll_34 hl (k := 1) rfl fv13 (by decide) rfl (fun ls hl => ?_)
        refine lv_goto (tgt := 12) hx hb dX6_clearAll_37 (by decide) ?_
        exact ih4 _ (ms_up tv13 kc_1 q8 rfl rfl) v13 g12 _ _ ls (mFr.upE (mFr.upE hF4 eg10 rfl) eg12 rfl) L12 (rg_w rv13 rfl) (mFi.up (mFi.up hI4 eg10 (mIn_at 2 rfl (Or.inr (mIx q8 rfl)))) eg12 (mIn_at 3 rfl (Or.inr (mIx q8 rfl)))) hW (lv_sub hl [1, 0] rfl) rfl
  exact j12_4 _ (0 : Int32) g2 _ _ ls mFr.rf L2 (rg_w kc_0 rfl) mFi.rf hW (lv_sub hl [1, 0] rfl) rfl
theorem d_kclearAll_13 (l : Launch) {G : cG} {Z : cZ} (X : Int) (g : mSt) (i0 : Nat) (hX : 0 ≤ X ∧ X ≤ 2000000000) (hi0 : i0 < 4 * Z.n) {Φ : Int32 → mSt → Prop} (hW : wfP (wp_kclearAll_13 Z i0 g Φ)) : Met l yX6_clearAll (wk (Cond.code yX6_clearAll cX6_clearAll 2 none)) rm_kclearAll_13 (va_Pc [.ref (Z.ad 13 i0)] (cPre G Z X g)) (cQv G Z X (fun g1 => wfP (Φ 0 g1) ∧ mFi (im_kclearAll_13 Z i0) g g1 ∧ (mFr [421, 422, 1280, 1344] g g1 ∧ True))) 0 0 (cAd Z) := by
  refine Met.ofW (cc := cX6_clearAll) (maxL := 2) (ret := none) (by decide) rfl ?_
  intro p e s m args below meth c s₁ B hml hv
  obtain ⟨rfl, hv⟩ := hv
  have hr := B.returns
  have hlocks := B.notSynchronized
  obtain ⟨x, L⟩ := c_start B rfl (fun w h => wk_in h) hv
  have hl := lv_entry ([.ref (Z.ad 13 i0)]) (n := 2) (Nat.le_of_ble_eq_true rfl)
  rw [lg_entry_eq]
  generalize (lg_sl ([.ref (Z.ad 13 i0)]) ++ List.replicate (2 - (lg_sl ([.ref (Z.ad 13 i0)])).length) Slot.unset).toArray = ls at hl ⊢
  exact v_kclearAll_13 x hml L hX i0 hi0 hW hl (fun pc' ls' g1 H1 locs1 hdg L hp => c_vret x L hr hlocks (Int.le_refl _) hp hdg)

def im_kclear (Z : cZ) (i0 : Nat) (p1 : Int32) : List (Nat × Nat × Nat) := [(1280, i0, 8192), (1344, i0, 8192)]
def po_kclear (Z : cZ) (i0 : Nat) (p1 : Int32) (g : mSt) (r : Int32) (g1 : mSt) : Prop := mFi (im_kclear Z i0 p1) g g1 ∧ mFr [1280, 1344] g g1 ∧ True
def wp_kclear (Z : cZ) (i0 : Nat) (p1 : Int32) (g : mSt) (Φ : Int32 → mSt → Prop) : Prop :=
  ((p1.toInt < 0) → Φ 0 g) ∧ ((0 ≤ p1.toInt) → ((8 ≤ p1.toInt) → Φ 0 g) ∧ ((p1.toInt < 8) → ∀ (g9 : mSt), g9 = up2 g 1280 (8192 * i0 + p1.toNatClampNeg) (0 : Int32) → ∀ (g11 : mSt), g11 = up2 g9 1344 (8192 * i0 + p1.toNatClampNeg) (0 : Int32) → Φ 0 g11))
set_option maxHeartbeats 4000000 in
set_option maxRecDepth 100000 in
theorem v_kclear {p : Program} {l : Launch} {e : Env} {s : State} {m : MethodId} {args : Array Value} {below : List Frame} {meth : Method} {c : Code} {H : Heap} {locs : List Loc} {Q : State → Prop} {ls : Array Slot} {G : cG} {Z : cZ} {A : Nat → Prop} {g : mSt} {H0 : Heap} {X : Int} (x : cX p c cX6_clear s args (wk (Cond.code yX6_clear cX6_clear 2 none)) m G Z A RX6 H0) (hml : c.maxLocals = 2) (L : cL G Z A H0 X g H locs) (hX : 0 ≤ X ∧ X ≤ 2000000000) (i0 : Nat) (p1 : Int32) (hi0 : i0 < 4 * Z.n) {Φ : Int32 → mSt → Prop} (hW : wfP (wp_kclear Z i0 p1 g Φ)) (hl : lv_has ls 2 [(0, .ref (Z.ad 13 i0)), (1, .int p1)]) (hQ : ∀ (pc' : Nat) (ls' : Array Slot) (g1 : mSt) (H1 : Heap) (locs1 : List Loc), decode cX6_clear pc' = .ok (.return_, 1) → cL G Z A H0 X g1 H1 locs1 → (wfP (Φ 0 g1) ∧ mFi (im_kclear Z i0 p1) g g1 ∧ (mFr [1280, 1344] g g1 ∧ True)) → W p l e rm_kclear s m args below meth c H1 locs1 0 0 Q (F0 m pc' ls' [])) : W p l e rm_kclear s m args below meth c H locs 0 0 Q (F0 m 0 ls []) := by
  have hx := x.1
  have hb := x.2.1
  have hz := x.2.2.2.2.2.2.2.1
  have hzn := hz.1
  have hal0 : Z.al 13 i0 := hz.2 13 i0 (show i0 < 4 * Z.n from hi0)
  refine lv_iload_n hx hb dX6_clear_0 rfl (lv_at hl 1 rfl) ?_
  refine lv_if_lt (tgt := 26) hx hb dX6_clear_1 (by decide) (fun c1_1 => ?_) (fun c1_1 => ?_)
  · skip
    replace hW := wfP_i (wfP_l hW) (i_lt c1_1 rfl (rg_i kc_0))
    have q2 : rg (-2147483648) (-1) p1 := (rg_lt c1_1 (rg_any p1) kc_0).1
    exact hQ _ _ _ _ _ dX6_clear_26 L ⟨hW, mFi.rf, mFr.rf, trivial⟩
  · skip
    replace hW := wfP_i (wfP_r hW) (i_le (rg_nlt c1_1) (rg_i kc_0) rfl)
    have q3 : rg (0) (2147483647) p1 := (rg_le (rg_nlt c1_1) kc_0 (rg_any p1)).2
    refine lv_iload_n hx hb dX6_clear_4 rfl (lv_at hl 1 rfl) ?_
    refine lv_aload_n hx hb dX6_clear_5 rfl (lv_at hl 0 rfl) ?_
    refine c_geti x L 13 i0 0 416 hal0 rfl rfl (wk_in kf_X6_15) dX6_clear_6 (fun v4 ev4 wv4 => ?_)
    have rv4 : rg (8) (8) v4 := clj_416 wv4
    refine m_top (rg_lit rv4 (show (8 : Int32).toInt = 8 from (by decide))) ?_
    refine lv_icmp_ge (tgt := 26) hx hb dX6_clear_9 (by decide) (fun c9_5 => ?_) (fun c9_5 => ?_)
    · skip
      replace hW := wfP_i (wfP_l hW) (i_le c9_5 (rg_i kc_8) rfl)
      have q6 : rg (8) (2147483647) p1 := (rg_le c9_5 kc_8 q3).2
      exact hQ _ _ _ _ _ dX6_clear_26 L ⟨hW, mFi.rf, mFr.rf, trivial⟩
    · skip
      replace hW := wfP_i (wfP_r hW) (i_lt (rg_nle c9_5) rfl (rg_i kc_8))
      have q7 : rg (0) (7) p1 := (rg_lt (rg_nle c9_5) q3 kc_8).1
      refine lv_aload_n hx hb dX6_clear_12 rfl (lv_at hl 0 rfl) ?_
      have al8 : Z.al 40 i0 := hz.2 40 i0 (show i0 < 4 * Z.n from (by omega))
      refine c_getr (a := Z.ad 40 i0) x L 13 i0 2 hal0 rfl rfl (wk_in kf_X6_25) dX6_clear_13 ?_
      refine lv_iload_n hx hb dX6_clear_16 rfl (lv_at hl 1 rfl) ?_
      refine lv_iconst (v := 0) hx hb dX6_clear_17 (by decide) ?_
      refine c_st x L 40 i0 1280 al8 rfl rfl q7 rfl (crj_1280 (rg_w kc_0 rfl)) dX6_clear_18 (fun g9 H9 k9 eg9 L9 => ?_)
      replace hW := (wfP_i (wfP_a hW g9) eg9)
      refine lv_aload_n hx hb dX6_clear_19 rfl (lv_at hl 0 rfl) ?_
      have al10 : Z.al 42 i0 := hz.2 42 i0 (show i0 < 4 * Z.n from (by omega))
      refine c_getr (a := Z.ad 42 i0) x L9 13 i0 4 hal0 rfl rfl (wk_in kf_X6_31) dX6_clear_20 ?_
      refine lv_iload_n hx hb dX6_clear_23 rfl (lv_at hl 1 rfl) ?_
      refine lv_iconst (v := 0) hx hb dX6_clear_24 (by decide) ?_
      refine c_stz x L9 42 i0 1344 al10 rfl rfl q7 rfl (rg_w kc_0 rfl) (crj_1344 (rg_w kc_0 rfl)) dX6_clear_25 (fun g11 H11 k11 eg11 L11 => ?_)
      replace hW := (wfP_i (wfP_a hW g11) eg11)
      exact hQ _ _ _ _ _ dX6_clear_26 L11 ⟨hW, (mFi.up (mFi.up mFi.rf eg9 (mIn_at 0 rfl (Or.inr (mIx q7 rfl)))) eg11 (mIn_at 1 rfl (Or.inr (mIx q7 rfl)))), (mFr.upE (mFr.upE mFr.rf eg9 rfl) eg11 rfl), trivial⟩
theorem d_kclear (l : Launch) {G : cG} {Z : cZ} (X : Int) (g : mSt) (i0 : Nat) (p1 : Int32) (hX : 0 ≤ X ∧ X ≤ 2000000000) (hi0 : i0 < 4 * Z.n) {Φ : Int32 → mSt → Prop} (hW : wfP (wp_kclear Z i0 p1 g Φ)) : Met l yX6_clear (wk (Cond.code yX6_clear cX6_clear 2 none)) rm_kclear (va_Pc [.ref (Z.ad 13 i0), .int p1] (cPre G Z X g)) (cQv G Z X (fun g1 => wfP (Φ 0 g1) ∧ mFi (im_kclear Z i0 p1) g g1 ∧ (mFr [1280, 1344] g g1 ∧ True))) 0 0 (cAd Z) := by
  refine Met.ofW (cc := cX6_clear) (maxL := 2) (ret := none) (by decide) rfl ?_
  intro p e s m args below meth c s₁ B hml hv
  obtain ⟨rfl, hv⟩ := hv
  have hr := B.returns
  have hlocks := B.notSynchronized
  obtain ⟨x, L⟩ := c_start B rfl (fun w h => wk_in h) hv
  have hl := lv_entry ([.ref (Z.ad 13 i0), .int p1]) (n := 2) (Nat.le_of_ble_eq_true rfl)
  rw [lg_entry_eq]
  generalize (lg_sl ([.ref (Z.ad 13 i0), .int p1]) ++ List.replicate (2 - (lg_sl ([.ref (Z.ad 13 i0), .int p1])).length) Slot.unset).toArray = ls at hl ⊢
  exact v_kclear x hml L hX i0 p1 hi0 hW hl (fun pc' ls' g1 H1 locs1 hdg L hp => c_vret x L hr hlocks (Int.le_refl _) hp hdg)

def im_kput_16 (Z : cZ) (i0 : Nat) (p1 : Int32) (q2 : Nat) (p3 : Int32) (p4 : Int32) : List (Nat × Nat × Nat) := [(1248, i0, 8192), (1280, i0, 8192)]
def po_kput_16 (Z : cZ) (i0 : Nat) (p1 : Int32) (q2 : Nat) (p3 : Int32) (p4 : Int32) (g : mSt) (r : Int32) (g1 : mSt) : Prop := mFi (im_kput_16 Z i0 p1 q2 p3 p4) g g1 ∧ mFr [1248, 1280] g g1 ∧ True
def wp_kput_16 (Z : cZ) (i0 : Nat) (p1 : Int32) (q2 : Nat) (p3 : Int32) (p4 : Int32) (g : mSt) (Φ : Int32 → mSt → Prop) : Prop :=
  ((p1.toInt < 0) → Φ 0 g) ∧ ((0 ≤ p1.toInt) → ((8 ≤ p1.toInt) → Φ 0 g) ∧ ((p1.toInt < 8) → ((p4.toInt < 0) → Φ 0 g) ∧ ((0 ≤ p4.toInt) → ((60 < p4.toInt) → Φ 0 g) ∧ ((p4.toInt ≤ 60) → ((p3.toInt < 0) → True) ∧ ((0 ≤ p3.toInt) → ∀ (v15 : Int32), v15 = p3 + p4 → rg (0) (10060) v15 → v15.toInt = p3.toInt + p4.toInt → ((v15.toInt ≤ 240) → ∀ (v19 : Int32), v19 = p1 * (60 : Int32) → rg (0) (420) v19 → v19.toInt = p1.toInt * 60 → ∀ (g21 : mSt), g21 = cCpy g 512 (8192 * q2 + p3.toNatClampNeg) 1248 (8192 * i0 + v19.toNatClampNeg) p4.toNatClampNeg → ∀ (g23 : mSt), g23 = up2 g21 1280 (8192 * i0 + p1.toNatClampNeg) p4 → Φ 0 g23) ∧ ((240 < v15.toInt) → Φ 0 g))))))
set_option maxHeartbeats 4000000 in
set_option maxRecDepth 100000 in
theorem v_kput_16 {p : Program} {l : Launch} {e : Env} {s : State} {m : MethodId} {args : Array Value} {below : List Frame} {meth : Method} {c : Code} {H : Heap} {locs : List Loc} {Q : State → Prop} {ls : Array Slot} {G : cG} {Z : cZ} {A : Nat → Prop} {g : mSt} {H0 : Heap} {X : Int} (x : cX p c cX6_put s args (wk (Cond.code yX6_put cX6_put 5 none)) m G Z A RX6 H0) (hml : c.maxLocals = 5) (L : cL G Z A H0 X g H locs) (hX : 0 ≤ X ∧ X ≤ 2000000000) (i0 : Nat) (p1 : Int32) (q2 : Nat) (p3 : Int32) (p4 : Int32) (hi0 : i0 < 4 * Z.n) (hq2 : Z.al 16 q2) (rp3 : rg (0) (10000) p3) {Φ : Int32 → mSt → Prop} (hW : wfP (wp_kput_16 Z i0 p1 q2 p3 p4 g Φ)) (hl : lv_has ls 5 [(0, .ref (Z.ad 13 i0)), (1, .int p1), (2, .ref (Z.ad 16 q2)), (3, .int p3), (4, .int p4)]) (hQ : ∀ (pc' : Nat) (ls' : Array Slot) (g1 : mSt) (H1 : Heap) (locs1 : List Loc), decode cX6_put pc' = .ok (.return_, 1) → cL G Z A H0 X g1 H1 locs1 → (wfP (Φ 0 g1) ∧ mFi (im_kput_16 Z i0 p1 q2 p3 p4) g g1 ∧ (mFr [1248, 1280] g g1 ∧ True)) → W p l e rm_kput_16 s m args below meth c H1 locs1 0 0 Q (F0 m pc' ls' [])) : W p l e rm_kput_16 s m args below meth c H locs 0 0 Q (F0 m 0 ls []) := by
  have hx := x.1
  have hb := x.2.1
  have hz := x.2.2.2.2.2.2.2.1
  have hzn := hz.1
  have hal0 : Z.al 13 i0 := hz.2 13 i0 (show i0 < 4 * Z.n from hi0)
  have up1 : (-2147483648 : Int) ≤ p1.toInt ∧ p1.toInt ≤ 2147483647 := (rg_any p1)
  have up3 : (0 : Int) ≤ p3.toInt ∧ p3.toInt ≤ 10000 := rp3
  have up4 : (-2147483648 : Int) ≤ p4.toInt ∧ p4.toInt ≤ 2147483647 := (rg_any p4)
  refine lv_iload_n hx hb dX6_put_0 rfl (lv_at hl 1 rfl) ?_
  refine lv_if_lt (tgt := 37) hx hb dX6_put_1 (by decide) (fun c1_1 => ?_) (fun c1_1 => ?_)
  · skip
    replace hW := wfP_i (wfP_l hW) (i_lt c1_1 rfl (rg_i kc_0))
    have ic1_1 := Int32.lt_iff_toInt_lt.mp c1_1
    have q2 : rg (-2147483648) (-1) p1 := (rg_lt c1_1 (rg_any p1) kc_0).1
    have uq2 : (-2147483648 : Int) ≤ p1.toInt ∧ p1.toInt ≤ -1 := q2
    exact hQ _ _ _ _ _ dX6_put_37 L ⟨hW, mFi.rf, mFr.rf, trivial⟩
  · skip
    replace hW := wfP_i (wfP_r hW) (i_le (rg_nlt c1_1) (rg_i kc_0) rfl)
    have ic1_1 := Int32.le_iff_toInt_le.mp (rg_nlt c1_1)
    have q3 : rg (0) (2147483647) p1 := (rg_le (rg_nlt c1_1) kc_0 (rg_any p1)).2
    have uq3 : (0 : Int) ≤ p1.toInt ∧ p1.toInt ≤ 2147483647 := q3
    refine lv_iload_n hx hb dX6_put_4 rfl (lv_at hl 1 rfl) ?_
    refine lv_aload_n hx hb dX6_put_5 rfl (lv_at hl 0 rfl) ?_
    refine c_geti x L 13 i0 0 416 hal0 rfl rfl (wk_in kf_X6_15) dX6_put_6 (fun v4 ev4 wv4 => ?_)
    have rv4 : rg (8) (8) v4 := clj_416 wv4
    refine m_top (rg_lit rv4 (show (8 : Int32).toInt = 8 from (by decide))) ?_
    refine lv_icmp_ge (tgt := 37) hx hb dX6_put_9 (by decide) (fun c9_5 => ?_) (fun c9_5 => ?_)
    · skip
      replace hW := wfP_i (wfP_l hW) (i_le c9_5 (rg_i kc_8) rfl)
      have ic9_5 := Int32.le_iff_toInt_le.mp c9_5
      have q6 : rg (8) (2147483647) p1 := (rg_le c9_5 kc_8 q3).2
      have uq6 : (8 : Int) ≤ p1.toInt ∧ p1.toInt ≤ 2147483647 := q6
      exact hQ _ _ _ _ _ dX6_put_37 L ⟨hW, mFi.rf, mFr.rf, trivial⟩
    · skip
      replace hW := wfP_i (wfP_r hW) (i_lt (rg_nle c9_5) rfl (rg_i kc_8))
      have ic9_5 := Int32.lt_iff_toInt_lt.mp (rg_nle c9_5)
      have q7 : rg (0) (7) p1 := (rg_lt (rg_nle c9_5) q3 kc_8).1
      have uq7 : (0 : Int) ≤ p1.toInt ∧ p1.toInt ≤ 7 := q7
      refine lv_iload hx hb dX6_put_12 (lv_at hl 4 rfl) ?_
      refine lv_if_lt (tgt := 37) hx hb dX6_put_14 (by decide) (fun c14_8 => ?_) (fun c14_8 => ?_)
      · skip
        replace hW := wfP_i (wfP_l hW) (i_lt c14_8 rfl (rg_i kc_0))
        have ic14_8 := Int32.lt_iff_toInt_lt.mp c14_8
        have q9 : rg (-2147483648) (-1) p4 := (rg_lt c14_8 (rg_any p4) kc_0).1
        have uq9 : (-2147483648 : Int) ≤ p4.toInt ∧ p4.toInt ≤ -1 := q9
        exact hQ _ _ _ _ _ dX6_put_37 L ⟨hW, mFi.rf, mFr.rf, trivial⟩
      · skip
        replace hW := wfP_i (wfP_r hW) (i_le (rg_nlt c14_8) (rg_i kc_0) rfl)
        have ic14_8 := Int32.le_iff_toInt_le.mp (rg_nlt c14_8)
        have q10 : rg (0) (2147483647) p4 := (rg_le (rg_nlt c14_8) kc_0 (rg_any p4)).2
        have uq10 : (0 : Int) ≤ p4.toInt ∧ p4.toInt ≤ 2147483647 := q10
        refine lv_iload hx hb dX6_put_17 (lv_at hl 4 rfl) ?_
        refine lv_bipush (v := 60) hx hb dX6_put_19 (by decide) ?_
        refine lv_icmp_gt (tgt := 37) hx hb dX6_put_21 (by decide) (fun c21_11 => ?_) (fun c21_11 => ?_)
        · skip
          replace hW := wfP_i (wfP_l hW) (i_lt c21_11 (rg_i kc_60) rfl)
          have ic21_11 := Int32.lt_iff_toInt_lt.mp c21_11
          have q12 : rg (61) (2147483647) p4 := (rg_lt c21_11 kc_60 q10).2
          have uq12 : (61 : Int) ≤ p4.toInt ∧ p4.toInt ≤ 2147483647 := q12
          exact hQ _ _ _ _ _ dX6_put_37 L ⟨hW, mFi.rf, mFr.rf, trivial⟩
        · skip
          replace hW := wfP_i (wfP_r hW) (i_le (rg_nlt c21_11) rfl (rg_i kc_60))
          have ic21_11 := Int32.le_iff_toInt_le.mp (rg_nlt c21_11)
          have q13 : rg (0) (60) p4 := (rg_le (rg_nlt c21_11) q10 kc_60).1
          have uq13 : (0 : Int) ≤ p4.toInt ∧ p4.toInt ≤ 60 := q13
          refine lv_iload_n hx hb dX6_put_24 rfl (lv_at hl 3 rfl) ?_
          refine lv_if_lt (tgt := 37) hx hb dX6_put_25 (by decide) (fun c25_14 => ?_) (fun c25_14 => ?_)
          · skip
            replace hW := wfP_i (wfP_l hW) (i_lt c25_14 rfl (rg_i kc_0))
            have ic25_14 := Int32.lt_iff_toInt_lt.mp c25_14
            exact absurd ((rg_lt c25_14 rp3 kc_0).1 : rg (0) (-1) p3) (fun q => rg_dead q rfl)
          · skip
            replace hW := wfP_i (wfP_r hW) (i_le (rg_nlt c25_14) (rg_i kc_0) rfl)
            have ic25_14 := Int32.le_iff_toInt_le.mp (rg_nlt c25_14)
            refine lv_iload_n hx hb dX6_put_28 rfl (lv_at hl 3 rfl) ?_
            refine lv_iload hx hb dX6_put_29 (lv_at hl 4 rfl) ?_
            refine lv_iadd hx hb dX6_put_31 ?_
            refine lv_topi (fun v15 ev15 => ?_)
            have rv15 : rg (0) (10060) v15 := (rg_add ev15 rp3 q13 rfl).1
            replace hW := (wfP_i (wfP_i (wfP_i (wfP_a hW v15) ev15) rv15) (w_iadd ((rg_add ev15 rp3 q13 rfl).2) rfl rfl))
            have tv15 := (rg_add ev15 rp3 q13 rfl).2
            have uv15 : (0 : Int) ≤ v15.toInt ∧ v15.toInt ≤ 10060 := rv15
            refine lv_aload_n hx hb dX6_put_32 rfl (lv_at hl 2 rfl) ?_
            refine c_len (n := 240) x L 16 q2 hq2 rfl (by decide) dX6_put_33 ?_
            refine lv_icmp_le (tgt := 38) hx hb dX6_put_34 (by decide) (fun c34_16 => ?_) (fun c34_16 => ?_)
            · skip
              replace hW := wfP_i (wfP_l hW) (i_le c34_16 rfl (rg_i kc_240))
              have ic34_16 := Int32.le_iff_toInt_le.mp c34_16
              have q17 : rg (0) (240) v15 := (rg_le c34_16 rv15 kc_240).1
              have uq17 : (0 : Int) ≤ v15.toInt ∧ v15.toInt ≤ 240 := q17
              refine lv_aload_n hx hb dX6_put_38 rfl (lv_at hl 2 rfl) ?_
              refine lv_iload_n hx hb dX6_put_39 rfl (lv_at hl 3 rfl) ?_
              refine lv_aload_n hx hb dX6_put_40 rfl (lv_at hl 0 rfl) ?_
              have al18 : Z.al 39 i0 := hz.2 39 i0 (show i0 < 4 * Z.n from (by omega))
              refine c_getr (a := Z.ad 39 i0) x L 13 i0 1 hal0 rfl rfl (wk_in kf_X6_21) dX6_put_41 ?_
              refine lv_iload_n hx hb dX6_put_44 rfl (lv_at hl 1 rfl) ?_
              refine lv_bipush (v := 60) hx hb dX6_put_45 (by decide) ?_
              refine lv_imul hx hb dX6_put_47 ?_
              refine lv_topi (fun v19 ev19 => ?_)
              have rv19 : rg (0) (420) v19 := (rg_mul ev19 q7 kc_60 rfl).1
              replace hW := (wfP_i (wfP_i (wfP_i (wfP_a hW v19) ev19) rv19) ((rg_mul ev19 q7 kc_60 rfl).2))
              have tv19 := (rg_mul ev19 q7 kc_60 rfl).2
              have y20 : (60 : Int32).toInt = 60 := by decide
              have uv19 : (0 : Int) ≤ v19.toInt ∧ v19.toInt ≤ 420 := rv19
              refine lv_iload hx hb dX6_put_48 (lv_at hl 4 rfl) ?_
              refine c_copy (rest := []) x (hml.trans hl.1.symm) L 16 q2 39 i0 512 1248 hq2 al18 rfl rfl rfl rfl ⟨rfl, rfl⟩ kl_X6_41 kw_cp (Int.le_trans (by decide) rp3.1) (Int.le_trans (by decide) rv19.1) (Int.le_trans (by decide) q13.1) (by show p3.toInt + p4.toInt ≤ 240; omega) (Int.le_trans (Int.add_le_add rv19.2 q13.2) (by decide)) (Nat.le_of_ble_eq_true rfl) (Nat.le_of_ble_eq_true rfl) dX6_put_50 (fun g21 H21 k21 ec21 L21 => ?_)
              replace hW := (wfP_i (wfP_a hW g21) ec21)
              refine lv_aload_n hx hb dX6_put_53 rfl (lv_at hl 0 rfl) ?_
              have al22 : Z.al 40 i0 := hz.2 40 i0 (show i0 < 4 * Z.n from (by omega))
              refine c_getr (a := Z.ad 40 i0) x L21 13 i0 2 hal0 rfl rfl (wk_in kf_X6_25) dX6_put_54 ?_
              refine lv_iload_n hx hb dX6_put_57 rfl (lv_at hl 1 rfl) ?_
              refine lv_iload hx hb dX6_put_58 (lv_at hl 4 rfl) ?_
              refine c_st x L21 40 i0 1280 al22 rfl rfl q7 rfl (crj_1280 (rg_w q13 rfl)) dX6_put_60 (fun g23 H23 k23 eg23 L23 => ?_)
              replace hW := (wfP_i (wfP_a hW g23) eg23)
              exact hQ _ _ _ _ _ dX6_put_61 L23 ⟨hW, (mFi.up (mFi.cpy (L := 480) mFi.rf ec21 0 rfl (Int.le_trans (by decide) rv19.1) (Int.le_trans (Int.add_le_add rv19.2 q13.2) (by decide)) (Int.le_trans (by decide) q13.1) (by decide)) eg23 (mIn_at 1 rfl (Or.inr (mIx q7 rfl)))), (mFr.upE (mFr.tr mFr.rf (cCpy_fr ec21) rfl) eg23 rfl), trivial⟩
            · skip
              replace hW := wfP_i (wfP_r hW) (i_lt (rg_nle c34_16) (rg_i kc_240) rfl)
              have ic34_16 := Int32.lt_iff_toInt_lt.mp (rg_nle c34_16)
              have q24 : rg (241) (10060) v15 := (rg_lt (rg_nle c34_16) kc_240 rv15).2
              have uq24 : (241 : Int) ≤ v15.toInt ∧ v15.toInt ≤ 10060 := q24
              exact hQ _ _ _ _ _ dX6_put_37 L ⟨hW, mFi.rf, mFr.rf, trivial⟩
theorem d_kput_16 (l : Launch) {G : cG} {Z : cZ} (X : Int) (g : mSt) (i0 : Nat) (p1 : Int32) (q2 : Nat) (p3 : Int32) (p4 : Int32) (hX : 0 ≤ X ∧ X ≤ 2000000000) (hi0 : i0 < 4 * Z.n) (hq2 : Z.al 16 q2) (rp3 : rg (0) (10000) p3) {Φ : Int32 → mSt → Prop} (hW : wfP (wp_kput_16 Z i0 p1 q2 p3 p4 g Φ)) : Met l yX6_put (wk (Cond.code yX6_put cX6_put 5 none)) rm_kput_16 (va_Pc [.ref (Z.ad 13 i0), .int p1, .ref (Z.ad 16 q2), .int p3, .int p4] (cPre G Z X g)) (cQv G Z X (fun g1 => wfP (Φ 0 g1) ∧ mFi (im_kput_16 Z i0 p1 q2 p3 p4) g g1 ∧ (mFr [1248, 1280] g g1 ∧ True))) 0 0 (cAd Z) := by
  refine Met.ofW (cc := cX6_put) (maxL := 5) (ret := none) (by decide) rfl ?_
  intro p e s m args below meth c s₁ B hml hv
  obtain ⟨rfl, hv⟩ := hv
  have hr := B.returns
  have hlocks := B.notSynchronized
  obtain ⟨x, L⟩ := c_start B rfl (fun w h => wk_in h) hv
  have hl := lv_entry ([.ref (Z.ad 13 i0), .int p1, .ref (Z.ad 16 q2), .int p3, .int p4]) (n := 5) (Nat.le_of_ble_eq_true rfl)
  rw [lg_entry_eq]
  generalize (lg_sl ([.ref (Z.ad 13 i0), .int p1, .ref (Z.ad 16 q2), .int p3, .int p4]) ++ List.replicate (5 - (lg_sl ([.ref (Z.ad 13 i0), .int p1, .ref (Z.ad 16 q2), .int p3, .int p4])).length) Slot.unset).toArray = ls at hl ⊢
  exact v_kput_16 x hml L hX i0 p1 q2 p3 p4 hi0 hq2 rp3 hW hl (fun pc' ls' g1 H1 locs1 hdg L hp => c_vret x L hr hlocks (Int.le_refl _) hp hdg)

def im_kput_26 (Z : cZ) (i0 : Nat) (p1 : Int32) (q2 : Nat) (p3 : Int32) (p4 : Int32) : List (Nat × Nat × Nat) := [(1248, i0, 8192), (1280, i0, 8192)]
def po_kput_26 (Z : cZ) (i0 : Nat) (p1 : Int32) (q2 : Nat) (p3 : Int32) (p4 : Int32) (g : mSt) (r : Int32) (g1 : mSt) : Prop := mFi (im_kput_26 Z i0 p1 q2 p3 p4) g g1 ∧ mFr [1248, 1280] g g1 ∧ True
def wp_kput_26 (Z : cZ) (i0 : Nat) (p1 : Int32) (q2 : Nat) (p3 : Int32) (p4 : Int32) (g : mSt) (Φ : Int32 → mSt → Prop) : Prop :=
  ((p1.toInt < 0) → Φ 0 g) ∧ ((0 ≤ p1.toInt) → ((8 ≤ p1.toInt) → Φ 0 g) ∧ ((p1.toInt < 8) → ((p4.toInt < 0) → Φ 0 g) ∧ ((0 ≤ p4.toInt) → ((60 < p4.toInt) → Φ 0 g) ∧ ((p4.toInt ≤ 60) → ((p3.toInt < 0) → True) ∧ ((0 ≤ p3.toInt) → ∀ (v15 : Int32), v15 = p3 + p4 → rg (0) (10060) v15 → v15.toInt = p3.toInt + p4.toInt → ((v15.toInt ≤ 600) → ∀ (v19 : Int32), v19 = p1 * (60 : Int32) → rg (0) (420) v19 → v19.toInt = p1.toInt * 60 → ∀ (g21 : mSt), g21 = cCpy g 832 (8192 * q2 + p3.toNatClampNeg) 1248 (8192 * i0 + v19.toNatClampNeg) p4.toNatClampNeg → ∀ (g23 : mSt), g23 = up2 g21 1280 (8192 * i0 + p1.toNatClampNeg) p4 → Φ 0 g23) ∧ ((600 < v15.toInt) → Φ 0 g))))))
set_option maxHeartbeats 4000000 in
set_option maxRecDepth 100000 in
theorem v_kput_26 {p : Program} {l : Launch} {e : Env} {s : State} {m : MethodId} {args : Array Value} {below : List Frame} {meth : Method} {c : Code} {H : Heap} {locs : List Loc} {Q : State → Prop} {ls : Array Slot} {G : cG} {Z : cZ} {A : Nat → Prop} {g : mSt} {H0 : Heap} {X : Int} (x : cX p c cX6_put s args (wk (Cond.code yX6_put cX6_put 5 none)) m G Z A RX6 H0) (hml : c.maxLocals = 5) (L : cL G Z A H0 X g H locs) (hX : 0 ≤ X ∧ X ≤ 2000000000) (i0 : Nat) (p1 : Int32) (q2 : Nat) (p3 : Int32) (p4 : Int32) (hi0 : i0 < 4 * Z.n) (hq2 : Z.al 26 q2) (rp3 : rg (0) (10000) p3) {Φ : Int32 → mSt → Prop} (hW : wfP (wp_kput_26 Z i0 p1 q2 p3 p4 g Φ)) (hl : lv_has ls 5 [(0, .ref (Z.ad 13 i0)), (1, .int p1), (2, .ref (Z.ad 26 q2)), (3, .int p3), (4, .int p4)]) (hQ : ∀ (pc' : Nat) (ls' : Array Slot) (g1 : mSt) (H1 : Heap) (locs1 : List Loc), decode cX6_put pc' = .ok (.return_, 1) → cL G Z A H0 X g1 H1 locs1 → (wfP (Φ 0 g1) ∧ mFi (im_kput_26 Z i0 p1 q2 p3 p4) g g1 ∧ (mFr [1248, 1280] g g1 ∧ True)) → W p l e rm_kput_26 s m args below meth c H1 locs1 0 0 Q (F0 m pc' ls' [])) : W p l e rm_kput_26 s m args below meth c H locs 0 0 Q (F0 m 0 ls []) := by
  have hx := x.1
  have hb := x.2.1
  have hz := x.2.2.2.2.2.2.2.1
  have hzn := hz.1
  have hal0 : Z.al 13 i0 := hz.2 13 i0 (show i0 < 4 * Z.n from hi0)
  have up1 : (-2147483648 : Int) ≤ p1.toInt ∧ p1.toInt ≤ 2147483647 := (rg_any p1)
  have up3 : (0 : Int) ≤ p3.toInt ∧ p3.toInt ≤ 10000 := rp3
  have up4 : (-2147483648 : Int) ≤ p4.toInt ∧ p4.toInt ≤ 2147483647 := (rg_any p4)
  refine lv_iload_n hx hb dX6_put_0 rfl (lv_at hl 1 rfl) ?_
  refine lv_if_lt (tgt := 37) hx hb dX6_put_1 (by decide) (fun c1_1 => ?_) (fun c1_1 => ?_)
  · skip
    replace hW := wfP_i (wfP_l hW) (i_lt c1_1 rfl (rg_i kc_0))
    have ic1_1 := Int32.lt_iff_toInt_lt.mp c1_1
    have q2 : rg (-2147483648) (-1) p1 := (rg_lt c1_1 (rg_any p1) kc_0).1
    have uq2 : (-2147483648 : Int) ≤ p1.toInt ∧ p1.toInt ≤ -1 := q2
    exact hQ _ _ _ _ _ dX6_put_37 L ⟨hW, mFi.rf, mFr.rf, trivial⟩
  · skip
    replace hW := wfP_i (wfP_r hW) (i_le (rg_nlt c1_1) (rg_i kc_0) rfl)
    have ic1_1 := Int32.le_iff_toInt_le.mp (rg_nlt c1_1)
    have q3 : rg (0) (2147483647) p1 := (rg_le (rg_nlt c1_1) kc_0 (rg_any p1)).2
    have uq3 : (0 : Int) ≤ p1.toInt ∧ p1.toInt ≤ 2147483647 := q3
    refine lv_iload_n hx hb dX6_put_4 rfl (lv_at hl 1 rfl) ?_
    refine lv_aload_n hx hb dX6_put_5 rfl (lv_at hl 0 rfl) ?_
    refine c_geti x L 13 i0 0 416 hal0 rfl rfl (wk_in kf_X6_15) dX6_put_6 (fun v4 ev4 wv4 => ?_)
    have rv4 : rg (8) (8) v4 := clj_416 wv4
    refine m_top (rg_lit rv4 (show (8 : Int32).toInt = 8 from (by decide))) ?_
    refine lv_icmp_ge (tgt := 37) hx hb dX6_put_9 (by decide) (fun c9_5 => ?_) (fun c9_5 => ?_)
    · skip
      replace hW := wfP_i (wfP_l hW) (i_le c9_5 (rg_i kc_8) rfl)
      have ic9_5 := Int32.le_iff_toInt_le.mp c9_5
      have q6 : rg (8) (2147483647) p1 := (rg_le c9_5 kc_8 q3).2
      have uq6 : (8 : Int) ≤ p1.toInt ∧ p1.toInt ≤ 2147483647 := q6
      exact hQ _ _ _ _ _ dX6_put_37 L ⟨hW, mFi.rf, mFr.rf, trivial⟩
    · skip
      replace hW := wfP_i (wfP_r hW) (i_lt (rg_nle c9_5) rfl (rg_i kc_8))
      have ic9_5 := Int32.lt_iff_toInt_lt.mp (rg_nle c9_5)
      have q7 : rg (0) (7) p1 := (rg_lt (rg_nle c9_5) q3 kc_8).1
      have uq7 : (0 : Int) ≤ p1.toInt ∧ p1.toInt ≤ 7 := q7
      refine lv_iload hx hb dX6_put_12 (lv_at hl 4 rfl) ?_
      refine lv_if_lt (tgt := 37) hx hb dX6_put_14 (by decide) (fun c14_8 => ?_) (fun c14_8 => ?_)
      · skip
        replace hW := wfP_i (wfP_l hW) (i_lt c14_8 rfl (rg_i kc_0))
        have ic14_8 := Int32.lt_iff_toInt_lt.mp c14_8
        have q9 : rg (-2147483648) (-1) p4 := (rg_lt c14_8 (rg_any p4) kc_0).1
        have uq9 : (-2147483648 : Int) ≤ p4.toInt ∧ p4.toInt ≤ -1 := q9
        exact hQ _ _ _ _ _ dX6_put_37 L ⟨hW, mFi.rf, mFr.rf, trivial⟩
      · skip
        replace hW := wfP_i (wfP_r hW) (i_le (rg_nlt c14_8) (rg_i kc_0) rfl)
        have ic14_8 := Int32.le_iff_toInt_le.mp (rg_nlt c14_8)
        have q10 : rg (0) (2147483647) p4 := (rg_le (rg_nlt c14_8) kc_0 (rg_any p4)).2
        have uq10 : (0 : Int) ≤ p4.toInt ∧ p4.toInt ≤ 2147483647 := q10
        refine lv_iload hx hb dX6_put_17 (lv_at hl 4 rfl) ?_
        refine lv_bipush (v := 60) hx hb dX6_put_19 (by decide) ?_
        refine lv_icmp_gt (tgt := 37) hx hb dX6_put_21 (by decide) (fun c21_11 => ?_) (fun c21_11 => ?_)
        · skip
          replace hW := wfP_i (wfP_l hW) (i_lt c21_11 (rg_i kc_60) rfl)
          have ic21_11 := Int32.lt_iff_toInt_lt.mp c21_11
          have q12 : rg (61) (2147483647) p4 := (rg_lt c21_11 kc_60 q10).2
          have uq12 : (61 : Int) ≤ p4.toInt ∧ p4.toInt ≤ 2147483647 := q12
          exact hQ _ _ _ _ _ dX6_put_37 L ⟨hW, mFi.rf, mFr.rf, trivial⟩
        · skip
          replace hW := wfP_i (wfP_r hW) (i_le (rg_nlt c21_11) rfl (rg_i kc_60))
          have ic21_11 := Int32.le_iff_toInt_le.mp (rg_nlt c21_11)
          have q13 : rg (0) (60) p4 := (rg_le (rg_nlt c21_11) q10 kc_60).1
          have uq13 : (0 : Int) ≤ p4.toInt ∧ p4.toInt ≤ 60 := q13
          refine lv_iload_n hx hb dX6_put_24 rfl (lv_at hl 3 rfl) ?_
          refine lv_if_lt (tgt := 37) hx hb dX6_put_25 (by decide) (fun c25_14 => ?_) (fun c25_14 => ?_)
          · skip
            replace hW := wfP_i (wfP_l hW) (i_lt c25_14 rfl (rg_i kc_0))
            have ic25_14 := Int32.lt_iff_toInt_lt.mp c25_14
            exact absurd ((rg_lt c25_14 rp3 kc_0).1 : rg (0) (-1) p3) (fun q => rg_dead q rfl)
          · skip
            replace hW := wfP_i (wfP_r hW) (i_le (rg_nlt c25_14) (rg_i kc_0) rfl)
            have ic25_14 := Int32.le_iff_toInt_le.mp (rg_nlt c25_14)
            refine lv_iload_n hx hb dX6_put_28 rfl (lv_at hl 3 rfl) ?_
            refine lv_iload hx hb dX6_put_29 (lv_at hl 4 rfl) ?_
            refine lv_iadd hx hb dX6_put_31 ?_
            refine lv_topi (fun v15 ev15 => ?_)
            have rv15 : rg (0) (10060) v15 := (rg_add ev15 rp3 q13 rfl).1
            replace hW := (wfP_i (wfP_i (wfP_i (wfP_a hW v15) ev15) rv15) (w_iadd ((rg_add ev15 rp3 q13 rfl).2) rfl rfl))
            have tv15 := (rg_add ev15 rp3 q13 rfl).2
            have uv15 : (0 : Int) ≤ v15.toInt ∧ v15.toInt ≤ 10060 := rv15
            refine lv_aload_n hx hb dX6_put_32 rfl (lv_at hl 2 rfl) ?_
            refine c_len (n := 600) x L 26 q2 hq2 rfl (by decide) dX6_put_33 ?_
            refine lv_icmp_le (tgt := 38) hx hb dX6_put_34 (by decide) (fun c34_16 => ?_) (fun c34_16 => ?_)
            · skip
              replace hW := wfP_i (wfP_l hW) (i_le c34_16 rfl (rg_i kc_600))
              have ic34_16 := Int32.le_iff_toInt_le.mp c34_16
              have q17 : rg (0) (600) v15 := (rg_le c34_16 rv15 kc_600).1
              have uq17 : (0 : Int) ≤ v15.toInt ∧ v15.toInt ≤ 600 := q17
              refine lv_aload_n hx hb dX6_put_38 rfl (lv_at hl 2 rfl) ?_
              refine lv_iload_n hx hb dX6_put_39 rfl (lv_at hl 3 rfl) ?_
              refine lv_aload_n hx hb dX6_put_40 rfl (lv_at hl 0 rfl) ?_
              have al18 : Z.al 39 i0 := hz.2 39 i0 (show i0 < 4 * Z.n from (by omega))
              refine c_getr (a := Z.ad 39 i0) x L 13 i0 1 hal0 rfl rfl (wk_in kf_X6_21) dX6_put_41 ?_
              refine lv_iload_n hx hb dX6_put_44 rfl (lv_at hl 1 rfl) ?_
              refine lv_bipush (v := 60) hx hb dX6_put_45 (by decide) ?_
              refine lv_imul hx hb dX6_put_47 ?_
              refine lv_topi (fun v19 ev19 => ?_)
              have rv19 : rg (0) (420) v19 := (rg_mul ev19 q7 kc_60 rfl).1
              replace hW := (wfP_i (wfP_i (wfP_i (wfP_a hW v19) ev19) rv19) ((rg_mul ev19 q7 kc_60 rfl).2))
              have tv19 := (rg_mul ev19 q7 kc_60 rfl).2
              have y20 : (60 : Int32).toInt = 60 := by decide
              have uv19 : (0 : Int) ≤ v19.toInt ∧ v19.toInt ≤ 420 := rv19
              refine lv_iload hx hb dX6_put_48 (lv_at hl 4 rfl) ?_
              refine c_copy (rest := []) x (hml.trans hl.1.symm) L 26 q2 39 i0 832 1248 hq2 al18 rfl rfl rfl rfl ⟨rfl, rfl⟩ kl_X6_41 kw_cp (Int.le_trans (by decide) rp3.1) (Int.le_trans (by decide) rv19.1) (Int.le_trans (by decide) q13.1) (by show p3.toInt + p4.toInt ≤ 600; omega) (Int.le_trans (Int.add_le_add rv19.2 q13.2) (by decide)) (Nat.le_of_ble_eq_true rfl) (Nat.le_of_ble_eq_true rfl) dX6_put_50 (fun g21 H21 k21 ec21 L21 => ?_)
              replace hW := (wfP_i (wfP_a hW g21) ec21)
              refine lv_aload_n hx hb dX6_put_53 rfl (lv_at hl 0 rfl) ?_
              have al22 : Z.al 40 i0 := hz.2 40 i0 (show i0 < 4 * Z.n from (by omega))
              refine c_getr (a := Z.ad 40 i0) x L21 13 i0 2 hal0 rfl rfl (wk_in kf_X6_25) dX6_put_54 ?_
              refine lv_iload_n hx hb dX6_put_57 rfl (lv_at hl 1 rfl) ?_
              refine lv_iload hx hb dX6_put_58 (lv_at hl 4 rfl) ?_
              refine c_st x L21 40 i0 1280 al22 rfl rfl q7 rfl (crj_1280 (rg_w q13 rfl)) dX6_put_60 (fun g23 H23 k23 eg23 L23 => ?_)
              replace hW := (wfP_i (wfP_a hW g23) eg23)
              exact hQ _ _ _ _ _ dX6_put_61 L23 ⟨hW, (mFi.up (mFi.cpy (L := 480) mFi.rf ec21 0 rfl (Int.le_trans (by decide) rv19.1) (Int.le_trans (Int.add_le_add rv19.2 q13.2) (by decide)) (Int.le_trans (by decide) q13.1) (by decide)) eg23 (mIn_at 1 rfl (Or.inr (mIx q7 rfl)))), (mFr.upE (mFr.tr mFr.rf (cCpy_fr ec21) rfl) eg23 rfl), trivial⟩
            · skip
              replace hW := wfP_i (wfP_r hW) (i_lt (rg_nle c34_16) (rg_i kc_600) rfl)
              have ic34_16 := Int32.lt_iff_toInt_lt.mp (rg_nle c34_16)
              have q24 : rg (601) (10060) v15 := (rg_lt (rg_nle c34_16) kc_600 rv15).2
              have uq24 : (601 : Int) ≤ v15.toInt ∧ v15.toInt ≤ 10060 := q24
              exact hQ _ _ _ _ _ dX6_put_37 L ⟨hW, mFi.rf, mFr.rf, trivial⟩
theorem d_kput_26 (l : Launch) {G : cG} {Z : cZ} (X : Int) (g : mSt) (i0 : Nat) (p1 : Int32) (q2 : Nat) (p3 : Int32) (p4 : Int32) (hX : 0 ≤ X ∧ X ≤ 2000000000) (hi0 : i0 < 4 * Z.n) (hq2 : Z.al 26 q2) (rp3 : rg (0) (10000) p3) {Φ : Int32 → mSt → Prop} (hW : wfP (wp_kput_26 Z i0 p1 q2 p3 p4 g Φ)) : Met l yX6_put (wk (Cond.code yX6_put cX6_put 5 none)) rm_kput_26 (va_Pc [.ref (Z.ad 13 i0), .int p1, .ref (Z.ad 26 q2), .int p3, .int p4] (cPre G Z X g)) (cQv G Z X (fun g1 => wfP (Φ 0 g1) ∧ mFi (im_kput_26 Z i0 p1 q2 p3 p4) g g1 ∧ (mFr [1248, 1280] g g1 ∧ True))) 0 0 (cAd Z) := by
  refine Met.ofW (cc := cX6_put) (maxL := 5) (ret := none) (by decide) rfl ?_
  intro p e s m args below meth c s₁ B hml hv
  obtain ⟨rfl, hv⟩ := hv
  have hr := B.returns
  have hlocks := B.notSynchronized
  obtain ⟨x, L⟩ := c_start B rfl (fun w h => wk_in h) hv
  have hl := lv_entry ([.ref (Z.ad 13 i0), .int p1, .ref (Z.ad 26 q2), .int p3, .int p4]) (n := 5) (Nat.le_of_ble_eq_true rfl)
  rw [lg_entry_eq]
  generalize (lg_sl ([.ref (Z.ad 13 i0), .int p1, .ref (Z.ad 26 q2), .int p3, .int p4]) ++ List.replicate (5 - (lg_sl ([.ref (Z.ad 13 i0), .int p1, .ref (Z.ad 26 q2), .int p3, .int p4])).length) Slot.unset).toArray = ls at hl ⊢
  exact v_kput_26 x hml L hX i0 p1 q2 p3 p4 hi0 hq2 rp3 hW hl (fun pc' ls' g1 H1 locs1 hdg L hp => c_vret x L hr hlocks (Int.le_refl _) hp hdg)

def im_kbegin (Z : cZ) (i0 : Nat) (p1 : Int32) (p2 : Int32) (p3 : Int32) (p4 : Int32) : List (Nat × Nat × Nat) := [(198, i0, 1), (832, i0, 8192), (864, i0, 8192)]
def po_kbegin (Z : cZ) (i0 : Nat) (p1 : Int32) (p2 : Int32) (p3 : Int32) (p4 : Int32) (g : mSt) (r : Int32) (g1 : mSt) : Prop := mFi (im_kbegin Z i0 p1 p2 p3 p4) g g1 ∧ mFr [198, 832, 864] g g1 ∧ rg (0) (1) r ∧ True
def wp_kbegin (Z : cZ) (i0 : Nat) (p1 : Int32) (p2 : Int32) (p3 : Int32) (p4 : Int32) (g : mSt) (Φ : Int32 → mSt → Prop) : Prop :=
  ∀ (v1 : Int32), v1 = g 198 i0 → rg (0) (10) v1 → ((v1.toInt < 10) → ∀ (v5 : Int32), v5 = g 197 i0 → rg (0) (9) v5 → ∀ (v7 : Int32), v7 = v5 + v1 → rg (0) (18) v7 → v7.toInt = v5.toInt + v1.toInt → ∀ (v9 : Int32), v9 = v7 - v7 / (10 : Int32) * (10 : Int32) → rg (0) (9) v9 → v9.toInt = v7.toInt % 10 → ∀ (v10 : Int32), v10 = v9 * (60 : Int32) → rg (0) (540) v10 → v10.toInt = v9.toInt * 60 → ∀ (g12 : mSt), g12 = up2 g 832 (8192 * i0 + v10.toNatClampNeg) (9 : Int32) → ∀ (v13 : Int32), v13 = v10 + (1 : Int32) → rg (1) (541) v13 → v13.toInt = v10.toInt + 1 → ∀ (g14 : mSt), g14 = up2 g12 832 (8192 * i0 + v13.toNatClampNeg) (3 : Int32) → ∀ (v15 : Int32), v15 = v10 + (2 : Int32) → rg (2) (542) v15 → v15.toInt = v10.toInt + 2 → ∀ (v16 : Int32), v16 = (p2.toUInt32 >>> ((16 : Int32).toUInt32 &&& Int32.toUInt32 31)).toInt32 → rg (0) (65535) v16 → ∀ (v17 : Int32), v17 = v16 &&& (127 : Int32) → rg (0) (127) v17 → ∃ P19 : Int32 → mSt → Prop, (∀ (b81_3_18 : Int32) (g19 : mSt), mFr [] g14 g19 → mFi (im_kbegin Z i0 p1 p2 p3 p4) g14 g19 → rg (0) (128) b81_3_18 → P19 b81_3_18 g19 → ∀ (v20 : Int32), v20 = v17 ||| b81_3_18 → rg (-2147483648) (2147483647) v20 → ∀ (g21 : mSt), g21 = up2 g19 832 (8192 * i0 + v15.toNatClampNeg) v20 → ∀ (v22 : Int32), v22 = v10 + (3 : Int32) → rg (3) (543) v22 → v22.toInt = v10.toInt + 3 → ∀ (v23 : Int32), v23 = (p2.toUInt32 >>> ((8 : Int32).toUInt32 &&& Int32.toUInt32 31)).toInt32 → rg (0) (16777215) v23 → ∀ (v24 : Int32), v24 = v23 &&& (255 : Int32) → rg (0) (255) v24 → ∀ (g25 : mSt), g25 = up2 g21 832 (8192 * i0 + v22.toNatClampNeg) v24 → ∀ (v26 : Int32), v26 = v10 + (4 : Int32) → rg (4) (544) v26 → v26.toInt = v10.toInt + 4 → ∀ (v27 : Int32), v27 = p2 &&& (255 : Int32) → rg (0) (255) v27 → ∀ (g28 : mSt), g28 = up2 g25 832 (8192 * i0 + v26.toNatClampNeg) v27 → ∀ (v29 : Int32), v29 = v10 + (5 : Int32) → rg (5) (545) v29 → v29.toInt = v10.toInt + 5 → ∀ (g30 : mSt), g30 = up2 g28 832 (8192 * i0 + v29.toNatClampNeg) p1 → ∀ (v31 : Int32), v31 = v10 + (6 : Int32) → rg (6) (546) v31 → v31.toInt = v10.toInt + 6 → ∀ (g32 : mSt), g32 = up2 g30 832 (8192 * i0 + v31.toNatClampNeg) (128 : Int32) → ∀ (v33 : Int32), v33 = v10 + (7 : Int32) → rg (7) (547) v33 → v33.toInt = v10.toInt + 7 → ∀ (g34 : mSt), g34 = up2 g32 832 (8192 * i0 + v33.toNatClampNeg) (0 : Int32) → ∀ (v35 : Int32), v35 = v10 + (8 : Int32) → rg (8) (548) v35 → v35.toInt = v10.toInt + 8 → ∀ (g36 : mSt), g36 = up2 g34 832 (8192 * i0 + v35.toNatClampNeg) p4 → ∀ (g38 : mSt), g38 = up2 g36 864 (8192 * i0 + v9.toNatClampNeg) (9 : Int32) → ∀ (v40 : Int32), v40 = v1 + (1 : Int32) → rg (1) (10) v40 → v40.toInt = v1.toInt + 1 → ∀ (g41 : mSt), g41 = up2 g38 198 i0 v40 → Φ (1 : Int32) g41) ∧ ((p3.toInt = 0) → P19 (128 : Int32) g14) ∧ ((p3.toInt ≠ 0) → P19 (0 : Int32) g14)) ∧ ((10 ≤ v1.toInt) → Φ (0 : Int32) g)
set_option maxHeartbeats 4000000 in
set_option maxRecDepth 100000 in
theorem v_kbegin {p : Program} {l : Launch} {e : Env} {s : State} {m : MethodId} {args : Array Value} {below : List Frame} {meth : Method} {c : Code} {H : Heap} {locs : List Loc} {Q : State → Prop} {ls : Array Slot} {G : cG} {Z : cZ} {A : Nat → Prop} {g : mSt} {H0 : Heap} {X : Int} (x : cX p c cX6_begin s args (wk (Cond.code yX6_begin cX6_begin 7 (some .boolean))) m G Z A RX6 H0) (hml : c.maxLocals = 7) (L : cL G Z A H0 X g H locs) (hX : 0 ≤ X ∧ X ≤ 2000000000) (i0 : Nat) (p1 : Int32) (p2 : Int32) (p3 : Int32) (p4 : Int32) (hi0 : i0 < 2 * Z.n) (rp3 : rg (0) (1) p3) {Φ : Int32 → mSt → Prop} (hW : wfP (wp_kbegin Z i0 p1 p2 p3 p4 g Φ)) (hl : lv_has ls 7 [(0, .ref (Z.ad 6 i0)), (1, .int p1), (2, .int p2), (3, .int p3), (4, .int p4)]) (hQ : ∀ (pc' : Nat) (ls' : Array Slot) (r : Int32) (g1 : mSt) (H1 : Heap) (locs1 : List Loc), decode cX6_begin pc' = .ok (.ireturn, 1) → cL G Z A H0 X g1 H1 locs1 → (wfP (Φ r g1) ∧ mFi (im_kbegin Z i0 p1 p2 p3 p4) g g1 ∧ (mFr [198, 832, 864] g g1 ∧ rg (0) (1) r ∧ True)) → W p l e rm_kbegin s m args below meth c H1 locs1 0 0 Q (F0 m pc' ls' [.int r])) : W p l e rm_kbegin s m args below meth c H locs 0 0 Q (F0 m 0 ls []) := by
  have hx := x.1
  have hb := x.2.1
  have hz := x.2.2.2.2.2.2.2.1
  have hzn := hz.1
  have hal0 : Z.al 6 i0 := hz.2 6 i0 (show i0 < 2 * Z.n from hi0)
  refine lv_aload_n hx hb dX6_begin_0 rfl (lv_at hl 0 rfl) ?_
  refine c_geti x L 6 i0 6 198 hal0 rfl rfl (wk_in kf_X6_38) dX6_begin_1 (fun v1 ev1 wv1 => ?_)
  have rv1 : rg (0) (10) v1 := clj_198 wv1
  replace hW := (wfP_i (wfP_i (wfP_a hW v1) ev1) rv1)
  refine lv_aload_n hx hb dX6_begin_4 rfl (lv_at hl 0 rfl) ?_
  refine c_geti x L 6 i0 0 192 hal0 rfl rfl (wk_in kf_X6_15) dX6_begin_5 (fun v2 ev2 wv2 => ?_)
  have rv2 : rg (10) (10) v2 := clj_192 wv2
  refine m_top (rg_lit rv2 (show (10 : Int32).toInt = 10 from (by decide))) ?_
  refine lv_icmp_lt (tgt := 13) hx hb dX6_begin_8 (by decide) (fun c8_3 => ?_) (fun c8_3 => ?_)
  · skip
    replace hW := wfP_i (wfP_l hW) (i_lt c8_3 rfl (rg_i kc_10))
    have q4 : rg (0) (9) v1 := (rg_lt c8_3 rv1 kc_10).1
    refine lv_aload_n hx hb dX6_begin_13 rfl (lv_at hl 0 rfl) ?_
    refine c_geti x L 6 i0 5 197 hal0 rfl rfl (wk_in kf_X6_35) dX6_begin_14 (fun v5 ev5 wv5 => ?_)
    have rv5 : rg (0) (9) v5 := clj_197 wv5
    replace hW := (wfP_i (wfP_i (wfP_a hW v5) ev5) rv5)
    refine lv_aload_n hx hb dX6_begin_17 rfl (lv_at hl 0 rfl) ?_
    refine c_geti x L 6 i0 6 198 hal0 rfl rfl (wk_in kf_X6_38) dX6_begin_18 (fun v6 ev6 wv6 => ?_)
    refine m_top ((ev1).trans ev6.symm) ?_
    refine lv_iadd hx hb dX6_begin_21 ?_
    refine lv_topi (fun v7 ev7 => ?_)
    have rv7 : rg (0) (18) v7 := (rg_add ev7 rv5 q4 rfl).1
    replace hW := (wfP_i (wfP_i (wfP_i (wfP_a hW v7) ev7) rv7) (w_iadd ((rg_add ev7 rv5 q4 rfl).2) rfl rfl))
    refine lv_aload_n hx hb dX6_begin_22 rfl (lv_at hl 0 rfl) ?_
    refine c_geti x L 6 i0 0 192 hal0 rfl rfl (wk_in kf_X6_15) dX6_begin_23 (fun v8 ev8 wv8 => ?_)
    have rv8 : rg (10) (10) v8 := clj_192 wv8
    refine m_top (rg_lit rv8 (show (10 : Int32).toInt = 10 from (by decide))) ?_
    refine lv_irem hx hb dX6_begin_26 (by decide) ?_
    refine lv_topi (fun v9 ev9 => ?_)
    have rv9 : rg (0) (9) v9 := (rg_rem ev9 rv7 kc_10 rfl).1
    replace hW := (wfP_i (wfP_i (wfP_i (wfP_a hW v9) ev9) rv9) ((rg_rem ev9 rv7 kc_10 rfl).2))
    refine lv_istore (lv' := [(5, .int v9), (0, .ref (Z.ad 6 i0)), (1, .int p1), (2, .int p2), (3, .int p3), (4, .int p4)]) hx hb dX6_begin_27 hl (by decide) rfl (fun ls hl => ?_)
    refine lv_iload hx hb dX6_begin_29 (lv_at hl 0 rfl) ?_
    refine lv_bipush (v := 60) hx hb dX6_begin_31 (by decide) ?_
    refine lv_imul hx hb dX6_begin_33 ?_
    refine lv_topi (fun v10 ev10 => ?_)
    have rv10 : rg (0) (540) v10 := (rg_mul ev10 rv9 kc_60 rfl).1
    replace hW := (wfP_i (wfP_i (wfP_i (wfP_a hW v10) ev10) rv10) ((rg_mul ev10 rv9 kc_60 rfl).2))
    refine lv_istore (lv' := [(6, .int v10), (5, .int v9), (0, .ref (Z.ad 6 i0)), (1, .int p1), (2, .int p2), (3, .int p3), (4, .int p4)]) hx hb dX6_begin_34 hl (by decide) rfl (fun ls hl => ?_)
    refine lv_aload_n hx hb dX6_begin_36 rfl (lv_at hl 2 rfl) ?_
    have al11 : Z.al 26 i0 := hz.2 26 i0 (show i0 < 2 * Z.n from (by omega))
    refine c_getr (a := Z.ad 26 i0) x L 6 i0 1 hal0 rfl rfl (wk_in kf_X6_21) dX6_begin_37 ?_
    refine lv_iload hx hb dX6_begin_40 (lv_at hl 0 rfl) ?_
    refine lv_bipush (v := 9) hx hb dX6_begin_42 (by decide) ?_
    refine c_st x L 26 i0 832 al11 rfl rfl rv10 rfl (rg_any (9 : Int32)) dX6_begin_44 (fun g12 H12 k12 eg12 L12 => ?_)
    replace hW := (wfP_i (wfP_a hW g12) eg12)
    refine lv_aload_n hx hb dX6_begin_45 rfl (lv_at hl 2 rfl) ?_
    refine c_getr (a := Z.ad 26 i0) x L12 6 i0 1 hal0 rfl rfl (wk_in kf_X6_21) dX6_begin_46 ?_
    refine lv_iload hx hb dX6_begin_49 (lv_at hl 0 rfl) ?_
    refine lv_iconst (v := 1) hx hb dX6_begin_51 (by decide) ?_
    refine lv_iadd hx hb dX6_begin_52 ?_
    refine lv_topi (fun v13 ev13 => ?_)
    have rv13 : rg (1) (541) v13 := (rg_add ev13 rv10 kc_1 rfl).1
    replace hW := (wfP_i (wfP_i (wfP_i (wfP_a hW v13) ev13) rv13) (w_iadd ((rg_add ev13 rv10 kc_1 rfl).2) rfl (rg_i kc_1)))
    refine lv_iconst (v := 3) hx hb dX6_begin_53 (by decide) ?_
    refine c_st x L12 26 i0 832 al11 rfl rfl rv13 rfl (rg_any (3 : Int32)) dX6_begin_54 (fun g14 H14 k14 eg14 L14 => ?_)
    replace hW := (wfP_i (wfP_a hW g14) eg14)
    refine lv_aload_n hx hb dX6_begin_55 rfl (lv_at hl 2 rfl) ?_
    refine c_getr (a := Z.ad 26 i0) x L14 6 i0 1 hal0 rfl rfl (wk_in kf_X6_21) dX6_begin_56 ?_
    refine lv_iload hx hb dX6_begin_59 (lv_at hl 0 rfl) ?_
    refine lv_iconst (v := 2) hx hb dX6_begin_61 (by decide) ?_
    refine lv_iadd hx hb dX6_begin_62 ?_
    refine lv_topi (fun v15 ev15 => ?_)
    have rv15 : rg (2) (542) v15 := (rg_add ev15 rv10 kc_2 rfl).1
    replace hW := (wfP_i (wfP_i (wfP_i (wfP_a hW v15) ev15) rv15) (w_iadd ((rg_add ev15 rv10 kc_2 rfl).2) rfl (rg_i kc_2)))
    refine lv_iload_n hx hb dX6_begin_63 rfl (lv_at hl 4 rfl) ?_
    refine lv_bipush (v := 16) hx hb dX6_begin_64 (by decide) ?_
    refine lv_iushr hx hb dX6_begin_66 rfl ?_
    refine lv_topi (fun v16 ev16 => ?_)
    have rv16 : rg (0) (65535) v16 := rg_ush ev16 16 rfl
    replace hW := (wfP_i (wfP_i (wfP_a hW v16) ev16) rv16)
    refine lv_bipush (v := 127) hx hb dX6_begin_67 (by decide) ?_
    refine lv_iand hx hb dX6_begin_69 ?_
    refine lv_topi (fun v17 ev17 => ?_)
    have rv17 : rg (0) (127) v17 := rg_and ev17 7 127 (by decide) rfl
    replace hW := (wfP_i (wfP_i (wfP_a hW v17) ev17) rv17)
    refine lv_iload_n hx hb dX6_begin_70 rfl (lv_at hl 5 rfl) ?_
    obtain ⟨P19, hP19, hW⟩ := wfP_ex hW
    have j81_19 : ∀ (b81_3_18 : Int32) (g19 : mSt) (H19 : Heap) (k19 : List Loc) (ls : Array Slot), mFr [] g14 g19 → cL G Z A H0 X g19 H19 k19 → rg (0) (128) b81_3_18 → mFi (im_kbegin Z i0 p1 p2 p3 p4) g14 g19 → wfP (P19 b81_3_18 g19) → lv_has ls 7 [(0, .ref (Z.ad 6 i0)), (1, .int p1), (2, .int p2), (4, .int p4), (5, .int v9), (6, .int v10)] → W p l e rm_kbegin s m args below meth c H19 k19 0 0 Q (F0 m 81 ls [.int b81_3_18, .int v17, .int v15, .ref (Z.ad 26 i0)]) := by
      intro b81_3_18 g19 H19 k19 ls hF19 L19 rb81_3_18 hI19 hW hl
      replace hW := wfP_i (wfP_i (wfP_i (wfP_i (wfP_a (wfP_a hP19 b81_3_18) g19) hF19) hI19) rb81_3_18) hW
      refine lv_ior hx hb dX6_begin_81 ?_
      refine lv_topi (fun v20 ev20 => ?_)
      have rv20 : rg (-2147483648) (2147483647) v20 := rg_any v20
      replace hW := (wfP_i (wfP_i (wfP_a hW v20) ev20) rv20)
      refine c_st x L19 26 i0 832 al11 rfl rfl rv15 rfl (rg_any v20) dX6_begin_82 (fun g21 H21 k21 eg21 L21 => ?_)
      replace hW := (wfP_i (wfP_a hW g21) eg21)
      refine lv_aload_n hx hb dX6_begin_83 rfl (lv_at hl 0 rfl) ?_
      refine c_getr (a := Z.ad 26 i0) x L21 6 i0 1 hal0 rfl rfl (wk_in kf_X6_21) dX6_begin_84 ?_
      refine lv_iload hx hb dX6_begin_87 (lv_at hl 5 rfl) ?_
      refine lv_iconst (v := 3) hx hb dX6_begin_89 (by decide) ?_
      refine lv_iadd hx hb dX6_begin_90 ?_
      refine lv_topi (fun v22 ev22 => ?_)
      have rv22 : rg (3) (543) v22 := (rg_add ev22 rv10 kc_3 rfl).1
      replace hW := (wfP_i (wfP_i (wfP_i (wfP_a hW v22) ev22) rv22) (w_iadd ((rg_add ev22 rv10 kc_3 rfl).2) rfl (rg_i kc_3)))
      refine lv_iload_n hx hb dX6_begin_91 rfl (lv_at hl 2 rfl) ?_
      refine lv_bipush (v := 8) hx hb dX6_begin_92 (by decide) ?_
      refine lv_iushr hx hb dX6_begin_94 rfl ?_
      refine lv_topi (fun v23 ev23 => ?_)
      have rv23 : rg (0) (16777215) v23 := rg_ush ev23 8 rfl
      replace hW := (wfP_i (wfP_i (wfP_a hW v23) ev23) rv23)
      refine lv_sipush (v := 255) hx hb dX6_begin_95 (by decide) ?_
      refine lv_iand hx hb dX6_begin_98 ?_
      refine lv_topi (fun v24 ev24 => ?_)
      have rv24 : rg (0) (255) v24 := rg_and ev24 8 255 (by decide) rfl
      replace hW := (wfP_i (wfP_i (wfP_a hW v24) ev24) rv24)
      refine c_st x L21 26 i0 832 al11 rfl rfl rv22 rfl (rg_any v24) dX6_begin_99 (fun g25 H25 k25 eg25 L25 => ?_)
      replace hW := (wfP_i (wfP_a hW g25) eg25)
      refine lv_aload_n hx hb dX6_begin_100 rfl (lv_at hl 0 rfl) ?_
      refine c_getr (a := Z.ad 26 i0) x L25 6 i0 1 hal0 rfl rfl (wk_in kf_X6_21) dX6_begin_101 ?_
      refine lv_iload hx hb dX6_begin_104 (lv_at hl 5 rfl) ?_
      refine lv_iconst (v := 4) hx hb dX6_begin_106 (by decide) ?_
      refine lv_iadd hx hb dX6_begin_107 ?_
      refine lv_topi (fun v26 ev26 => ?_)
      have rv26 : rg (4) (544) v26 := (rg_add ev26 rv10 kc_4 rfl).1
      replace hW := (wfP_i (wfP_i (wfP_i (wfP_a hW v26) ev26) rv26) (w_iadd ((rg_add ev26 rv10 kc_4 rfl).2) rfl (rg_i kc_4)))
      refine lv_iload_n hx hb dX6_begin_108 rfl (lv_at hl 2 rfl) ?_
      refine lv_sipush (v := 255) hx hb dX6_begin_109 (by decide) ?_
      refine lv_iand hx hb dX6_begin_112 ?_
      refine lv_topi (fun v27 ev27 => ?_)
      have rv27 : rg (0) (255) v27 := rg_and ev27 8 255 (by decide) rfl
      replace hW := (wfP_i (wfP_i (wfP_a hW v27) ev27) rv27)
      refine c_st x L25 26 i0 832 al11 rfl rfl rv26 rfl (rg_any v27) dX6_begin_113 (fun g28 H28 k28 eg28 L28 => ?_)
      replace hW := (wfP_i (wfP_a hW g28) eg28)
      refine lv_aload_n hx hb dX6_begin_114 rfl (lv_at hl 0 rfl) ?_
      refine c_getr (a := Z.ad 26 i0) x L28 6 i0 1 hal0 rfl rfl (wk_in kf_X6_21) dX6_begin_115 ?_
      refine lv_iload hx hb dX6_begin_118 (lv_at hl 5 rfl) ?_
      refine lv_iconst (v := 5) hx hb dX6_begin_120 (by decide) ?_
      refine lv_iadd hx hb dX6_begin_121 ?_
      refine lv_topi (fun v29 ev29 => ?_)
      have rv29 : rg (5) (545) v29 := (rg_add ev29 rv10 kc_5 rfl).1
      replace hW := (wfP_i (wfP_i (wfP_i (wfP_a hW v29) ev29) rv29) (w_iadd ((rg_add ev29 rv10 kc_5 rfl).2) rfl (rg_i kc_5)))
      refine lv_iload_n hx hb dX6_begin_122 rfl (lv_at hl 1 rfl) ?_
      refine c_st x L28 26 i0 832 al11 rfl rfl rv29 rfl (rg_any p1) dX6_begin_123 (fun g30 H30 k30 eg30 L30 => ?_)
      replace hW := (wfP_i (wfP_a hW g30) eg30)
      refine lv_aload_n hx hb dX6_begin_124 rfl (lv_at hl 0 rfl) ?_
      refine c_getr (a := Z.ad 26 i0) x L30 6 i0 1 hal0 rfl rfl (wk_in kf_X6_21) dX6_begin_125 ?_
      refine lv_iload hx hb dX6_begin_128 (lv_at hl 5 rfl) ?_
      refine lv_bipush (v := 6) hx hb dX6_begin_130 (by decide) ?_
      refine lv_iadd hx hb dX6_begin_132 ?_
      refine lv_topi (fun v31 ev31 => ?_)
      have rv31 : rg (6) (546) v31 := (rg_add ev31 rv10 kc_6 rfl).1
      replace hW := (wfP_i (wfP_i (wfP_i (wfP_a hW v31) ev31) rv31) (w_iadd ((rg_add ev31 rv10 kc_6 rfl).2) rfl (rg_i kc_6)))
      refine lv_sipush (v := 128) hx hb dX6_begin_133 (by decide) ?_
      refine c_st x L30 26 i0 832 al11 rfl rfl rv31 rfl (rg_any (128 : Int32)) dX6_begin_136 (fun g32 H32 k32 eg32 L32 => ?_)
      replace hW := (wfP_i (wfP_a hW g32) eg32)
      refine lv_aload_n hx hb dX6_begin_137 rfl (lv_at hl 0 rfl) ?_
      refine c_getr (a := Z.ad 26 i0) x L32 6 i0 1 hal0 rfl rfl (wk_in kf_X6_21) dX6_begin_138 ?_
      refine lv_iload hx hb dX6_begin_141 (lv_at hl 5 rfl) ?_
      refine lv_bipush (v := 7) hx hb dX6_begin_143 (by decide) ?_
      refine lv_iadd hx hb dX6_begin_145 ?_
      refine lv_topi (fun v33 ev33 => ?_)
      have rv33 : rg (7) (547) v33 := (rg_add ev33 rv10 kc_7 rfl).1
      replace hW := (wfP_i (wfP_i (wfP_i (wfP_a hW v33) ev33) rv33) (w_iadd ((rg_add ev33 rv10 kc_7 rfl).2) rfl (rg_i kc_7)))
      refine lv_iconst (v := 0) hx hb dX6_begin_146 (by decide) ?_
      refine c_st x L32 26 i0 832 al11 rfl rfl rv33 rfl (rg_any (0 : Int32)) dX6_begin_147 (fun g34 H34 k34 eg34 L34 => ?_)
      replace hW := (wfP_i (wfP_a hW g34) eg34)
      refine lv_aload_n hx hb dX6_begin_148 rfl (lv_at hl 0 rfl) ?_
      refine c_getr (a := Z.ad 26 i0) x L34 6 i0 1 hal0 rfl rfl (wk_in kf_X6_21) dX6_begin_149 ?_
      refine lv_iload hx hb dX6_begin_152 (lv_at hl 5 rfl) ?_
      refine lv_bipush (v := 8) hx hb dX6_begin_154 (by decide) ?_
      refine lv_iadd hx hb dX6_begin_156 ?_
      refine lv_topi (fun v35 ev35 => ?_)
      have rv35 : rg (8) (548) v35 := (rg_add ev35 rv10 kc_8 rfl).1
      replace hW := (wfP_i (wfP_i (wfP_i (wfP_a hW v35) ev35) rv35) (w_iadd ((rg_add ev35 rv10 kc_8 rfl).2) rfl (rg_i kc_8)))
      refine lv_iload hx hb dX6_begin_157 (lv_at hl 3 rfl) ?_
      refine c_st x L34 26 i0 832 al11 rfl rfl rv35 rfl (rg_any p4) dX6_begin_159 (fun g36 H36 k36 eg36 L36 => ?_)
      replace hW := (wfP_i (wfP_a hW g36) eg36)
      refine lv_aload_n hx hb dX6_begin_160 rfl (lv_at hl 0 rfl) ?_
      have al37 : Z.al 27 i0 := hz.2 27 i0 (show i0 < 2 * Z.n from (by omega))
      refine c_getr (a := Z.ad 27 i0) x L36 6 i0 2 hal0 rfl rfl (wk_in kf_X6_25) dX6_begin_161 ?_
      refine lv_iload hx hb dX6_begin_164 (lv_at hl 4 rfl) ?_
      refine lv_bipush (v := 9) hx hb dX6_begin_166 (by decide) ?_
      refine c_st x L36 27 i0 864 al37 rfl rfl rv9 rfl (crj_864 (rg_w kc_9 rfl)) dX6_begin_168 (fun g38 H38 k38 eg38 L38 => ?_)
      replace hW := (wfP_i (wfP_a hW g38) eg38)
      refine lv_aload_n hx hb dX6_begin_169 rfl (lv_at hl 0 rfl) ?_
      refine lv_dup hx hb dX6_begin_170 rfl ?_
      refine c_geti x L38 6 i0 6 198 hal0 rfl rfl (wk_in kf_X6_38) dX6_begin_171 (fun v39 ev39 wv39 => ?_)
      refine m_top (((mm_up (mm_up (mm_up (mm_up (mm_up (mm_up (mm_up (mm_up (mm_fr (mm_up (mm_up ev1 eg12 rfl) eg14 rfl) hF19 rfl) eg21 rfl) eg25 rfl) eg28 rfl) eg30 rfl) eg32 rfl) eg34 rfl) eg36 rfl) eg38 rfl)).trans ev39.symm) ?_
      refine lv_iconst (v := 1) hx hb dX6_begin_174 (by decide) ?_
      refine lv_iadd hx hb dX6_begin_175 ?_
      refine lv_topi (fun v40 ev40 => ?_)
      have rv40 : rg (1) (10) v40 := (rg_add ev40 q4 kc_1 rfl).1
      replace hW := (wfP_i (wfP_i (wfP_i (wfP_a hW v40) ev40) rv40) (w_iadd ((rg_add ev40 q4 kc_1 rfl).2) rfl (rg_i kc_1)))
      refine c_puti x L38 6 i0 6 198 hal0 rfl rfl ⟨rfl, by decide +kernel⟩ (wk_in kf_X6_38) dX6_begin_176 (crj_198 (rg_w rv40 rfl)) (fun g41 H41 k41 eg41 L41 => ?_)
      replace hW := (wfP_i (wfP_a hW g41) eg41)
      refine lv_iconst (v := 1) hx hb dX6_begin_179 (by decide) ?_
      exact hQ _ _ (1 : Int32) _ _ _ dX6_begin_180 L41 ⟨hW, (mFi.up (mFi.up (mFi.up (mFi.up (mFi.up (mFi.up (mFi.up (mFi.up (mFi.up (mFi.tr (mFi.up (mFi.up mFi.rf eg12 (mIn_at 1 rfl (Or.inr (mIx rv10 rfl)))) eg14 (mIn_at 1 rfl (Or.inr (mIx rv13 rfl)))) hI19) eg21 (mIn_at 1 rfl (Or.inr (mIx rv15 rfl)))) eg25 (mIn_at 1 rfl (Or.inr (mIx rv22 rfl)))) eg28 (mIn_at 1 rfl (Or.inr (mIx rv26 rfl)))) eg30 (mIn_at 1 rfl (Or.inr (mIx rv29 rfl)))) eg32 (mIn_at 1 rfl (Or.inr (mIx rv31 rfl)))) eg34 (mIn_at 1 rfl (Or.inr (mIx rv33 rfl)))) eg36 (mIn_at 1 rfl (Or.inr (mIx rv35 rfl)))) eg38 (mIn_at 2 rfl (Or.inr (mIx rv9 rfl)))) eg41 (mIn_at 0 rfl (Or.inr (Nat.div_one _)))), (mFr.upE (mFr.upE (mFr.upE (mFr.upE (mFr.upE (mFr.upE (mFr.upE (mFr.upE (mFr.upE (mFr.tr (mFr.upE (mFr.upE mFr.rf eg12 rfl) eg14 rfl) hF19 rfl) eg21 rfl) eg25 rfl) eg28 rfl) eg30 rfl) eg32 rfl) eg34 rfl) eg36 rfl) eg38 rfl) eg41 rfl), rg_w kc_1 rfl, trivial⟩
    refine lv_if_eq (tgt := 78) hx hb dX6_begin_71 (by decide) (fun c71_42 => ?_) (fun c71_42 => ?_)
    · skip
      replace hW := wfP_i (wfP_l hW) (i_eq c71_42 rfl (rg_i kc_0))
      have q43 : rg (0) (0) p3 := (rg_eq c71_42 rp3 kc_0).1
      refine lv_sipush (v := 128) hx hb dX6_begin_78 (by decide) ?_
      exact j81_19 (128 : Int32) g14 _ _ ls mFr.rf L14 (rg_w kc_128 rfl) mFi.rf hW (lv_sub hl [2, 3, 4, 6, 1, 0] rfl)
    · skip
      replace hW := wfP_i (wfP_r hW) (i_ne c71_42 rfl (rg_i kc_0))
      have q44 : rg (1) (1) p3 := rg_neL c71_42 rp3 kc_0
      refine lv_iconst (v := 0) hx hb dX6_begin_74 (by decide) ?_
      refine lv_goto (tgt := 81) hx hb dX6_begin_75 (by decide) ?_
      exact j81_19 (0 : Int32) g14 _ _ ls mFr.rf L14 (rg_w kc_0 rfl) mFi.rf hW (lv_sub hl [2, 3, 4, 6, 1, 0] rfl)
  · skip
    replace hW := wfP_i (wfP_r hW) (i_le (rg_nlt c8_3) (rg_i kc_10) rfl)
    have q45 : rg (10) (10) v1 := (rg_le (rg_nlt c8_3) kc_10 rv1).2
    refine lv_iconst (v := 0) hx hb dX6_begin_11 (by decide) ?_
    exact hQ _ _ (0 : Int32) _ _ _ dX6_begin_12 L ⟨hW, mFi.rf, mFr.rf, rg_w kc_0 rfl, trivial⟩
theorem d_kbegin (l : Launch) {G : cG} {Z : cZ} (X : Int) (g : mSt) (i0 : Nat) (p1 : Int32) (p2 : Int32) (p3 : Int32) (p4 : Int32) (hX : 0 ≤ X ∧ X ≤ 2000000000) (hi0 : i0 < 2 * Z.n) (rp3 : rg (0) (1) p3) {Φ : Int32 → mSt → Prop} (hW : wfP (wp_kbegin Z i0 p1 p2 p3 p4 g Φ)) : Met l yX6_begin (wk (Cond.code yX6_begin cX6_begin 7 (some .boolean))) rm_kbegin (va_Pc [.ref (Z.ad 6 i0), .int p1, .int p2, .int p3, .int p4] (cPre G Z X g)) (cQi G Z X (fun r g1 => wfP (Φ r g1) ∧ mFi (im_kbegin Z i0 p1 p2 p3 p4) g g1 ∧ (mFr [198, 832, 864] g g1 ∧ rg (0) (1) r ∧ True))) 0 0 (cAd Z) := by
  refine Met.ofW (cc := cX6_begin) (maxL := 7) (ret := (some .boolean)) (by decide) rfl ?_
  intro p e s m args below meth c s₁ B hml hv
  obtain ⟨rfl, hv⟩ := hv
  have hr := B.returns
  have hlocks := B.notSynchronized
  obtain ⟨x, L⟩ := c_start B rfl (fun w h => wk_in h) hv
  have hl := lv_entry ([.ref (Z.ad 6 i0), .int p1, .int p2, .int p3, .int p4]) (n := 7) (Nat.le_of_ble_eq_true rfl)
  rw [lg_entry_eq]
  generalize (lg_sl ([.ref (Z.ad 6 i0), .int p1, .int p2, .int p3, .int p4]) ++ List.replicate (7 - (lg_sl ([.ref (Z.ad 6 i0), .int p1, .int p2, .int p3, .int p4])).length) Slot.unset).toArray = ls at hl ⊢
  exact v_kbegin x hml L hX i0 p1 p2 p3 p4 hi0 rp3 hW hl (fun pc' ls' r g1 H1 locs1 hdg L hp => c_zret x L hr hlocks (nar01 (rg_w hp.2.2.2.1 rfl)) (Int.le_refl _) hp hdg)

def im_kmelement (Z : cZ) (i0 : Nat) (p1 : Int32) (p2 : Int32) (p3 : Int32) : List (Nat × Nat × Nat) := [(832, i0, 8192), (864, i0, 8192)]
def po_kmelement (Z : cZ) (i0 : Nat) (p1 : Int32) (p2 : Int32) (p3 : Int32) (g : mSt) (r : Int32) (g1 : mSt) : Prop := mFi (im_kmelement Z i0 p1 p2 p3) g g1 ∧ mFr [832, 864] g g1 ∧ True
def wp_kmelement (Z : cZ) (i0 : Nat) (p1 : Int32) (p2 : Int32) (p3 : Int32) (g : mSt) (Φ : Int32 → mSt → Prop) : Prop :=
  ∀ (v1 : Int32), v1 = g 197 i0 → rg (0) (9) v1 → ∀ (v2 : Int32), v2 = g 198 i0 → rg (0) (10) v2 → ∀ (v3 : Int32), v3 = v2 - (1 : Int32) → rg (-1) (9) v3 → v3.toInt = v2.toInt - 1 → ∀ (v5 : Int32), rg (0) (9) v5 → 0 ≤ v5.toInt ∧ v3.toInt ≤ v5.toInt ∧ (v5.toInt = 0 ∨ v5.toInt = v3.toInt) → ∀ (v7 : Int32), v7 = v1 + v5 → rg (0) (18) v7 → v7.toInt = v1.toInt + v5.toInt → ∀ (v9 : Int32), v9 = v7 - v7 / (10 : Int32) * (10 : Int32) → rg (0) (9) v9 → v9.toInt = v7.toInt % 10 → ∀ (v12 : Int32), v12 = g 864 (8192 * i0 + v9.toNatClampNeg) → rg (0) (60) v12 → ((v2.toInt < 1) → Φ 0 g) ∧ ((1 ≤ v2.toInt) → ∀ (v17 : Int32), v17 = v12 + (4 : Int32) → rg (4) (64) v17 → v17.toInt = v12.toInt + 4 → ∀ (v19 : Int32), v19 = v17 + p2 → rg (5) (66) v19 → v19.toInt = v17.toInt + p2.toInt → ((v19.toInt ≤ 60) → ∀ (v22 : Int32), v22 = v9 * (60 : Int32) → rg (0) (540) v22 → v22.toInt = v9.toInt * 60 → ∀ (v24 : Int32), v24 = v22 + v12 → rg (0) (600) v24 → v24.toInt = v22.toInt + v12.toInt → ∀ (g27 : mSt), g27 = up2 g 832 (8192 * i0 + v24.toNatClampNeg) p1 → ∀ (v28 : Int32), v28 = v24 + (1 : Int32) → rg (1) (596) v28 → v28.toInt = v24.toInt + 1 → ∀ (g30 : mSt), g30 = up2 g27 832 (8192 * i0 + v28.toNatClampNeg) (128 : Int32) → ∀ (v31 : Int32), v31 = v24 + (2 : Int32) → rg (2) (597) v31 → v31.toInt = v24.toInt + 2 → ∀ (g33 : mSt), g33 = up2 g30 832 (8192 * i0 + v31.toNatClampNeg) (0 : Int32) → ∀ (v34 : Int32), v34 = v24 + (3 : Int32) → rg (3) (598) v34 → v34.toInt = v24.toInt + 3 → ∀ (g36 : mSt), g36 = up2 g33 832 (8192 * i0 + v34.toNatClampNeg) p2 → ∃ P38 : Int32 → mSt → Prop, (∀ (a104_7_37 : Int32) (g38 : mSt), mFr [832] g36 g38 → mFi (im_kmelement Z i0 p1 p2 p3) g36 g38 → rg (0) (2) a104_7_37 → P38 a104_7_37 g38 → ((p2.toInt ≤ a104_7_37.toInt) → ∀ (g41 : mSt), g41 = up2 g38 864 (8192 * i0 + v9.toNatClampNeg) v19 → Φ 0 g41) ∧ ((a104_7_37.toInt < p2.toInt) → ∀ (v43 : Int32), v43 = v24 + (4 : Int32) → rg (4) (599) v43 → v43.toInt = v24.toInt + 4 → ∀ (v45 : Int32), v45 = v43 + a104_7_37 → rg (4) (600) v45 → v45.toInt = v43.toInt + a104_7_37.toInt → ∀ (v47 : Int32), v47 = p2 - (1 : Int32) → rg (0) (1) v47 → v47.toInt = p2.toInt - 1 → ∀ (v49 : Int32), v49 = v47 - a104_7_37 → rg (-1) (1) v49 → v49.toInt = v47.toInt - a104_7_37.toInt → ∀ (v50 : Int32), v50 = (8 : Int32) * v49 → rg (-8) (8) v50 → v50.toInt = v49.toInt * 8 → ∀ (v52 : Int32), v52 = (p3.toUInt32 >>> (v50.toUInt32 &&& Int32.toUInt32 31)).toInt32 → rg (-2147483648) (2147483647) v52 → ∀ (v53 : Int32), v53 = v52 &&& (255 : Int32) → rg (0) (255) v53 → ∀ (g54 : mSt), g54 = up2 g38 832 (8192 * i0 + v45.toNatClampNeg) v53 → ∀ (v55 : Int32), v55 = a104_7_37 + (1 : Int32) → rg (1) (2) v55 → v55.toInt = a104_7_37.toInt + 1 → P38 v55 g54)) ∧ P38 (0 : Int32) g36) ∧ ((60 < v19.toInt) → Φ 0 g))
set_option maxHeartbeats 4000000 in
set_option maxRecDepth 100000 in
theorem v_kmelement {p : Program} {l : Launch} {e : Env} {s : State} {m : MethodId} {args : Array Value} {below : List Frame} {meth : Method} {c : Code} {H : Heap} {locs : List Loc} {Q : State → Prop} {ls : Array Slot} {G : cG} {Z : cZ} {A : Nat → Prop} {g : mSt} {H0 : Heap} {X : Int} (x : cX p c cX6_element s args (wk (Cond.code yX6_element cX6_element 8 none)) m G Z A RX6 H0) (hml : c.maxLocals = 8) (L : cL G Z A H0 X g H locs) (hX : 0 ≤ X ∧ X ≤ 2000000000) (i0 : Nat) (p1 : Int32) (p2 : Int32) (p3 : Int32) (hi0 : i0 < 2 * Z.n) (rp2 : rg (1) (2) p2) {Φ : Int32 → mSt → Prop} (hW : wfP (wp_kmelement Z i0 p1 p2 p3 g Φ)) (hl : lv_has ls 8 [(0, .ref (Z.ad 6 i0)), (1, .int p1), (2, .int p2), (3, .int p3)]) (hQ : ∀ (pc' : Nat) (ls' : Array Slot) (g1 : mSt) (H1 : Heap) (locs1 : List Loc), decode cX6_element pc' = .ok (.return_, 1) → cL G Z A H0 X g1 H1 locs1 → (wfP (Φ 0 g1) ∧ mFi (im_kmelement Z i0 p1 p2 p3) g g1 ∧ (mFr [832, 864] g g1 ∧ True)) → W p l e rm_kmelement s m args below meth c H1 locs1 0 0 Q (F0 m pc' ls' [])) : W p l e rm_kmelement s m args below meth c H locs 0 0 Q (F0 m 0 ls []) := by
  have hx := x.1
  have hb := x.2.1
  have hz := x.2.2.2.2.2.2.2.1
  have hzn := hz.1
  have hal0 : Z.al 6 i0 := hz.2 6 i0 (show i0 < 2 * Z.n from hi0)
  have up1 : (-2147483648 : Int) ≤ p1.toInt ∧ p1.toInt ≤ 2147483647 := (rg_any p1)
  have up2 : (1 : Int) ≤ p2.toInt ∧ p2.toInt ≤ 2 := rp2
  have up3 : (-2147483648 : Int) ≤ p3.toInt ∧ p3.toInt ≤ 2147483647 := (rg_any p3)
  refine lv_aload_n hx hb dX6_element_0 rfl (lv_at hl 0 rfl) ?_
  refine c_geti x L 6 i0 5 197 hal0 rfl rfl (wk_in kf_X6_35) dX6_element_1 (fun v1 ev1 wv1 => ?_)
  have rv1 : rg (0) (9) v1 := clj_197 wv1
  replace hW := (wfP_i (wfP_i (wfP_a hW v1) ev1) rv1)
  have uv1 : (0 : Int) ≤ v1.toInt ∧ v1.toInt ≤ 9 := rv1
  have sv1 : v1.toInt = (g 197 i0).toInt := congrArg Int32.toInt (ev1.trans (congrFun ((show mFr [832, 864] g g from mFr.rf).at 197 rfl) _))
  refine lv_iconst (v := 0) hx hb dX6_element_4 (by decide) ?_
  refine lv_aload_n hx hb dX6_element_5 rfl (lv_at hl 0 rfl) ?_
  refine c_geti x L 6 i0 6 198 hal0 rfl rfl (wk_in kf_X6_38) dX6_element_6 (fun v2 ev2 wv2 => ?_)
  have rv2 : rg (0) (10) v2 := clj_198 wv2
  replace hW := (wfP_i (wfP_i (wfP_a hW v2) ev2) rv2)
  have uv2 : (0 : Int) ≤ v2.toInt ∧ v2.toInt ≤ 10 := rv2
  have sv2 : v2.toInt = (g 198 i0).toInt := congrArg Int32.toInt (ev2.trans (congrFun ((show mFr [832, 864] g g from mFr.rf).at 198 rfl) _))
  refine lv_iconst (v := 1) hx hb dX6_element_9 (by decide) ?_
  refine lv_isub hx hb dX6_element_10 ?_
  refine lv_topi (fun v3 ev3 => ?_)
  have rv3 : rg (-1) (9) v3 := (rg_sub ev3 rv2 kc_1 rfl).1
  replace hW := (wfP_i (wfP_i (wfP_i (wfP_a hW v3) ev3) rv3) (w_isub ((rg_sub ev3 rv2 kc_1 rfl).2) rfl (rg_i kc_1)))
  have tv3 := (rg_sub ev3 rv2 kc_1 rfl).2
  have y4 : (1 : Int32).toInt = 1 := by decide
  have uv3 : (-1 : Int) ≤ v3.toInt ∧ v3.toInt ≤ 9 := rv3
  refine va_mmax (rest := [.int v1]) hx hb (hml.trans hl.1.symm) x.2.2.2.2.1 (x.2.2.1 _ (wk_in kl_X6_9)) (x.2.2.1 _ (wk_in kw_max.1)) (x.2.2.1 _ (wk_in kw_max.2.1)) (x.2.2.1 _ (wk_in kw_max.2.2)) (Nat.le_of_ble_eq_true rfl) (Nat.le_of_ble_eq_true rfl) (Nat.zero_le _) (Nat.zero_le _) dX6_element_11 ?_
  refine lv_topi (fun v5 ev5 => ?_)
  have hmv5 := rg_max ev5 kc_0 rv3
  have rv5 : rg (0) (9) v5 := rg_w hmv5.1 rfl
  have tv5 := hmv5.2
  have uv5 : (0 : Int) ≤ v5.toInt ∧ v5.toInt ≤ 9 := rv5
  have y6 : (0 : Int32).toInt = 0 := by decide
  replace hW := (wfP_i (wfP_i (wfP_a hW v5) rv5) (w_max hmv5.2 (rg_i kc_0) rfl))
  refine lv_iadd hx hb dX6_element_14 ?_
  refine lv_topi (fun v7 ev7 => ?_)
  have rv7 : rg (0) (18) v7 := (rg_add ev7 rv1 rv5 rfl).1
  replace hW := (wfP_i (wfP_i (wfP_i (wfP_a hW v7) ev7) rv7) (w_iadd ((rg_add ev7 rv1 rv5 rfl).2) rfl rfl))
  have tv7 := (rg_add ev7 rv1 rv5 rfl).2
  have uv7 : (0 : Int) ≤ v7.toInt ∧ v7.toInt ≤ 18 := rv7
  refine lv_aload_n hx hb dX6_element_15 rfl (lv_at hl 0 rfl) ?_
  refine c_geti x L 6 i0 0 192 hal0 rfl rfl (wk_in kf_X6_15) dX6_element_16 (fun v8 ev8 wv8 => ?_)
  have rv8 : rg (10) (10) v8 := clj_192 wv8
  refine m_top (rg_lit rv8 (show (10 : Int32).toInt = 10 from (by decide))) ?_
  refine lv_irem hx hb dX6_element_19 (by decide) ?_
  refine lv_topi (fun v9 ev9 => ?_)
  have rv9 : rg (0) (9) v9 := (rg_rem ev9 rv7 kc_10 rfl).1
  replace hW := (wfP_i (wfP_i (wfP_i (wfP_a hW v9) ev9) rv9) ((rg_rem ev9 rv7 kc_10 rfl).2))
  have tv9 := (rg_rem ev9 rv7 kc_10 rfl).2
  have y10 : (10 : Int32).toInt = 10 := by decide
  have uv9 : (0 : Int) ≤ v9.toInt ∧ v9.toInt ≤ 9 := rv9
  refine lv_istore (lv' := [(4, .int v9), (0, .ref (Z.ad 6 i0)), (1, .int p1), (2, .int p2), (3, .int p3)]) hx hb dX6_element_20 hl (by decide) rfl (fun ls hl => ?_)
  refine lv_aload_n hx hb dX6_element_22 rfl (lv_at hl 1 rfl) ?_
  have al11 : Z.al 27 i0 := hz.2 27 i0 (show i0 < 2 * Z.n from (by omega))
  refine c_getr (a := Z.ad 27 i0) x L 6 i0 2 hal0 rfl rfl (wk_in kf_X6_25) dX6_element_23 ?_
  refine lv_iload hx hb dX6_element_26 (lv_at hl 0 rfl) ?_
  refine c_ld x L 27 i0 864 al11 rfl rfl rv9 rfl dX6_element_28 (fun v12 ev12 wv12 => ?_)
  have rv12 : rg (0) (60) v12 := clj_864 wv12
  replace hW := (wfP_i (wfP_i (wfP_a hW v12) ev12) rv12)
  have uv12 : (0 : Int) ≤ v12.toInt ∧ v12.toInt ≤ 60 := rv12
  have sv12 := congrArg Int32.toInt ev12
  refine lv_istore (lv' := [(5, .int v12), (4, .int v9), (0, .ref (Z.ad 6 i0)), (1, .int p1), (2, .int p2), (3, .int p3)]) hx hb dX6_element_29 hl (by decide) rfl (fun ls hl => ?_)
  refine lv_aload_n hx hb dX6_element_31 rfl (lv_at hl 2 rfl) ?_
  refine c_geti x L 6 i0 6 198 hal0 rfl rfl (wk_in kf_X6_38) dX6_element_32 (fun v13 ev13 wv13 => ?_)
  refine m_top ((ev2).trans ev13.symm) ?_
  refine lv_iconst (v := 1) hx hb dX6_element_35 (by decide) ?_
  refine lv_icmp_lt (tgt := 50) hx hb dX6_element_36 (by decide) (fun c36_14 => ?_) (fun c36_14 => ?_)
  · skip
    replace hW := wfP_i (wfP_l hW) (i_lt c36_14 rfl (rg_i kc_1))
    have ic36_14 := Int32.lt_iff_toInt_lt.mp c36_14
    have q15 : rg (0) (0) v2 := (rg_lt c36_14 rv2 kc_1).1
    have uq15 : (0 : Int) ≤ v2.toInt ∧ v2.toInt ≤ 0 := q15
    exact hQ _ _ _ _ _ dX6_element_50 L ⟨hW, mFi.rf, mFr.rf, trivial⟩
  · skip
    replace hW := wfP_i (wfP_r hW) (i_le (rg_nlt c36_14) (rg_i kc_1) rfl)
    have ic36_14 := Int32.le_iff_toInt_le.mp (rg_nlt c36_14)
    have q16 : rg (1) (10) v2 := (rg_le (rg_nlt c36_14) kc_1 rv2).2
    have uq16 : (1 : Int) ≤ v2.toInt ∧ v2.toInt ≤ 10 := q16
    refine lv_iload hx hb dX6_element_39 (lv_at hl 0 rfl) ?_
    refine lv_iconst (v := 4) hx hb dX6_element_41 (by decide) ?_
    refine lv_iadd hx hb dX6_element_42 ?_
    refine lv_topi (fun v17 ev17 => ?_)
    have rv17 : rg (4) (64) v17 := (rg_add ev17 rv12 kc_4 rfl).1
    replace hW := (wfP_i (wfP_i (wfP_i (wfP_a hW v17) ev17) rv17) (w_iadd ((rg_add ev17 rv12 kc_4 rfl).2) rfl (rg_i kc_4)))
    have dv17 := (rg_add ev17 rv12 kc_4 rfl).2
    have tv17 := (rg_add ev17 rv12 kc_4 rfl).2
    have y18 : (4 : Int32).toInt = 4 := by decide
    have uv17 : (4 : Int) ≤ v17.toInt ∧ v17.toInt ≤ 64 := rv17
    refine lv_iload_n hx hb dX6_element_43 rfl (lv_at hl 4 rfl) ?_
    refine lv_iadd hx hb dX6_element_44 ?_
    refine lv_topi (fun v19 ev19 => ?_)
    have rv19 : rg (5) (66) v19 := (rg_add ev19 rv17 rp2 rfl).1
    replace hW := (wfP_i (wfP_i (wfP_i (wfP_a hW v19) ev19) rv19) (w_iadd ((rg_add ev19 rv17 rp2 rfl).2) rfl rfl))
    have tv19 := (rg_add ev19 rv17 rp2 rfl).2
    have uv19 : (5 : Int) ≤ v19.toInt ∧ v19.toInt ≤ 66 := rv19
    refine lv_bipush (v := 60) hx hb dX6_element_45 (by decide) ?_
    refine lv_icmp_le (tgt := 51) hx hb dX6_element_47 (by decide) (fun c47_20 => ?_) (fun c47_20 => ?_)
    · skip
      replace hW := wfP_i (wfP_l hW) (i_le c47_20 rfl (rg_i kc_60))
      have ic47_20 := Int32.le_iff_toInt_le.mp c47_20
      have q21 : rg (5) (60) v19 := (rg_le c47_20 rv19 kc_60).1
      have uq21 : (5 : Int) ≤ v19.toInt ∧ v19.toInt ≤ 60 := q21
      refine lv_iload hx hb dX6_element_51 (lv_at hl 1 rfl) ?_
      refine lv_bipush (v := 60) hx hb dX6_element_53 (by decide) ?_
      refine lv_imul hx hb dX6_element_55 ?_
      refine lv_topi (fun v22 ev22 => ?_)
      have rv22 : rg (0) (540) v22 := (rg_mul ev22 rv9 kc_60 rfl).1
      replace hW := (wfP_i (wfP_i (wfP_i (wfP_a hW v22) ev22) rv22) ((rg_mul ev22 rv9 kc_60 rfl).2))
      have tv22 := (rg_mul ev22 rv9 kc_60 rfl).2
      have y23 : (60 : Int32).toInt = 60 := by decide
      have uv22 : (0 : Int) ≤ v22.toInt ∧ v22.toInt ≤ 540 := rv22
      refine lv_iload hx hb dX6_element_56 (lv_at hl 0 rfl) ?_
      refine lv_iadd hx hb dX6_element_58 ?_
      refine lv_topi (fun v24 ev24 => ?_)
      have rv24 : rg (0) (600) v24 := (rg_add ev24 rv22 rv12 rfl).1
      replace hW := (wfP_i (wfP_i (wfP_i (wfP_a hW v24) ev24) rv24) (w_iadd ((rg_add ev24 rv22 rv12 rfl).2) rfl rfl))
      have tv24 := (rg_add ev24 rv22 rv12 rfl).2
      have q25 : rg (0) (595) v24 := ⟨by omega, by omega⟩
      have uv24 : (0 : Int) ≤ v24.toInt ∧ v24.toInt ≤ 595 := q25
      refine lv_istore (lv' := [(6, .int v24), (5, .int v12), (4, .int v9), (0, .ref (Z.ad 6 i0)), (1, .int p1), (2, .int p2), (3, .int p3)]) hx hb dX6_element_59 hl (by decide) rfl (fun ls hl => ?_)
      refine lv_aload_n hx hb dX6_element_61 rfl (lv_at hl 3 rfl) ?_
      have al26 : Z.al 26 i0 := hz.2 26 i0 (show i0 < 2 * Z.n from (by omega))
      refine c_getr (a := Z.ad 26 i0) x L 6 i0 1 hal0 rfl rfl (wk_in kf_X6_21) dX6_element_62 ?_
      refine lv_iload hx hb dX6_element_65 (lv_at hl 0 rfl) ?_
      refine lv_iload_n hx hb dX6_element_67 rfl (lv_at hl 4 rfl) ?_
      refine c_st x L 26 i0 832 al26 rfl rfl q25 rfl (rg_any p1) dX6_element_68 (fun g27 H27 k27 eg27 L27 => ?_)
      replace hW := (wfP_i (wfP_a hW g27) eg27)
      refine lv_aload_n hx hb dX6_element_69 rfl (lv_at hl 3 rfl) ?_
      refine c_getr (a := Z.ad 26 i0) x L27 6 i0 1 hal0 rfl rfl (wk_in kf_X6_21) dX6_element_70 ?_
      refine lv_iload hx hb dX6_element_73 (lv_at hl 0 rfl) ?_
      refine lv_iconst (v := 1) hx hb dX6_element_75 (by decide) ?_
      refine lv_iadd hx hb dX6_element_76 ?_
      refine lv_topi (fun v28 ev28 => ?_)
      have rv28 : rg (1) (596) v28 := (rg_add ev28 q25 kc_1 rfl).1
      replace hW := (wfP_i (wfP_i (wfP_i (wfP_a hW v28) ev28) rv28) (w_iadd ((rg_add ev28 q25 kc_1 rfl).2) rfl (rg_i kc_1)))
      have dv28 := (rg_add ev28 q25 kc_1 rfl).2
      have tv28 := (rg_add ev28 q25 kc_1 rfl).2
      have y29 : (1 : Int32).toInt = 1 := by decide
      have uv28 : (1 : Int) ≤ v28.toInt ∧ v28.toInt ≤ 596 := rv28
      refine lv_sipush (v := 128) hx hb dX6_element_77 (by decide) ?_
      refine c_st x L27 26 i0 832 al26 rfl rfl rv28 rfl (rg_any (128 : Int32)) dX6_element_80 (fun g30 H30 k30 eg30 L30 => ?_)
      replace hW := (wfP_i (wfP_a hW g30) eg30)
      refine lv_aload_n hx hb dX6_element_81 rfl (lv_at hl 3 rfl) ?_
      refine c_getr (a := Z.ad 26 i0) x L30 6 i0 1 hal0 rfl rfl (wk_in kf_X6_21) dX6_element_82 ?_
      refine lv_iload hx hb dX6_element_85 (lv_at hl 0 rfl) ?_
      refine lv_iconst (v := 2) hx hb dX6_element_87 (by decide) ?_
      refine lv_iadd hx hb dX6_element_88 ?_
      refine lv_topi (fun v31 ev31 => ?_)
      have rv31 : rg (2) (597) v31 := (rg_add ev31 q25 kc_2 rfl).1
      replace hW := (wfP_i (wfP_i (wfP_i (wfP_a hW v31) ev31) rv31) (w_iadd ((rg_add ev31 q25 kc_2 rfl).2) rfl (rg_i kc_2)))
      have dv31 := (rg_add ev31 q25 kc_2 rfl).2
      have tv31 := (rg_add ev31 q25 kc_2 rfl).2
      have y32 : (2 : Int32).toInt = 2 := by decide
      have uv31 : (2 : Int) ≤ v31.toInt ∧ v31.toInt ≤ 597 := rv31
      refine lv_iconst (v := 0) hx hb dX6_element_89 (by decide) ?_
      refine c_st x L30 26 i0 832 al26 rfl rfl rv31 rfl (rg_any (0 : Int32)) dX6_element_90 (fun g33 H33 k33 eg33 L33 => ?_)
      replace hW := (wfP_i (wfP_a hW g33) eg33)
      refine lv_aload_n hx hb dX6_element_91 rfl (lv_at hl 3 rfl) ?_
      refine c_getr (a := Z.ad 26 i0) x L33 6 i0 1 hal0 rfl rfl (wk_in kf_X6_21) dX6_element_92 ?_
      refine lv_iload hx hb dX6_element_95 (lv_at hl 0 rfl) ?_
      refine lv_iconst (v := 3) hx hb dX6_element_97 (by decide) ?_
      refine lv_iadd hx hb dX6_element_98 ?_
      refine lv_topi (fun v34 ev34 => ?_)
      have rv34 : rg (3) (598) v34 := (rg_add ev34 q25 kc_3 rfl).1
      replace hW := (wfP_i (wfP_i (wfP_i (wfP_a hW v34) ev34) rv34) (w_iadd ((rg_add ev34 q25 kc_3 rfl).2) rfl (rg_i kc_3)))
      have dv34 := (rg_add ev34 q25 kc_3 rfl).2
      have tv34 := (rg_add ev34 q25 kc_3 rfl).2
      have y35 : (3 : Int32).toInt = 3 := by decide
      have uv34 : (3 : Int) ≤ v34.toInt ∧ v34.toInt ≤ 598 := rv34
      refine lv_iload_n hx hb dX6_element_99 rfl (lv_at hl 5 rfl) ?_
      refine c_st x L33 26 i0 832 al26 rfl rfl rv34 rfl (rg_any p2) dX6_element_100 (fun g36 H36 k36 eg36 L36 => ?_)
      replace hW := (wfP_i (wfP_a hW g36) eg36)
      refine lv_iconst (v := 0) hx hb dX6_element_101 (by decide) ?_
      refine lv_istore (lv' := [(7, .int (0 : Int32)), (6, .int v24), (5, .int v12), (4, .int v9), (0, .ref (Z.ad 6 i0)), (1, .int p1), (2, .int p2), (3, .int p3)]) hx hb dX6_element_102 hl (by decide) rfl (fun ls hl => ?_)
      obtain ⟨P38, hP38, hW⟩ := wfP_ex hW
      have j104_38 : ∀ (n : Nat) (a104_7_37 : Int32) (g38 : mSt) (H38 : Heap) (k38 : List Loc) (ls : Array Slot), mFr [832] g36 g38 → cL G Z A H0 X g38 H38 k38 → rg (0) (2) a104_7_37 → mFi (im_kmelement Z i0 p1 p2 p3) g36 g38 → wfP (P38 a104_7_37 g38) → lv_has ls 8 [(0, .ref (Z.ad 6 i0)), (2, .int p2), (3, .int p3), (4, .int v9), (5, .int v12), (6, .int v24), (7, .int a104_7_37)] → ((2 : Int) - a104_7_37.toInt).toNat = n → W p l e rm_kmelement s m args below meth c H38 k38 0 0 Q (F0 m 104 ls []) := by
        intro n
        induction n using Nat.strongRecOn with
        | _ n ih38 =>
          intro a104_7_37 g38 H38 k38 ls hF38 L38 ra104_7_37 hI38 hW hl hn38
          subst hn38
          replace hW := wfP_i (wfP_i (wfP_i (wfP_i (wfP_a (wfP_a hP38 a104_7_37) g38) hF38) hI38) ra104_7_37) hW
          have ua104_7_37 : (0 : Int) ≤ a104_7_37.toInt ∧ a104_7_37.toInt ≤ 2 := ra104_7_37
          refine lv_iload hx hb dX6_element_104 (lv_at hl 6 rfl) ?_
          refine lv_iload_n hx hb dX6_element_106 rfl (lv_at hl 1 rfl) ?_
          refine lv_icmp_ge (tgt := 143) hx hb dX6_element_107 (by decide) (fun c107_39 => ?_) (fun c107_39 => ?_)
          · skip
            replace hW := wfP_i (wfP_l hW) (i_le c107_39 rfl rfl)
            have ic107_39 := Int32.le_iff_toInt_le.mp c107_39
            have q40 : rg (1) (2) a104_7_37 := (rg_le c107_39 rp2 ra104_7_37).2
            have uq40 : (1 : Int) ≤ a104_7_37.toInt ∧ a104_7_37.toInt ≤ 2 := q40
            refine lv_aload_n hx hb dX6_element_143 rfl (lv_at hl 0 rfl) ?_
            refine c_getr (a := Z.ad 27 i0) x L38 6 i0 2 hal0 rfl rfl (wk_in kf_X6_25) dX6_element_144 ?_
            refine lv_iload hx hb dX6_element_147 (lv_at hl 3 rfl) ?_
            refine lv_iload hx hb dX6_element_149 (lv_at hl 4 rfl) ?_
            refine lv_iconst (v := 4) hx hb dX6_element_151 (by decide) ?_
            refine lv_iadd hx hb dX6_element_152 ?_
            refine m_top ev17 ?_
            refine lv_iload_n hx hb dX6_element_153 rfl (lv_at hl 1 rfl) ?_
            refine lv_iadd hx hb dX6_element_154 ?_
            refine m_top ev19 ?_
            refine c_st x L38 27 i0 864 al11 rfl rfl rv9 rfl (crj_864 (rg_w q21 rfl)) dX6_element_155 (fun g41 H41 k41 eg41 L41 => ?_)
            replace hW := (wfP_i (wfP_a hW g41) eg41)
            exact hQ _ _ _ _ _ dX6_element_156 L41 ⟨hW, (mFi.up (mFi.tr (mFi.up (mFi.up (mFi.up (mFi.up mFi.rf eg27 (mIn_at 0 rfl (Or.inr (mIx q25 rfl)))) eg30 (mIn_at 0 rfl (Or.inr (mIx rv28 rfl)))) eg33 (mIn_at 0 rfl (Or.inr (mIx rv31 rfl)))) eg36 (mIn_at 0 rfl (Or.inr (mIx rv34 rfl)))) hI38) eg41 (mIn_at 1 rfl (Or.inr (mIx rv9 rfl)))), (mFr.upE (mFr.tr (mFr.upE (mFr.upE (mFr.upE (mFr.upE mFr.rf eg27 rfl) eg30 rfl) eg33 rfl) eg36 rfl) hF38 rfl) eg41 rfl), trivial⟩
          · skip
            replace hW := wfP_i (wfP_r hW) (i_lt (rg_nle c107_39) rfl rfl)
            have ic107_39 := Int32.lt_iff_toInt_lt.mp (rg_nle c107_39)
            have q42 : rg (0) (1) a104_7_37 := (rg_lt (rg_nle c107_39) ra104_7_37 rp2).1
            have uq42 : (0 : Int) ≤ a104_7_37.toInt ∧ a104_7_37.toInt ≤ 1 := q42
            refine lv_aload_n hx hb dX6_element_110 rfl (lv_at hl 0 rfl) ?_
            refine c_getr (a := Z.ad 26 i0) x L38 6 i0 1 hal0 rfl rfl (wk_in kf_X6_21) dX6_element_111 ?_
            refine lv_iload hx hb dX6_element_114 (lv_at hl 5 rfl) ?_
            refine lv_iconst (v := 4) hx hb dX6_element_116 (by decide) ?_
            refine lv_iadd hx hb dX6_element_117 ?_
            refine lv_topi (fun v43 ev43 => ?_)
            have rv43 : rg (4) (599) v43 := (rg_add ev43 q25 kc_4 rfl).1
            replace hW := (wfP_i (wfP_i (wfP_i (wfP_a hW v43) ev43) rv43) (w_iadd ((rg_add ev43 q25 kc_4 rfl).2) rfl (rg_i kc_4)))
            have dv43 := (rg_add ev43 q25 kc_4 rfl).2
            have tv43 := (rg_add ev43 q25 kc_4 rfl).2
            have y44 : (4 : Int32).toInt = 4 := by decide
            have uv43 : (4 : Int) ≤ v43.toInt ∧ v43.toInt ≤ 599 := rv43
            refine lv_iload hx hb dX6_element_118 (lv_at hl 6 rfl) ?_
            refine lv_iadd hx hb dX6_element_120 ?_
            refine lv_topi (fun v45 ev45 => ?_)
            have rv45 : rg (4) (600) v45 := (rg_add ev45 rv43 q42 rfl).1
            replace hW := (wfP_i (wfP_i (wfP_i (wfP_a hW v45) ev45) rv45) (w_iadd ((rg_add ev45 rv43 q42 rfl).2) rfl rfl))
            have tv45 := (rg_add ev45 rv43 q42 rfl).2
            have q46 : rg (4) (599) v45 := ⟨by omega, by omega⟩
            have uv45 : (4 : Int) ≤ v45.toInt ∧ v45.toInt ≤ 599 := q46
            refine lv_iload_n hx hb dX6_element_121 rfl (lv_at hl 2 rfl) ?_
            refine lv_bipush (v := 8) hx hb dX6_element_122 (by decide) ?_
            refine lv_iload_n hx hb dX6_element_124 rfl (lv_at hl 1 rfl) ?_
            refine lv_iconst (v := 1) hx hb dX6_element_125 (by decide) ?_
            refine lv_isub hx hb dX6_element_126 ?_
            refine lv_topi (fun v47 ev47 => ?_)
            have rv47 : rg (0) (1) v47 := (rg_sub ev47 rp2 kc_1 rfl).1
            replace hW := (wfP_i (wfP_i (wfP_i (wfP_a hW v47) ev47) rv47) (w_isub ((rg_sub ev47 rp2 kc_1 rfl).2) rfl (rg_i kc_1)))
            have tv47 := (rg_sub ev47 rp2 kc_1 rfl).2
            have y48 : (1 : Int32).toInt = 1 := by decide
            have uv47 : (0 : Int) ≤ v47.toInt ∧ v47.toInt ≤ 1 := rv47
            refine lv_iload hx hb dX6_element_127 (lv_at hl 6 rfl) ?_
            refine lv_isub hx hb dX6_element_129 ?_
            refine lv_topi (fun v49 ev49 => ?_)
            have rv49 : rg (-1) (1) v49 := (rg_sub ev49 rv47 q42 rfl).1
            replace hW := (wfP_i (wfP_i (wfP_i (wfP_a hW v49) ev49) rv49) (w_isub ((rg_sub ev49 rv47 q42 rfl).2) rfl rfl))
            have tv49 := (rg_sub ev49 rv47 q42 rfl).2
            have uv49 : (-1 : Int) ≤ v49.toInt ∧ v49.toInt ≤ 1 := rv49
            refine lv_imul hx hb dX6_element_130 ?_
            refine lv_topi (fun v50 ev50 => ?_)
            have rv50 : rg (-8) (8) v50 := (rg_mulL ev50 kc_8 rv49 rfl).1
            replace hW := (wfP_i (wfP_i (wfP_i (wfP_a hW v50) ev50) rv50) ((rg_mulL ev50 kc_8 rv49 rfl).2))
            have tv50 := (rg_mulL ev50 kc_8 rv49 rfl).2
            have y51 : (8 : Int32).toInt = 8 := by decide
            have uv50 : (-8 : Int) ≤ v50.toInt ∧ v50.toInt ≤ 8 := rv50
            refine lv_iushr hx hb dX6_element_131 rfl ?_
            refine lv_topi (fun v52 ev52 => ?_)
            have rv52 : rg (-2147483648) (2147483647) v52 := rg_any v52
            replace hW := (wfP_i (wfP_i (wfP_a hW v52) ev52) rv52)
            have uv52 : (-2147483648 : Int) ≤ v52.toInt ∧ v52.toInt ≤ 2147483647 := rv52
            refine lv_sipush (v := 255) hx hb dX6_element_132 (by decide) ?_
            refine lv_iand hx hb dX6_element_135 ?_
            refine lv_topi (fun v53 ev53 => ?_)
            have rv53 : rg (0) (255) v53 := rg_and ev53 8 255 (by decide) rfl
            replace hW := (wfP_i (wfP_i (wfP_a hW v53) ev53) rv53)
            have uv53 : (0 : Int) ≤ v53.toInt ∧ v53.toInt ≤ 255 := rv53
            refine c_st x L38 26 i0 832 al26 rfl rfl q46 rfl (rg_any v53) dX6_element_136 (fun g54 H54 k54 eg54 L54 => ?_)
            replace hW := (wfP_i (wfP_a hW g54) eg54)
            obtain ⟨v55, ev55, fv55⟩ := inc_ex a104_7_37 (1) (1 : Int32) (by decide)
            have rv55 : rg (1) (2) v55 := (rg_add ev55 q42 kc_1 rfl).1
            have tv55 := (rg_add ev55 q42 kc_1 rfl).2
            have yv55 : (1 : Int32).toInt = 1 := by decide
            replace hW := (wfP_i (wfP_i (wfP_i (wfP_a hW v55) ev55) rv55) (w_iadd tv55 rfl (rg_i kc_1)))
            refine lv_iinc (v := v55) (lv' := [(7, .int v55), (0, .ref (Z.ad 6 i0)), (2, .int p2), (3, .int p3), (4, .int v9), (5, .int v12), (6, .int v24)]) hx hb dX6_element_137 hl (k := 6) rfl fv55 (by decide) rfl (fun ls hl => ?_)
            refine lv_goto (tgt := 104) hx hb dX6_element_140 (by decide) ?_
            exact ih38 _ (ms_up tv55 kc_1 q42 rfl rfl) v55 g54 _ _ ls (mFr.upE hF38 eg54 rfl) L54 (rg_w rv55 rfl) (mFi.up hI38 eg54 (mIn_at 0 rfl (Or.inr (mIx q46 rfl)))) hW (lv_sub hl [1, 2, 3, 4, 5, 6, 0] rfl) rfl
      have y56 : (0 : Int32).toInt = 0 := by decide
      exact j104_38 _ (0 : Int32) g36 _ _ ls mFr.rf L36 (rg_w kc_0 rfl) mFi.rf hW (lv_sub hl [4, 6, 7, 3, 2, 1, 0] rfl) rfl
    · skip
      replace hW := wfP_i (wfP_r hW) (i_lt (rg_nle c47_20) (rg_i kc_60) rfl)
      have ic47_20 := Int32.lt_iff_toInt_lt.mp (rg_nle c47_20)
      have q57 : rg (61) (66) v19 := (rg_lt (rg_nle c47_20) kc_60 rv19).2
      have uq57 : (61 : Int) ≤ v19.toInt ∧ v19.toInt ≤ 66 := q57
      exact hQ _ _ _ _ _ dX6_element_50 L ⟨hW, mFi.rf, mFr.rf, trivial⟩
theorem d_kmelement (l : Launch) {G : cG} {Z : cZ} (X : Int) (g : mSt) (i0 : Nat) (p1 : Int32) (p2 : Int32) (p3 : Int32) (hX : 0 ≤ X ∧ X ≤ 2000000000) (hi0 : i0 < 2 * Z.n) (rp2 : rg (1) (2) p2) {Φ : Int32 → mSt → Prop} (hW : wfP (wp_kmelement Z i0 p1 p2 p3 g Φ)) : Met l yX6_element (wk (Cond.code yX6_element cX6_element 8 none)) rm_kmelement (va_Pc [.ref (Z.ad 6 i0), .int p1, .int p2, .int p3] (cPre G Z X g)) (cQv G Z X (fun g1 => wfP (Φ 0 g1) ∧ mFi (im_kmelement Z i0 p1 p2 p3) g g1 ∧ (mFr [832, 864] g g1 ∧ True))) 0 0 (cAd Z) := by
  refine Met.ofW (cc := cX6_element) (maxL := 8) (ret := none) (by decide) rfl ?_
  intro p e s m args below meth c s₁ B hml hv
  obtain ⟨rfl, hv⟩ := hv
  have hr := B.returns
  have hlocks := B.notSynchronized
  obtain ⟨x, L⟩ := c_start B rfl (fun w h => wk_in h) hv
  have hl := lv_entry ([.ref (Z.ad 6 i0), .int p1, .int p2, .int p3]) (n := 8) (Nat.le_of_ble_eq_true rfl)
  rw [lg_entry_eq]
  generalize (lg_sl ([.ref (Z.ad 6 i0), .int p1, .int p2, .int p3]) ++ List.replicate (8 - (lg_sl ([.ref (Z.ad 6 i0), .int p1, .int p2, .int p3])).length) Slot.unset).toArray = ls at hl ⊢
  exact v_kmelement x hml L hX i0 p1 p2 p3 hi0 rp2 hW hl (fun pc' ls' g1 H1 locs1 hdg L hp => c_vret x L hr hlocks (Int.le_refl _) hp hdg)

def im_kmdropFirst (Z : cZ) (i0 : Nat) : List (Nat × Nat × Nat) := [(197, i0, 1), (198, i0, 1)]
def po_kmdropFirst (Z : cZ) (i0 : Nat) (g : mSt) (r : Int32) (g1 : mSt) : Prop := mFi (im_kmdropFirst Z i0) g g1 ∧ mFr [197, 198] g g1 ∧ True
def wp_kmdropFirst (Z : cZ) (i0 : Nat) (g : mSt) (Φ : Int32 → mSt → Prop) : Prop :=
  ∀ (v1 : Int32), v1 = g 198 i0 → rg (0) (10) v1 → ((v1.toInt ≤ 0) → Φ 0 g) ∧ ((0 < v1.toInt) → ∀ (v5 : Int32), v5 = g 197 i0 → rg (0) (9) v5 → ∀ (v6 : Int32), v6 = v5 + (1 : Int32) → rg (1) (10) v6 → v6.toInt = v5.toInt + 1 → ∀ (v8 : Int32), v8 = v6 - v6 / (10 : Int32) * (10 : Int32) → rg (0) (9) v8 → v8.toInt = v6.toInt % 10 → ∀ (g9 : mSt), g9 = up2 g 197 i0 v8 → ∀ (v11 : Int32), v11 = v1 - (1 : Int32) → rg (0) (9) v11 → v11.toInt = v1.toInt - 1 → ∀ (g12 : mSt), g12 = up2 g9 198 i0 v11 → Φ 0 g12)
set_option maxHeartbeats 4000000 in
set_option maxRecDepth 100000 in
theorem v_kmdropFirst {p : Program} {l : Launch} {e : Env} {s : State} {m : MethodId} {args : Array Value} {below : List Frame} {meth : Method} {c : Code} {H : Heap} {locs : List Loc} {Q : State → Prop} {ls : Array Slot} {G : cG} {Z : cZ} {A : Nat → Prop} {g : mSt} {H0 : Heap} {X : Int} (x : cX p c cX6_dropFirst s args (wk (Cond.code yX6_dropFirst cX6_dropFirst 1 none)) m G Z A RX6 H0) (hml : c.maxLocals = 1) (L : cL G Z A H0 X g H locs) (hX : 0 ≤ X ∧ X ≤ 2000000000) (i0 : Nat) (hi0 : i0 < 2 * Z.n) {Φ : Int32 → mSt → Prop} (hW : wfP (wp_kmdropFirst Z i0 g Φ)) (hl : lv_has ls 1 [(0, .ref (Z.ad 6 i0))]) (hQ : ∀ (pc' : Nat) (ls' : Array Slot) (g1 : mSt) (H1 : Heap) (locs1 : List Loc), decode cX6_dropFirst pc' = .ok (.return_, 1) → cL G Z A H0 X g1 H1 locs1 → (wfP (Φ 0 g1) ∧ mFi (im_kmdropFirst Z i0) g g1 ∧ (mFr [197, 198] g g1 ∧ True)) → W p l e rm_kmdropFirst s m args below meth c H1 locs1 0 0 Q (F0 m pc' ls' [])) : W p l e rm_kmdropFirst s m args below meth c H locs 0 0 Q (F0 m 0 ls []) := by
  have hx := x.1
  have hb := x.2.1
  have hz := x.2.2.2.2.2.2.2.1
  have hzn := hz.1
  have hal0 : Z.al 6 i0 := hz.2 6 i0 (show i0 < 2 * Z.n from hi0)
  refine lv_aload_n hx hb dX6_dropFirst_0 rfl (lv_at hl 0 rfl) ?_
  refine c_geti x L 6 i0 6 198 hal0 rfl rfl (wk_in kf_X6_38) dX6_dropFirst_1 (fun v1 ev1 wv1 => ?_)
  have rv1 : rg (0) (10) v1 := clj_198 wv1
  replace hW := (wfP_i (wfP_i (wfP_a hW v1) ev1) rv1)
  refine lv_if_le (tgt := 32) hx hb dX6_dropFirst_4 (by decide) (fun c4_2 => ?_) (fun c4_2 => ?_)
  · skip
    replace hW := wfP_i (wfP_l hW) (i_le c4_2 rfl (rg_i kc_0))
    have q3 : rg (0) (0) v1 := (rg_le c4_2 rv1 kc_0).1
    exact hQ _ _ _ _ _ dX6_dropFirst_32 L ⟨hW, mFi.rf, mFr.rf, trivial⟩
  · skip
    replace hW := wfP_i (wfP_r hW) (i_lt (rg_nle c4_2) (rg_i kc_0) rfl)
    have q4 : rg (1) (10) v1 := (rg_lt (rg_nle c4_2) kc_0 rv1).2
    refine lv_aload_n hx hb dX6_dropFirst_7 rfl (lv_at hl 0 rfl) ?_
    refine lv_aload_n hx hb dX6_dropFirst_8 rfl (lv_at hl 0 rfl) ?_
    refine c_geti x L 6 i0 5 197 hal0 rfl rfl (wk_in kf_X6_35) dX6_dropFirst_9 (fun v5 ev5 wv5 => ?_)
    have rv5 : rg (0) (9) v5 := clj_197 wv5
    replace hW := (wfP_i (wfP_i (wfP_a hW v5) ev5) rv5)
    refine lv_iconst (v := 1) hx hb dX6_dropFirst_12 (by decide) ?_
    refine lv_iadd hx hb dX6_dropFirst_13 ?_
    refine lv_topi (fun v6 ev6 => ?_)
    have rv6 : rg (1) (10) v6 := (rg_add ev6 rv5 kc_1 rfl).1
    replace hW := (wfP_i (wfP_i (wfP_i (wfP_a hW v6) ev6) rv6) (w_iadd ((rg_add ev6 rv5 kc_1 rfl).2) rfl (rg_i kc_1)))
    refine lv_aload_n hx hb dX6_dropFirst_14 rfl (lv_at hl 0 rfl) ?_
    refine c_geti x L 6 i0 0 192 hal0 rfl rfl (wk_in kf_X6_15) dX6_dropFirst_15 (fun v7 ev7 wv7 => ?_)
    have rv7 : rg (10) (10) v7 := clj_192 wv7
    refine m_top (rg_lit rv7 (show (10 : Int32).toInt = 10 from (by decide))) ?_
    refine lv_irem hx hb dX6_dropFirst_18 (by decide) ?_
    refine lv_topi (fun v8 ev8 => ?_)
    have rv8 : rg (0) (9) v8 := (rg_rem ev8 rv6 kc_10 rfl).1
    replace hW := (wfP_i (wfP_i (wfP_i (wfP_a hW v8) ev8) rv8) ((rg_rem ev8 rv6 kc_10 rfl).2))
    refine c_puti x L 6 i0 5 197 hal0 rfl rfl ⟨rfl, by decide +kernel⟩ (wk_in kf_X6_35) dX6_dropFirst_19 (crj_197 (rg_w rv8 rfl)) (fun g9 H9 k9 eg9 L9 => ?_)
    replace hW := (wfP_i (wfP_a hW g9) eg9)
    refine lv_aload_n hx hb dX6_dropFirst_22 rfl (lv_at hl 0 rfl) ?_
    refine lv_dup hx hb dX6_dropFirst_23 rfl ?_
    refine c_geti x L9 6 i0 6 198 hal0 rfl rfl (wk_in kf_X6_38) dX6_dropFirst_24 (fun v10 ev10 wv10 => ?_)
    refine m_top (((mm_up ev1 eg9 rfl)).trans ev10.symm) ?_
    refine lv_iconst (v := 1) hx hb dX6_dropFirst_27 (by decide) ?_
    refine lv_isub hx hb dX6_dropFirst_28 ?_
    refine lv_topi (fun v11 ev11 => ?_)
    have rv11 : rg (0) (9) v11 := (rg_sub ev11 q4 kc_1 rfl).1
    replace hW := (wfP_i (wfP_i (wfP_i (wfP_a hW v11) ev11) rv11) (w_isub ((rg_sub ev11 q4 kc_1 rfl).2) rfl (rg_i kc_1)))
    refine c_puti x L9 6 i0 6 198 hal0 rfl rfl ⟨rfl, by decide +kernel⟩ (wk_in kf_X6_38) dX6_dropFirst_29 (crj_198 (rg_w rv11 rfl)) (fun g12 H12 k12 eg12 L12 => ?_)
    replace hW := (wfP_i (wfP_a hW g12) eg12)
    exact hQ _ _ _ _ _ dX6_dropFirst_32 L12 ⟨hW, (mFi.up (mFi.up mFi.rf eg9 (mIn_at 0 rfl (Or.inr (Nat.div_one _)))) eg12 (mIn_at 1 rfl (Or.inr (Nat.div_one _)))), (mFr.upE (mFr.upE mFr.rf eg9 rfl) eg12 rfl), trivial⟩
theorem d_kmdropFirst (l : Launch) {G : cG} {Z : cZ} (X : Int) (g : mSt) (i0 : Nat) (hX : 0 ≤ X ∧ X ≤ 2000000000) (hi0 : i0 < 2 * Z.n) {Φ : Int32 → mSt → Prop} (hW : wfP (wp_kmdropFirst Z i0 g Φ)) : Met l yX6_dropFirst (wk (Cond.code yX6_dropFirst cX6_dropFirst 1 none)) rm_kmdropFirst (va_Pc [.ref (Z.ad 6 i0)] (cPre G Z X g)) (cQv G Z X (fun g1 => wfP (Φ 0 g1) ∧ mFi (im_kmdropFirst Z i0) g g1 ∧ (mFr [197, 198] g g1 ∧ True))) 0 0 (cAd Z) := by
  refine Met.ofW (cc := cX6_dropFirst) (maxL := 1) (ret := none) (by decide) rfl ?_
  intro p e s m args below meth c s₁ B hml hv
  obtain ⟨rfl, hv⟩ := hv
  have hr := B.returns
  have hlocks := B.notSynchronized
  obtain ⟨x, L⟩ := c_start B rfl (fun w h => wk_in h) hv
  have hl := lv_entry ([.ref (Z.ad 6 i0)]) (n := 1) (Nat.le_of_ble_eq_true rfl)
  rw [lg_entry_eq]
  generalize (lg_sl ([.ref (Z.ad 6 i0)]) ++ List.replicate (1 - (lg_sl ([.ref (Z.ad 6 i0)])).length) Slot.unset).toArray = ls at hl ⊢
  exact v_kmdropFirst x hml L hX i0 hi0 hW hl (fun pc' ls' g1 H1 locs1 hdg L hp => c_vret x L hr hlocks (Int.le_refl _) hp hdg)

def im_kaddDamage (Z : cZ) (i0 : Nat) (p1 : Int32) (p2 : Int32) (p3 : Int32) (p4 : Int32) : List (Nat × Nat × Nat) := [(106, i0, 1), (640, i0, 8192), (672, i0, 8192), (704, i0, 8192), (736, i0, 8192)]
def po_kaddDamage (Z : cZ) (i0 : Nat) (p1 : Int32) (p2 : Int32) (p3 : Int32) (p4 : Int32) (g : mSt) (r : Int32) (g1 : mSt) : Prop := mFi (im_kaddDamage Z i0 p1 p2 p3 p4) g g1 ∧ mFr [106, 640, 672, 704, 736] g g1 ∧ rg (-3) (8) r ∧ cJ Z g1 ∧ True
def wp_kaddDamage (Z : cZ) (i0 : Nat) (p1 : Int32) (p2 : Int32) (p3 : Int32) (p4 : Int32) (g : mSt) (Φ : Int32 → mSt → Prop) : Prop :=
  ∀ (v1 : Int32), v1 = g 106 i0 → rg (0) (8) v1 → ((v1.toInt < 8) → ∀ (g6 : mSt), g6 = up2 g 640 (8192 * i0 + v1.toNatClampNeg) p1 → ∀ (v9 : Int32), v9 = g6 107 i0 → rg (-2147483648) (2147483647) v9 → ∀ (v10 : Int32), v10 = v9 + p2 → rg (-2147483648) (2147483647) v10 → ∀ (g11 : mSt), g11 = up2 g6 672 (8192 * i0 + v1.toNatClampNeg) v10 → ∀ (g14 : mSt), g14 = up2 g11 704 (8192 * i0 + v1.toNatClampNeg) p3 → ∀ (g18 : mSt), g18 = up2 g14 736 (8192 * i0 + v1.toNatClampNeg) p4 → ∀ (v20 : Int32), v20 = v1 + (1 : Int32) → rg (1) (8) v20 → v20.toInt = v1.toInt + 1 → ∀ (g22 : mSt), g22 = up2 g18 106 i0 v20 → Φ v20 g22) ∧ ((8 ≤ v1.toInt) → Φ (-3 : Int32) g)
set_option maxHeartbeats 4000000 in
set_option maxRecDepth 100000 in
theorem v_kaddDamage {p : Program} {l : Launch} {e : Env} {s : State} {m : MethodId} {args : Array Value} {below : List Frame} {meth : Method} {c : Code} {H : Heap} {locs : List Loc} {Q : State → Prop} {ls : Array Slot} {G : cG} {Z : cZ} {A : Nat → Prop} {g : mSt} {H0 : Heap} {X : Int} (x : cX p c cX3_addDamage s args (wk (Cond.code yX3_addDamage cX3_addDamage 5 (some .int))) m G Z A RX3 H0) (hml : c.maxLocals = 5) (L : cL G Z A H0 X g H locs) (hX : 0 ≤ X ∧ X ≤ 2000000000) (i0 : Nat) (p1 : Int32) (p2 : Int32) (p3 : Int32) (p4 : Int32) (hJ : cJ Z g) (hi0 : i0 < 2 * Z.n) (hoct : p1.toInt = 1 → 0 ≤ p3.toInt ∧ p3.toInt ≤ 52) {Φ : Int32 → mSt → Prop} (hW : wfP (wp_kaddDamage Z i0 p1 p2 p3 p4 g Φ)) (hl : lv_has ls 5 [(0, .ref (Z.ad 3 i0)), (1, .int p1), (2, .int p2), (3, .int p3), (4, .int p4)]) (hQ : ∀ (pc' : Nat) (ls' : Array Slot) (r : Int32) (g1 : mSt) (H1 : Heap) (locs1 : List Loc), decode cX3_addDamage pc' = .ok (.ireturn, 1) → cL G Z A H0 X g1 H1 locs1 → (wfP (Φ r g1) ∧ mFi (im_kaddDamage Z i0 p1 p2 p3 p4) g g1 ∧ (mFr [106, 640, 672, 704, 736] g g1 ∧ rg (-3) (8) r ∧ cJ Z g1 ∧ True)) → W p l e rm_kaddDamage s m args below meth c H1 locs1 0 0 Q (F0 m pc' ls' [.int r])) : W p l e rm_kaddDamage s m args below meth c H locs 0 0 Q (F0 m 0 ls []) := by
  have hx := x.1
  have hb := x.2.1
  have hz := x.2.2.2.2.2.2.2.1
  have hzn := hz.1
  have hal0 : Z.al 3 i0 := hz.2 3 i0 (show i0 < 2 * Z.n from hi0)
  have up1 : (-2147483648 : Int) ≤ p1.toInt ∧ p1.toInt ≤ 2147483647 := (rg_any p1)
  have up2 : (-2147483648 : Int) ≤ p2.toInt ∧ p2.toInt ≤ 2147483647 := (rg_any p2)
  have up3 : (-2147483648 : Int) ≤ p3.toInt ∧ p3.toInt ≤ 2147483647 := (rg_any p3)
  have up4 : (-2147483648 : Int) ≤ p4.toInt ∧ p4.toInt ≤ 2147483647 := (rg_any p4)
  refine lv_aload_n hx hb dX3_addDamage_0 rfl (lv_at hl 0 rfl) ?_
  refine c_geti x L 3 i0 10 106 hal0 rfl rfl (wk_in kf_X3_54) dX3_addDamage_1 (fun v1 ev1 wv1 => ?_)
  have rv1 : rg (0) (8) v1 := clj_106 wv1
  replace hW := (wfP_i (wfP_i (wfP_a hW v1) ev1) rv1)
  have uv1 : (0 : Int) ≤ v1.toInt ∧ v1.toInt ≤ 8 := rv1
  have sv1 := congrArg Int32.toInt ev1
  refine lv_bipush (v := 8) hx hb dX3_addDamage_4 (by decide) ?_
  refine lv_icmp_lt (tgt := 12) hx hb dX3_addDamage_6 (by decide) (fun c6_2 => ?_) (fun c6_2 => ?_)
  · skip
    replace hW := wfP_i (wfP_l hW) (i_lt c6_2 rfl (rg_i kc_8))
    have ic6_2 := Int32.lt_iff_toInt_lt.mp c6_2
    have q3 : rg (0) (7) v1 := (rg_lt c6_2 rv1 kc_8).1
    have uq3 : (0 : Int) ≤ v1.toInt ∧ v1.toInt ≤ 7 := q3
    refine lv_aload_n hx hb dX3_addDamage_12 rfl (lv_at hl 0 rfl) ?_
    have al4 : Z.al 20 i0 := hz.2 20 i0 (show i0 < 2 * Z.n from (by omega))
    refine c_getr (a := Z.ad 20 i0) x L 3 i0 6 hal0 rfl rfl (wk_in kf_X3_39) dX3_addDamage_13 ?_
    refine lv_aload_n hx hb dX3_addDamage_16 rfl (lv_at hl 0 rfl) ?_
    refine c_geti x L 3 i0 10 106 hal0 rfl rfl (wk_in kf_X3_54) dX3_addDamage_17 (fun v5 ev5 wv5 => ?_)
    refine m_top ((ev1).trans ev5.symm) ?_
    refine lv_iload_n hx hb dX3_addDamage_20 rfl (lv_at hl 1 rfl) ?_
    refine c_st x L 20 i0 640 al4 rfl rfl q3 rfl (rg_any p1) dX3_addDamage_21 (fun g6 H6 k6 eg6 L6 => ?_)
    replace hW := (wfP_i (wfP_a hW g6) eg6)
    refine lv_aload_n hx hb dX3_addDamage_22 rfl (lv_at hl 0 rfl) ?_
    have al7 : Z.al 21 i0 := hz.2 21 i0 (show i0 < 2 * Z.n from (by omega))
    refine c_getr (a := Z.ad 21 i0) x L6 3 i0 7 hal0 rfl rfl (wk_in kf_X3_42) dX3_addDamage_23 ?_
    refine lv_aload_n hx hb dX3_addDamage_26 rfl (lv_at hl 0 rfl) ?_
    refine c_geti x L6 3 i0 10 106 hal0 rfl rfl (wk_in kf_X3_54) dX3_addDamage_27 (fun v8 ev8 wv8 => ?_)
    refine m_top (((mm_up ev1 eg6 rfl)).trans ev8.symm) ?_
    refine lv_aload_n hx hb dX3_addDamage_30 rfl (lv_at hl 0 rfl) ?_
    refine c_geti x L6 3 i0 11 107 hal0 rfl rfl (wk_in kf_X3_58) dX3_addDamage_31 (fun v9 ev9 wv9 => ?_)
    have rv9 : rg (-2147483648) (2147483647) v9 := rg_any v9
    replace hW := (wfP_i (wfP_i (wfP_a hW v9) ev9) rv9)
    have uv9 : (-2147483648 : Int) ≤ v9.toInt ∧ v9.toInt ≤ 2147483647 := rv9
    have sv9 : v9.toInt = (g 107 i0).toInt := congrArg Int32.toInt (ev9.trans (congrFun ((show mFr [106, 640, 672, 704, 736] g g6 from (mFr.upE mFr.rf eg6 rfl)).at 107 rfl) _))
    refine lv_iload_n hx hb dX3_addDamage_34 rfl (lv_at hl 2 rfl) ?_
    refine lv_iadd hx hb dX3_addDamage_35 ?_
    refine lv_topi (fun v10 ev10 => ?_)
    have rv10 : rg (-2147483648) (2147483647) v10 := rg_any v10
    replace hW := (wfP_i (wfP_i (wfP_a hW v10) ev10) rv10)
    have uv10 : (-2147483648 : Int) ≤ v10.toInt ∧ v10.toInt ≤ 2147483647 := rv10
    refine c_st x L6 21 i0 672 al7 rfl rfl q3 rfl (rg_any v10) dX3_addDamage_36 (fun g11 H11 k11 eg11 L11 => ?_)
    replace hW := (wfP_i (wfP_a hW g11) eg11)
    refine lv_aload_n hx hb dX3_addDamage_37 rfl (lv_at hl 0 rfl) ?_
    have al12 : Z.al 22 i0 := hz.2 22 i0 (show i0 < 2 * Z.n from (by omega))
    refine c_getr (a := Z.ad 22 i0) x L11 3 i0 8 hal0 rfl rfl (wk_in kf_X3_45) dX3_addDamage_38 ?_
    refine lv_aload_n hx hb dX3_addDamage_41 rfl (lv_at hl 0 rfl) ?_
    refine c_geti x L11 3 i0 10 106 hal0 rfl rfl (wk_in kf_X3_54) dX3_addDamage_42 (fun v13 ev13 wv13 => ?_)
    refine m_top (((mm_up (mm_up ev1 eg6 rfl) eg11 rfl)).trans ev13.symm) ?_
    refine lv_iload_n hx hb dX3_addDamage_45 rfl (lv_at hl 3 rfl) ?_
    refine c_st x L11 22 i0 704 al12 rfl rfl q3 rfl (rg_any p3) dX3_addDamage_46 (fun g14 H14 k14 eg14 L14 => ?_)
    replace hW := (wfP_i (wfP_a hW g14) eg14)
    have hJ15 := cJ_dmg hJ eg6 eg11 eg14 hoct
    refine lv_aload_n hx hb dX3_addDamage_47 rfl (lv_at hl 0 rfl) ?_
    have al16 : Z.al 23 i0 := hz.2 23 i0 (show i0 < 2 * Z.n from (by omega))
    refine c_getr (a := Z.ad 23 i0) x L14 3 i0 9 hal0 rfl rfl (wk_in kf_X3_48) dX3_addDamage_48 ?_
    refine lv_aload_n hx hb dX3_addDamage_51 rfl (lv_at hl 0 rfl) ?_
    refine c_geti x L14 3 i0 10 106 hal0 rfl rfl (wk_in kf_X3_54) dX3_addDamage_52 (fun v17 ev17 wv17 => ?_)
    refine m_top (((mm_up (mm_up (mm_up ev1 eg6 rfl) eg11 rfl) eg14 rfl)).trans ev17.symm) ?_
    refine lv_iload hx hb dX3_addDamage_55 (lv_at hl 4 rfl) ?_
    refine c_st x L14 23 i0 736 al16 rfl rfl q3 rfl (rg_any p4) dX3_addDamage_57 (fun g18 H18 k18 eg18 L18 => ?_)
    replace hW := (wfP_i (wfP_a hW g18) eg18)
    refine lv_aload_n hx hb dX3_addDamage_58 rfl (lv_at hl 0 rfl) ?_
    refine lv_dup hx hb dX3_addDamage_59 rfl ?_
    refine c_geti x L18 3 i0 10 106 hal0 rfl rfl (wk_in kf_X3_54) dX3_addDamage_60 (fun v19 ev19 wv19 => ?_)
    refine m_top (((mm_up (mm_up (mm_up (mm_up ev1 eg6 rfl) eg11 rfl) eg14 rfl) eg18 rfl)).trans ev19.symm) ?_
    refine lv_iconst (v := 1) hx hb dX3_addDamage_63 (by decide) ?_
    refine lv_iadd hx hb dX3_addDamage_64 ?_
    refine lv_topi (fun v20 ev20 => ?_)
    have rv20 : rg (1) (8) v20 := (rg_add ev20 q3 kc_1 rfl).1
    replace hW := (wfP_i (wfP_i (wfP_i (wfP_a hW v20) ev20) rv20) (w_iadd ((rg_add ev20 q3 kc_1 rfl).2) rfl (rg_i kc_1)))
    have tv20 := (rg_add ev20 q3 kc_1 rfl).2
    have y21 : (1 : Int32).toInt = 1 := by decide
    have uv20 : (1 : Int) ≤ v20.toInt ∧ v20.toInt ≤ 8 := rv20
    refine c_puti x L18 3 i0 10 106 hal0 rfl rfl ⟨rfl, by decide +kernel⟩ (wk_in kf_X3_54) dX3_addDamage_65 (crj_106 (rg_w rv20 rfl)) (fun g22 H22 k22 eg22 L22 => ?_)
    replace hW := (wfP_i (wfP_a hW g22) eg22)
    refine lv_aload_n hx hb dX3_addDamage_68 rfl (lv_at hl 0 rfl) ?_
    refine c_geti x L22 3 i0 10 106 hal0 rfl rfl (wk_in kf_X3_54) dX3_addDamage_69 (fun v23 ev23 wv23 => ?_)
    refine m_top (((mm_st eg22)).trans ev23.symm) ?_
    exact hQ _ _ v20 _ _ _ dX3_addDamage_72 L22 ⟨hW, (mFi.up (mFi.up (mFi.up (mFi.up (mFi.up mFi.rf eg6 (mIn_at 1 rfl (Or.inr (mIx q3 rfl)))) eg11 (mIn_at 2 rfl (Or.inr (mIx q3 rfl)))) eg14 (mIn_at 3 rfl (Or.inr (mIx q3 rfl)))) eg18 (mIn_at 4 rfl (Or.inr (mIx q3 rfl)))) eg22 (mIn_at 0 rfl (Or.inr (Nat.div_one _)))), (mFr.upE (mFr.upE (mFr.upE (mFr.upE (mFr.upE mFr.rf eg6 rfl) eg11 rfl) eg14 rfl) eg18 rfl) eg22 rfl), rg_w rv20 rfl, (cJ_up (cJ_up hJ15 eg18 rfl) eg22 rfl), trivial⟩
  · skip
    replace hW := wfP_i (wfP_r hW) (i_le (rg_nlt c6_2) (rg_i kc_8) rfl)
    have ic6_2 := Int32.le_iff_toInt_le.mp (rg_nlt c6_2)
    have q24 : rg (8) (8) v1 := (rg_le (rg_nlt c6_2) kc_8 rv1).2
    have uq24 : (8 : Int) ≤ v1.toInt ∧ v1.toInt ≤ 8 := q24
    refine lv_bipush (v := (-3)) hx hb dX3_addDamage_9 (by decide) ?_
    exact hQ _ _ (-3 : Int32) _ _ _ dX3_addDamage_11 L ⟨hW, mFi.rf, mFr.rf, rg_w kc_m3 rfl, hJ, trivial⟩
theorem d_kaddDamage (l : Launch) {G : cG} {Z : cZ} (X : Int) (g : mSt) (i0 : Nat) (p1 : Int32) (p2 : Int32) (p3 : Int32) (p4 : Int32) (hX : 0 ≤ X ∧ X ≤ 2000000000) (hJ : cJ Z g) (hi0 : i0 < 2 * Z.n) (hoct : p1.toInt = 1 → 0 ≤ p3.toInt ∧ p3.toInt ≤ 52) {Φ : Int32 → mSt → Prop} (hW : wfP (wp_kaddDamage Z i0 p1 p2 p3 p4 g Φ)) : Met l yX3_addDamage (wk (Cond.code yX3_addDamage cX3_addDamage 5 (some .int))) rm_kaddDamage (va_Pc [.ref (Z.ad 3 i0), .int p1, .int p2, .int p3, .int p4] (cPre G Z X g)) (cQi G Z X (fun r g1 => wfP (Φ r g1) ∧ mFi (im_kaddDamage Z i0 p1 p2 p3 p4) g g1 ∧ (mFr [106, 640, 672, 704, 736] g g1 ∧ rg (-3) (8) r ∧ cJ Z g1 ∧ True))) 0 0 (cAd Z) := by
  refine Met.ofW (cc := cX3_addDamage) (maxL := 5) (ret := (some .int)) (by decide) rfl ?_
  intro p e s m args below meth c s₁ B hml hv
  obtain ⟨rfl, hv⟩ := hv
  have hr := B.returns
  have hlocks := B.notSynchronized
  obtain ⟨x, L⟩ := c_start B rfl (fun w h => wk_in h) hv
  have hl := lv_entry ([.ref (Z.ad 3 i0), .int p1, .int p2, .int p3, .int p4]) (n := 5) (Nat.le_of_ble_eq_true rfl)
  rw [lg_entry_eq]
  generalize (lg_sl ([.ref (Z.ad 3 i0), .int p1, .int p2, .int p3, .int p4]) ++ List.replicate (5 - (lg_sl ([.ref (Z.ad 3 i0), .int p1, .int p2, .int p3, .int p4])).length) Slot.unset).toArray = ls at hl ⊢
  exact v_kaddDamage x hml L hX i0 p1 p2 p3 p4 hJ hi0 hoct hW hl (fun pc' ls' r g1 H1 locs1 hdg L hp => c_iret x L hr hlocks (Int.le_refl _) hp hdg)
