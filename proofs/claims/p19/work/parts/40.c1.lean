def rm_kcellsFor : Room := { frames := 0, cells := 0, slots := 0, locals := 0 }
theorem hd_kcellsFor : yX11_cellsFor.cls ≠ "java/lang/invoke/MethodHandle" ∧ yX11_cellsFor.cls ≠ "java/lang/invoke/VarHandle" ∧ (parseMethodDescriptor yX11_cellsFor.desc).map (fun d => d.parameters.length) = some 1 := by decide +kernel
set_option maxHeartbeats 4000000 in
set_option maxRecDepth 100000 in
theorem w_kcellsFor {p : Program} {l : Launch} {e : Env} {s : State} {m : MethodId} {args : Array Value} {below : List Frame} {meth : Method} {c : Code} {H : Heap} {locs : List Loc} {Q : State → Prop} {ls : Array Slot} {G : cG} {Z : cZ} {g : mSt} {H0 : Heap} {X : Int} (x : cX p c cX11_cellsFor s args (wk (Cond.code yX11_cellsFor cX11_cellsFor 1 (some .int))) m G Z RX11 H0) (hml : c.maxLocals = 1) (L : cL G Z H0 X g H locs) (hX : 0 ≤ X ∧ X ≤ 2000000000) (p1 : Int32) (rp1 : rg (1) (200) p1) (hl : lv_has ls 1 [(0, .int p1)]) (hQ : ∀ (pc' : Nat) (ls' : Array Slot) (r : Int32) (g1 : mSt) (H1 : Heap) (locs1 : List Loc), decode cX11_cellsFor pc' = .ok (.ireturn, 1) → cL G Z H0 X g1 H1 locs1 → (mFr [] g g1 ∧ rg (1) (5) r ∧ (r.toInt = (p1.toInt + 55) / 48)) → W p l e rm_kcellsFor s m args below meth c H1 locs1 0 0 Q (F0 m pc' ls' [.int r])) : W p l e rm_kcellsFor s m args below meth c H locs 0 0 Q (F0 m 0 ls []) := by
  have hx := x.1
  have hb := x.2.1
  have hz := x.2.2.2.2.2.2.2.1
  have hzn := hz.1
  have up1 : (1 : Int) ≤ p1.toInt ∧ p1.toInt ≤ 200 := rp1
  refine lv_iload_n hx hb dX11_cellsFor_0 rfl (lv_at hl 0 rfl) ?_
  refine lv_bipush (v := 8) hx hb dX11_cellsFor_1 (by decide) ?_
  refine lv_iadd hx hb dX11_cellsFor_3 ?_
  refine lv_topi (fun v1 ev1 => ?_)
  have rv1 : rg (9) (208) v1 := (rg_add ev1 rp1 kc_8 rfl).1
  have tv1 := (rg_add ev1 rp1 kc_8 rfl).2
  have y2 : (8 : Int32).toInt = 8 := by decide
  have uv1 : (9 : Int) ≤ v1.toInt ∧ v1.toInt ≤ 208 := rv1
  refine lv_bipush (v := 48) hx hb dX11_cellsFor_4 (by decide) ?_
  refine lv_iadd hx hb dX11_cellsFor_6 ?_
  refine lv_topi (fun v3 ev3 => ?_)
  have rv3 : rg (57) (256) v3 := (rg_add ev3 rv1 kc_48 rfl).1
  have tv3 := (rg_add ev3 rv1 kc_48 rfl).2
  have y4 : (48 : Int32).toInt = 48 := by decide
  have uv3 : (57 : Int) ≤ v3.toInt ∧ v3.toInt ≤ 256 := rv3
  refine lv_iconst (v := 1) hx hb dX11_cellsFor_7 (by decide) ?_
  refine lv_isub hx hb dX11_cellsFor_8 ?_
  refine lv_topi (fun v5 ev5 => ?_)
  have rv5 : rg (56) (255) v5 := (rg_sub ev5 rv3 kc_1 rfl).1
  have tv5 := (rg_sub ev5 rv3 kc_1 rfl).2
  have y6 : (1 : Int32).toInt = 1 := by decide
  have uv5 : (56 : Int) ≤ v5.toInt ∧ v5.toInt ≤ 255 := rv5
  refine lv_bipush (v := 48) hx hb dX11_cellsFor_9 (by decide) ?_
  refine lv_idiv hx hb dX11_cellsFor_11 (by decide) ?_
  refine lv_topi (fun v7 ev7 => ?_)
  have rv7 : rg (1) (5) v7 := (rg_div ev7 rv5 kc_48 rfl).1
  have tv7 := (rg_div ev7 rv5 kc_48 rfl).2
  have y8 : (48 : Int32).toInt = 48 := by decide
  have uv7 : (1 : Int) ≤ v7.toInt ∧ v7.toInt ≤ 5 := rv7
  exact hQ _ _ v7 _ _ _ dX11_cellsFor_12 L ⟨mFr.rf, rg_w rv7 rfl, (by omega)⟩
theorem c_kcellsFor (l : Launch) {G : cG} {Z : cZ} (X : Int) (g : mSt) (p1 : Int32) (hX : 0 ≤ X ∧ X ≤ 2000000000) (rp1 : rg (1) (200) p1) : Met l yX11_cellsFor (wk (Cond.code yX11_cellsFor cX11_cellsFor 1 (some .int))) rm_kcellsFor (va_Pc [.int p1] (cPre G Z X g)) (cQi G Z X (fun r g1 => mFr [] g g1 ∧ rg (1) (5) r ∧ (r.toInt = (p1.toInt + 55) / 48))) 0 0 (cAd Z) := by
  refine Met.ofW (cc := cX11_cellsFor) (maxL := 1) (ret := (some .int)) (by decide) rfl ?_
  intro p e s m args below meth c s₁ B hml hv
  obtain ⟨rfl, hv⟩ := hv
  have hr := B.returns
  have hlocks := B.notSynchronized
  obtain ⟨x, L⟩ := c_start B rfl (fun w h => wk_in h) hv
  have hl := lv_entry ([.int p1]) (n := 1) (Nat.le_of_ble_eq_true rfl)
  rw [lg_entry_eq]
  generalize (lg_sl ([.int p1]) ++ List.replicate (1 - (lg_sl ([.int p1])).length) Slot.unset).toArray = ls at hl ⊢
  exact w_kcellsFor x hml L hX p1 rp1 hl (fun pc' ls' r g1 H1 locs1 hdg L hp => c_iret x L hr hlocks (Int.le_refl _) hp hdg)

def rm_krangeCheck : Room := { frames := 0, cells := 0, slots := 0, locals := 0 }
theorem hd_krangeCheck : yJ7_rangeCheck_23922.cls ≠ "java/lang/invoke/MethodHandle" ∧ yJ7_rangeCheck_23922.cls ≠ "java/lang/invoke/VarHandle" ∧ (parseMethodDescriptor yJ7_rangeCheck_23922.desc).map (fun d => d.parameters.length) = some 3 := by decide +kernel
set_option maxHeartbeats 4000000 in
set_option maxRecDepth 100000 in
theorem w_krangeCheck {p : Program} {l : Launch} {e : Env} {s : State} {m : MethodId} {args : Array Value} {below : List Frame} {meth : Method} {c : Code} {H : Heap} {locs : List Loc} {Q : State → Prop} {ls : Array Slot} {G : cG} {Z : cZ} {g : mSt} {H0 : Heap} {X : Int} (x : cX p c cJ7_rangeCheck_23922 s args (wk (Cond.code yJ7_rangeCheck_23922 cJ7_rangeCheck_23922 3 none)) m G Z RJ7 H0) (hml : c.maxLocals = 3) (L : cL G Z H0 X g H locs) (hX : 0 ≤ X ∧ X ≤ 2000000000) (p1 : Int32) (p2 : Int32) (p3 : Int32) (h1 : p2.toInt ≤ p3.toInt ∧ 0 ≤ p2.toInt ∧ p3.toInt ≤ p1.toInt) (hl : lv_has ls 3 [(0, .int p1), (1, .int p2), (2, .int p3)]) (hQ : ∀ (pc' : Nat) (ls' : Array Slot) (g1 : mSt) (H1 : Heap) (locs1 : List Loc), decode cJ7_rangeCheck_23922 pc' = .ok (.return_, 1) → cL G Z H0 X g1 H1 locs1 → (mFr [] g g1 ∧ True) → W p l e rm_krangeCheck s m args below meth c H1 locs1 0 0 Q (F0 m pc' ls' [])) : W p l e rm_krangeCheck s m args below meth c H locs 0 0 Q (F0 m 0 ls []) := by
  have hx := x.1
  have hb := x.2.1
  have hz := x.2.2.2.2.2.2.2.1
  have hzn := hz.1
  have up1 : (-2147483648 : Int) ≤ p1.toInt ∧ p1.toInt ≤ 2147483647 := (rg_any p1)
  have up2 : (-2147483648 : Int) ≤ p2.toInt ∧ p2.toInt ≤ 2147483647 := (rg_any p2)
  have up3 : (-2147483648 : Int) ≤ p3.toInt ∧ p3.toInt ≤ 2147483647 := (rg_any p3)
  refine lv_iload_n hx hb dJ7_rangeCheck_23922_0 rfl (lv_at hl 1 rfl) ?_
  refine lv_iload_n hx hb dJ7_rangeCheck_23922_1 rfl (lv_at hl 2 rfl) ?_
  refine lv_icmp_le (tgt := 46) hx hb dJ7_rangeCheck_23922_2 (by decide) (fun c2_1 => ?_) (fun c2_1 => ?_)
  · skip
    have ic2_1 := Int32.le_iff_toInt_le.mp c2_1
    refine lv_iload_n hx hb dJ7_rangeCheck_23922_46 rfl (lv_at hl 1 rfl) ?_
    refine lv_if_ge (tgt := 59) hx hb dJ7_rangeCheck_23922_47 (by decide) (fun c47_2 => ?_) (fun c47_2 => ?_)
    · skip
      have ic47_2 := Int32.le_iff_toInt_le.mp c47_2
      have q3 : rg (0) (2147483647) p2 := (rg_le c47_2 kc_0 (rg_any p2)).2
      have uq3 : (0 : Int) ≤ p2.toInt ∧ p2.toInt ≤ 2147483647 := q3
      refine lv_iload_n hx hb dJ7_rangeCheck_23922_59 rfl (lv_at hl 2 rfl) ?_
      refine lv_iload_n hx hb dJ7_rangeCheck_23922_60 rfl (lv_at hl 0 rfl) ?_
      refine lv_icmp_le (tgt := 73) hx hb dJ7_rangeCheck_23922_61 (by decide) (fun c61_4 => ?_) (fun c61_4 => ?_)
      · skip
        have ic61_4 := Int32.le_iff_toInt_le.mp c61_4
        exact hQ _ _ _ _ _ dJ7_rangeCheck_23922_73 L ⟨mFr.rf, trivial⟩
      · skip
        have ic61_4 := Int32.lt_iff_toInt_lt.mp (rg_nle c61_4)
        have q5 : rg (-2147483648) (2147483646) p1 := (rg_lt (rg_nle c61_4) (rg_any p1) (rg_any p3)).1
        have uq5 : (-2147483648 : Int) ≤ p1.toInt ∧ p1.toInt ≤ 2147483646 := q5
        have q6 : rg (-2147483647) (2147483647) p3 := (rg_lt (rg_nle c61_4) (rg_any p1) (rg_any p3)).2
        have uq6 : (-2147483647 : Int) ≤ p3.toInt ∧ p3.toInt ≤ 2147483647 := q6
        exfalso; omega
    · skip
      have ic47_2 := Int32.lt_iff_toInt_lt.mp (rg_nle c47_2)
      have q7 : rg (-2147483648) (-1) p2 := (rg_lt (rg_nle c47_2) (rg_any p2) kc_0).1
      have uq7 : (-2147483648 : Int) ≤ p2.toInt ∧ p2.toInt ≤ -1 := q7
      exfalso; omega
  · skip
    have ic2_1 := Int32.lt_iff_toInt_lt.mp (rg_nle c2_1)
    have q8 : rg (-2147483648) (2147483646) p3 := (rg_lt (rg_nle c2_1) (rg_any p3) (rg_any p2)).1
    have uq8 : (-2147483648 : Int) ≤ p3.toInt ∧ p3.toInt ≤ 2147483646 := q8
    have q9 : rg (-2147483647) (2147483647) p2 := (rg_lt (rg_nle c2_1) (rg_any p3) (rg_any p2)).2
    have uq9 : (-2147483647 : Int) ≤ p2.toInt ∧ p2.toInt ≤ 2147483647 := q9
    exfalso; omega
theorem c_krangeCheck (l : Launch) {G : cG} {Z : cZ} (X : Int) (g : mSt) (p1 : Int32) (p2 : Int32) (p3 : Int32) (hX : 0 ≤ X ∧ X ≤ 2000000000) (h1 : p2.toInt ≤ p3.toInt ∧ 0 ≤ p2.toInt ∧ p3.toInt ≤ p1.toInt) : Met l yJ7_rangeCheck_23922 (wk (Cond.code yJ7_rangeCheck_23922 cJ7_rangeCheck_23922 3 none)) rm_krangeCheck (va_Pc [.int p1, .int p2, .int p3] (cPre G Z X g)) (cQv G Z X (fun g1 => mFr [] g g1 ∧ True)) 0 0 (cAd Z) := by
  refine Met.ofW (cc := cJ7_rangeCheck_23922) (maxL := 3) (ret := none) (by decide) rfl ?_
  intro p e s m args below meth c s₁ B hml hv
  obtain ⟨rfl, hv⟩ := hv
  have hr := B.returns
  have hlocks := B.notSynchronized
  obtain ⟨x, L⟩ := c_start B rfl (fun w h => wk_in h) hv
  have hl := lv_entry ([.int p1, .int p2, .int p3]) (n := 3) (Nat.le_of_ble_eq_true rfl)
  rw [lg_entry_eq]
  generalize (lg_sl ([.int p1, .int p2, .int p3]) ++ List.replicate (3 - (lg_sl ([.int p1, .int p2, .int p3])).length) Slot.unset).toArray = ls at hl ⊢
  exact w_krangeCheck x hml L hX p1 p2 p3 h1 hl (fun pc' ls' g1 H1 locs1 hdg L hp => c_vret x L hr hlocks (Int.le_refl _) hp hdg)

def rm_kcrcOf_16 : Room := { frames := 0, cells := 0, slots := 0, locals := 0 }
theorem hd_kcrcOf_16 : yX11_crcOf.cls ≠ "java/lang/invoke/MethodHandle" ∧ yX11_crcOf.cls ≠ "java/lang/invoke/VarHandle" ∧ (parseMethodDescriptor yX11_crcOf.desc).map (fun d => d.parameters.length) = some 2 := by decide +kernel
set_option maxHeartbeats 4000000 in
set_option maxRecDepth 100000 in
theorem w_kcrcOf_16 {p : Program} {l : Launch} {e : Env} {s : State} {m : MethodId} {args : Array Value} {below : List Frame} {meth : Method} {c : Code} {H : Heap} {locs : List Loc} {Q : State → Prop} {ls : Array Slot} {G : cG} {Z : cZ} {g : mSt} {H0 : Heap} {X : Int} (x : cX p c cX11_crcOf s args (wk (Cond.code yX11_crcOf cX11_crcOf 5 (some .int))) m G Z RX11 H0) (hml : c.maxLocals = 5) (L : cL G Z H0 X g H locs) (hX : 0 ≤ X ∧ X ≤ 2000000000) (q1 : Nat) (p2 : Int32) (hq1 : Z.al 16 q1) (hl : lv_has ls 5 [(0, .ref (Z.ad 16 q1)), (1, .int p2)]) (hQ : ∀ (pc' : Nat) (ls' : Array Slot) (r : Int32) (g1 : mSt) (H1 : Heap) (locs1 : List Loc), decode cX11_crcOf pc' = .ok (.ireturn, 1) → cL G Z H0 X g1 H1 locs1 → (mFr [] g g1 ∧ rg (-2147483648) (2147483647) r ∧ True) → W p l e rm_kcrcOf_16 s m args below meth c H1 locs1 0 0 Q (F0 m pc' ls' [.int r])) : W p l e rm_kcrcOf_16 s m args below meth c H locs 0 0 Q (F0 m 0 ls []) := by
  have hx := x.1
  have hb := x.2.1
  have hz := x.2.2.2.2.2.2.2.1
  have hzn := hz.1
  have up2 : (-2147483648 : Int) ≤ p2.toInt ∧ p2.toInt ≤ 2147483647 := (rg_any p2)
  refine lv_iconst (v := (-1)) hx hb dX11_crcOf_0 (by decide) ?_
  refine lv_istore_n (lv' := [(2, .int (-1 : Int32)), (0, .ref (Z.ad 16 q1)), (1, .int p2)]) hx hb dX11_crcOf_1 rfl hl (by decide) rfl (fun ls hl => ?_)
  refine lv_iconst (v := 0) hx hb dX11_crcOf_2 (by decide) ?_
  refine lv_istore_n (lv' := [(3, .int (0 : Int32)), (2, .int (-1 : Int32)), (0, .ref (Z.ad 16 q1)), (1, .int p2)]) hx hb dX11_crcOf_3 rfl hl (by decide) rfl (fun ls hl => ?_)
  have j4_3 : ∀ (n : Nat) (a4_2_1 a4_3_2 : Int32) (g3 : mSt) (H3 : Heap) (k3 : List Loc) (ls : Array Slot), mFr [] g g3 → cL G Z H0 X g3 H3 k3 → rg (-2147483648) (2147483647) a4_2_1 → rg (0) (240) a4_3_2 → lv_has ls 5 [(0, .ref (Z.ad 16 q1)), (1, .int p2), (2, .int a4_2_1), (3, .int a4_3_2)] → ((240 : Int) - a4_3_2.toInt).toNat = n → W p l e rm_kcrcOf_16 s m args below meth c H3 k3 0 0 Q (F0 m 4 ls []) := by
    intro n
    induction n using Nat.strongRecOn with
    | _ n ih3 =>
      intro a4_2_1 a4_3_2 g3 H3 k3 ls hF3 L3 ra4_2_1 ra4_3_2 hl hn3
      subst hn3
      have ua4_2_1 : (-2147483648 : Int) ≤ a4_2_1.toInt ∧ a4_2_1.toInt ≤ 2147483647 := ra4_2_1
      have ua4_3_2 : (0 : Int) ≤ a4_3_2.toInt ∧ a4_3_2.toInt ≤ 240 := ra4_3_2
      refine lv_iload_n hx hb dX11_crcOf_4 rfl (lv_at hl 3 rfl) ?_
      refine lv_iload_n hx hb dX11_crcOf_5 rfl (lv_at hl 1 rfl) ?_
      have j64_4 : ∀ (g4 : mSt) (H4 : Heap) (k4 : List Loc) (ls : Array Slot), mFr [] g3 g4 → cL G Z H0 X g4 H4 k4 → lv_has ls 5 [(2, .int a4_2_1)] → W p l e rm_kcrcOf_16 s m args below meth c H4 k4 0 0 Q (F0 m 64 ls []) := by
        intro  g4 H4 k4 ls hF4 L4  hl
        refine lv_iload_n hx hb dX11_crcOf_64 rfl (lv_at hl 0 rfl) ?_
        refine lv_iconst (v := (-1)) hx hb dX11_crcOf_65 (by decide) ?_
        refine lv_ixor hx hb dX11_crcOf_66 ?_
        refine lv_topi (fun v5 ev5 => ?_)
        have rv5 : rg (-2147483648) (2147483647) v5 := rg_any v5
        have uv5 : (-2147483648 : Int) ≤ v5.toInt ∧ v5.toInt ≤ 2147483647 := rv5
        exact hQ _ _ v5 _ _ _ dX11_crcOf_67 L4 ⟨(mFr.tr (mFr.tr mFr.rf hF3 rfl) hF4 rfl), rg_w rv5 rfl, trivial⟩
      refine lv_icmp_ge (tgt := 64) hx hb dX11_crcOf_6 (by decide) (fun c6_6 => ?_) (fun c6_6 => ?_)
      · skip
        have ic6_6 := Int32.le_iff_toInt_le.mp c6_6
        have q7 : rg (-2147483648) (240) p2 := (rg_le c6_6 (rg_any p2) ra4_3_2).1
        have uq7 : (-2147483648 : Int) ≤ p2.toInt ∧ p2.toInt ≤ 240 := q7
        exact j64_4  g3 _ _ ls mFr.rf L3  (lv_sub hl [2] rfl)
      · skip
        have ic6_6 := Int32.lt_iff_toInt_lt.mp (rg_nle c6_6)
        have q8 : rg (1) (2147483647) p2 := (rg_lt (rg_nle c6_6) ra4_3_2 (rg_any p2)).2
        have uq8 : (1 : Int) ≤ p2.toInt ∧ p2.toInt ≤ 2147483647 := q8
        refine lv_iload_n hx hb dX11_crcOf_9 rfl (lv_at hl 3 rfl) ?_
        refine lv_aload_n hx hb dX11_crcOf_10 rfl (lv_at hl 0 rfl) ?_
        refine c_len (n := 240) x L3 16 q1 hq1 rfl (by decide) dX11_crcOf_11 ?_
        refine lv_icmp_ge (tgt := 64) hx hb dX11_crcOf_12 (by decide) (fun c12_9 => ?_) (fun c12_9 => ?_)
        · skip
          have ic12_9 := Int32.le_iff_toInt_le.mp c12_9
          have q10 : rg (240) (240) a4_3_2 := (rg_le c12_9 kc_240 ra4_3_2).2
          have uq10 : (240 : Int) ≤ a4_3_2.toInt ∧ a4_3_2.toInt ≤ 240 := q10
          exact j64_4  g3 _ _ ls mFr.rf L3  (lv_sub hl [2] rfl)
        · skip
          have ic12_9 := Int32.lt_iff_toInt_lt.mp (rg_nle c12_9)
          have q11 : rg (0) (239) a4_3_2 := (rg_lt (rg_nle c12_9) ra4_3_2 kc_240).1
          have uq11 : (0 : Int) ≤ a4_3_2.toInt ∧ a4_3_2.toInt ≤ 239 := q11
          refine lv_iload_n hx hb dX11_crcOf_15 rfl (lv_at hl 2 rfl) ?_
          refine lv_aload_n hx hb dX11_crcOf_16 rfl (lv_at hl 0 rfl) ?_
          refine lv_iload_n hx hb dX11_crcOf_17 rfl (lv_at hl 3 rfl) ?_
          refine c_ld x L3 16 q1 512 hq1 rfl rfl q11 rfl dX11_crcOf_18 (fun v12 ev12 wv12 => ?_)
          have rv12 : rg (-2147483648) (2147483647) v12 := rg_any v12
          have uv12 : (-2147483648 : Int) ≤ v12.toInt ∧ v12.toInt ≤ 2147483647 := rv12
          have sv12 : v12.toInt = (g 512 (8192 * q1 + a4_3_2.toNatClampNeg)).toInt := congrArg Int32.toInt (ev12.trans (congrFun ((show mFr [] g g3 from (mFr.tr mFr.rf hF3 rfl)).at 512 rfl) _))
          refine lv_bipush (v := 24) hx hb dX11_crcOf_19 (by decide) ?_
          refine lv_ishl hx hb dX11_crcOf_21 ?_
          refine lv_topi (fun v13 ev13 => ?_)
          have rv13 : rg (-2147483648) (2147483647) v13 := rg_any v13
          have uv13 : (-2147483648 : Int) ≤ v13.toInt ∧ v13.toInt ≤ 2147483647 := rv13
          refine lv_ixor hx hb dX11_crcOf_22 ?_
          refine lv_topi (fun v14 ev14 => ?_)
          have rv14 : rg (-2147483648) (2147483647) v14 := rg_any v14
          have uv14 : (-2147483648 : Int) ≤ v14.toInt ∧ v14.toInt ≤ 2147483647 := rv14
          refine lv_istore_n (lv' := [(2, .int v14), (0, .ref (Z.ad 16 q1)), (1, .int p2), (3, .int a4_3_2)]) hx hb dX11_crcOf_23 rfl hl (by decide) rfl (fun ls hl => ?_)
          refine lv_iconst (v := 0) hx hb dX11_crcOf_24 (by decide) ?_
          refine lv_istore (lv' := [(4, .int (0 : Int32)), (2, .int v14), (0, .ref (Z.ad 16 q1)), (1, .int p2), (3, .int a4_3_2)]) hx hb dX11_crcOf_25 hl (by decide) rfl (fun ls hl => ?_)
          have j27_17 : ∀ (n : Nat) (a27_2_15 a27_4_16 : Int32) (g17 : mSt) (H17 : Heap) (k17 : List Loc) (ls : Array Slot), mFr [] g3 g17 → cL G Z H0 X g17 H17 k17 → rg (-2147483648) (2147483647) a27_2_15 → rg (0) (8) a27_4_16 → lv_has ls 5 [(0, .ref (Z.ad 16 q1)), (1, .int p2), (2, .int a27_2_15), (3, .int a4_3_2), (4, .int a27_4_16)] → ((8 : Int) - a27_4_16.toInt).toNat = n → W p l e rm_kcrcOf_16 s m args below meth c H17 k17 0 0 Q (F0 m 27 ls []) := by
            intro n
            induction n using Nat.strongRecOn with
            | _ n ih17 =>
              intro a27_2_15 a27_4_16 g17 H17 k17 ls hF17 L17 ra27_2_15 ra27_4_16 hl hn17
              subst hn17
              have ua27_2_15 : (-2147483648 : Int) ≤ a27_2_15.toInt ∧ a27_2_15.toInt ≤ 2147483647 := ra27_2_15
              have ua27_4_16 : (0 : Int) ≤ a27_4_16.toInt ∧ a27_4_16.toInt ≤ 8 := ra27_4_16
              refine lv_iload hx hb dX11_crcOf_27 (lv_at hl 4 rfl) ?_
              refine lv_bipush (v := 8) hx hb dX11_crcOf_29 (by decide) ?_
              refine lv_icmp_ge (tgt := 58) hx hb dX11_crcOf_31 (by decide) (fun c31_18 => ?_) (fun c31_18 => ?_)
              · skip
                have ic31_18 := Int32.le_iff_toInt_le.mp c31_18
                have q19 : rg (8) (8) a27_4_16 := (rg_le c31_18 kc_8 ra27_4_16).2
                have uq19 : (8 : Int) ≤ a27_4_16.toInt ∧ a27_4_16.toInt ≤ 8 := q19
                obtain ⟨v20, ev20, fv20⟩ := inc_ex a4_3_2 (1) (1 : Int32) (by decide)
                have rv20 : rg (1) (240) v20 := (rg_add ev20 q11 kc_1 rfl).1
                have tv20 := (rg_add ev20 q11 kc_1 rfl).2
                have yv20 : (1 : Int32).toInt = 1 := by decide
                refine lv_iinc (v := v20) (lv' := [(3, .int v20), (0, .ref (Z.ad 16 q1)), (1, .int p2), (2, .int a27_2_15), (4, .int a27_4_16)]) hx hb dX11_crcOf_58 hl (k := 3) rfl fv20 (by decide) rfl (fun ls hl => ?_)
                refine lv_goto (tgt := 4) hx hb dX11_crcOf_61 (by decide) ?_
                exact ih3 _ (ms_up tv20 kc_1 q11 rfl rfl) a27_2_15 v20 g17 _ _ ls (mFr.tr hF3 hF17 rfl) L17 (rg_w ra27_2_15 rfl) (rg_w rv20 rfl) (lv_sub hl [1, 2, 3, 0] rfl) rfl
              · skip
                have ic31_18 := Int32.lt_iff_toInt_lt.mp (rg_nle c31_18)
                have q21 : rg (0) (7) a27_4_16 := (rg_lt (rg_nle c31_18) ra27_4_16 kc_8).1
                have uq21 : (0 : Int) ≤ a27_4_16.toInt ∧ a27_4_16.toInt ≤ 7 := q21
                refine lv_iload_n hx hb dX11_crcOf_34 rfl (lv_at hl 2 rfl) ?_
                have j51_23 : ∀ (b51_0_22 : Int32) (g23 : mSt) (H23 : Heap) (k23 : List Loc) (ls : Array Slot), mFr [] g17 g23 → cL G Z H0 X g23 H23 k23 → rg (-2147483648) (2147483647) b51_0_22 → lv_has ls 5 [(0, .ref (Z.ad 16 q1)), (1, .int p2), (3, .int a4_3_2), (4, .int a27_4_16)] → W p l e rm_kcrcOf_16 s m args below meth c H23 k23 0 0 Q (F0 m 51 ls [.int b51_0_22]) := by
                  intro b51_0_22 g23 H23 k23 ls hF23 L23 rb51_0_22 hl
                  have ub51_0_22 : (-2147483648 : Int) ≤ b51_0_22.toInt ∧ b51_0_22.toInt ≤ 2147483647 := rb51_0_22
                  refine lv_istore_n (lv' := [(2, .int b51_0_22), (0, .ref (Z.ad 16 q1)), (1, .int p2), (3, .int a4_3_2), (4, .int a27_4_16)]) hx hb dX11_crcOf_51 rfl hl (by decide) rfl (fun ls hl => ?_)
                  obtain ⟨v24, ev24, fv24⟩ := inc_ex a27_4_16 (1) (1 : Int32) (by decide)
                  have rv24 : rg (1) (8) v24 := (rg_add ev24 q21 kc_1 rfl).1
                  have tv24 := (rg_add ev24 q21 kc_1 rfl).2
                  have yv24 : (1 : Int32).toInt = 1 := by decide
                  refine lv_iinc (v := v24) (lv' := [(4, .int v24), (2, .int b51_0_22), (0, .ref (Z.ad 16 q1)), (1, .int p2), (3, .int a4_3_2)]) hx hb dX11_crcOf_52 hl (k := 4) rfl fv24 (by decide) rfl (fun ls hl => ?_)
                  refine lv_goto (tgt := 27) hx hb dX11_crcOf_55 (by decide) ?_
                  exact ih17 _ (ms_up tv24 kc_1 q21 rfl rfl) b51_0_22 v24 g23 _ _ ls (mFr.tr hF17 hF23 rfl) L23 (rg_w rb51_0_22 rfl) (rg_w rv24 rfl) (lv_sub hl [2, 3, 1, 4, 0] rfl) rfl
                refine lv_if_ge (tgt := 48) hx hb dX11_crcOf_35 (by decide) (fun c35_25 => ?_) (fun c35_25 => ?_)
                · skip
                  have ic35_25 := Int32.le_iff_toInt_le.mp c35_25
                  have q26 : rg (0) (2147483647) a27_2_15 := (rg_le c35_25 kc_0 ra27_2_15).2
                  have uq26 : (0 : Int) ≤ a27_2_15.toInt ∧ a27_2_15.toInt ≤ 2147483647 := q26
                  refine lv_iload_n hx hb dX11_crcOf_48 rfl (lv_at hl 2 rfl) ?_
                  refine lv_iconst (v := 1) hx hb dX11_crcOf_49 (by decide) ?_
                  refine lv_ishl hx hb dX11_crcOf_50 ?_
                  refine lv_topi (fun v27 ev27 => ?_)
                  have rv27 : rg (-2147483648) (2147483647) v27 := rg_any v27
                  have uv27 : (-2147483648 : Int) ≤ v27.toInt ∧ v27.toInt ≤ 2147483647 := rv27
                  exact j51_23 v27 g17 _ _ ls mFr.rf L17 (rg_w rv27 rfl) (lv_sub hl [0, 1, 3, 4] rfl)
                · skip
                  have ic35_25 := Int32.lt_iff_toInt_lt.mp (rg_nle c35_25)
                  have q28 : rg (-2147483648) (-1) a27_2_15 := (rg_lt (rg_nle c35_25) ra27_2_15 kc_0).1
                  have uq28 : (-2147483648 : Int) ≤ a27_2_15.toInt ∧ a27_2_15.toInt ≤ -1 := q28
                  refine lv_iload_n hx hb dX11_crcOf_38 rfl (lv_at hl 2 rfl) ?_
                  refine lv_iconst (v := 1) hx hb dX11_crcOf_39 (by decide) ?_
                  refine lv_ishl hx hb dX11_crcOf_40 ?_
                  refine lv_topi (fun v29 ev29 => ?_)
                  have rv29 : rg (-2147483648) (2147483647) v29 := rg_any v29
                  have uv29 : (-2147483648 : Int) ≤ v29.toInt ∧ v29.toInt ≤ 2147483647 := rv29
                  refine lv_ldcw (own := RX11) (v := 79764919) hx hb x.2.2.2.2.1 (x.2.2.1 _ (wk_in kk_X11_360)) dX11_crcOf_41 ?_
                  refine lv_ixor hx hb dX11_crcOf_44 ?_
                  refine lv_topi (fun v30 ev30 => ?_)
                  have rv30 : rg (-2147483648) (2147483647) v30 := rg_any v30
                  have uv30 : (-2147483648 : Int) ≤ v30.toInt ∧ v30.toInt ≤ 2147483647 := rv30
                  refine lv_goto (tgt := 51) hx hb dX11_crcOf_45 (by decide) ?_
                  exact j51_23 v30 g17 _ _ ls mFr.rf L17 (rg_w rv30 rfl) (lv_sub hl [0, 1, 3, 4] rfl)
          have y31 : (0 : Int32).toInt = 0 := by decide
          exact j27_17 _ v14 (0 : Int32) g3 _ _ ls mFr.rf L3 (rg_w rv14 rfl) (rg_w kc_0 rfl) (lv_sub hl [2, 3, 1, 4, 0] rfl) rfl
  have y32 : (-1 : Int32).toInt = -1 := by decide
  have y33 : (0 : Int32).toInt = 0 := by decide
  exact j4_3 _ (-1 : Int32) (0 : Int32) g _ _ ls mFr.rf L (rg_w kc_m1 rfl) (rg_w kc_0 rfl) (lv_sub hl [2, 3, 1, 0] rfl) rfl
theorem c_kcrcOf_16 (l : Launch) {G : cG} {Z : cZ} (X : Int) (g : mSt) (q1 : Nat) (p2 : Int32) (hX : 0 ≤ X ∧ X ≤ 2000000000) (hq1 : Z.al 16 q1) : Met l yX11_crcOf (wk (Cond.code yX11_crcOf cX11_crcOf 5 (some .int))) rm_kcrcOf_16 (va_Pc [.ref (Z.ad 16 q1), .int p2] (cPre G Z X g)) (cQi G Z X (fun r g1 => mFr [] g g1 ∧ rg (-2147483648) (2147483647) r ∧ True)) 0 0 (cAd Z) := by
  refine Met.ofW (cc := cX11_crcOf) (maxL := 5) (ret := (some .int)) (by decide) rfl ?_
  intro p e s m args below meth c s₁ B hml hv
  obtain ⟨rfl, hv⟩ := hv
  have hr := B.returns
  have hlocks := B.notSynchronized
  obtain ⟨x, L⟩ := c_start B rfl (fun w h => wk_in h) hv
  have hl := lv_entry ([.ref (Z.ad 16 q1), .int p2]) (n := 5) (Nat.le_of_ble_eq_true rfl)
  rw [lg_entry_eq]
  generalize (lg_sl ([.ref (Z.ad 16 q1), .int p2]) ++ List.replicate (5 - (lg_sl ([.ref (Z.ad 16 q1), .int p2])).length) Slot.unset).toArray = ls at hl ⊢
  exact w_kcrcOf_16 x hml L hX q1 p2 hq1 hl (fun pc' ls' r g1 H1 locs1 hdg L hp => c_iret x L hr hlocks (Int.le_refl _) hp hdg)

def rm_kcrcOf_24 : Room := { frames := 0, cells := 0, slots := 0, locals := 0 }
theorem hd_kcrcOf_24 : yX11_crcOf.cls ≠ "java/lang/invoke/MethodHandle" ∧ yX11_crcOf.cls ≠ "java/lang/invoke/VarHandle" ∧ (parseMethodDescriptor yX11_crcOf.desc).map (fun d => d.parameters.length) = some 2 := by decide +kernel
set_option maxHeartbeats 4000000 in
set_option maxRecDepth 100000 in
theorem w_kcrcOf_24 {p : Program} {l : Launch} {e : Env} {s : State} {m : MethodId} {args : Array Value} {below : List Frame} {meth : Method} {c : Code} {H : Heap} {locs : List Loc} {Q : State → Prop} {ls : Array Slot} {G : cG} {Z : cZ} {g : mSt} {H0 : Heap} {X : Int} (x : cX p c cX11_crcOf s args (wk (Cond.code yX11_crcOf cX11_crcOf 5 (some .int))) m G Z RX11 H0) (hml : c.maxLocals = 5) (L : cL G Z H0 X g H locs) (hX : 0 ≤ X ∧ X ≤ 2000000000) (q1 : Nat) (p2 : Int32) (hq1 : Z.al 24 q1) (hl : lv_has ls 5 [(0, .ref (Z.ad 24 q1)), (1, .int p2)]) (hQ : ∀ (pc' : Nat) (ls' : Array Slot) (r : Int32) (g1 : mSt) (H1 : Heap) (locs1 : List Loc), decode cX11_crcOf pc' = .ok (.ireturn, 1) → cL G Z H0 X g1 H1 locs1 → (mFr [] g g1 ∧ rg (-2147483648) (2147483647) r ∧ True) → W p l e rm_kcrcOf_24 s m args below meth c H1 locs1 0 0 Q (F0 m pc' ls' [.int r])) : W p l e rm_kcrcOf_24 s m args below meth c H locs 0 0 Q (F0 m 0 ls []) := by
  have hx := x.1
  have hb := x.2.1
  have hz := x.2.2.2.2.2.2.2.1
  have hzn := hz.1
  have up2 : (-2147483648 : Int) ≤ p2.toInt ∧ p2.toInt ≤ 2147483647 := (rg_any p2)
  refine lv_iconst (v := (-1)) hx hb dX11_crcOf_0 (by decide) ?_
  refine lv_istore_n (lv' := [(2, .int (-1 : Int32)), (0, .ref (Z.ad 24 q1)), (1, .int p2)]) hx hb dX11_crcOf_1 rfl hl (by decide) rfl (fun ls hl => ?_)
  refine lv_iconst (v := 0) hx hb dX11_crcOf_2 (by decide) ?_
  refine lv_istore_n (lv' := [(3, .int (0 : Int32)), (2, .int (-1 : Int32)), (0, .ref (Z.ad 24 q1)), (1, .int p2)]) hx hb dX11_crcOf_3 rfl hl (by decide) rfl (fun ls hl => ?_)
  have j4_3 : ∀ (n : Nat) (a4_2_1 a4_3_2 : Int32) (g3 : mSt) (H3 : Heap) (k3 : List Loc) (ls : Array Slot), mFr [] g g3 → cL G Z H0 X g3 H3 k3 → rg (-2147483648) (2147483647) a4_2_1 → rg (0) (240) a4_3_2 → lv_has ls 5 [(0, .ref (Z.ad 24 q1)), (1, .int p2), (2, .int a4_2_1), (3, .int a4_3_2)] → ((240 : Int) - a4_3_2.toInt).toNat = n → W p l e rm_kcrcOf_24 s m args below meth c H3 k3 0 0 Q (F0 m 4 ls []) := by
    intro n
    induction n using Nat.strongRecOn with
    | _ n ih3 =>
      intro a4_2_1 a4_3_2 g3 H3 k3 ls hF3 L3 ra4_2_1 ra4_3_2 hl hn3
      subst hn3
      have ua4_2_1 : (-2147483648 : Int) ≤ a4_2_1.toInt ∧ a4_2_1.toInt ≤ 2147483647 := ra4_2_1
      have ua4_3_2 : (0 : Int) ≤ a4_3_2.toInt ∧ a4_3_2.toInt ≤ 240 := ra4_3_2
      refine lv_iload_n hx hb dX11_crcOf_4 rfl (lv_at hl 3 rfl) ?_
      refine lv_iload_n hx hb dX11_crcOf_5 rfl (lv_at hl 1 rfl) ?_
      have j64_4 : ∀ (g4 : mSt) (H4 : Heap) (k4 : List Loc) (ls : Array Slot), mFr [] g3 g4 → cL G Z H0 X g4 H4 k4 → lv_has ls 5 [(2, .int a4_2_1)] → W p l e rm_kcrcOf_24 s m args below meth c H4 k4 0 0 Q (F0 m 64 ls []) := by
        intro  g4 H4 k4 ls hF4 L4  hl
        refine lv_iload_n hx hb dX11_crcOf_64 rfl (lv_at hl 0 rfl) ?_
        refine lv_iconst (v := (-1)) hx hb dX11_crcOf_65 (by decide) ?_
        refine lv_ixor hx hb dX11_crcOf_66 ?_
        refine lv_topi (fun v5 ev5 => ?_)
        have rv5 : rg (-2147483648) (2147483647) v5 := rg_any v5
        have uv5 : (-2147483648 : Int) ≤ v5.toInt ∧ v5.toInt ≤ 2147483647 := rv5
        exact hQ _ _ v5 _ _ _ dX11_crcOf_67 L4 ⟨(mFr.tr (mFr.tr mFr.rf hF3 rfl) hF4 rfl), rg_w rv5 rfl, trivial⟩
      refine lv_icmp_ge (tgt := 64) hx hb dX11_crcOf_6 (by decide) (fun c6_6 => ?_) (fun c6_6 => ?_)
      · skip
        have ic6_6 := Int32.le_iff_toInt_le.mp c6_6
        have q7 : rg (-2147483648) (240) p2 := (rg_le c6_6 (rg_any p2) ra4_3_2).1
        have uq7 : (-2147483648 : Int) ≤ p2.toInt ∧ p2.toInt ≤ 240 := q7
        exact j64_4  g3 _ _ ls mFr.rf L3  (lv_sub hl [2] rfl)
      · skip
        have ic6_6 := Int32.lt_iff_toInt_lt.mp (rg_nle c6_6)
        have q8 : rg (1) (2147483647) p2 := (rg_lt (rg_nle c6_6) ra4_3_2 (rg_any p2)).2
        have uq8 : (1 : Int) ≤ p2.toInt ∧ p2.toInt ≤ 2147483647 := q8
        refine lv_iload_n hx hb dX11_crcOf_9 rfl (lv_at hl 3 rfl) ?_
        refine lv_aload_n hx hb dX11_crcOf_10 rfl (lv_at hl 0 rfl) ?_
        refine c_len (n := 240) x L3 24 q1 hq1 rfl (by decide) dX11_crcOf_11 ?_
        refine lv_icmp_ge (tgt := 64) hx hb dX11_crcOf_12 (by decide) (fun c12_9 => ?_) (fun c12_9 => ?_)
        · skip
          have ic12_9 := Int32.le_iff_toInt_le.mp c12_9
          have q10 : rg (240) (240) a4_3_2 := (rg_le c12_9 kc_240 ra4_3_2).2
          have uq10 : (240 : Int) ≤ a4_3_2.toInt ∧ a4_3_2.toInt ≤ 240 := q10
          exact j64_4  g3 _ _ ls mFr.rf L3  (lv_sub hl [2] rfl)
        · skip
          have ic12_9 := Int32.lt_iff_toInt_lt.mp (rg_nle c12_9)
          have q11 : rg (0) (239) a4_3_2 := (rg_lt (rg_nle c12_9) ra4_3_2 kc_240).1
          have uq11 : (0 : Int) ≤ a4_3_2.toInt ∧ a4_3_2.toInt ≤ 239 := q11
          refine lv_iload_n hx hb dX11_crcOf_15 rfl (lv_at hl 2 rfl) ?_
          refine lv_aload_n hx hb dX11_crcOf_16 rfl (lv_at hl 0 rfl) ?_
          refine lv_iload_n hx hb dX11_crcOf_17 rfl (lv_at hl 3 rfl) ?_
          refine c_ld x L3 24 q1 768 hq1 rfl rfl q11 rfl dX11_crcOf_18 (fun v12 ev12 wv12 => ?_)
          have rv12 : rg (-2147483648) (2147483647) v12 := rg_any v12
          have uv12 : (-2147483648 : Int) ≤ v12.toInt ∧ v12.toInt ≤ 2147483647 := rv12
          have sv12 : v12.toInt = (g 768 (8192 * q1 + a4_3_2.toNatClampNeg)).toInt := congrArg Int32.toInt (ev12.trans (congrFun ((show mFr [] g g3 from (mFr.tr mFr.rf hF3 rfl)).at 768 rfl) _))
          refine lv_bipush (v := 24) hx hb dX11_crcOf_19 (by decide) ?_
          refine lv_ishl hx hb dX11_crcOf_21 ?_
          refine lv_topi (fun v13 ev13 => ?_)
          have rv13 : rg (-2147483648) (2147483647) v13 := rg_any v13
          have uv13 : (-2147483648 : Int) ≤ v13.toInt ∧ v13.toInt ≤ 2147483647 := rv13
          refine lv_ixor hx hb dX11_crcOf_22 ?_
          refine lv_topi (fun v14 ev14 => ?_)
          have rv14 : rg (-2147483648) (2147483647) v14 := rg_any v14
          have uv14 : (-2147483648 : Int) ≤ v14.toInt ∧ v14.toInt ≤ 2147483647 := rv14
          refine lv_istore_n (lv' := [(2, .int v14), (0, .ref (Z.ad 24 q1)), (1, .int p2), (3, .int a4_3_2)]) hx hb dX11_crcOf_23 rfl hl (by decide) rfl (fun ls hl => ?_)
          refine lv_iconst (v := 0) hx hb dX11_crcOf_24 (by decide) ?_
          refine lv_istore (lv' := [(4, .int (0 : Int32)), (2, .int v14), (0, .ref (Z.ad 24 q1)), (1, .int p2), (3, .int a4_3_2)]) hx hb dX11_crcOf_25 hl (by decide) rfl (fun ls hl => ?_)
          have j27_17 : ∀ (n : Nat) (a27_2_15 a27_4_16 : Int32) (g17 : mSt) (H17 : Heap) (k17 : List Loc) (ls : Array Slot), mFr [] g3 g17 → cL G Z H0 X g17 H17 k17 → rg (-2147483648) (2147483647) a27_2_15 → rg (0) (8) a27_4_16 → lv_has ls 5 [(0, .ref (Z.ad 24 q1)), (1, .int p2), (2, .int a27_2_15), (3, .int a4_3_2), (4, .int a27_4_16)] → ((8 : Int) - a27_4_16.toInt).toNat = n → W p l e rm_kcrcOf_24 s m args below meth c H17 k17 0 0 Q (F0 m 27 ls []) := by
            intro n
            induction n using Nat.strongRecOn with
            | _ n ih17 =>
              intro a27_2_15 a27_4_16 g17 H17 k17 ls hF17 L17 ra27_2_15 ra27_4_16 hl hn17
              subst hn17
              have ua27_2_15 : (-2147483648 : Int) ≤ a27_2_15.toInt ∧ a27_2_15.toInt ≤ 2147483647 := ra27_2_15
              have ua27_4_16 : (0 : Int) ≤ a27_4_16.toInt ∧ a27_4_16.toInt ≤ 8 := ra27_4_16
              refine lv_iload hx hb dX11_crcOf_27 (lv_at hl 4 rfl) ?_
              refine lv_bipush (v := 8) hx hb dX11_crcOf_29 (by decide) ?_
              refine lv_icmp_ge (tgt := 58) hx hb dX11_crcOf_31 (by decide) (fun c31_18 => ?_) (fun c31_18 => ?_)
              · skip
                have ic31_18 := Int32.le_iff_toInt_le.mp c31_18
                have q19 : rg (8) (8) a27_4_16 := (rg_le c31_18 kc_8 ra27_4_16).2
                have uq19 : (8 : Int) ≤ a27_4_16.toInt ∧ a27_4_16.toInt ≤ 8 := q19
                obtain ⟨v20, ev20, fv20⟩ := inc_ex a4_3_2 (1) (1 : Int32) (by decide)
                have rv20 : rg (1) (240) v20 := (rg_add ev20 q11 kc_1 rfl).1
                have tv20 := (rg_add ev20 q11 kc_1 rfl).2
                have yv20 : (1 : Int32).toInt = 1 := by decide
                refine lv_iinc (v := v20) (lv' := [(3, .int v20), (0, .ref (Z.ad 24 q1)), (1, .int p2), (2, .int a27_2_15), (4, .int a27_4_16)]) hx hb dX11_crcOf_58 hl (k := 3) rfl fv20 (by decide) rfl (fun ls hl => ?_)
                refine lv_goto (tgt := 4) hx hb dX11_crcOf_61 (by decide) ?_
                exact ih3 _ (ms_up tv20 kc_1 q11 rfl rfl) a27_2_15 v20 g17 _ _ ls (mFr.tr hF3 hF17 rfl) L17 (rg_w ra27_2_15 rfl) (rg_w rv20 rfl) (lv_sub hl [1, 2, 3, 0] rfl) rfl
              · skip
                have ic31_18 := Int32.lt_iff_toInt_lt.mp (rg_nle c31_18)
                have q21 : rg (0) (7) a27_4_16 := (rg_lt (rg_nle c31_18) ra27_4_16 kc_8).1
                have uq21 : (0 : Int) ≤ a27_4_16.toInt ∧ a27_4_16.toInt ≤ 7 := q21
                refine lv_iload_n hx hb dX11_crcOf_34 rfl (lv_at hl 2 rfl) ?_
                have j51_23 : ∀ (b51_0_22 : Int32) (g23 : mSt) (H23 : Heap) (k23 : List Loc) (ls : Array Slot), mFr [] g17 g23 → cL G Z H0 X g23 H23 k23 → rg (-2147483648) (2147483647) b51_0_22 → lv_has ls 5 [(0, .ref (Z.ad 24 q1)), (1, .int p2), (3, .int a4_3_2), (4, .int a27_4_16)] → W p l e rm_kcrcOf_24 s m args below meth c H23 k23 0 0 Q (F0 m 51 ls [.int b51_0_22]) := by
                  intro b51_0_22 g23 H23 k23 ls hF23 L23 rb51_0_22 hl
                  have ub51_0_22 : (-2147483648 : Int) ≤ b51_0_22.toInt ∧ b51_0_22.toInt ≤ 2147483647 := rb51_0_22
                  refine lv_istore_n (lv' := [(2, .int b51_0_22), (0, .ref (Z.ad 24 q1)), (1, .int p2), (3, .int a4_3_2), (4, .int a27_4_16)]) hx hb dX11_crcOf_51 rfl hl (by decide) rfl (fun ls hl => ?_)
                  obtain ⟨v24, ev24, fv24⟩ := inc_ex a27_4_16 (1) (1 : Int32) (by decide)
                  have rv24 : rg (1) (8) v24 := (rg_add ev24 q21 kc_1 rfl).1
                  have tv24 := (rg_add ev24 q21 kc_1 rfl).2
                  have yv24 : (1 : Int32).toInt = 1 := by decide
                  refine lv_iinc (v := v24) (lv' := [(4, .int v24), (2, .int b51_0_22), (0, .ref (Z.ad 24 q1)), (1, .int p2), (3, .int a4_3_2)]) hx hb dX11_crcOf_52 hl (k := 4) rfl fv24 (by decide) rfl (fun ls hl => ?_)
                  refine lv_goto (tgt := 27) hx hb dX11_crcOf_55 (by decide) ?_
                  exact ih17 _ (ms_up tv24 kc_1 q21 rfl rfl) b51_0_22 v24 g23 _ _ ls (mFr.tr hF17 hF23 rfl) L23 (rg_w rb51_0_22 rfl) (rg_w rv24 rfl) (lv_sub hl [2, 3, 1, 4, 0] rfl) rfl
                refine lv_if_ge (tgt := 48) hx hb dX11_crcOf_35 (by decide) (fun c35_25 => ?_) (fun c35_25 => ?_)
                · skip
                  have ic35_25 := Int32.le_iff_toInt_le.mp c35_25
                  have q26 : rg (0) (2147483647) a27_2_15 := (rg_le c35_25 kc_0 ra27_2_15).2
                  have uq26 : (0 : Int) ≤ a27_2_15.toInt ∧ a27_2_15.toInt ≤ 2147483647 := q26
                  refine lv_iload_n hx hb dX11_crcOf_48 rfl (lv_at hl 2 rfl) ?_
                  refine lv_iconst (v := 1) hx hb dX11_crcOf_49 (by decide) ?_
                  refine lv_ishl hx hb dX11_crcOf_50 ?_
                  refine lv_topi (fun v27 ev27 => ?_)
                  have rv27 : rg (-2147483648) (2147483647) v27 := rg_any v27
                  have uv27 : (-2147483648 : Int) ≤ v27.toInt ∧ v27.toInt ≤ 2147483647 := rv27
                  exact j51_23 v27 g17 _ _ ls mFr.rf L17 (rg_w rv27 rfl) (lv_sub hl [0, 1, 3, 4] rfl)
                · skip
                  have ic35_25 := Int32.lt_iff_toInt_lt.mp (rg_nle c35_25)
                  have q28 : rg (-2147483648) (-1) a27_2_15 := (rg_lt (rg_nle c35_25) ra27_2_15 kc_0).1
                  have uq28 : (-2147483648 : Int) ≤ a27_2_15.toInt ∧ a27_2_15.toInt ≤ -1 := q28
                  refine lv_iload_n hx hb dX11_crcOf_38 rfl (lv_at hl 2 rfl) ?_
                  refine lv_iconst (v := 1) hx hb dX11_crcOf_39 (by decide) ?_
                  refine lv_ishl hx hb dX11_crcOf_40 ?_
                  refine lv_topi (fun v29 ev29 => ?_)
                  have rv29 : rg (-2147483648) (2147483647) v29 := rg_any v29
                  have uv29 : (-2147483648 : Int) ≤ v29.toInt ∧ v29.toInt ≤ 2147483647 := rv29
                  refine lv_ldcw (own := RX11) (v := 79764919) hx hb x.2.2.2.2.1 (x.2.2.1 _ (wk_in kk_X11_360)) dX11_crcOf_41 ?_
                  refine lv_ixor hx hb dX11_crcOf_44 ?_
                  refine lv_topi (fun v30 ev30 => ?_)
                  have rv30 : rg (-2147483648) (2147483647) v30 := rg_any v30
                  have uv30 : (-2147483648 : Int) ≤ v30.toInt ∧ v30.toInt ≤ 2147483647 := rv30
                  refine lv_goto (tgt := 51) hx hb dX11_crcOf_45 (by decide) ?_
                  exact j51_23 v30 g17 _ _ ls mFr.rf L17 (rg_w rv30 rfl) (lv_sub hl [0, 1, 3, 4] rfl)
          have y31 : (0 : Int32).toInt = 0 := by decide
          exact j27_17 _ v14 (0 : Int32) g3 _ _ ls mFr.rf L3 (rg_w rv14 rfl) (rg_w kc_0 rfl) (lv_sub hl [2, 3, 1, 4, 0] rfl) rfl
  have y32 : (-1 : Int32).toInt = -1 := by decide
  have y33 : (0 : Int32).toInt = 0 := by decide
  exact j4_3 _ (-1 : Int32) (0 : Int32) g _ _ ls mFr.rf L (rg_w kc_m1 rfl) (rg_w kc_0 rfl) (lv_sub hl [2, 3, 1, 0] rfl) rfl
theorem c_kcrcOf_24 (l : Launch) {G : cG} {Z : cZ} (X : Int) (g : mSt) (q1 : Nat) (p2 : Int32) (hX : 0 ≤ X ∧ X ≤ 2000000000) (hq1 : Z.al 24 q1) : Met l yX11_crcOf (wk (Cond.code yX11_crcOf cX11_crcOf 5 (some .int))) rm_kcrcOf_24 (va_Pc [.ref (Z.ad 24 q1), .int p2] (cPre G Z X g)) (cQi G Z X (fun r g1 => mFr [] g g1 ∧ rg (-2147483648) (2147483647) r ∧ True)) 0 0 (cAd Z) := by
  refine Met.ofW (cc := cX11_crcOf) (maxL := 5) (ret := (some .int)) (by decide) rfl ?_
  intro p e s m args below meth c s₁ B hml hv
  obtain ⟨rfl, hv⟩ := hv
  have hr := B.returns
  have hlocks := B.notSynchronized
  obtain ⟨x, L⟩ := c_start B rfl (fun w h => wk_in h) hv
  have hl := lv_entry ([.ref (Z.ad 24 q1), .int p2]) (n := 5) (Nat.le_of_ble_eq_true rfl)
  rw [lg_entry_eq]
  generalize (lg_sl ([.ref (Z.ad 24 q1), .int p2]) ++ List.replicate (5 - (lg_sl ([.ref (Z.ad 24 q1), .int p2])).length) Slot.unset).toArray = ls at hl ⊢
  exact w_kcrcOf_24 x hml L hX q1 p2 hq1 hl (fun pc' ls' r g1 H1 locs1 hdg L hp => c_iret x L hr hlocks (Int.le_refl _) hp hdg)

def rm_kcrcOf_35 : Room := { frames := 0, cells := 0, slots := 0, locals := 0 }
theorem hd_kcrcOf_35 : yX11_crcOf.cls ≠ "java/lang/invoke/MethodHandle" ∧ yX11_crcOf.cls ≠ "java/lang/invoke/VarHandle" ∧ (parseMethodDescriptor yX11_crcOf.desc).map (fun d => d.parameters.length) = some 2 := by decide +kernel
set_option maxHeartbeats 4000000 in
set_option maxRecDepth 100000 in
theorem w_kcrcOf_35 {p : Program} {l : Launch} {e : Env} {s : State} {m : MethodId} {args : Array Value} {below : List Frame} {meth : Method} {c : Code} {H : Heap} {locs : List Loc} {Q : State → Prop} {ls : Array Slot} {G : cG} {Z : cZ} {g : mSt} {H0 : Heap} {X : Int} (x : cX p c cX11_crcOf s args (wk (Cond.code yX11_crcOf cX11_crcOf 5 (some .int))) m G Z RX11 H0) (hml : c.maxLocals = 5) (L : cL G Z H0 X g H locs) (hX : 0 ≤ X ∧ X ≤ 2000000000) (q1 : Nat) (p2 : Int32) (hq1 : Z.al 35 q1) (hl : lv_has ls 5 [(0, .ref (Z.ad 35 q1)), (1, .int p2)]) (hQ : ∀ (pc' : Nat) (ls' : Array Slot) (r : Int32) (g1 : mSt) (H1 : Heap) (locs1 : List Loc), decode cX11_crcOf pc' = .ok (.ireturn, 1) → cL G Z H0 X g1 H1 locs1 → (mFr [] g g1 ∧ rg (-2147483648) (2147483647) r ∧ True) → W p l e rm_kcrcOf_35 s m args below meth c H1 locs1 0 0 Q (F0 m pc' ls' [.int r])) : W p l e rm_kcrcOf_35 s m args below meth c H locs 0 0 Q (F0 m 0 ls []) := by
  have hx := x.1
  have hb := x.2.1
  have hz := x.2.2.2.2.2.2.2.1
  have hzn := hz.1
  have up2 : (-2147483648 : Int) ≤ p2.toInt ∧ p2.toInt ≤ 2147483647 := (rg_any p2)
  refine lv_iconst (v := (-1)) hx hb dX11_crcOf_0 (by decide) ?_
  refine lv_istore_n (lv' := [(2, .int (-1 : Int32)), (0, .ref (Z.ad 35 q1)), (1, .int p2)]) hx hb dX11_crcOf_1 rfl hl (by decide) rfl (fun ls hl => ?_)
  refine lv_iconst (v := 0) hx hb dX11_crcOf_2 (by decide) ?_
  refine lv_istore_n (lv' := [(3, .int (0 : Int32)), (2, .int (-1 : Int32)), (0, .ref (Z.ad 35 q1)), (1, .int p2)]) hx hb dX11_crcOf_3 rfl hl (by decide) rfl (fun ls hl => ?_)
  have j4_3 : ∀ (n : Nat) (a4_2_1 a4_3_2 : Int32) (g3 : mSt) (H3 : Heap) (k3 : List Loc) (ls : Array Slot), mFr [] g g3 → cL G Z H0 X g3 H3 k3 → rg (-2147483648) (2147483647) a4_2_1 → rg (0) (240) a4_3_2 → lv_has ls 5 [(0, .ref (Z.ad 35 q1)), (1, .int p2), (2, .int a4_2_1), (3, .int a4_3_2)] → ((240 : Int) - a4_3_2.toInt).toNat = n → W p l e rm_kcrcOf_35 s m args below meth c H3 k3 0 0 Q (F0 m 4 ls []) := by
    intro n
    induction n using Nat.strongRecOn with
    | _ n ih3 =>
      intro a4_2_1 a4_3_2 g3 H3 k3 ls hF3 L3 ra4_2_1 ra4_3_2 hl hn3
      subst hn3
      have ua4_2_1 : (-2147483648 : Int) ≤ a4_2_1.toInt ∧ a4_2_1.toInt ≤ 2147483647 := ra4_2_1
      have ua4_3_2 : (0 : Int) ≤ a4_3_2.toInt ∧ a4_3_2.toInt ≤ 240 := ra4_3_2
      refine lv_iload_n hx hb dX11_crcOf_4 rfl (lv_at hl 3 rfl) ?_
      refine lv_iload_n hx hb dX11_crcOf_5 rfl (lv_at hl 1 rfl) ?_
      have j64_4 : ∀ (g4 : mSt) (H4 : Heap) (k4 : List Loc) (ls : Array Slot), mFr [] g3 g4 → cL G Z H0 X g4 H4 k4 → lv_has ls 5 [(2, .int a4_2_1)] → W p l e rm_kcrcOf_35 s m args below meth c H4 k4 0 0 Q (F0 m 64 ls []) := by
        intro  g4 H4 k4 ls hF4 L4  hl
        refine lv_iload_n hx hb dX11_crcOf_64 rfl (lv_at hl 0 rfl) ?_
        refine lv_iconst (v := (-1)) hx hb dX11_crcOf_65 (by decide) ?_
        refine lv_ixor hx hb dX11_crcOf_66 ?_
        refine lv_topi (fun v5 ev5 => ?_)
        have rv5 : rg (-2147483648) (2147483647) v5 := rg_any v5
        have uv5 : (-2147483648 : Int) ≤ v5.toInt ∧ v5.toInt ≤ 2147483647 := rv5
        exact hQ _ _ v5 _ _ _ dX11_crcOf_67 L4 ⟨(mFr.tr (mFr.tr mFr.rf hF3 rfl) hF4 rfl), rg_w rv5 rfl, trivial⟩
      refine lv_icmp_ge (tgt := 64) hx hb dX11_crcOf_6 (by decide) (fun c6_6 => ?_) (fun c6_6 => ?_)
      · skip
        have ic6_6 := Int32.le_iff_toInt_le.mp c6_6
        have q7 : rg (-2147483648) (240) p2 := (rg_le c6_6 (rg_any p2) ra4_3_2).1
        have uq7 : (-2147483648 : Int) ≤ p2.toInt ∧ p2.toInt ≤ 240 := q7
        exact j64_4  g3 _ _ ls mFr.rf L3  (lv_sub hl [2] rfl)
      · skip
        have ic6_6 := Int32.lt_iff_toInt_lt.mp (rg_nle c6_6)
        have q8 : rg (1) (2147483647) p2 := (rg_lt (rg_nle c6_6) ra4_3_2 (rg_any p2)).2
        have uq8 : (1 : Int) ≤ p2.toInt ∧ p2.toInt ≤ 2147483647 := q8
        refine lv_iload_n hx hb dX11_crcOf_9 rfl (lv_at hl 3 rfl) ?_
        refine lv_aload_n hx hb dX11_crcOf_10 rfl (lv_at hl 0 rfl) ?_
        refine c_len (n := 240) x L3 35 q1 hq1 rfl (by decide) dX11_crcOf_11 ?_
        refine lv_icmp_ge (tgt := 64) hx hb dX11_crcOf_12 (by decide) (fun c12_9 => ?_) (fun c12_9 => ?_)
        · skip
          have ic12_9 := Int32.le_iff_toInt_le.mp c12_9
          have q10 : rg (240) (240) a4_3_2 := (rg_le c12_9 kc_240 ra4_3_2).2
          have uq10 : (240 : Int) ≤ a4_3_2.toInt ∧ a4_3_2.toInt ≤ 240 := q10
          exact j64_4  g3 _ _ ls mFr.rf L3  (lv_sub hl [2] rfl)
        · skip
          have ic12_9 := Int32.lt_iff_toInt_lt.mp (rg_nle c12_9)
          have q11 : rg (0) (239) a4_3_2 := (rg_lt (rg_nle c12_9) ra4_3_2 kc_240).1
          have uq11 : (0 : Int) ≤ a4_3_2.toInt ∧ a4_3_2.toInt ≤ 239 := q11
          refine lv_iload_n hx hb dX11_crcOf_15 rfl (lv_at hl 2 rfl) ?_
          refine lv_aload_n hx hb dX11_crcOf_16 rfl (lv_at hl 0 rfl) ?_
          refine lv_iload_n hx hb dX11_crcOf_17 rfl (lv_at hl 3 rfl) ?_
          refine c_ld x L3 35 q1 1120 hq1 rfl rfl q11 rfl dX11_crcOf_18 (fun v12 ev12 wv12 => ?_)
          have rv12 : rg (-2147483648) (2147483647) v12 := rg_any v12
          have uv12 : (-2147483648 : Int) ≤ v12.toInt ∧ v12.toInt ≤ 2147483647 := rv12
          have sv12 : v12.toInt = (g 1120 (8192 * q1 + a4_3_2.toNatClampNeg)).toInt := congrArg Int32.toInt (ev12.trans (congrFun ((show mFr [] g g3 from (mFr.tr mFr.rf hF3 rfl)).at 1120 rfl) _))
          refine lv_bipush (v := 24) hx hb dX11_crcOf_19 (by decide) ?_
          refine lv_ishl hx hb dX11_crcOf_21 ?_
          refine lv_topi (fun v13 ev13 => ?_)
          have rv13 : rg (-2147483648) (2147483647) v13 := rg_any v13
          have uv13 : (-2147483648 : Int) ≤ v13.toInt ∧ v13.toInt ≤ 2147483647 := rv13
          refine lv_ixor hx hb dX11_crcOf_22 ?_
          refine lv_topi (fun v14 ev14 => ?_)
          have rv14 : rg (-2147483648) (2147483647) v14 := rg_any v14
          have uv14 : (-2147483648 : Int) ≤ v14.toInt ∧ v14.toInt ≤ 2147483647 := rv14
          refine lv_istore_n (lv' := [(2, .int v14), (0, .ref (Z.ad 35 q1)), (1, .int p2), (3, .int a4_3_2)]) hx hb dX11_crcOf_23 rfl hl (by decide) rfl (fun ls hl => ?_)
          refine lv_iconst (v := 0) hx hb dX11_crcOf_24 (by decide) ?_
          refine lv_istore (lv' := [(4, .int (0 : Int32)), (2, .int v14), (0, .ref (Z.ad 35 q1)), (1, .int p2), (3, .int a4_3_2)]) hx hb dX11_crcOf_25 hl (by decide) rfl (fun ls hl => ?_)
          have j27_17 : ∀ (n : Nat) (a27_2_15 a27_4_16 : Int32) (g17 : mSt) (H17 : Heap) (k17 : List Loc) (ls : Array Slot), mFr [] g3 g17 → cL G Z H0 X g17 H17 k17 → rg (-2147483648) (2147483647) a27_2_15 → rg (0) (8) a27_4_16 → lv_has ls 5 [(0, .ref (Z.ad 35 q1)), (1, .int p2), (2, .int a27_2_15), (3, .int a4_3_2), (4, .int a27_4_16)] → ((8 : Int) - a27_4_16.toInt).toNat = n → W p l e rm_kcrcOf_35 s m args below meth c H17 k17 0 0 Q (F0 m 27 ls []) := by
            intro n
            induction n using Nat.strongRecOn with
            | _ n ih17 =>
              intro a27_2_15 a27_4_16 g17 H17 k17 ls hF17 L17 ra27_2_15 ra27_4_16 hl hn17
              subst hn17
              have ua27_2_15 : (-2147483648 : Int) ≤ a27_2_15.toInt ∧ a27_2_15.toInt ≤ 2147483647 := ra27_2_15
              have ua27_4_16 : (0 : Int) ≤ a27_4_16.toInt ∧ a27_4_16.toInt ≤ 8 := ra27_4_16
              refine lv_iload hx hb dX11_crcOf_27 (lv_at hl 4 rfl) ?_
              refine lv_bipush (v := 8) hx hb dX11_crcOf_29 (by decide) ?_
              refine lv_icmp_ge (tgt := 58) hx hb dX11_crcOf_31 (by decide) (fun c31_18 => ?_) (fun c31_18 => ?_)
              · skip
                have ic31_18 := Int32.le_iff_toInt_le.mp c31_18
                have q19 : rg (8) (8) a27_4_16 := (rg_le c31_18 kc_8 ra27_4_16).2
                have uq19 : (8 : Int) ≤ a27_4_16.toInt ∧ a27_4_16.toInt ≤ 8 := q19
                obtain ⟨v20, ev20, fv20⟩ := inc_ex a4_3_2 (1) (1 : Int32) (by decide)
                have rv20 : rg (1) (240) v20 := (rg_add ev20 q11 kc_1 rfl).1
                have tv20 := (rg_add ev20 q11 kc_1 rfl).2
                have yv20 : (1 : Int32).toInt = 1 := by decide
                refine lv_iinc (v := v20) (lv' := [(3, .int v20), (0, .ref (Z.ad 35 q1)), (1, .int p2), (2, .int a27_2_15), (4, .int a27_4_16)]) hx hb dX11_crcOf_58 hl (k := 3) rfl fv20 (by decide) rfl (fun ls hl => ?_)
                refine lv_goto (tgt := 4) hx hb dX11_crcOf_61 (by decide) ?_
                exact ih3 _ (ms_up tv20 kc_1 q11 rfl rfl) a27_2_15 v20 g17 _ _ ls (mFr.tr hF3 hF17 rfl) L17 (rg_w ra27_2_15 rfl) (rg_w rv20 rfl) (lv_sub hl [1, 2, 3, 0] rfl) rfl
              · skip
                have ic31_18 := Int32.lt_iff_toInt_lt.mp (rg_nle c31_18)
                have q21 : rg (0) (7) a27_4_16 := (rg_lt (rg_nle c31_18) ra27_4_16 kc_8).1
                have uq21 : (0 : Int) ≤ a27_4_16.toInt ∧ a27_4_16.toInt ≤ 7 := q21
                refine lv_iload_n hx hb dX11_crcOf_34 rfl (lv_at hl 2 rfl) ?_
                have j51_23 : ∀ (b51_0_22 : Int32) (g23 : mSt) (H23 : Heap) (k23 : List Loc) (ls : Array Slot), mFr [] g17 g23 → cL G Z H0 X g23 H23 k23 → rg (-2147483648) (2147483647) b51_0_22 → lv_has ls 5 [(0, .ref (Z.ad 35 q1)), (1, .int p2), (3, .int a4_3_2), (4, .int a27_4_16)] → W p l e rm_kcrcOf_35 s m args below meth c H23 k23 0 0 Q (F0 m 51 ls [.int b51_0_22]) := by
                  intro b51_0_22 g23 H23 k23 ls hF23 L23 rb51_0_22 hl
                  have ub51_0_22 : (-2147483648 : Int) ≤ b51_0_22.toInt ∧ b51_0_22.toInt ≤ 2147483647 := rb51_0_22
                  refine lv_istore_n (lv' := [(2, .int b51_0_22), (0, .ref (Z.ad 35 q1)), (1, .int p2), (3, .int a4_3_2), (4, .int a27_4_16)]) hx hb dX11_crcOf_51 rfl hl (by decide) rfl (fun ls hl => ?_)
                  obtain ⟨v24, ev24, fv24⟩ := inc_ex a27_4_16 (1) (1 : Int32) (by decide)
                  have rv24 : rg (1) (8) v24 := (rg_add ev24 q21 kc_1 rfl).1
                  have tv24 := (rg_add ev24 q21 kc_1 rfl).2
                  have yv24 : (1 : Int32).toInt = 1 := by decide
                  refine lv_iinc (v := v24) (lv' := [(4, .int v24), (2, .int b51_0_22), (0, .ref (Z.ad 35 q1)), (1, .int p2), (3, .int a4_3_2)]) hx hb dX11_crcOf_52 hl (k := 4) rfl fv24 (by decide) rfl (fun ls hl => ?_)
                  refine lv_goto (tgt := 27) hx hb dX11_crcOf_55 (by decide) ?_
                  exact ih17 _ (ms_up tv24 kc_1 q21 rfl rfl) b51_0_22 v24 g23 _ _ ls (mFr.tr hF17 hF23 rfl) L23 (rg_w rb51_0_22 rfl) (rg_w rv24 rfl) (lv_sub hl [2, 3, 1, 4, 0] rfl) rfl
                refine lv_if_ge (tgt := 48) hx hb dX11_crcOf_35 (by decide) (fun c35_25 => ?_) (fun c35_25 => ?_)
                · skip
                  have ic35_25 := Int32.le_iff_toInt_le.mp c35_25
                  have q26 : rg (0) (2147483647) a27_2_15 := (rg_le c35_25 kc_0 ra27_2_15).2
                  have uq26 : (0 : Int) ≤ a27_2_15.toInt ∧ a27_2_15.toInt ≤ 2147483647 := q26
                  refine lv_iload_n hx hb dX11_crcOf_48 rfl (lv_at hl 2 rfl) ?_
                  refine lv_iconst (v := 1) hx hb dX11_crcOf_49 (by decide) ?_
                  refine lv_ishl hx hb dX11_crcOf_50 ?_
                  refine lv_topi (fun v27 ev27 => ?_)
                  have rv27 : rg (-2147483648) (2147483647) v27 := rg_any v27
                  have uv27 : (-2147483648 : Int) ≤ v27.toInt ∧ v27.toInt ≤ 2147483647 := rv27
                  exact j51_23 v27 g17 _ _ ls mFr.rf L17 (rg_w rv27 rfl) (lv_sub hl [0, 1, 3, 4] rfl)
                · skip
                  have ic35_25 := Int32.lt_iff_toInt_lt.mp (rg_nle c35_25)
                  have q28 : rg (-2147483648) (-1) a27_2_15 := (rg_lt (rg_nle c35_25) ra27_2_15 kc_0).1
                  have uq28 : (-2147483648 : Int) ≤ a27_2_15.toInt ∧ a27_2_15.toInt ≤ -1 := q28
                  refine lv_iload_n hx hb dX11_crcOf_38 rfl (lv_at hl 2 rfl) ?_
                  refine lv_iconst (v := 1) hx hb dX11_crcOf_39 (by decide) ?_
                  refine lv_ishl hx hb dX11_crcOf_40 ?_
                  refine lv_topi (fun v29 ev29 => ?_)
                  have rv29 : rg (-2147483648) (2147483647) v29 := rg_any v29
                  have uv29 : (-2147483648 : Int) ≤ v29.toInt ∧ v29.toInt ≤ 2147483647 := rv29
                  refine lv_ldcw (own := RX11) (v := 79764919) hx hb x.2.2.2.2.1 (x.2.2.1 _ (wk_in kk_X11_360)) dX11_crcOf_41 ?_
                  refine lv_ixor hx hb dX11_crcOf_44 ?_
                  refine lv_topi (fun v30 ev30 => ?_)
                  have rv30 : rg (-2147483648) (2147483647) v30 := rg_any v30
                  have uv30 : (-2147483648 : Int) ≤ v30.toInt ∧ v30.toInt ≤ 2147483647 := rv30
                  refine lv_goto (tgt := 51) hx hb dX11_crcOf_45 (by decide) ?_
                  exact j51_23 v30 g17 _ _ ls mFr.rf L17 (rg_w rv30 rfl) (lv_sub hl [0, 1, 3, 4] rfl)
          have y31 : (0 : Int32).toInt = 0 := by decide
          exact j27_17 _ v14 (0 : Int32) g3 _ _ ls mFr.rf L3 (rg_w rv14 rfl) (rg_w kc_0 rfl) (lv_sub hl [2, 3, 1, 4, 0] rfl) rfl
  have y32 : (-1 : Int32).toInt = -1 := by decide
  have y33 : (0 : Int32).toInt = 0 := by decide
  exact j4_3 _ (-1 : Int32) (0 : Int32) g _ _ ls mFr.rf L (rg_w kc_m1 rfl) (rg_w kc_0 rfl) (lv_sub hl [2, 3, 1, 0] rfl) rfl
theorem c_kcrcOf_35 (l : Launch) {G : cG} {Z : cZ} (X : Int) (g : mSt) (q1 : Nat) (p2 : Int32) (hX : 0 ≤ X ∧ X ≤ 2000000000) (hq1 : Z.al 35 q1) : Met l yX11_crcOf (wk (Cond.code yX11_crcOf cX11_crcOf 5 (some .int))) rm_kcrcOf_35 (va_Pc [.ref (Z.ad 35 q1), .int p2] (cPre G Z X g)) (cQi G Z X (fun r g1 => mFr [] g g1 ∧ rg (-2147483648) (2147483647) r ∧ True)) 0 0 (cAd Z) := by
  refine Met.ofW (cc := cX11_crcOf) (maxL := 5) (ret := (some .int)) (by decide) rfl ?_
  intro p e s m args below meth c s₁ B hml hv
  obtain ⟨rfl, hv⟩ := hv
  have hr := B.returns
  have hlocks := B.notSynchronized
  obtain ⟨x, L⟩ := c_start B rfl (fun w h => wk_in h) hv
  have hl := lv_entry ([.ref (Z.ad 35 q1), .int p2]) (n := 5) (Nat.le_of_ble_eq_true rfl)
  rw [lg_entry_eq]
  generalize (lg_sl ([.ref (Z.ad 35 q1), .int p2]) ++ List.replicate (5 - (lg_sl ([.ref (Z.ad 35 q1), .int p2])).length) Slot.unset).toArray = ls at hl ⊢
  exact w_kcrcOf_35 x hml L hX q1 p2 hq1 hl (fun pc' ls' r g1 H1 locs1 hdg L hp => c_iret x L hr hlocks (Int.le_refl _) hp hdg)

def rm_kwordAt_16 : Room := { frames := 0, cells := 0, slots := 0, locals := 0 }
theorem hd_kwordAt_16 : yX11_wordAt.cls ≠ "java/lang/invoke/MethodHandle" ∧ yX11_wordAt.cls ≠ "java/lang/invoke/VarHandle" ∧ (parseMethodDescriptor yX11_wordAt.desc).map (fun d => d.parameters.length) = some 2 := by decide +kernel
set_option maxHeartbeats 4000000 in
set_option maxRecDepth 100000 in
theorem w_kwordAt_16 {p : Program} {l : Launch} {e : Env} {s : State} {m : MethodId} {args : Array Value} {below : List Frame} {meth : Method} {c : Code} {H : Heap} {locs : List Loc} {Q : State → Prop} {ls : Array Slot} {G : cG} {Z : cZ} {g : mSt} {H0 : Heap} {X : Int} (x : cX p c cX11_wordAt s args (wk (Cond.code yX11_wordAt cX11_wordAt 2 (some .int))) m G Z RX11 H0) (hml : c.maxLocals = 2) (L : cL G Z H0 X g H locs) (hX : 0 ≤ X ∧ X ≤ 2000000000) (q1 : Nat) (p2 : Int32) (hq1 : Z.al 16 q1) (rp2 : rg (-100) (100000) p2) (hl : lv_has ls 2 [(0, .ref (Z.ad 16 q1)), (1, .int p2)]) (hQ : ∀ (pc' : Nat) (ls' : Array Slot) (r : Int32) (g1 : mSt) (H1 : Heap) (locs1 : List Loc), decode cX11_wordAt pc' = .ok (.ireturn, 1) → cL G Z H0 X g1 H1 locs1 → (mFr [] g g1 ∧ rg (-2147483648) (2147483647) r ∧ True) → W p l e rm_kwordAt_16 s m args below meth c H1 locs1 0 0 Q (F0 m pc' ls' [.int r])) : W p l e rm_kwordAt_16 s m args below meth c H locs 0 0 Q (F0 m 0 ls []) := by
  have hx := x.1
  have hb := x.2.1
  have hz := x.2.2.2.2.2.2.2.1
  have hzn := hz.1
  have up2 : (-100 : Int) ≤ p2.toInt ∧ p2.toInt ≤ 100000 := rp2
  refine lv_iload_n hx hb dX11_wordAt_0 rfl (lv_at hl 1 rfl) ?_
  refine lv_if_lt (tgt := 12) hx hb dX11_wordAt_1 (by decide) (fun c1_1 => ?_) (fun c1_1 => ?_)
  · skip
    have ic1_1 := Int32.lt_iff_toInt_lt.mp c1_1
    have q2 : rg (-100) (-1) p2 := (rg_lt c1_1 rp2 kc_0).1
    have uq2 : (-100 : Int) ≤ p2.toInt ∧ p2.toInt ≤ -1 := q2
    refine lv_iconst (v := 0) hx hb dX11_wordAt_12 (by decide) ?_
    exact hQ _ _ (0 : Int32) _ _ _ dX11_wordAt_13 L ⟨mFr.rf, rg_w kc_0 rfl, trivial⟩
  · skip
    have ic1_1 := Int32.le_iff_toInt_le.mp (rg_nlt c1_1)
    have q3 : rg (0) (100000) p2 := (rg_le (rg_nlt c1_1) kc_0 rp2).2
    have uq3 : (0 : Int) ≤ p2.toInt ∧ p2.toInt ≤ 100000 := q3
    refine lv_iload_n hx hb dX11_wordAt_4 rfl (lv_at hl 1 rfl) ?_
    refine lv_iconst (v := 4) hx hb dX11_wordAt_5 (by decide) ?_
    refine lv_iadd hx hb dX11_wordAt_6 ?_
    refine lv_topi (fun v4 ev4 => ?_)
    have rv4 : rg (4) (100004) v4 := (rg_add ev4 q3 kc_4 rfl).1
    have dv4 := (rg_add ev4 q3 kc_4 rfl).2
    have tv4 := (rg_add ev4 q3 kc_4 rfl).2
    have y5 : (4 : Int32).toInt = 4 := by decide
    have uv4 : (4 : Int) ≤ v4.toInt ∧ v4.toInt ≤ 100004 := rv4
    refine lv_aload_n hx hb dX11_wordAt_7 rfl (lv_at hl 0 rfl) ?_
    refine c_len (n := 240) x L 16 q1 hq1 rfl (by decide) dX11_wordAt_8 ?_
    refine lv_icmp_le (tgt := 14) hx hb dX11_wordAt_9 (by decide) (fun c9_6 => ?_) (fun c9_6 => ?_)
    · skip
      have ic9_6 := Int32.le_iff_toInt_le.mp c9_6
      have q7 : rg (4) (240) v4 := (rg_le c9_6 rv4 kc_240).1
      have uq7 : (4 : Int) ≤ v4.toInt ∧ v4.toInt ≤ 240 := q7
      have q8 : rg (0) (236) p2 := rg_back dv4 kc_4 q7
      refine lv_aload_n hx hb dX11_wordAt_14 rfl (lv_at hl 0 rfl) ?_
      refine lv_iload_n hx hb dX11_wordAt_15 rfl (lv_at hl 1 rfl) ?_
      refine c_ld x L 16 q1 512 hq1 rfl rfl q8 rfl dX11_wordAt_16 (fun v9 ev9 wv9 => ?_)
      have rv9 : rg (-2147483648) (2147483647) v9 := rg_any v9
      have uv9 : (-2147483648 : Int) ≤ v9.toInt ∧ v9.toInt ≤ 2147483647 := rv9
      have sv9 : v9.toInt = (g 512 (8192 * q1 + p2.toNatClampNeg)).toInt := congrArg Int32.toInt (ev9.trans (congrFun ((show mFr [] g g from mFr.rf).at 512 rfl) _))
      refine lv_bipush (v := 24) hx hb dX11_wordAt_17 (by decide) ?_
      refine lv_ishl hx hb dX11_wordAt_19 ?_
      refine lv_topi (fun v10 ev10 => ?_)
      have rv10 : rg (-2147483648) (2147483647) v10 := rg_any v10
      have uv10 : (-2147483648 : Int) ≤ v10.toInt ∧ v10.toInt ≤ 2147483647 := rv10
      refine lv_aload_n hx hb dX11_wordAt_20 rfl (lv_at hl 0 rfl) ?_
      refine lv_iload_n hx hb dX11_wordAt_21 rfl (lv_at hl 1 rfl) ?_
      refine lv_iconst (v := 1) hx hb dX11_wordAt_22 (by decide) ?_
      refine lv_iadd hx hb dX11_wordAt_23 ?_
      refine lv_topi (fun v11 ev11 => ?_)
      have rv11 : rg (1) (237) v11 := (rg_add ev11 q8 kc_1 rfl).1
      have dv11 := (rg_add ev11 q8 kc_1 rfl).2
      have tv11 := (rg_add ev11 q8 kc_1 rfl).2
      have y12 : (1 : Int32).toInt = 1 := by decide
      have uv11 : (1 : Int) ≤ v11.toInt ∧ v11.toInt ≤ 237 := rv11
      refine c_ld x L 16 q1 512 hq1 rfl rfl rv11 rfl dX11_wordAt_24 (fun v13 ev13 wv13 => ?_)
      have rv13 : rg (-2147483648) (2147483647) v13 := rg_any v13
      have uv13 : (-2147483648 : Int) ≤ v13.toInt ∧ v13.toInt ≤ 2147483647 := rv13
      have sv13 : v13.toInt = (g 512 (8192 * q1 + v11.toNatClampNeg)).toInt := congrArg Int32.toInt (ev13.trans (congrFun ((show mFr [] g g from mFr.rf).at 512 rfl) _))
      refine lv_bipush (v := 16) hx hb dX11_wordAt_25 (by decide) ?_
      refine lv_ishl hx hb dX11_wordAt_27 ?_
      refine lv_topi (fun v14 ev14 => ?_)
      have rv14 : rg (-2147483648) (2147483647) v14 := rg_any v14
      have uv14 : (-2147483648 : Int) ≤ v14.toInt ∧ v14.toInt ≤ 2147483647 := rv14
      refine lv_ior hx hb dX11_wordAt_28 ?_
      refine lv_topi (fun v15 ev15 => ?_)
      have rv15 : rg (-2147483648) (2147483647) v15 := rg_any v15
      have uv15 : (-2147483648 : Int) ≤ v15.toInt ∧ v15.toInt ≤ 2147483647 := rv15
      refine lv_aload_n hx hb dX11_wordAt_29 rfl (lv_at hl 0 rfl) ?_
      refine lv_iload_n hx hb dX11_wordAt_30 rfl (lv_at hl 1 rfl) ?_
      refine lv_iconst (v := 2) hx hb dX11_wordAt_31 (by decide) ?_
      refine lv_iadd hx hb dX11_wordAt_32 ?_
      refine lv_topi (fun v16 ev16 => ?_)
      have rv16 : rg (2) (238) v16 := (rg_add ev16 q8 kc_2 rfl).1
      have dv16 := (rg_add ev16 q8 kc_2 rfl).2
      have tv16 := (rg_add ev16 q8 kc_2 rfl).2
      have y17 : (2 : Int32).toInt = 2 := by decide
      have uv16 : (2 : Int) ≤ v16.toInt ∧ v16.toInt ≤ 238 := rv16
      refine c_ld x L 16 q1 512 hq1 rfl rfl rv16 rfl dX11_wordAt_33 (fun v18 ev18 wv18 => ?_)
      have rv18 : rg (-2147483648) (2147483647) v18 := rg_any v18
      have uv18 : (-2147483648 : Int) ≤ v18.toInt ∧ v18.toInt ≤ 2147483647 := rv18
      have sv18 : v18.toInt = (g 512 (8192 * q1 + v16.toNatClampNeg)).toInt := congrArg Int32.toInt (ev18.trans (congrFun ((show mFr [] g g from mFr.rf).at 512 rfl) _))
      refine lv_bipush (v := 8) hx hb dX11_wordAt_34 (by decide) ?_
      refine lv_ishl hx hb dX11_wordAt_36 ?_
      refine lv_topi (fun v19 ev19 => ?_)
      have rv19 : rg (-2147483648) (2147483647) v19 := rg_any v19
      have uv19 : (-2147483648 : Int) ≤ v19.toInt ∧ v19.toInt ≤ 2147483647 := rv19
      refine lv_ior hx hb dX11_wordAt_37 ?_
      refine lv_topi (fun v20 ev20 => ?_)
      have rv20 : rg (-2147483648) (2147483647) v20 := rg_any v20
      have uv20 : (-2147483648 : Int) ≤ v20.toInt ∧ v20.toInt ≤ 2147483647 := rv20
      refine lv_aload_n hx hb dX11_wordAt_38 rfl (lv_at hl 0 rfl) ?_
      refine lv_iload_n hx hb dX11_wordAt_39 rfl (lv_at hl 1 rfl) ?_
      refine lv_iconst (v := 3) hx hb dX11_wordAt_40 (by decide) ?_
      refine lv_iadd hx hb dX11_wordAt_41 ?_
      refine lv_topi (fun v21 ev21 => ?_)
      have rv21 : rg (3) (239) v21 := (rg_add ev21 q8 kc_3 rfl).1
      have dv21 := (rg_add ev21 q8 kc_3 rfl).2
      have tv21 := (rg_add ev21 q8 kc_3 rfl).2
      have y22 : (3 : Int32).toInt = 3 := by decide
      have uv21 : (3 : Int) ≤ v21.toInt ∧ v21.toInt ≤ 239 := rv21
      refine c_ld x L 16 q1 512 hq1 rfl rfl rv21 rfl dX11_wordAt_42 (fun v23 ev23 wv23 => ?_)
      have rv23 : rg (-2147483648) (2147483647) v23 := rg_any v23
      have uv23 : (-2147483648 : Int) ≤ v23.toInt ∧ v23.toInt ≤ 2147483647 := rv23
      have sv23 : v23.toInt = (g 512 (8192 * q1 + v21.toNatClampNeg)).toInt := congrArg Int32.toInt (ev23.trans (congrFun ((show mFr [] g g from mFr.rf).at 512 rfl) _))
      refine lv_ior hx hb dX11_wordAt_43 ?_
      refine lv_topi (fun v24 ev24 => ?_)
      have rv24 : rg (-2147483648) (2147483647) v24 := rg_any v24
      have uv24 : (-2147483648 : Int) ≤ v24.toInt ∧ v24.toInt ≤ 2147483647 := rv24
      exact hQ _ _ v24 _ _ _ dX11_wordAt_44 L ⟨mFr.rf, rg_w rv24 rfl, trivial⟩
    · skip
      have ic9_6 := Int32.lt_iff_toInt_lt.mp (rg_nle c9_6)
      have q25 : rg (241) (100004) v4 := (rg_lt (rg_nle c9_6) kc_240 rv4).2
      have uq25 : (241 : Int) ≤ v4.toInt ∧ v4.toInt ≤ 100004 := q25
      have q26 : rg (237) (100000) p2 := rg_back dv4 kc_4 q25
      refine lv_iconst (v := 0) hx hb dX11_wordAt_12 (by decide) ?_
      exact hQ _ _ (0 : Int32) _ _ _ dX11_wordAt_13 L ⟨mFr.rf, rg_w kc_0 rfl, trivial⟩
theorem c_kwordAt_16 (l : Launch) {G : cG} {Z : cZ} (X : Int) (g : mSt) (q1 : Nat) (p2 : Int32) (hX : 0 ≤ X ∧ X ≤ 2000000000) (hq1 : Z.al 16 q1) (rp2 : rg (-100) (100000) p2) : Met l yX11_wordAt (wk (Cond.code yX11_wordAt cX11_wordAt 2 (some .int))) rm_kwordAt_16 (va_Pc [.ref (Z.ad 16 q1), .int p2] (cPre G Z X g)) (cQi G Z X (fun r g1 => mFr [] g g1 ∧ rg (-2147483648) (2147483647) r ∧ True)) 0 0 (cAd Z) := by
  refine Met.ofW (cc := cX11_wordAt) (maxL := 2) (ret := (some .int)) (by decide) rfl ?_
  intro p e s m args below meth c s₁ B hml hv
  obtain ⟨rfl, hv⟩ := hv
  have hr := B.returns
  have hlocks := B.notSynchronized
  obtain ⟨x, L⟩ := c_start B rfl (fun w h => wk_in h) hv
  have hl := lv_entry ([.ref (Z.ad 16 q1), .int p2]) (n := 2) (Nat.le_of_ble_eq_true rfl)
  rw [lg_entry_eq]
  generalize (lg_sl ([.ref (Z.ad 16 q1), .int p2]) ++ List.replicate (2 - (lg_sl ([.ref (Z.ad 16 q1), .int p2])).length) Slot.unset).toArray = ls at hl ⊢
  exact w_kwordAt_16 x hml L hX q1 p2 hq1 rp2 hl (fun pc' ls' r g1 H1 locs1 hdg L hp => c_iret x L hr hlocks (Int.le_refl _) hp hdg)

def rm_kwordAt_34 : Room := { frames := 0, cells := 0, slots := 0, locals := 0 }
theorem hd_kwordAt_34 : yX11_wordAt.cls ≠ "java/lang/invoke/MethodHandle" ∧ yX11_wordAt.cls ≠ "java/lang/invoke/VarHandle" ∧ (parseMethodDescriptor yX11_wordAt.desc).map (fun d => d.parameters.length) = some 2 := by decide +kernel
set_option maxHeartbeats 4000000 in
set_option maxRecDepth 100000 in
theorem w_kwordAt_34 {p : Program} {l : Launch} {e : Env} {s : State} {m : MethodId} {args : Array Value} {below : List Frame} {meth : Method} {c : Code} {H : Heap} {locs : List Loc} {Q : State → Prop} {ls : Array Slot} {G : cG} {Z : cZ} {g : mSt} {H0 : Heap} {X : Int} (x : cX p c cX11_wordAt s args (wk (Cond.code yX11_wordAt cX11_wordAt 2 (some .int))) m G Z RX11 H0) (hml : c.maxLocals = 2) (L : cL G Z H0 X g H locs) (hX : 0 ≤ X ∧ X ≤ 2000000000) (q1 : Nat) (p2 : Int32) (hq1 : Z.al 34 q1) (rp2 : rg (-100) (100000) p2) (hl : lv_has ls 2 [(0, .ref (Z.ad 34 q1)), (1, .int p2)]) (hQ : ∀ (pc' : Nat) (ls' : Array Slot) (r : Int32) (g1 : mSt) (H1 : Heap) (locs1 : List Loc), decode cX11_wordAt pc' = .ok (.ireturn, 1) → cL G Z H0 X g1 H1 locs1 → (mFr [] g g1 ∧ rg (-2147483648) (2147483647) r ∧ True) → W p l e rm_kwordAt_34 s m args below meth c H1 locs1 0 0 Q (F0 m pc' ls' [.int r])) : W p l e rm_kwordAt_34 s m args below meth c H locs 0 0 Q (F0 m 0 ls []) := by
  have hx := x.1
  have hb := x.2.1
  have hz := x.2.2.2.2.2.2.2.1
  have hzn := hz.1
  have up2 : (-100 : Int) ≤ p2.toInt ∧ p2.toInt ≤ 100000 := rp2
  refine lv_iload_n hx hb dX11_wordAt_0 rfl (lv_at hl 1 rfl) ?_
  refine lv_if_lt (tgt := 12) hx hb dX11_wordAt_1 (by decide) (fun c1_1 => ?_) (fun c1_1 => ?_)
  · skip
    have ic1_1 := Int32.lt_iff_toInt_lt.mp c1_1
    have q2 : rg (-100) (-1) p2 := (rg_lt c1_1 rp2 kc_0).1
    have uq2 : (-100 : Int) ≤ p2.toInt ∧ p2.toInt ≤ -1 := q2
    refine lv_iconst (v := 0) hx hb dX11_wordAt_12 (by decide) ?_
    exact hQ _ _ (0 : Int32) _ _ _ dX11_wordAt_13 L ⟨mFr.rf, rg_w kc_0 rfl, trivial⟩
  · skip
    have ic1_1 := Int32.le_iff_toInt_le.mp (rg_nlt c1_1)
    have q3 : rg (0) (100000) p2 := (rg_le (rg_nlt c1_1) kc_0 rp2).2
    have uq3 : (0 : Int) ≤ p2.toInt ∧ p2.toInt ≤ 100000 := q3
    refine lv_iload_n hx hb dX11_wordAt_4 rfl (lv_at hl 1 rfl) ?_
    refine lv_iconst (v := 4) hx hb dX11_wordAt_5 (by decide) ?_
    refine lv_iadd hx hb dX11_wordAt_6 ?_
    refine lv_topi (fun v4 ev4 => ?_)
    have rv4 : rg (4) (100004) v4 := (rg_add ev4 q3 kc_4 rfl).1
    have dv4 := (rg_add ev4 q3 kc_4 rfl).2
    have tv4 := (rg_add ev4 q3 kc_4 rfl).2
    have y5 : (4 : Int32).toInt = 4 := by decide
    have uv4 : (4 : Int) ≤ v4.toInt ∧ v4.toInt ≤ 100004 := rv4
    refine lv_aload_n hx hb dX11_wordAt_7 rfl (lv_at hl 0 rfl) ?_
    refine c_len (n := 60) x L 34 q1 hq1 rfl (by decide) dX11_wordAt_8 ?_
    refine lv_icmp_le (tgt := 14) hx hb dX11_wordAt_9 (by decide) (fun c9_6 => ?_) (fun c9_6 => ?_)
    · skip
      have ic9_6 := Int32.le_iff_toInt_le.mp c9_6
      have q7 : rg (4) (60) v4 := (rg_le c9_6 rv4 kc_60).1
      have uq7 : (4 : Int) ≤ v4.toInt ∧ v4.toInt ≤ 60 := q7
      have q8 : rg (0) (56) p2 := rg_back dv4 kc_4 q7
      refine lv_aload_n hx hb dX11_wordAt_14 rfl (lv_at hl 0 rfl) ?_
      refine lv_iload_n hx hb dX11_wordAt_15 rfl (lv_at hl 1 rfl) ?_
      refine c_ld x L 34 q1 1088 hq1 rfl rfl q8 rfl dX11_wordAt_16 (fun v9 ev9 wv9 => ?_)
      have rv9 : rg (-2147483648) (2147483647) v9 := rg_any v9
      have uv9 : (-2147483648 : Int) ≤ v9.toInt ∧ v9.toInt ≤ 2147483647 := rv9
      have sv9 : v9.toInt = (g 1088 (8192 * q1 + p2.toNatClampNeg)).toInt := congrArg Int32.toInt (ev9.trans (congrFun ((show mFr [] g g from mFr.rf).at 1088 rfl) _))
      refine lv_bipush (v := 24) hx hb dX11_wordAt_17 (by decide) ?_
      refine lv_ishl hx hb dX11_wordAt_19 ?_
      refine lv_topi (fun v10 ev10 => ?_)
      have rv10 : rg (-2147483648) (2147483647) v10 := rg_any v10
      have uv10 : (-2147483648 : Int) ≤ v10.toInt ∧ v10.toInt ≤ 2147483647 := rv10
      refine lv_aload_n hx hb dX11_wordAt_20 rfl (lv_at hl 0 rfl) ?_
      refine lv_iload_n hx hb dX11_wordAt_21 rfl (lv_at hl 1 rfl) ?_
      refine lv_iconst (v := 1) hx hb dX11_wordAt_22 (by decide) ?_
      refine lv_iadd hx hb dX11_wordAt_23 ?_
      refine lv_topi (fun v11 ev11 => ?_)
      have rv11 : rg (1) (57) v11 := (rg_add ev11 q8 kc_1 rfl).1
      have dv11 := (rg_add ev11 q8 kc_1 rfl).2
      have tv11 := (rg_add ev11 q8 kc_1 rfl).2
      have y12 : (1 : Int32).toInt = 1 := by decide
      have uv11 : (1 : Int) ≤ v11.toInt ∧ v11.toInt ≤ 57 := rv11
      refine c_ld x L 34 q1 1088 hq1 rfl rfl rv11 rfl dX11_wordAt_24 (fun v13 ev13 wv13 => ?_)
      have rv13 : rg (-2147483648) (2147483647) v13 := rg_any v13
      have uv13 : (-2147483648 : Int) ≤ v13.toInt ∧ v13.toInt ≤ 2147483647 := rv13
      have sv13 : v13.toInt = (g 1088 (8192 * q1 + v11.toNatClampNeg)).toInt := congrArg Int32.toInt (ev13.trans (congrFun ((show mFr [] g g from mFr.rf).at 1088 rfl) _))
      refine lv_bipush (v := 16) hx hb dX11_wordAt_25 (by decide) ?_
      refine lv_ishl hx hb dX11_wordAt_27 ?_
      refine lv_topi (fun v14 ev14 => ?_)
      have rv14 : rg (-2147483648) (2147483647) v14 := rg_any v14
      have uv14 : (-2147483648 : Int) ≤ v14.toInt ∧ v14.toInt ≤ 2147483647 := rv14
      refine lv_ior hx hb dX11_wordAt_28 ?_
      refine lv_topi (fun v15 ev15 => ?_)
      have rv15 : rg (-2147483648) (2147483647) v15 := rg_any v15
      have uv15 : (-2147483648 : Int) ≤ v15.toInt ∧ v15.toInt ≤ 2147483647 := rv15
      refine lv_aload_n hx hb dX11_wordAt_29 rfl (lv_at hl 0 rfl) ?_
      refine lv_iload_n hx hb dX11_wordAt_30 rfl (lv_at hl 1 rfl) ?_
      refine lv_iconst (v := 2) hx hb dX11_wordAt_31 (by decide) ?_
      refine lv_iadd hx hb dX11_wordAt_32 ?_
      refine lv_topi (fun v16 ev16 => ?_)
      have rv16 : rg (2) (58) v16 := (rg_add ev16 q8 kc_2 rfl).1
      have dv16 := (rg_add ev16 q8 kc_2 rfl).2
      have tv16 := (rg_add ev16 q8 kc_2 rfl).2
      have y17 : (2 : Int32).toInt = 2 := by decide
      have uv16 : (2 : Int) ≤ v16.toInt ∧ v16.toInt ≤ 58 := rv16
      refine c_ld x L 34 q1 1088 hq1 rfl rfl rv16 rfl dX11_wordAt_33 (fun v18 ev18 wv18 => ?_)
      have rv18 : rg (-2147483648) (2147483647) v18 := rg_any v18
      have uv18 : (-2147483648 : Int) ≤ v18.toInt ∧ v18.toInt ≤ 2147483647 := rv18
      have sv18 : v18.toInt = (g 1088 (8192 * q1 + v16.toNatClampNeg)).toInt := congrArg Int32.toInt (ev18.trans (congrFun ((show mFr [] g g from mFr.rf).at 1088 rfl) _))
      refine lv_bipush (v := 8) hx hb dX11_wordAt_34 (by decide) ?_
      refine lv_ishl hx hb dX11_wordAt_36 ?_
      refine lv_topi (fun v19 ev19 => ?_)
      have rv19 : rg (-2147483648) (2147483647) v19 := rg_any v19
      have uv19 : (-2147483648 : Int) ≤ v19.toInt ∧ v19.toInt ≤ 2147483647 := rv19
      refine lv_ior hx hb dX11_wordAt_37 ?_
      refine lv_topi (fun v20 ev20 => ?_)
      have rv20 : rg (-2147483648) (2147483647) v20 := rg_any v20
      have uv20 : (-2147483648 : Int) ≤ v20.toInt ∧ v20.toInt ≤ 2147483647 := rv20
      refine lv_aload_n hx hb dX11_wordAt_38 rfl (lv_at hl 0 rfl) ?_
      refine lv_iload_n hx hb dX11_wordAt_39 rfl (lv_at hl 1 rfl) ?_
      refine lv_iconst (v := 3) hx hb dX11_wordAt_40 (by decide) ?_
      refine lv_iadd hx hb dX11_wordAt_41 ?_
      refine lv_topi (fun v21 ev21 => ?_)
      have rv21 : rg (3) (59) v21 := (rg_add ev21 q8 kc_3 rfl).1
      have dv21 := (rg_add ev21 q8 kc_3 rfl).2
      have tv21 := (rg_add ev21 q8 kc_3 rfl).2
      have y22 : (3 : Int32).toInt = 3 := by decide
      have uv21 : (3 : Int) ≤ v21.toInt ∧ v21.toInt ≤ 59 := rv21
      refine c_ld x L 34 q1 1088 hq1 rfl rfl rv21 rfl dX11_wordAt_42 (fun v23 ev23 wv23 => ?_)
      have rv23 : rg (-2147483648) (2147483647) v23 := rg_any v23
      have uv23 : (-2147483648 : Int) ≤ v23.toInt ∧ v23.toInt ≤ 2147483647 := rv23
      have sv23 : v23.toInt = (g 1088 (8192 * q1 + v21.toNatClampNeg)).toInt := congrArg Int32.toInt (ev23.trans (congrFun ((show mFr [] g g from mFr.rf).at 1088 rfl) _))
      refine lv_ior hx hb dX11_wordAt_43 ?_
      refine lv_topi (fun v24 ev24 => ?_)
      have rv24 : rg (-2147483648) (2147483647) v24 := rg_any v24
      have uv24 : (-2147483648 : Int) ≤ v24.toInt ∧ v24.toInt ≤ 2147483647 := rv24
      exact hQ _ _ v24 _ _ _ dX11_wordAt_44 L ⟨mFr.rf, rg_w rv24 rfl, trivial⟩
    · skip
      have ic9_6 := Int32.lt_iff_toInt_lt.mp (rg_nle c9_6)
      have q25 : rg (61) (100004) v4 := (rg_lt (rg_nle c9_6) kc_60 rv4).2
      have uq25 : (61 : Int) ≤ v4.toInt ∧ v4.toInt ≤ 100004 := q25
      have q26 : rg (57) (100000) p2 := rg_back dv4 kc_4 q25
      refine lv_iconst (v := 0) hx hb dX11_wordAt_12 (by decide) ?_
      exact hQ _ _ (0 : Int32) _ _ _ dX11_wordAt_13 L ⟨mFr.rf, rg_w kc_0 rfl, trivial⟩
theorem c_kwordAt_34 (l : Launch) {G : cG} {Z : cZ} (X : Int) (g : mSt) (q1 : Nat) (p2 : Int32) (hX : 0 ≤ X ∧ X ≤ 2000000000) (hq1 : Z.al 34 q1) (rp2 : rg (-100) (100000) p2) : Met l yX11_wordAt (wk (Cond.code yX11_wordAt cX11_wordAt 2 (some .int))) rm_kwordAt_34 (va_Pc [.ref (Z.ad 34 q1), .int p2] (cPre G Z X g)) (cQi G Z X (fun r g1 => mFr [] g g1 ∧ rg (-2147483648) (2147483647) r ∧ True)) 0 0 (cAd Z) := by
  refine Met.ofW (cc := cX11_wordAt) (maxL := 2) (ret := (some .int)) (by decide) rfl ?_
  intro p e s m args below meth c s₁ B hml hv
  obtain ⟨rfl, hv⟩ := hv
  have hr := B.returns
  have hlocks := B.notSynchronized
  obtain ⟨x, L⟩ := c_start B rfl (fun w h => wk_in h) hv
  have hl := lv_entry ([.ref (Z.ad 34 q1), .int p2]) (n := 2) (Nat.le_of_ble_eq_true rfl)
  rw [lg_entry_eq]
  generalize (lg_sl ([.ref (Z.ad 34 q1), .int p2]) ++ List.replicate (2 - (lg_sl ([.ref (Z.ad 34 q1), .int p2])).length) Slot.unset).toArray = ls at hl ⊢
  exact w_kwordAt_34 x hml L hX q1 p2 hq1 rp2 hl (fun pc' ls' r g1 H1 locs1 hdg L hp => c_iret x L hr hlocks (Int.le_refl _) hp hdg)

def rm_kfill_19 : Room := { frames := 1, cells := 0, slots := 0, locals := 22 }
theorem hd_kfill_19 : yJ7_fill_fda19.cls ≠ "java/lang/invoke/MethodHandle" ∧ yJ7_fill_fda19.cls ≠ "java/lang/invoke/VarHandle" ∧ (parseMethodDescriptor yJ7_fill_fda19.desc).map (fun d => d.parameters.length) = some 4 := by decide +kernel
set_option maxHeartbeats 4000000 in
set_option maxRecDepth 100000 in
theorem w_kfill_19 {p : Program} {l : Launch} {e : Env} {s : State} {m : MethodId} {args : Array Value} {below : List Frame} {meth : Method} {c : Code} {H : Heap} {locs : List Loc} {Q : State → Prop} {ls : Array Slot} {G : cG} {Z : cZ} {g : mSt} {H0 : Heap} {X : Int} (x : cX p c cJ7_fill_fda19 s args (wk (Cond.code yJ7_fill_fda19 cJ7_fill_fda19 5 none)) m G Z RJ7 H0) (hml : c.maxLocals = 5) (L : cL G Z H0 X g H locs) (hX : 0 ≤ X ∧ X ≤ 2000000000) (q1 : Nat) (p2 : Int32) (p3 : Int32) (p4 : Int32) (hq1 : Z.al 19 q1) (rp2 : rg (0) (212) p2) (rp3 : rg (0) (212) p3) (h1 : p2.toInt ≤ p3.toInt) (hl : lv_has ls 5 [(0, .ref (Z.ad 19 q1)), (1, .int p2), (2, .int p3), (3, .int p4)]) (hQ : ∀ (pc' : Nat) (ls' : Array Slot) (g1 : mSt) (H1 : Heap) (locs1 : List Loc), decode cJ7_fill_fda19 pc' = .ok (.return_, 1) → cL G Z H0 X g1 H1 locs1 → (mFr [608] g g1 ∧ True) → W p l e rm_kfill_19 s m args below meth c H1 locs1 0 0 Q (F0 m pc' ls' [])) : W p l e rm_kfill_19 s m args below meth c H locs 0 0 Q (F0 m 0 ls []) := by
  have hx := x.1
  have hb := x.2.1
  have hz := x.2.2.2.2.2.2.2.1
  have hzn := hz.1
  have up2 : (0 : Int) ≤ p2.toInt ∧ p2.toInt ≤ 212 := rp2
  have up3 : (0 : Int) ≤ p3.toInt ∧ p3.toInt ≤ 212 := rp3
  have up4 : (-2147483648 : Int) ≤ p4.toInt ∧ p4.toInt ≤ 2147483647 := (rg_any p4)
  refine lv_aload_n hx hb dJ7_fill_fda19_0 rfl (lv_at hl 0 rfl) ?_
  refine c_len (n := 212) x L 19 q1 hq1 rfl (by decide) dJ7_fill_fda19_1 ?_
  refine lv_iload_n hx hb dJ7_fill_fda19_2 rfl (lv_at hl 1 rfl) ?_
  refine lv_iload_n hx hb dJ7_fill_fda19_3 rfl (lv_at hl 2 rfl) ?_
  have y1 : (212 : Int32).toInt = 212 := by decide
  refine c_sv (As := [.int (212 : Int32), .int p2, .int p3]) (rest := []) x hml L (c_krangeCheck l X g (212 : Int32) p2 p3 hX (by omega)) (wk_T kt_J7_rangeCheck_23922 kl_J7_13 kn_J7 (wk_all kd_J7_rangeCheck_23922)) rfl ⟨rfl, rfl⟩ hd_krangeCheck ⟨Nat.le_of_ble_eq_true rfl, Nat.le_of_ble_eq_true rfl⟩ rfl hl.1 rfl (lv_room (Nat.le_of_ble_eq_true rfl)) dJ7_fill_fda19_4 (fun  g2 H2 k2 hp2 L2 => ?_)
  refine lv_iload_n hx hb dJ7_fill_fda19_7 rfl (lv_at hl 1 rfl) ?_
  refine lv_istore (lv' := [(4, .int p2), (0, .ref (Z.ad 19 q1)), (1, .int p2), (2, .int p3), (3, .int p4)]) hx hb dJ7_fill_fda19_8 hl (by decide) rfl (fun ls hl => ?_)
  have j10_4 : ∀ (n : Nat) (a10_4_3 : Int32) (g4 : mSt) (H4 : Heap) (k4 : List Loc) (ls : Array Slot), mFr [608] g2 g4 → cL G Z H0 X g4 H4 k4 → rg (0) (212) a10_4_3 → lv_has ls 5 [(0, .ref (Z.ad 19 q1)), (2, .int p3), (3, .int p4), (4, .int a10_4_3)] → ((212 : Int) - a10_4_3.toInt).toNat = n → W p l e rm_kfill_19 s m args below meth c H4 k4 0 0 Q (F0 m 10 ls []) := by
    intro n
    induction n using Nat.strongRecOn with
    | _ n ih4 =>
      intro a10_4_3 g4 H4 k4 ls hF4 L4 ra10_4_3 hl hn4
      subst hn4
      have ua10_4_3 : (0 : Int) ≤ a10_4_3.toInt ∧ a10_4_3.toInt ≤ 212 := ra10_4_3
      refine lv_iload hx hb dJ7_fill_fda19_10 (lv_at hl 3 rfl) ?_
      refine lv_iload_n hx hb dJ7_fill_fda19_12 rfl (lv_at hl 1 rfl) ?_
      refine lv_icmp_ge (tgt := 27) hx hb dJ7_fill_fda19_13 (by decide) (fun c13_5 => ?_) (fun c13_5 => ?_)
      · skip
        have ic13_5 := Int32.le_iff_toInt_le.mp c13_5
        exact hQ _ _ _ _ _ dJ7_fill_fda19_27 L4 ⟨(mFr.tr (mFr.tr mFr.rf hp2.1 rfl) hF4 rfl), trivial⟩
      · skip
        have ic13_5 := Int32.lt_iff_toInt_lt.mp (rg_nle c13_5)
        have q6 : rg (0) (211) a10_4_3 := (rg_lt (rg_nle c13_5) ra10_4_3 rp3).1
        have uq6 : (0 : Int) ≤ a10_4_3.toInt ∧ a10_4_3.toInt ≤ 211 := q6
        have q7 : rg (1) (212) p3 := (rg_lt (rg_nle c13_5) ra10_4_3 rp3).2
        have uq7 : (1 : Int) ≤ p3.toInt ∧ p3.toInt ≤ 212 := q7
        refine lv_aload_n hx hb dJ7_fill_fda19_16 rfl (lv_at hl 0 rfl) ?_
        refine lv_iload hx hb dJ7_fill_fda19_17 (lv_at hl 3 rfl) ?_
        refine lv_iload_n hx hb dJ7_fill_fda19_19 rfl (lv_at hl 2 rfl) ?_
        refine c_st x L4 19 q1 608 hq1 rfl rfl q6 rfl (rg_any p4) dJ7_fill_fda19_20 (fun g8 H8 k8 eg8 L8 => ?_)
        obtain ⟨v9, ev9, fv9⟩ := inc_ex a10_4_3 (1) (1 : Int32) (by decide)
        have rv9 : rg (1) (212) v9 := (rg_add ev9 q6 kc_1 rfl).1
        have tv9 := (rg_add ev9 q6 kc_1 rfl).2
        have yv9 : (1 : Int32).toInt = 1 := by decide
        refine lv_iinc (v := v9) (lv' := [(4, .int v9), (0, .ref (Z.ad 19 q1)), (2, .int p3), (3, .int p4)]) hx hb dJ7_fill_fda19_21 hl (k := 3) rfl fv9 (by decide) rfl (fun ls hl => ?_)
        refine lv_goto (tgt := 10) hx hb dJ7_fill_fda19_24 (by decide) ?_
        exact ih4 _ (ms_up tv9 kc_1 q6 rfl rfl) v9 g8 _ _ ls (mFr.upE hF4 eg8 rfl) L8 (rg_w rv9 rfl) (lv_sub hl [1, 2, 3, 0] rfl) rfl
  exact j10_4 _ p2 g2 _ _ ls mFr.rf L2 (rg_w rp2 rfl) (lv_sub hl [1, 3, 4, 0] rfl) rfl
theorem c_kfill_19 (l : Launch) {G : cG} {Z : cZ} (X : Int) (g : mSt) (q1 : Nat) (p2 : Int32) (p3 : Int32) (p4 : Int32) (hX : 0 ≤ X ∧ X ≤ 2000000000) (hq1 : Z.al 19 q1) (rp2 : rg (0) (212) p2) (rp3 : rg (0) (212) p3) (h1 : p2.toInt ≤ p3.toInt) : Met l yJ7_fill_fda19 (wk (Cond.code yJ7_fill_fda19 cJ7_fill_fda19 5 none)) rm_kfill_19 (va_Pc [.ref (Z.ad 19 q1), .int p2, .int p3, .int p4] (cPre G Z X g)) (cQv G Z X (fun g1 => mFr [608] g g1 ∧ True)) 0 0 (cAd Z) := by
  refine Met.ofW (cc := cJ7_fill_fda19) (maxL := 5) (ret := none) (by decide) rfl ?_
  intro p e s m args below meth c s₁ B hml hv
  obtain ⟨rfl, hv⟩ := hv
  have hr := B.returns
  have hlocks := B.notSynchronized
  obtain ⟨x, L⟩ := c_start B rfl (fun w h => wk_in h) hv
  have hl := lv_entry ([.ref (Z.ad 19 q1), .int p2, .int p3, .int p4]) (n := 5) (Nat.le_of_ble_eq_true rfl)
  rw [lg_entry_eq]
  generalize (lg_sl ([.ref (Z.ad 19 q1), .int p2, .int p3, .int p4]) ++ List.replicate (5 - (lg_sl ([.ref (Z.ad 19 q1), .int p2, .int p3, .int p4])).length) Slot.unset).toArray = ls at hl ⊢
  exact w_kfill_19 x hml L hX q1 p2 p3 p4 hq1 rp2 rp3 h1 hl (fun pc' ls' g1 H1 locs1 hdg L hp => c_vret x L hr hlocks (Int.le_refl _) hp hdg)

def rm_kfill_24 : Room := { frames := 1, cells := 0, slots := 0, locals := 22 }
theorem hd_kfill_24 : yJ7_fill_fda19.cls ≠ "java/lang/invoke/MethodHandle" ∧ yJ7_fill_fda19.cls ≠ "java/lang/invoke/VarHandle" ∧ (parseMethodDescriptor yJ7_fill_fda19.desc).map (fun d => d.parameters.length) = some 4 := by decide +kernel
set_option maxHeartbeats 4000000 in
set_option maxRecDepth 100000 in
theorem w_kfill_24 {p : Program} {l : Launch} {e : Env} {s : State} {m : MethodId} {args : Array Value} {below : List Frame} {meth : Method} {c : Code} {H : Heap} {locs : List Loc} {Q : State → Prop} {ls : Array Slot} {G : cG} {Z : cZ} {g : mSt} {H0 : Heap} {X : Int} (x : cX p c cJ7_fill_fda19 s args (wk (Cond.code yJ7_fill_fda19 cJ7_fill_fda19 5 none)) m G Z RJ7 H0) (hml : c.maxLocals = 5) (L : cL G Z H0 X g H locs) (hX : 0 ≤ X ∧ X ≤ 2000000000) (q1 : Nat) (p2 : Int32) (p3 : Int32) (p4 : Int32) (hq1 : Z.al 24 q1) (rp2 : rg (0) (240) p2) (rp3 : rg (0) (240) p3) (h1 : p2.toInt ≤ p3.toInt) (hl : lv_has ls 5 [(0, .ref (Z.ad 24 q1)), (1, .int p2), (2, .int p3), (3, .int p4)]) (hQ : ∀ (pc' : Nat) (ls' : Array Slot) (g1 : mSt) (H1 : Heap) (locs1 : List Loc), decode cJ7_fill_fda19 pc' = .ok (.return_, 1) → cL G Z H0 X g1 H1 locs1 → (mFr [768] g g1 ∧ True) → W p l e rm_kfill_24 s m args below meth c H1 locs1 0 0 Q (F0 m pc' ls' [])) : W p l e rm_kfill_24 s m args below meth c H locs 0 0 Q (F0 m 0 ls []) := by
  have hx := x.1
  have hb := x.2.1
  have hz := x.2.2.2.2.2.2.2.1
  have hzn := hz.1
  have up2 : (0 : Int) ≤ p2.toInt ∧ p2.toInt ≤ 240 := rp2
  have up3 : (0 : Int) ≤ p3.toInt ∧ p3.toInt ≤ 240 := rp3
  have up4 : (-2147483648 : Int) ≤ p4.toInt ∧ p4.toInt ≤ 2147483647 := (rg_any p4)
  refine lv_aload_n hx hb dJ7_fill_fda19_0 rfl (lv_at hl 0 rfl) ?_
  refine c_len (n := 240) x L 24 q1 hq1 rfl (by decide) dJ7_fill_fda19_1 ?_
  refine lv_iload_n hx hb dJ7_fill_fda19_2 rfl (lv_at hl 1 rfl) ?_
  refine lv_iload_n hx hb dJ7_fill_fda19_3 rfl (lv_at hl 2 rfl) ?_
  have y1 : (240 : Int32).toInt = 240 := by decide
  refine c_sv (As := [.int (240 : Int32), .int p2, .int p3]) (rest := []) x hml L (c_krangeCheck l X g (240 : Int32) p2 p3 hX (by omega)) (wk_T kt_J7_rangeCheck_23922 kl_J7_13 kn_J7 (wk_all kd_J7_rangeCheck_23922)) rfl ⟨rfl, rfl⟩ hd_krangeCheck ⟨Nat.le_of_ble_eq_true rfl, Nat.le_of_ble_eq_true rfl⟩ rfl hl.1 rfl (lv_room (Nat.le_of_ble_eq_true rfl)) dJ7_fill_fda19_4 (fun  g2 H2 k2 hp2 L2 => ?_)
  refine lv_iload_n hx hb dJ7_fill_fda19_7 rfl (lv_at hl 1 rfl) ?_
  refine lv_istore (lv' := [(4, .int p2), (0, .ref (Z.ad 24 q1)), (1, .int p2), (2, .int p3), (3, .int p4)]) hx hb dJ7_fill_fda19_8 hl (by decide) rfl (fun ls hl => ?_)
  have j10_4 : ∀ (n : Nat) (a10_4_3 : Int32) (g4 : mSt) (H4 : Heap) (k4 : List Loc) (ls : Array Slot), mFr [768] g2 g4 → cL G Z H0 X g4 H4 k4 → rg (0) (240) a10_4_3 → lv_has ls 5 [(0, .ref (Z.ad 24 q1)), (2, .int p3), (3, .int p4), (4, .int a10_4_3)] → ((240 : Int) - a10_4_3.toInt).toNat = n → W p l e rm_kfill_24 s m args below meth c H4 k4 0 0 Q (F0 m 10 ls []) := by
    intro n
    induction n using Nat.strongRecOn with
    | _ n ih4 =>
      intro a10_4_3 g4 H4 k4 ls hF4 L4 ra10_4_3 hl hn4
      subst hn4
      have ua10_4_3 : (0 : Int) ≤ a10_4_3.toInt ∧ a10_4_3.toInt ≤ 240 := ra10_4_3
      refine lv_iload hx hb dJ7_fill_fda19_10 (lv_at hl 3 rfl) ?_
      refine lv_iload_n hx hb dJ7_fill_fda19_12 rfl (lv_at hl 1 rfl) ?_
      refine lv_icmp_ge (tgt := 27) hx hb dJ7_fill_fda19_13 (by decide) (fun c13_5 => ?_) (fun c13_5 => ?_)
      · skip
        have ic13_5 := Int32.le_iff_toInt_le.mp c13_5
        exact hQ _ _ _ _ _ dJ7_fill_fda19_27 L4 ⟨(mFr.tr (mFr.tr mFr.rf hp2.1 rfl) hF4 rfl), trivial⟩
      · skip
        have ic13_5 := Int32.lt_iff_toInt_lt.mp (rg_nle c13_5)
        have q6 : rg (0) (239) a10_4_3 := (rg_lt (rg_nle c13_5) ra10_4_3 rp3).1
        have uq6 : (0 : Int) ≤ a10_4_3.toInt ∧ a10_4_3.toInt ≤ 239 := q6
        have q7 : rg (1) (240) p3 := (rg_lt (rg_nle c13_5) ra10_4_3 rp3).2
        have uq7 : (1 : Int) ≤ p3.toInt ∧ p3.toInt ≤ 240 := q7
        refine lv_aload_n hx hb dJ7_fill_fda19_16 rfl (lv_at hl 0 rfl) ?_
        refine lv_iload hx hb dJ7_fill_fda19_17 (lv_at hl 3 rfl) ?_
        refine lv_iload_n hx hb dJ7_fill_fda19_19 rfl (lv_at hl 2 rfl) ?_
        refine c_st x L4 24 q1 768 hq1 rfl rfl q6 rfl (rg_any p4) dJ7_fill_fda19_20 (fun g8 H8 k8 eg8 L8 => ?_)
        obtain ⟨v9, ev9, fv9⟩ := inc_ex a10_4_3 (1) (1 : Int32) (by decide)
        have rv9 : rg (1) (240) v9 := (rg_add ev9 q6 kc_1 rfl).1
        have tv9 := (rg_add ev9 q6 kc_1 rfl).2
        have yv9 : (1 : Int32).toInt = 1 := by decide
        refine lv_iinc (v := v9) (lv' := [(4, .int v9), (0, .ref (Z.ad 24 q1)), (2, .int p3), (3, .int p4)]) hx hb dJ7_fill_fda19_21 hl (k := 3) rfl fv9 (by decide) rfl (fun ls hl => ?_)
        refine lv_goto (tgt := 10) hx hb dJ7_fill_fda19_24 (by decide) ?_
        exact ih4 _ (ms_up tv9 kc_1 q6 rfl rfl) v9 g8 _ _ ls (mFr.upE hF4 eg8 rfl) L8 (rg_w rv9 rfl) (lv_sub hl [1, 2, 3, 0] rfl) rfl
  exact j10_4 _ p2 g2 _ _ ls mFr.rf L2 (rg_w rp2 rfl) (lv_sub hl [1, 3, 4, 0] rfl) rfl
theorem c_kfill_24 (l : Launch) {G : cG} {Z : cZ} (X : Int) (g : mSt) (q1 : Nat) (p2 : Int32) (p3 : Int32) (p4 : Int32) (hX : 0 ≤ X ∧ X ≤ 2000000000) (hq1 : Z.al 24 q1) (rp2 : rg (0) (240) p2) (rp3 : rg (0) (240) p3) (h1 : p2.toInt ≤ p3.toInt) : Met l yJ7_fill_fda19 (wk (Cond.code yJ7_fill_fda19 cJ7_fill_fda19 5 none)) rm_kfill_24 (va_Pc [.ref (Z.ad 24 q1), .int p2, .int p3, .int p4] (cPre G Z X g)) (cQv G Z X (fun g1 => mFr [768] g g1 ∧ True)) 0 0 (cAd Z) := by
  refine Met.ofW (cc := cJ7_fill_fda19) (maxL := 5) (ret := none) (by decide) rfl ?_
  intro p e s m args below meth c s₁ B hml hv
  obtain ⟨rfl, hv⟩ := hv
  have hr := B.returns
  have hlocks := B.notSynchronized
  obtain ⟨x, L⟩ := c_start B rfl (fun w h => wk_in h) hv
  have hl := lv_entry ([.ref (Z.ad 24 q1), .int p2, .int p3, .int p4]) (n := 5) (Nat.le_of_ble_eq_true rfl)
  rw [lg_entry_eq]
  generalize (lg_sl ([.ref (Z.ad 24 q1), .int p2, .int p3, .int p4]) ++ List.replicate (5 - (lg_sl ([.ref (Z.ad 24 q1), .int p2, .int p3, .int p4])).length) Slot.unset).toArray = ls at hl ⊢
  exact w_kfill_24 x hml L hX q1 p2 p3 p4 hq1 rp2 rp3 h1 hl (fun pc' ls' g1 H1 locs1 hdg L hp => c_vret x L hr hlocks (Int.le_refl _) hp hdg)

def rm_kfill_35 : Room := { frames := 1, cells := 0, slots := 0, locals := 22 }
theorem hd_kfill_35 : yJ7_fill_fda19.cls ≠ "java/lang/invoke/MethodHandle" ∧ yJ7_fill_fda19.cls ≠ "java/lang/invoke/VarHandle" ∧ (parseMethodDescriptor yJ7_fill_fda19.desc).map (fun d => d.parameters.length) = some 4 := by decide +kernel
set_option maxHeartbeats 4000000 in
set_option maxRecDepth 100000 in
theorem w_kfill_35 {p : Program} {l : Launch} {e : Env} {s : State} {m : MethodId} {args : Array Value} {below : List Frame} {meth : Method} {c : Code} {H : Heap} {locs : List Loc} {Q : State → Prop} {ls : Array Slot} {G : cG} {Z : cZ} {g : mSt} {H0 : Heap} {X : Int} (x : cX p c cJ7_fill_fda19 s args (wk (Cond.code yJ7_fill_fda19 cJ7_fill_fda19 5 none)) m G Z RJ7 H0) (hml : c.maxLocals = 5) (L : cL G Z H0 X g H locs) (hX : 0 ≤ X ∧ X ≤ 2000000000) (q1 : Nat) (p2 : Int32) (p3 : Int32) (p4 : Int32) (hq1 : Z.al 35 q1) (rp2 : rg (0) (240) p2) (rp3 : rg (0) (240) p3) (h1 : p2.toInt ≤ p3.toInt) (hl : lv_has ls 5 [(0, .ref (Z.ad 35 q1)), (1, .int p2), (2, .int p3), (3, .int p4)]) (hQ : ∀ (pc' : Nat) (ls' : Array Slot) (g1 : mSt) (H1 : Heap) (locs1 : List Loc), decode cJ7_fill_fda19 pc' = .ok (.return_, 1) → cL G Z H0 X g1 H1 locs1 → (mFr [1120] g g1 ∧ True) → W p l e rm_kfill_35 s m args below meth c H1 locs1 0 0 Q (F0 m pc' ls' [])) : W p l e rm_kfill_35 s m args below meth c H locs 0 0 Q (F0 m 0 ls []) := by
  have hx := x.1
  have hb := x.2.1
  have hz := x.2.2.2.2.2.2.2.1
  have hzn := hz.1
  have up2 : (0 : Int) ≤ p2.toInt ∧ p2.toInt ≤ 240 := rp2
  have up3 : (0 : Int) ≤ p3.toInt ∧ p3.toInt ≤ 240 := rp3
  have up4 : (-2147483648 : Int) ≤ p4.toInt ∧ p4.toInt ≤ 2147483647 := (rg_any p4)
  refine lv_aload_n hx hb dJ7_fill_fda19_0 rfl (lv_at hl 0 rfl) ?_
  refine c_len (n := 240) x L 35 q1 hq1 rfl (by decide) dJ7_fill_fda19_1 ?_
  refine lv_iload_n hx hb dJ7_fill_fda19_2 rfl (lv_at hl 1 rfl) ?_
  refine lv_iload_n hx hb dJ7_fill_fda19_3 rfl (lv_at hl 2 rfl) ?_
  have y1 : (240 : Int32).toInt = 240 := by decide
  refine c_sv (As := [.int (240 : Int32), .int p2, .int p3]) (rest := []) x hml L (c_krangeCheck l X g (240 : Int32) p2 p3 hX (by omega)) (wk_T kt_J7_rangeCheck_23922 kl_J7_13 kn_J7 (wk_all kd_J7_rangeCheck_23922)) rfl ⟨rfl, rfl⟩ hd_krangeCheck ⟨Nat.le_of_ble_eq_true rfl, Nat.le_of_ble_eq_true rfl⟩ rfl hl.1 rfl (lv_room (Nat.le_of_ble_eq_true rfl)) dJ7_fill_fda19_4 (fun  g2 H2 k2 hp2 L2 => ?_)
  refine lv_iload_n hx hb dJ7_fill_fda19_7 rfl (lv_at hl 1 rfl) ?_
  refine lv_istore (lv' := [(4, .int p2), (0, .ref (Z.ad 35 q1)), (1, .int p2), (2, .int p3), (3, .int p4)]) hx hb dJ7_fill_fda19_8 hl (by decide) rfl (fun ls hl => ?_)
  have j10_4 : ∀ (n : Nat) (a10_4_3 : Int32) (g4 : mSt) (H4 : Heap) (k4 : List Loc) (ls : Array Slot), mFr [1120] g2 g4 → cL G Z H0 X g4 H4 k4 → rg (0) (240) a10_4_3 → lv_has ls 5 [(0, .ref (Z.ad 35 q1)), (2, .int p3), (3, .int p4), (4, .int a10_4_3)] → ((240 : Int) - a10_4_3.toInt).toNat = n → W p l e rm_kfill_35 s m args below meth c H4 k4 0 0 Q (F0 m 10 ls []) := by
    intro n
    induction n using Nat.strongRecOn with
    | _ n ih4 =>
      intro a10_4_3 g4 H4 k4 ls hF4 L4 ra10_4_3 hl hn4
      subst hn4
      have ua10_4_3 : (0 : Int) ≤ a10_4_3.toInt ∧ a10_4_3.toInt ≤ 240 := ra10_4_3
      refine lv_iload hx hb dJ7_fill_fda19_10 (lv_at hl 3 rfl) ?_
      refine lv_iload_n hx hb dJ7_fill_fda19_12 rfl (lv_at hl 1 rfl) ?_
      refine lv_icmp_ge (tgt := 27) hx hb dJ7_fill_fda19_13 (by decide) (fun c13_5 => ?_) (fun c13_5 => ?_)
      · skip
        have ic13_5 := Int32.le_iff_toInt_le.mp c13_5
        exact hQ _ _ _ _ _ dJ7_fill_fda19_27 L4 ⟨(mFr.tr (mFr.tr mFr.rf hp2.1 rfl) hF4 rfl), trivial⟩
      · skip
        have ic13_5 := Int32.lt_iff_toInt_lt.mp (rg_nle c13_5)
        have q6 : rg (0) (239) a10_4_3 := (rg_lt (rg_nle c13_5) ra10_4_3 rp3).1
        have uq6 : (0 : Int) ≤ a10_4_3.toInt ∧ a10_4_3.toInt ≤ 239 := q6
        have q7 : rg (1) (240) p3 := (rg_lt (rg_nle c13_5) ra10_4_3 rp3).2
        have uq7 : (1 : Int) ≤ p3.toInt ∧ p3.toInt ≤ 240 := q7
        refine lv_aload_n hx hb dJ7_fill_fda19_16 rfl (lv_at hl 0 rfl) ?_
        refine lv_iload hx hb dJ7_fill_fda19_17 (lv_at hl 3 rfl) ?_
        refine lv_iload_n hx hb dJ7_fill_fda19_19 rfl (lv_at hl 2 rfl) ?_
        refine c_st x L4 35 q1 1120 hq1 rfl rfl q6 rfl (rg_any p4) dJ7_fill_fda19_20 (fun g8 H8 k8 eg8 L8 => ?_)
        obtain ⟨v9, ev9, fv9⟩ := inc_ex a10_4_3 (1) (1 : Int32) (by decide)
        have rv9 : rg (1) (240) v9 := (rg_add ev9 q6 kc_1 rfl).1
        have tv9 := (rg_add ev9 q6 kc_1 rfl).2
        have yv9 : (1 : Int32).toInt = 1 := by decide
        refine lv_iinc (v := v9) (lv' := [(4, .int v9), (0, .ref (Z.ad 35 q1)), (2, .int p3), (3, .int p4)]) hx hb dJ7_fill_fda19_21 hl (k := 3) rfl fv9 (by decide) rfl (fun ls hl => ?_)
        refine lv_goto (tgt := 10) hx hb dJ7_fill_fda19_24 (by decide) ?_
        exact ih4 _ (ms_up tv9 kc_1 q6 rfl rfl) v9 g8 _ _ ls (mFr.upE hF4 eg8 rfl) L8 (rg_w rv9 rfl) (lv_sub hl [1, 2, 3, 0] rfl) rfl
  exact j10_4 _ p2 g2 _ _ ls mFr.rf L2 (rg_w rp2 rfl) (lv_sub hl [1, 3, 4, 0] rfl) rfl
theorem c_kfill_35 (l : Launch) {G : cG} {Z : cZ} (X : Int) (g : mSt) (q1 : Nat) (p2 : Int32) (p3 : Int32) (p4 : Int32) (hX : 0 ≤ X ∧ X ≤ 2000000000) (hq1 : Z.al 35 q1) (rp2 : rg (0) (240) p2) (rp3 : rg (0) (240) p3) (h1 : p2.toInt ≤ p3.toInt) : Met l yJ7_fill_fda19 (wk (Cond.code yJ7_fill_fda19 cJ7_fill_fda19 5 none)) rm_kfill_35 (va_Pc [.ref (Z.ad 35 q1), .int p2, .int p3, .int p4] (cPre G Z X g)) (cQv G Z X (fun g1 => mFr [1120] g g1 ∧ True)) 0 0 (cAd Z) := by
  refine Met.ofW (cc := cJ7_fill_fda19) (maxL := 5) (ret := none) (by decide) rfl ?_
  intro p e s m args below meth c s₁ B hml hv
  obtain ⟨rfl, hv⟩ := hv
  have hr := B.returns
  have hlocks := B.notSynchronized
  obtain ⟨x, L⟩ := c_start B rfl (fun w h => wk_in h) hv
  have hl := lv_entry ([.ref (Z.ad 35 q1), .int p2, .int p3, .int p4]) (n := 5) (Nat.le_of_ble_eq_true rfl)
  rw [lg_entry_eq]
  generalize (lg_sl ([.ref (Z.ad 35 q1), .int p2, .int p3, .int p4]) ++ List.replicate (5 - (lg_sl ([.ref (Z.ad 35 q1), .int p2, .int p3, .int p4])).length) Slot.unset).toArray = ls at hl ⊢
  exact w_kfill_35 x hml L hX q1 p2 p3 p4 hq1 rp2 rp3 h1 hl (fun pc' ls' g1 H1 locs1 hdg L hp => c_vret x L hr hlocks (Int.le_refl _) hp hdg)

def rm_kcloseFrame_24 : Room := { frames := 2, cells := 0, slots := 0, locals := 46 }
theorem hd_kcloseFrame_24 : yX11_closeFrame.cls ≠ "java/lang/invoke/MethodHandle" ∧ yX11_closeFrame.cls ≠ "java/lang/invoke/VarHandle" ∧ (parseMethodDescriptor yX11_closeFrame.desc).map (fun d => d.parameters.length) = some 2 := by decide +kernel
set_option maxHeartbeats 4000000 in
set_option maxRecDepth 100000 in
theorem w_kcloseFrame_24 {p : Program} {l : Launch} {e : Env} {s : State} {m : MethodId} {args : Array Value} {below : List Frame} {meth : Method} {c : Code} {H : Heap} {locs : List Loc} {Q : State → Prop} {ls : Array Slot} {G : cG} {Z : cZ} {g : mSt} {H0 : Heap} {X : Int} (x : cX p c cX11_closeFrame s args (wk (Cond.code yX11_closeFrame cX11_closeFrame 6 (some .int))) m G Z RX11 H0) (hml : c.maxLocals = 6) (L : cL G Z H0 X g H locs) (hX : 0 ≤ X ∧ X ≤ 2000000000) (q1 : Nat) (p2 : Int32) (hq1 : Z.al 24 q1) (hl : lv_has ls 6 [(0, .ref (Z.ad 24 q1)), (1, .int p2)]) (hQ : ∀ (pc' : Nat) (ls' : Array Slot) (r : Int32) (g1 : mSt) (H1 : Heap) (locs1 : List Loc), decode cX11_closeFrame pc' = .ok (.ireturn, 1) → cL G Z H0 X g1 H1 locs1 → (mFr [768] g g1 ∧ rg (0) (5) r ∧ True) → W p l e rm_kcloseFrame_24 s m args below meth c H1 locs1 0 0 Q (F0 m pc' ls' [.int r])) : W p l e rm_kcloseFrame_24 s m args below meth c H locs 0 0 Q (F0 m 0 ls []) := by
  have hx := x.1
  have hb := x.2.1
  have hz := x.2.2.2.2.2.2.2.1
  have hzn := hz.1
  have up2 : (-2147483648 : Int) ≤ p2.toInt ∧ p2.toInt ≤ 2147483647 := (rg_any p2)
  refine lv_iload_n hx hb dX11_closeFrame_0 rfl (lv_at hl 1 rfl) ?_
  refine lv_iconst (v := 1) hx hb dX11_closeFrame_1 (by decide) ?_
  refine lv_icmp_lt (tgt := 20) hx hb dX11_closeFrame_2 (by decide) (fun c2_1 => ?_) (fun c2_1 => ?_)
  · skip
    have ic2_1 := Int32.lt_iff_toInt_lt.mp c2_1
    have q2 : rg (-2147483648) (0) p2 := (rg_lt c2_1 (rg_any p2) kc_1).1
    have uq2 : (-2147483648 : Int) ≤ p2.toInt ∧ p2.toInt ≤ 0 := q2
    refine lv_iconst (v := 0) hx hb dX11_closeFrame_20 (by decide) ?_
    exact hQ _ _ (0 : Int32) _ _ _ dX11_closeFrame_21 L ⟨mFr.rf, rg_w kc_0 rfl, trivial⟩
  · skip
    have ic2_1 := Int32.le_iff_toInt_le.mp (rg_nlt c2_1)
    have q3 : rg (1) (2147483647) p2 := (rg_le (rg_nlt c2_1) kc_1 (rg_any p2)).2
    have uq3 : (1 : Int) ≤ p2.toInt ∧ p2.toInt ≤ 2147483647 := q3
    refine lv_iload_n hx hb dX11_closeFrame_5 rfl (lv_at hl 1 rfl) ?_
    refine lv_sipush (v := 200) hx hb dX11_closeFrame_6 (by decide) ?_
    refine lv_icmp_gt (tgt := 20) hx hb dX11_closeFrame_9 (by decide) (fun c9_4 => ?_) (fun c9_4 => ?_)
    · skip
      have ic9_4 := Int32.lt_iff_toInt_lt.mp c9_4
      have q5 : rg (201) (2147483647) p2 := (rg_lt c9_4 kc_200 q3).2
      have uq5 : (201 : Int) ≤ p2.toInt ∧ p2.toInt ≤ 2147483647 := q5
      refine lv_iconst (v := 0) hx hb dX11_closeFrame_20 (by decide) ?_
      exact hQ _ _ (0 : Int32) _ _ _ dX11_closeFrame_21 L ⟨mFr.rf, rg_w kc_0 rfl, trivial⟩
    · skip
      have ic9_4 := Int32.le_iff_toInt_le.mp (rg_nlt c9_4)
      have q6 : rg (1) (200) p2 := (rg_le (rg_nlt c9_4) q3 kc_200).1
      have uq6 : (1 : Int) ≤ p2.toInt ∧ p2.toInt ≤ 200 := q6
      refine lv_aload_n hx hb dX11_closeFrame_12 rfl (lv_at hl 0 rfl) ?_
      refine c_len (n := 240) x L 24 q1 hq1 rfl (by decide) dX11_closeFrame_13 ?_
      refine lv_sipush (v := 240) hx hb dX11_closeFrame_14 (by decide) ?_
      refine lv_icmp_ge (tgt := 22) hx hb dX11_closeFrame_17 (by decide) (fun c17_7 => ?_) (fun c17_7 => ?_)
      · skip
        refine lv_iload_n hx hb dX11_closeFrame_22 rfl (lv_at hl 1 rfl) ?_
        refine c_si (As := [.int p2]) (rest := []) x hml L (c_kcellsFor l X g p2 hX (rg_w q6 rfl)) (wk_T kt_X11_cellsFor kl_X11_361 kn_X11 (wk_all kd_X11_cellsFor)) rfl ⟨rfl, rfl⟩ hd_kcellsFor ⟨Nat.le_of_ble_eq_true rfl, Nat.le_of_ble_eq_true rfl⟩ rfl hl.1 rfl (lv_room (Nat.le_of_ble_eq_true rfl)) dX11_closeFrame_23 (fun v9 g8 H8 k8 hp8 L8 => ?_)
        have rv9 : rg (1) (5) v9 := hp8.2.1
        have uv9 : (1 : Int) ≤ v9.toInt ∧ v9.toInt ≤ 5 := rv9
        have hw10 := hp8.2.2
        refine lv_istore_n (lv' := [(2, .int v9), (0, .ref (Z.ad 24 q1)), (1, .int p2)]) hx hb dX11_closeFrame_26 rfl hl (by decide) rfl (fun ls hl => ?_)
        refine lv_iload_n hx hb dX11_closeFrame_27 rfl (lv_at hl 0 rfl) ?_
        refine lv_bipush (v := 48) hx hb dX11_closeFrame_28 (by decide) ?_
        refine lv_imul hx hb dX11_closeFrame_30 ?_
        refine lv_topi (fun v11 ev11 => ?_)
        have rv11 : rg (48) (240) v11 := (rg_mul ev11 rv9 kc_48 rfl).1
        have tv11 := (rg_mul ev11 rv9 kc_48 rfl).2
        have y12 : (48 : Int32).toInt = 48 := by decide
        have uv11 : (48 : Int) ≤ v11.toInt ∧ v11.toInt ≤ 240 := rv11
        refine lv_istore_n (lv' := [(3, .int v11), (2, .int v9), (0, .ref (Z.ad 24 q1)), (1, .int p2)]) hx hb dX11_closeFrame_31 rfl hl (by decide) rfl (fun ls hl => ?_)
        refine lv_aload_n hx hb dX11_closeFrame_32 rfl (lv_at hl 2 rfl) ?_
        refine lv_iload_n hx hb dX11_closeFrame_33 rfl (lv_at hl 3 rfl) ?_
        refine lv_iload_n hx hb dX11_closeFrame_34 rfl (lv_at hl 0 rfl) ?_
        refine lv_iconst (v := 0) hx hb dX11_closeFrame_35 (by decide) ?_
        have y13 : (0 : Int32).toInt = 0 := by decide
        refine c_sv (As := [.ref (Z.ad 24 q1), .int p2, .int v11, .int (0 : Int32)]) (rest := []) x hml L8 (c_kfill_24 l X g8 q1 p2 v11 (0 : Int32) hX hq1 (rg_w q6 rfl) (rg_w rv11 rfl) (by omega)) (wk_T kt_J7_fill_fda19 kl_X11_364 kn_J7 (wk_all kd_J7_fill_fda19)) rfl ⟨rfl, rfl⟩ hd_kfill_24 ⟨Nat.le_of_ble_eq_true rfl, Nat.le_of_ble_eq_true rfl⟩ rfl hl.1 rfl (lv_room (Nat.le_of_ble_eq_true rfl)) dX11_closeFrame_36 (fun  g14 H14 k14 hp14 L14 => ?_)
        refine lv_aload_n hx hb dX11_closeFrame_39 rfl (lv_at hl 2 rfl) ?_
        refine lv_iload_n hx hb dX11_closeFrame_40 rfl (lv_at hl 0 rfl) ?_
        refine lv_bipush (v := 6) hx hb dX11_closeFrame_41 (by decide) ?_
        refine lv_isub hx hb dX11_closeFrame_43 ?_
        refine lv_topi (fun v15 ev15 => ?_)
        have rv15 : rg (42) (234) v15 := (rg_sub ev15 rv11 kc_6 rfl).1
        have tv15 := (rg_sub ev15 rv11 kc_6 rfl).2
        have y16 : (6 : Int32).toInt = 6 := by decide
        have uv15 : (42 : Int) ≤ v15.toInt ∧ v15.toInt ≤ 234 := rv15
        refine lv_iload_n hx hb dX11_closeFrame_44 rfl (lv_at hl 3 rfl) ?_
        refine lv_bipush (v := 8) hx hb dX11_closeFrame_45 (by decide) ?_
        refine lv_iushr hx hb dX11_closeFrame_47 rfl ?_
        refine lv_topi (fun v17 ev17 => ?_)
        have rv17 : rg (0) (16777215) v17 := rg_ush ev17 8 rfl
        have uv17 : (0 : Int) ≤ v17.toInt ∧ v17.toInt ≤ 16777215 := rv17
        refine c_st x L14 24 q1 768 hq1 rfl rfl rv15 rfl (rg_any v17) dX11_closeFrame_48 (fun g18 H18 k18 eg18 L18 => ?_)
        refine lv_aload_n hx hb dX11_closeFrame_49 rfl (lv_at hl 2 rfl) ?_
        refine lv_iload_n hx hb dX11_closeFrame_50 rfl (lv_at hl 0 rfl) ?_
        refine lv_iconst (v := 5) hx hb dX11_closeFrame_51 (by decide) ?_
        refine lv_isub hx hb dX11_closeFrame_52 ?_
        refine lv_topi (fun v19 ev19 => ?_)
        have rv19 : rg (43) (235) v19 := (rg_sub ev19 rv11 kc_5 rfl).1
        have tv19 := (rg_sub ev19 rv11 kc_5 rfl).2
        have y20 : (5 : Int32).toInt = 5 := by decide
        have uv19 : (43 : Int) ≤ v19.toInt ∧ v19.toInt ≤ 235 := rv19
        refine lv_iload_n hx hb dX11_closeFrame_53 rfl (lv_at hl 3 rfl) ?_
        refine lv_sipush (v := 255) hx hb dX11_closeFrame_54 (by decide) ?_
        refine lv_iand hx hb dX11_closeFrame_57 ?_
        refine lv_topi (fun v21 ev21 => ?_)
        have rv21 : rg (0) (255) v21 := rg_and ev21 8 255 (by decide) rfl
        have uv21 : (0 : Int) ≤ v21.toInt ∧ v21.toInt ≤ 255 := rv21
        refine c_st x L18 24 q1 768 hq1 rfl rfl rv19 rfl (rg_any v21) dX11_closeFrame_58 (fun g22 H22 k22 eg22 L22 => ?_)
        refine lv_aload_n hx hb dX11_closeFrame_59 rfl (lv_at hl 2 rfl) ?_
        refine lv_iload_n hx hb dX11_closeFrame_60 rfl (lv_at hl 0 rfl) ?_
        refine lv_iconst (v := 4) hx hb dX11_closeFrame_61 (by decide) ?_
        refine lv_isub hx hb dX11_closeFrame_62 ?_
        refine lv_topi (fun v23 ev23 => ?_)
        have rv23 : rg (44) (236) v23 := (rg_sub ev23 rv11 kc_4 rfl).1
        have tv23 := (rg_sub ev23 rv11 kc_4 rfl).2
        have y24 : (4 : Int32).toInt = 4 := by decide
        have uv23 : (44 : Int) ≤ v23.toInt ∧ v23.toInt ≤ 236 := rv23
        refine c_si (As := [.ref (Z.ad 24 q1), .int v23]) (rest := []) x hml L22 (c_kcrcOf_24 l X g22 q1 v23 hX hq1) (wk_T kt_X11_crcOf kl_X11_346 kn_X11 (wk_all kd_X11_crcOf)) rfl ⟨rfl, rfl⟩ hd_kcrcOf_24 ⟨Nat.le_of_ble_eq_true rfl, Nat.le_of_ble_eq_true rfl⟩ rfl hl.1 rfl (lv_room (Nat.le_of_ble_eq_true rfl)) dX11_closeFrame_63 (fun v26 g25 H25 k25 hp25 L25 => ?_)
        have rv26 : rg (-2147483648) (2147483647) v26 := hp25.2.1
        have uv26 : (-2147483648 : Int) ≤ v26.toInt ∧ v26.toInt ≤ 2147483647 := rv26
        refine lv_istore (lv' := [(4, .int v26), (3, .int v11), (2, .int v9), (0, .ref (Z.ad 24 q1)), (1, .int p2)]) hx hb dX11_closeFrame_66 hl (by decide) rfl (fun ls hl => ?_)
        refine lv_iconst (v := 1) hx hb dX11_closeFrame_68 (by decide) ?_
        refine lv_istore (lv' := [(5, .int (1 : Int32)), (4, .int v26), (3, .int v11), (2, .int v9), (0, .ref (Z.ad 24 q1)), (1, .int p2)]) hx hb dX11_closeFrame_69 hl (by decide) rfl (fun ls hl => ?_)
        have j71_29 : ∀ (n : Nat) (a71_4_27 a71_5_28 : Int32) (g29 : mSt) (H29 : Heap) (k29 : List Loc) (ls : Array Slot), mFr [768] g25 g29 → cL G Z H0 X g29 H29 k29 → rg (-2147483648) (2147483647) a71_4_27 → rg (1) (5) a71_5_28 → lv_has ls 6 [(0, .ref (Z.ad 24 q1)), (2, .int v9), (3, .int v11), (4, .int a71_4_27), (5, .int a71_5_28)] → ((5 : Int) - a71_5_28.toInt).toNat = n → W p l e rm_kcloseFrame_24 s m args below meth c H29 k29 0 0 Q (F0 m 71 ls []) := by
          intro n
          induction n using Nat.strongRecOn with
          | _ n ih29 =>
            intro a71_4_27 a71_5_28 g29 H29 k29 ls hF29 L29 ra71_4_27 ra71_5_28 hl hn29
            subst hn29
            have ua71_4_27 : (-2147483648 : Int) ≤ a71_4_27.toInt ∧ a71_4_27.toInt ≤ 2147483647 := ra71_4_27
            have ua71_5_28 : (1 : Int) ≤ a71_5_28.toInt ∧ a71_5_28.toInt ≤ 5 := ra71_5_28
            refine lv_iload hx hb dX11_closeFrame_71 (lv_at hl 4 rfl) ?_
            refine lv_iconst (v := 4) hx hb dX11_closeFrame_73 (by decide) ?_
            refine lv_icmp_gt (tgt := 102) hx hb dX11_closeFrame_74 (by decide) (fun c74_30 => ?_) (fun c74_30 => ?_)
            · skip
              have ic74_30 := Int32.lt_iff_toInt_lt.mp c74_30
              have q31 : rg (5) (5) a71_5_28 := (rg_lt c74_30 kc_4 ra71_5_28).2
              have uq31 : (5 : Int) ≤ a71_5_28.toInt ∧ a71_5_28.toInt ≤ 5 := q31
              refine lv_iload_n hx hb dX11_closeFrame_102 rfl (lv_at hl 1 rfl) ?_
              exact hQ _ _ v9 _ _ _ dX11_closeFrame_103 L29 ⟨(mFr.tr (mFr.tr (mFr.upE (mFr.upE (mFr.tr (mFr.tr mFr.rf hp8.1 rfl) hp14.1 rfl) eg18 rfl) eg22 rfl) hp25.1 rfl) hF29 rfl), rg_w rv9 rfl, trivial⟩
            · skip
              have ic74_30 := Int32.le_iff_toInt_le.mp (rg_nlt c74_30)
              have q32 : rg (1) (4) a71_5_28 := (rg_le (rg_nlt c74_30) ra71_5_28 kc_4).1
              have uq32 : (1 : Int) ≤ a71_5_28.toInt ∧ a71_5_28.toInt ≤ 4 := q32
              refine lv_aload_n hx hb dX11_closeFrame_77 rfl (lv_at hl 0 rfl) ?_
              refine lv_iload_n hx hb dX11_closeFrame_78 rfl (lv_at hl 2 rfl) ?_
              refine lv_iload hx hb dX11_closeFrame_79 (lv_at hl 4 rfl) ?_
              refine lv_isub hx hb dX11_closeFrame_81 ?_
              refine lv_topi (fun v33 ev33 => ?_)
              have rv33 : rg (44) (239) v33 := (rg_sub ev33 rv11 q32 rfl).1
              have tv33 := (rg_sub ev33 rv11 q32 rfl).2
              have uv33 : (44 : Int) ≤ v33.toInt ∧ v33.toInt ≤ 239 := rv33
              refine lv_iload hx hb dX11_closeFrame_82 (lv_at hl 3 rfl) ?_
              refine lv_sipush (v := 255) hx hb dX11_closeFrame_84 (by decide) ?_
              refine lv_iand hx hb dX11_closeFrame_87 ?_
              refine lv_topi (fun v34 ev34 => ?_)
              have rv34 : rg (0) (255) v34 := rg_and ev34 8 255 (by decide) rfl
              have uv34 : (0 : Int) ≤ v34.toInt ∧ v34.toInt ≤ 255 := rv34
              refine c_st x L29 24 q1 768 hq1 rfl rfl rv33 rfl (rg_any v34) dX11_closeFrame_88 (fun g35 H35 k35 eg35 L35 => ?_)
              refine lv_iload hx hb dX11_closeFrame_89 (lv_at hl 3 rfl) ?_
              refine lv_bipush (v := 8) hx hb dX11_closeFrame_91 (by decide) ?_
              refine lv_iushr hx hb dX11_closeFrame_93 rfl ?_
              refine lv_topi (fun v36 ev36 => ?_)
              have rv36 : rg (0) (16777215) v36 := rg_ush ev36 8 rfl
              have uv36 : (0 : Int) ≤ v36.toInt ∧ v36.toInt ≤ 16777215 := rv36
              refine lv_istore (lv' := [(4, .int v36), (0, .ref (Z.ad 24 q1)), (2, .int v9), (3, .int v11), (5, .int a71_5_28)]) hx hb dX11_closeFrame_94 hl (by decide) rfl (fun ls hl => ?_)
              obtain ⟨v37, ev37, fv37⟩ := inc_ex a71_5_28 (1) (1 : Int32) (by decide)
              have rv37 : rg (2) (5) v37 := (rg_add ev37 q32 kc_1 rfl).1
              have tv37 := (rg_add ev37 q32 kc_1 rfl).2
              have yv37 : (1 : Int32).toInt = 1 := by decide
              refine lv_iinc (v := v37) (lv' := [(5, .int v37), (4, .int v36), (0, .ref (Z.ad 24 q1)), (2, .int v9), (3, .int v11)]) hx hb dX11_closeFrame_96 hl (k := 4) rfl fv37 (by decide) rfl (fun ls hl => ?_)
              refine lv_goto (tgt := 71) hx hb dX11_closeFrame_99 (by decide) ?_
              exact ih29 _ (ms_up tv37 kc_1 q32 rfl rfl) v36 v37 g35 _ _ ls (mFr.upE hF29 eg35 rfl) L35 (rg_w rv36 rfl) (rg_w rv37 rfl) (lv_sub hl [2, 3, 4, 1, 0] rfl) rfl
        have y38 : (1 : Int32).toInt = 1 := by decide
        exact j71_29 _ v26 (1 : Int32) g25 _ _ ls mFr.rf L25 (rg_w rv26 rfl) (rg_w kc_1 rfl) (lv_sub hl [4, 3, 2, 1, 0] rfl) rfl
      · skip
        exact absurd c17_7 (by decide)
theorem c_kcloseFrame_24 (l : Launch) {G : cG} {Z : cZ} (X : Int) (g : mSt) (q1 : Nat) (p2 : Int32) (hX : 0 ≤ X ∧ X ≤ 2000000000) (hq1 : Z.al 24 q1) : Met l yX11_closeFrame (wk (Cond.code yX11_closeFrame cX11_closeFrame 6 (some .int))) rm_kcloseFrame_24 (va_Pc [.ref (Z.ad 24 q1), .int p2] (cPre G Z X g)) (cQi G Z X (fun r g1 => mFr [768] g g1 ∧ rg (0) (5) r ∧ True)) 0 0 (cAd Z) := by
  refine Met.ofW (cc := cX11_closeFrame) (maxL := 6) (ret := (some .int)) (by decide) rfl ?_
  intro p e s m args below meth c s₁ B hml hv
  obtain ⟨rfl, hv⟩ := hv
  have hr := B.returns
  have hlocks := B.notSynchronized
  obtain ⟨x, L⟩ := c_start B rfl (fun w h => wk_in h) hv
  have hl := lv_entry ([.ref (Z.ad 24 q1), .int p2]) (n := 6) (Nat.le_of_ble_eq_true rfl)
  rw [lg_entry_eq]
  generalize (lg_sl ([.ref (Z.ad 24 q1), .int p2]) ++ List.replicate (6 - (lg_sl ([.ref (Z.ad 24 q1), .int p2])).length) Slot.unset).toArray = ls at hl ⊢
  exact w_kcloseFrame_24 x hml L hX q1 p2 hq1 hl (fun pc' ls' r g1 H1 locs1 hdg L hp => c_iret x L hr hlocks (Int.le_refl _) hp hdg)

def rm_kcloseFrame_35 : Room := { frames := 2, cells := 0, slots := 0, locals := 46 }
theorem hd_kcloseFrame_35 : yX11_closeFrame.cls ≠ "java/lang/invoke/MethodHandle" ∧ yX11_closeFrame.cls ≠ "java/lang/invoke/VarHandle" ∧ (parseMethodDescriptor yX11_closeFrame.desc).map (fun d => d.parameters.length) = some 2 := by decide +kernel
set_option maxHeartbeats 4000000 in
set_option maxRecDepth 100000 in
theorem w_kcloseFrame_35 {p : Program} {l : Launch} {e : Env} {s : State} {m : MethodId} {args : Array Value} {below : List Frame} {meth : Method} {c : Code} {H : Heap} {locs : List Loc} {Q : State → Prop} {ls : Array Slot} {G : cG} {Z : cZ} {g : mSt} {H0 : Heap} {X : Int} (x : cX p c cX11_closeFrame s args (wk (Cond.code yX11_closeFrame cX11_closeFrame 6 (some .int))) m G Z RX11 H0) (hml : c.maxLocals = 6) (L : cL G Z H0 X g H locs) (hX : 0 ≤ X ∧ X ≤ 2000000000) (q1 : Nat) (p2 : Int32) (hq1 : Z.al 35 q1) (hl : lv_has ls 6 [(0, .ref (Z.ad 35 q1)), (1, .int p2)]) (hQ : ∀ (pc' : Nat) (ls' : Array Slot) (r : Int32) (g1 : mSt) (H1 : Heap) (locs1 : List Loc), decode cX11_closeFrame pc' = .ok (.ireturn, 1) → cL G Z H0 X g1 H1 locs1 → (mFr [1120] g g1 ∧ rg (0) (5) r ∧ True) → W p l e rm_kcloseFrame_35 s m args below meth c H1 locs1 0 0 Q (F0 m pc' ls' [.int r])) : W p l e rm_kcloseFrame_35 s m args below meth c H locs 0 0 Q (F0 m 0 ls []) := by
  have hx := x.1
  have hb := x.2.1
  have hz := x.2.2.2.2.2.2.2.1
  have hzn := hz.1
  have up2 : (-2147483648 : Int) ≤ p2.toInt ∧ p2.toInt ≤ 2147483647 := (rg_any p2)
  refine lv_iload_n hx hb dX11_closeFrame_0 rfl (lv_at hl 1 rfl) ?_
  refine lv_iconst (v := 1) hx hb dX11_closeFrame_1 (by decide) ?_
  refine lv_icmp_lt (tgt := 20) hx hb dX11_closeFrame_2 (by decide) (fun c2_1 => ?_) (fun c2_1 => ?_)
  · skip
    have ic2_1 := Int32.lt_iff_toInt_lt.mp c2_1
    have q2 : rg (-2147483648) (0) p2 := (rg_lt c2_1 (rg_any p2) kc_1).1
    have uq2 : (-2147483648 : Int) ≤ p2.toInt ∧ p2.toInt ≤ 0 := q2
    refine lv_iconst (v := 0) hx hb dX11_closeFrame_20 (by decide) ?_
    exact hQ _ _ (0 : Int32) _ _ _ dX11_closeFrame_21 L ⟨mFr.rf, rg_w kc_0 rfl, trivial⟩
  · skip
    have ic2_1 := Int32.le_iff_toInt_le.mp (rg_nlt c2_1)
    have q3 : rg (1) (2147483647) p2 := (rg_le (rg_nlt c2_1) kc_1 (rg_any p2)).2
    have uq3 : (1 : Int) ≤ p2.toInt ∧ p2.toInt ≤ 2147483647 := q3
    refine lv_iload_n hx hb dX11_closeFrame_5 rfl (lv_at hl 1 rfl) ?_
    refine lv_sipush (v := 200) hx hb dX11_closeFrame_6 (by decide) ?_
    refine lv_icmp_gt (tgt := 20) hx hb dX11_closeFrame_9 (by decide) (fun c9_4 => ?_) (fun c9_4 => ?_)
    · skip
      have ic9_4 := Int32.lt_iff_toInt_lt.mp c9_4
      have q5 : rg (201) (2147483647) p2 := (rg_lt c9_4 kc_200 q3).2
      have uq5 : (201 : Int) ≤ p2.toInt ∧ p2.toInt ≤ 2147483647 := q5
      refine lv_iconst (v := 0) hx hb dX11_closeFrame_20 (by decide) ?_
      exact hQ _ _ (0 : Int32) _ _ _ dX11_closeFrame_21 L ⟨mFr.rf, rg_w kc_0 rfl, trivial⟩
    · skip
      have ic9_4 := Int32.le_iff_toInt_le.mp (rg_nlt c9_4)
      have q6 : rg (1) (200) p2 := (rg_le (rg_nlt c9_4) q3 kc_200).1
      have uq6 : (1 : Int) ≤ p2.toInt ∧ p2.toInt ≤ 200 := q6
      refine lv_aload_n hx hb dX11_closeFrame_12 rfl (lv_at hl 0 rfl) ?_
      refine c_len (n := 240) x L 35 q1 hq1 rfl (by decide) dX11_closeFrame_13 ?_
      refine lv_sipush (v := 240) hx hb dX11_closeFrame_14 (by decide) ?_
      refine lv_icmp_ge (tgt := 22) hx hb dX11_closeFrame_17 (by decide) (fun c17_7 => ?_) (fun c17_7 => ?_)
      · skip
        refine lv_iload_n hx hb dX11_closeFrame_22 rfl (lv_at hl 1 rfl) ?_
        refine c_si (As := [.int p2]) (rest := []) x hml L (c_kcellsFor l X g p2 hX (rg_w q6 rfl)) (wk_T kt_X11_cellsFor kl_X11_361 kn_X11 (wk_all kd_X11_cellsFor)) rfl ⟨rfl, rfl⟩ hd_kcellsFor ⟨Nat.le_of_ble_eq_true rfl, Nat.le_of_ble_eq_true rfl⟩ rfl hl.1 rfl (lv_room (Nat.le_of_ble_eq_true rfl)) dX11_closeFrame_23 (fun v9 g8 H8 k8 hp8 L8 => ?_)
        have rv9 : rg (1) (5) v9 := hp8.2.1
        have uv9 : (1 : Int) ≤ v9.toInt ∧ v9.toInt ≤ 5 := rv9
        have hw10 := hp8.2.2
        refine lv_istore_n (lv' := [(2, .int v9), (0, .ref (Z.ad 35 q1)), (1, .int p2)]) hx hb dX11_closeFrame_26 rfl hl (by decide) rfl (fun ls hl => ?_)
        refine lv_iload_n hx hb dX11_closeFrame_27 rfl (lv_at hl 0 rfl) ?_
        refine lv_bipush (v := 48) hx hb dX11_closeFrame_28 (by decide) ?_
        refine lv_imul hx hb dX11_closeFrame_30 ?_
        refine lv_topi (fun v11 ev11 => ?_)
        have rv11 : rg (48) (240) v11 := (rg_mul ev11 rv9 kc_48 rfl).1
        have tv11 := (rg_mul ev11 rv9 kc_48 rfl).2
        have y12 : (48 : Int32).toInt = 48 := by decide
        have uv11 : (48 : Int) ≤ v11.toInt ∧ v11.toInt ≤ 240 := rv11
        refine lv_istore_n (lv' := [(3, .int v11), (2, .int v9), (0, .ref (Z.ad 35 q1)), (1, .int p2)]) hx hb dX11_closeFrame_31 rfl hl (by decide) rfl (fun ls hl => ?_)
        refine lv_aload_n hx hb dX11_closeFrame_32 rfl (lv_at hl 2 rfl) ?_
        refine lv_iload_n hx hb dX11_closeFrame_33 rfl (lv_at hl 3 rfl) ?_
        refine lv_iload_n hx hb dX11_closeFrame_34 rfl (lv_at hl 0 rfl) ?_
        refine lv_iconst (v := 0) hx hb dX11_closeFrame_35 (by decide) ?_
        have y13 : (0 : Int32).toInt = 0 := by decide
        refine c_sv (As := [.ref (Z.ad 35 q1), .int p2, .int v11, .int (0 : Int32)]) (rest := []) x hml L8 (c_kfill_35 l X g8 q1 p2 v11 (0 : Int32) hX hq1 (rg_w q6 rfl) (rg_w rv11 rfl) (by omega)) (wk_T kt_J7_fill_fda19 kl_X11_364 kn_J7 (wk_all kd_J7_fill_fda19)) rfl ⟨rfl, rfl⟩ hd_kfill_35 ⟨Nat.le_of_ble_eq_true rfl, Nat.le_of_ble_eq_true rfl⟩ rfl hl.1 rfl (lv_room (Nat.le_of_ble_eq_true rfl)) dX11_closeFrame_36 (fun  g14 H14 k14 hp14 L14 => ?_)
        refine lv_aload_n hx hb dX11_closeFrame_39 rfl (lv_at hl 2 rfl) ?_
        refine lv_iload_n hx hb dX11_closeFrame_40 rfl (lv_at hl 0 rfl) ?_
        refine lv_bipush (v := 6) hx hb dX11_closeFrame_41 (by decide) ?_
        refine lv_isub hx hb dX11_closeFrame_43 ?_
        refine lv_topi (fun v15 ev15 => ?_)
        have rv15 : rg (42) (234) v15 := (rg_sub ev15 rv11 kc_6 rfl).1
        have tv15 := (rg_sub ev15 rv11 kc_6 rfl).2
        have y16 : (6 : Int32).toInt = 6 := by decide
        have uv15 : (42 : Int) ≤ v15.toInt ∧ v15.toInt ≤ 234 := rv15
        refine lv_iload_n hx hb dX11_closeFrame_44 rfl (lv_at hl 3 rfl) ?_
        refine lv_bipush (v := 8) hx hb dX11_closeFrame_45 (by decide) ?_
        refine lv_iushr hx hb dX11_closeFrame_47 rfl ?_
        refine lv_topi (fun v17 ev17 => ?_)
        have rv17 : rg (0) (16777215) v17 := rg_ush ev17 8 rfl
        have uv17 : (0 : Int) ≤ v17.toInt ∧ v17.toInt ≤ 16777215 := rv17
        refine c_st x L14 35 q1 1120 hq1 rfl rfl rv15 rfl (rg_any v17) dX11_closeFrame_48 (fun g18 H18 k18 eg18 L18 => ?_)
        refine lv_aload_n hx hb dX11_closeFrame_49 rfl (lv_at hl 2 rfl) ?_
        refine lv_iload_n hx hb dX11_closeFrame_50 rfl (lv_at hl 0 rfl) ?_
        refine lv_iconst (v := 5) hx hb dX11_closeFrame_51 (by decide) ?_
        refine lv_isub hx hb dX11_closeFrame_52 ?_
        refine lv_topi (fun v19 ev19 => ?_)
        have rv19 : rg (43) (235) v19 := (rg_sub ev19 rv11 kc_5 rfl).1
        have tv19 := (rg_sub ev19 rv11 kc_5 rfl).2
        have y20 : (5 : Int32).toInt = 5 := by decide
        have uv19 : (43 : Int) ≤ v19.toInt ∧ v19.toInt ≤ 235 := rv19
        refine lv_iload_n hx hb dX11_closeFrame_53 rfl (lv_at hl 3 rfl) ?_
        refine lv_sipush (v := 255) hx hb dX11_closeFrame_54 (by decide) ?_
        refine lv_iand hx hb dX11_closeFrame_57 ?_
        refine lv_topi (fun v21 ev21 => ?_)
        have rv21 : rg (0) (255) v21 := rg_and ev21 8 255 (by decide) rfl
        have uv21 : (0 : Int) ≤ v21.toInt ∧ v21.toInt ≤ 255 := rv21
        refine c_st x L18 35 q1 1120 hq1 rfl rfl rv19 rfl (rg_any v21) dX11_closeFrame_58 (fun g22 H22 k22 eg22 L22 => ?_)
        refine lv_aload_n hx hb dX11_closeFrame_59 rfl (lv_at hl 2 rfl) ?_
        refine lv_iload_n hx hb dX11_closeFrame_60 rfl (lv_at hl 0 rfl) ?_
        refine lv_iconst (v := 4) hx hb dX11_closeFrame_61 (by decide) ?_
        refine lv_isub hx hb dX11_closeFrame_62 ?_
        refine lv_topi (fun v23 ev23 => ?_)
        have rv23 : rg (44) (236) v23 := (rg_sub ev23 rv11 kc_4 rfl).1
        have tv23 := (rg_sub ev23 rv11 kc_4 rfl).2
        have y24 : (4 : Int32).toInt = 4 := by decide
        have uv23 : (44 : Int) ≤ v23.toInt ∧ v23.toInt ≤ 236 := rv23
        refine c_si (As := [.ref (Z.ad 35 q1), .int v23]) (rest := []) x hml L22 (c_kcrcOf_35 l X g22 q1 v23 hX hq1) (wk_T kt_X11_crcOf kl_X11_346 kn_X11 (wk_all kd_X11_crcOf)) rfl ⟨rfl, rfl⟩ hd_kcrcOf_35 ⟨Nat.le_of_ble_eq_true rfl, Nat.le_of_ble_eq_true rfl⟩ rfl hl.1 rfl (lv_room (Nat.le_of_ble_eq_true rfl)) dX11_closeFrame_63 (fun v26 g25 H25 k25 hp25 L25 => ?_)
        have rv26 : rg (-2147483648) (2147483647) v26 := hp25.2.1
        have uv26 : (-2147483648 : Int) ≤ v26.toInt ∧ v26.toInt ≤ 2147483647 := rv26
        refine lv_istore (lv' := [(4, .int v26), (3, .int v11), (2, .int v9), (0, .ref (Z.ad 35 q1)), (1, .int p2)]) hx hb dX11_closeFrame_66 hl (by decide) rfl (fun ls hl => ?_)
        refine lv_iconst (v := 1) hx hb dX11_closeFrame_68 (by decide) ?_
        refine lv_istore (lv' := [(5, .int (1 : Int32)), (4, .int v26), (3, .int v11), (2, .int v9), (0, .ref (Z.ad 35 q1)), (1, .int p2)]) hx hb dX11_closeFrame_69 hl (by decide) rfl (fun ls hl => ?_)
        have j71_29 : ∀ (n : Nat) (a71_4_27 a71_5_28 : Int32) (g29 : mSt) (H29 : Heap) (k29 : List Loc) (ls : Array Slot), mFr [1120] g25 g29 → cL G Z H0 X g29 H29 k29 → rg (-2147483648) (2147483647) a71_4_27 → rg (1) (5) a71_5_28 → lv_has ls 6 [(0, .ref (Z.ad 35 q1)), (2, .int v9), (3, .int v11), (4, .int a71_4_27), (5, .int a71_5_28)] → ((5 : Int) - a71_5_28.toInt).toNat = n → W p l e rm_kcloseFrame_35 s m args below meth c H29 k29 0 0 Q (F0 m 71 ls []) := by
          intro n
          induction n using Nat.strongRecOn with
          | _ n ih29 =>
            intro a71_4_27 a71_5_28 g29 H29 k29 ls hF29 L29 ra71_4_27 ra71_5_28 hl hn29
            subst hn29
            have ua71_4_27 : (-2147483648 : Int) ≤ a71_4_27.toInt ∧ a71_4_27.toInt ≤ 2147483647 := ra71_4_27
            have ua71_5_28 : (1 : Int) ≤ a71_5_28.toInt ∧ a71_5_28.toInt ≤ 5 := ra71_5_28
            refine lv_iload hx hb dX11_closeFrame_71 (lv_at hl 4 rfl) ?_
            refine lv_iconst (v := 4) hx hb dX11_closeFrame_73 (by decide) ?_
            refine lv_icmp_gt (tgt := 102) hx hb dX11_closeFrame_74 (by decide) (fun c74_30 => ?_) (fun c74_30 => ?_)
            · skip
              have ic74_30 := Int32.lt_iff_toInt_lt.mp c74_30
              have q31 : rg (5) (5) a71_5_28 := (rg_lt c74_30 kc_4 ra71_5_28).2
              have uq31 : (5 : Int) ≤ a71_5_28.toInt ∧ a71_5_28.toInt ≤ 5 := q31
              refine lv_iload_n hx hb dX11_closeFrame_102 rfl (lv_at hl 1 rfl) ?_
              exact hQ _ _ v9 _ _ _ dX11_closeFrame_103 L29 ⟨(mFr.tr (mFr.tr (mFr.upE (mFr.upE (mFr.tr (mFr.tr mFr.rf hp8.1 rfl) hp14.1 rfl) eg18 rfl) eg22 rfl) hp25.1 rfl) hF29 rfl), rg_w rv9 rfl, trivial⟩
            · skip
              have ic74_30 := Int32.le_iff_toInt_le.mp (rg_nlt c74_30)
              have q32 : rg (1) (4) a71_5_28 := (rg_le (rg_nlt c74_30) ra71_5_28 kc_4).1
              have uq32 : (1 : Int) ≤ a71_5_28.toInt ∧ a71_5_28.toInt ≤ 4 := q32
              refine lv_aload_n hx hb dX11_closeFrame_77 rfl (lv_at hl 0 rfl) ?_
              refine lv_iload_n hx hb dX11_closeFrame_78 rfl (lv_at hl 2 rfl) ?_
              refine lv_iload hx hb dX11_closeFrame_79 (lv_at hl 4 rfl) ?_
              refine lv_isub hx hb dX11_closeFrame_81 ?_
              refine lv_topi (fun v33 ev33 => ?_)
              have rv33 : rg (44) (239) v33 := (rg_sub ev33 rv11 q32 rfl).1
              have tv33 := (rg_sub ev33 rv11 q32 rfl).2
              have uv33 : (44 : Int) ≤ v33.toInt ∧ v33.toInt ≤ 239 := rv33
              refine lv_iload hx hb dX11_closeFrame_82 (lv_at hl 3 rfl) ?_
              refine lv_sipush (v := 255) hx hb dX11_closeFrame_84 (by decide) ?_
              refine lv_iand hx hb dX11_closeFrame_87 ?_
              refine lv_topi (fun v34 ev34 => ?_)
              have rv34 : rg (0) (255) v34 := rg_and ev34 8 255 (by decide) rfl
              have uv34 : (0 : Int) ≤ v34.toInt ∧ v34.toInt ≤ 255 := rv34
              refine c_st x L29 35 q1 1120 hq1 rfl rfl rv33 rfl (rg_any v34) dX11_closeFrame_88 (fun g35 H35 k35 eg35 L35 => ?_)
              refine lv_iload hx hb dX11_closeFrame_89 (lv_at hl 3 rfl) ?_
              refine lv_bipush (v := 8) hx hb dX11_closeFrame_91 (by decide) ?_
              refine lv_iushr hx hb dX11_closeFrame_93 rfl ?_
              refine lv_topi (fun v36 ev36 => ?_)
              have rv36 : rg (0) (16777215) v36 := rg_ush ev36 8 rfl
              have uv36 : (0 : Int) ≤ v36.toInt ∧ v36.toInt ≤ 16777215 := rv36
              refine lv_istore (lv' := [(4, .int v36), (0, .ref (Z.ad 35 q1)), (2, .int v9), (3, .int v11), (5, .int a71_5_28)]) hx hb dX11_closeFrame_94 hl (by decide) rfl (fun ls hl => ?_)
              obtain ⟨v37, ev37, fv37⟩ := inc_ex a71_5_28 (1) (1 : Int32) (by decide)
              have rv37 : rg (2) (5) v37 := (rg_add ev37 q32 kc_1 rfl).1
              have tv37 := (rg_add ev37 q32 kc_1 rfl).2
              have yv37 : (1 : Int32).toInt = 1 := by decide
              refine lv_iinc (v := v37) (lv' := [(5, .int v37), (4, .int v36), (0, .ref (Z.ad 35 q1)), (2, .int v9), (3, .int v11)]) hx hb dX11_closeFrame_96 hl (k := 4) rfl fv37 (by decide) rfl (fun ls hl => ?_)
              refine lv_goto (tgt := 71) hx hb dX11_closeFrame_99 (by decide) ?_
              exact ih29 _ (ms_up tv37 kc_1 q32 rfl rfl) v36 v37 g35 _ _ ls (mFr.upE hF29 eg35 rfl) L35 (rg_w rv36 rfl) (rg_w rv37 rfl) (lv_sub hl [2, 3, 4, 1, 0] rfl) rfl
        have y38 : (1 : Int32).toInt = 1 := by decide
        exact j71_29 _ v26 (1 : Int32) g25 _ _ ls mFr.rf L25 (rg_w rv26 rfl) (rg_w kc_1 rfl) (lv_sub hl [4, 3, 2, 1, 0] rfl) rfl
      · skip
        exact absurd c17_7 (by decide)
theorem c_kcloseFrame_35 (l : Launch) {G : cG} {Z : cZ} (X : Int) (g : mSt) (q1 : Nat) (p2 : Int32) (hX : 0 ≤ X ∧ X ≤ 2000000000) (hq1 : Z.al 35 q1) : Met l yX11_closeFrame (wk (Cond.code yX11_closeFrame cX11_closeFrame 6 (some .int))) rm_kcloseFrame_35 (va_Pc [.ref (Z.ad 35 q1), .int p2] (cPre G Z X g)) (cQi G Z X (fun r g1 => mFr [1120] g g1 ∧ rg (0) (5) r ∧ True)) 0 0 (cAd Z) := by
  refine Met.ofW (cc := cX11_closeFrame) (maxL := 6) (ret := (some .int)) (by decide) rfl ?_
  intro p e s m args below meth c s₁ B hml hv
  obtain ⟨rfl, hv⟩ := hv
  have hr := B.returns
  have hlocks := B.notSynchronized
  obtain ⟨x, L⟩ := c_start B rfl (fun w h => wk_in h) hv
  have hl := lv_entry ([.ref (Z.ad 35 q1), .int p2]) (n := 6) (Nat.le_of_ble_eq_true rfl)
  rw [lg_entry_eq]
  generalize (lg_sl ([.ref (Z.ad 35 q1), .int p2]) ++ List.replicate (6 - (lg_sl ([.ref (Z.ad 35 q1), .int p2])).length) Slot.unset).toArray = ls at hl ⊢
  exact w_kcloseFrame_35 x hml L hX q1 p2 hq1 hl (fun pc' ls' r g1 H1 locs1 hdg L hp => c_iret x L hr hlocks (Int.le_refl _) hp hdg)

def rm_kqadd_24 : Room := { frames := 1, cells := 0, slots := 0, locals := 48 }
theorem hd_kqadd_24 : yX2_add.cls = cRn 2 ∧ yX2_add.cls ≠ "java/lang/invoke/MethodHandle" ∧ yX2_add.cls ≠ "java/lang/invoke/VarHandle" ∧ (parseMethodDescriptor yX2_add.desc).map (fun d => d.parameters.length) = some 3 := by decide +kernel
set_option maxHeartbeats 4000000 in
set_option maxRecDepth 100000 in
theorem w_kqadd_24 {p : Program} {l : Launch} {e : Env} {s : State} {m : MethodId} {args : Array Value} {below : List Frame} {meth : Method} {c : Code} {H : Heap} {locs : List Loc} {Q : State → Prop} {ls : Array Slot} {G : cG} {Z : cZ} {g : mSt} {H0 : Heap} {X : Int} (x : cX p c cX2_add s args (wk (Cond.code yX2_add cX2_add 5 (some .boolean))) m G Z RX2 H0) (hml : c.maxLocals = 5) (L : cL G Z H0 X g H locs) (hX : 0 ≤ X ∧ X ≤ 2000000000) (i0 : Nat) (p1 : Int32) (q2 : Nat) (p3 : Int32) (hi0 : i0 < 4 * Z.n) (hq2 : Z.al 24 q2) (rp3 : rg (0) (10000) p3) (hl : lv_has ls 5 [(0, .ref (Z.ad 2 i0)), (1, .int p1), (2, .ref (Z.ad 24 q2)), (3, .int p3)]) (hQ : ∀ (pc' : Nat) (ls' : Array Slot) (r : Int32) (g1 : mSt) (H1 : Heap) (locs1 : List Loc), decode cX2_add pc' = .ok (.ireturn, 1) → cL G Z H0 X g1 H1 locs1 → (mFr [67, 544, 576] g g1 ∧ rg (0) (1) r ∧ True) → W p l e rm_kqadd_24 s m args below meth c H1 locs1 0 0 Q (F0 m pc' ls' [.int r])) : W p l e rm_kqadd_24 s m args below meth c H locs 0 0 Q (F0 m 0 ls []) := by
  have hx := x.1
  have hb := x.2.1
  have hz := x.2.2.2.2.2.2.2.1
  have hzn := hz.1
  have hal0 : Z.al 2 i0 := hz.2 2 i0 (show i0 < 4 * Z.n from hi0)
  have up1 : (-2147483648 : Int) ≤ p1.toInt ∧ p1.toInt ≤ 2147483647 := (rg_any p1)
  have up3 : (0 : Int) ≤ p3.toInt ∧ p3.toInt ≤ 10000 := rp3
  refine lv_aload_n hx hb dX2_add_0 rfl (lv_at hl 0 rfl) ?_
  refine c_geti x L 2 i0 3 67 hal0 rfl rfl (wk_in kf_X2_18) dX2_add_1 (fun v1 ev1 wv1 => ?_)
  have rv1 : rg (0) (40) v1 := clj_67 wv1
  have uv1 : (0 : Int) ≤ v1.toInt ∧ v1.toInt ≤ 40 := rv1
  have sv1 := congrArg Int32.toInt ev1
  refine lv_bipush (v := 40) hx hb dX2_add_4 (by decide) ?_
  refine lv_icmp_ge (tgt := 22) hx hb dX2_add_6 (by decide) (fun c6_2 => ?_) (fun c6_2 => ?_)
  · skip
    have ic6_2 := Int32.le_iff_toInt_le.mp c6_2
    have q3 : rg (40) (40) v1 := (rg_le c6_2 kc_40 rv1).2
    have uq3 : (40 : Int) ≤ v1.toInt ∧ v1.toInt ≤ 40 := q3
    refine lv_iconst (v := 0) hx hb dX2_add_22 (by decide) ?_
    exact hQ _ _ (0 : Int32) _ _ _ dX2_add_23 L ⟨mFr.rf, rg_w kc_0 rfl, trivial⟩
  · skip
    have ic6_2 := Int32.lt_iff_toInt_lt.mp (rg_nle c6_2)
    have q4 : rg (0) (39) v1 := (rg_lt (rg_nle c6_2) rv1 kc_40).1
    have uq4 : (0 : Int) ≤ v1.toInt ∧ v1.toInt ≤ 39 := q4
    refine lv_iload_n hx hb dX2_add_9 rfl (lv_at hl 3 rfl) ?_
    refine lv_if_lt (tgt := 22) hx hb dX2_add_10 (by decide) (fun c10_5 => ?_) (fun c10_5 => ?_)
    · skip
      have ic10_5 := Int32.lt_iff_toInt_lt.mp c10_5
      exact absurd ((rg_lt c10_5 rp3 kc_0).1 : rg (0) (-1) p3) (fun q => rg_dead q rfl)
    · skip
      have ic10_5 := Int32.le_iff_toInt_le.mp (rg_nlt c10_5)
      refine lv_iload_n hx hb dX2_add_13 rfl (lv_at hl 3 rfl) ?_
      refine lv_bipush (v := 48) hx hb dX2_add_14 (by decide) ?_
      refine lv_iadd hx hb dX2_add_16 ?_
      refine lv_topi (fun v6 ev6 => ?_)
      have rv6 : rg (48) (10048) v6 := (rg_add ev6 rp3 kc_48 rfl).1
      have dv6 := (rg_add ev6 rp3 kc_48 rfl).2
      have tv6 := (rg_add ev6 rp3 kc_48 rfl).2
      have y7 : (48 : Int32).toInt = 48 := by decide
      have uv6 : (48 : Int) ≤ v6.toInt ∧ v6.toInt ≤ 10048 := rv6
      refine lv_aload_n hx hb dX2_add_17 rfl (lv_at hl 2 rfl) ?_
      refine c_len (n := 240) x L 24 q2 hq2 rfl (by decide) dX2_add_18 ?_
      refine lv_icmp_le (tgt := 24) hx hb dX2_add_19 (by decide) (fun c19_8 => ?_) (fun c19_8 => ?_)
      · skip
        have ic19_8 := Int32.le_iff_toInt_le.mp c19_8
        have q9 : rg (48) (240) v6 := (rg_le c19_8 rv6 kc_240).1
        have uq9 : (48 : Int) ≤ v6.toInt ∧ v6.toInt ≤ 240 := q9
        have q10 : rg (0) (192) p3 := rg_back dv6 kc_48 q9
        refine lv_aload_n hx hb dX2_add_24 rfl (lv_at hl 0 rfl) ?_
        refine c_geti x L 2 i0 2 66 hal0 rfl rfl (wk_in kf_X2_22) dX2_add_25 (fun v11 ev11 wv11 => ?_)
        have rv11 : rg (0) (39) v11 := clj_66 wv11
        have uv11 : (0 : Int) ≤ v11.toInt ∧ v11.toInt ≤ 39 := rv11
        have sv11 : v11.toInt = (g 66 i0).toInt := congrArg Int32.toInt (ev11.trans (congrFun ((show mFr [67, 544, 576] g g from mFr.rf).at 66 rfl) _))
        refine lv_aload_n hx hb dX2_add_28 rfl (lv_at hl 0 rfl) ?_
        refine c_geti x L 2 i0 3 67 hal0 rfl rfl (wk_in kf_X2_18) dX2_add_29 (fun v12 ev12 wv12 => ?_)
        refine m_top ((ev1).trans ev12.symm) ?_
        refine lv_iadd hx hb dX2_add_32 ?_
        refine lv_topi (fun v13 ev13 => ?_)
        have rv13 : rg (0) (78) v13 := (rg_add ev13 rv11 q4 rfl).1
        have tv13 := (rg_add ev13 rv11 q4 rfl).2
        have uv13 : (0 : Int) ≤ v13.toInt ∧ v13.toInt ≤ 78 := rv13
        refine lv_bipush (v := 40) hx hb dX2_add_33 (by decide) ?_
        refine lv_irem hx hb dX2_add_35 (by decide) ?_
        refine lv_topi (fun v14 ev14 => ?_)
        have rv14 : rg (0) (39) v14 := (rg_rem ev14 rv13 kc_40 rfl).1
        have tv14 := (rg_rem ev14 rv13 kc_40 rfl).2
        have y15 : (40 : Int32).toInt = 40 := by decide
        have uv14 : (0 : Int) ≤ v14.toInt ∧ v14.toInt ≤ 39 := rv14
        refine lv_istore (lv' := [(4, .int v14), (0, .ref (Z.ad 2 i0)), (1, .int p1), (2, .ref (Z.ad 24 q2)), (3, .int p3)]) hx hb dX2_add_36 hl (by decide) rfl (fun ls hl => ?_)
        refine lv_aload_n hx hb dX2_add_38 rfl (lv_at hl 1 rfl) ?_
        have al16 : Z.al 18 i0 := hz.2 18 i0 (show i0 < 4 * Z.n from (by omega))
        refine c_getr (a := Z.ad 18 i0) x L 2 i0 1 hal0 rfl rfl (wk_in kf_X2_15) dX2_add_39 ?_
        refine lv_iload hx hb dX2_add_42 (lv_at hl 0 rfl) ?_
        refine lv_iload_n hx hb dX2_add_44 rfl (lv_at hl 2 rfl) ?_
        refine c_st x L 18 i0 576 al16 rfl rfl rv14 rfl (rg_any p1) dX2_add_45 (fun g17 H17 k17 eg17 L17 => ?_)
        refine lv_aload_n hx hb dX2_add_46 rfl (lv_at hl 3 rfl) ?_
        refine lv_iload_n hx hb dX2_add_47 rfl (lv_at hl 4 rfl) ?_
        refine lv_aload_n hx hb dX2_add_48 rfl (lv_at hl 1 rfl) ?_
        have al18 : Z.al 17 i0 := hz.2 17 i0 (show i0 < 4 * Z.n from (by omega))
        refine c_getr (a := Z.ad 17 i0) x L17 2 i0 0 hal0 rfl rfl (wk_in kf_X2_9) dX2_add_49 ?_
        refine lv_iload hx hb dX2_add_52 (lv_at hl 0 rfl) ?_
        refine lv_bipush (v := 48) hx hb dX2_add_54 (by decide) ?_
        refine lv_imul hx hb dX2_add_56 ?_
        refine lv_topi (fun v19 ev19 => ?_)
        have rv19 : rg (0) (1872) v19 := (rg_mul ev19 rv14 kc_48 rfl).1
        have tv19 := (rg_mul ev19 rv14 kc_48 rfl).2
        have y20 : (48 : Int32).toInt = 48 := by decide
        have uv19 : (0 : Int) ≤ v19.toInt ∧ v19.toInt ≤ 1872 := rv19
        refine lv_bipush (v := 48) hx hb dX2_add_57 (by decide) ?_
        refine c_copy (rest := []) x (hml.trans hl.1.symm) L17 24 q2 17 i0 768 544 hq2 al18 rfl rfl rfl rfl ⟨rfl, rfl⟩ kl_X2_25 kw_cp (Int.le_trans (by decide) q10.1) (Int.le_trans (by decide) rv19.1) (Int.le_trans (by decide) kc_48.1) (Int.le_trans (Int.add_le_add q10.2 kc_48.2) (by decide)) (Int.le_trans (Int.add_le_add rv19.2 kc_48.2) (by decide)) (Nat.le_of_ble_eq_true rfl) (Nat.le_of_ble_eq_true rfl) dX2_add_59 (fun g21 H21 k21 ec21 L21 => ?_)
        refine lv_aload_n hx hb dX2_add_62 rfl (lv_at hl 1 rfl) ?_
        refine lv_dup hx hb dX2_add_63 rfl ?_
        refine c_geti x L21 2 i0 3 67 hal0 rfl rfl (wk_in kf_X2_18) dX2_add_64 (fun v22 ev22 wv22 => ?_)
        refine m_top (((mm_fr (mm_up ev1 eg17 rfl) (cCpy_fr ec21) rfl)).trans ev22.symm) ?_
        refine lv_iconst (v := 1) hx hb dX2_add_67 (by decide) ?_
        refine lv_iadd hx hb dX2_add_68 ?_
        refine lv_topi (fun v23 ev23 => ?_)
        have rv23 : rg (1) (40) v23 := (rg_add ev23 q4 kc_1 rfl).1
        have dv23 := (rg_add ev23 q4 kc_1 rfl).2
        have tv23 := (rg_add ev23 q4 kc_1 rfl).2
        have y24 : (1 : Int32).toInt = 1 := by decide
        have uv23 : (1 : Int) ≤ v23.toInt ∧ v23.toInt ≤ 40 := rv23
        refine c_puti x L21 2 i0 3 67 hal0 rfl rfl ⟨rfl, by decide +kernel⟩ (wk_in kf_X2_18) dX2_add_69 (crj_67 (rg_w rv23 rfl)) (fun g25 H25 k25 eg25 L25 => ?_)
        refine lv_iconst (v := 1) hx hb dX2_add_72 (by decide) ?_
        exact hQ _ _ (1 : Int32) _ _ _ dX2_add_73 L25 ⟨(mFr.upE (mFr.tr (mFr.upE mFr.rf eg17 rfl) (cCpy_fr ec21) rfl) eg25 rfl), rg_w kc_1 rfl, trivial⟩
      · skip
        have ic19_8 := Int32.lt_iff_toInt_lt.mp (rg_nle c19_8)
        have q26 : rg (241) (10048) v6 := (rg_lt (rg_nle c19_8) kc_240 rv6).2
        have uq26 : (241 : Int) ≤ v6.toInt ∧ v6.toInt ≤ 10048 := q26
        have q27 : rg (193) (10000) p3 := rg_back dv6 kc_48 q26
        refine lv_iconst (v := 0) hx hb dX2_add_22 (by decide) ?_
        exact hQ _ _ (0 : Int32) _ _ _ dX2_add_23 L ⟨mFr.rf, rg_w kc_0 rfl, trivial⟩
theorem c_kqadd_24 (l : Launch) {G : cG} {Z : cZ} (X : Int) (g : mSt) (i0 : Nat) (p1 : Int32) (q2 : Nat) (p3 : Int32) (hX : 0 ≤ X ∧ X ≤ 2000000000) (hi0 : i0 < 4 * Z.n) (hq2 : Z.al 24 q2) (rp3 : rg (0) (10000) p3) : Met l yX2_add (wk (Cond.code yX2_add cX2_add 5 (some .boolean))) rm_kqadd_24 (va_Pc [.ref (Z.ad 2 i0), .int p1, .ref (Z.ad 24 q2), .int p3] (cPre G Z X g)) (cQi G Z X (fun r g1 => mFr [67, 544, 576] g g1 ∧ rg (0) (1) r ∧ True)) 0 0 (cAd Z) := by
  refine Met.ofW (cc := cX2_add) (maxL := 5) (ret := (some .boolean)) (by decide) rfl ?_
  intro p e s m args below meth c s₁ B hml hv
  obtain ⟨rfl, hv⟩ := hv
  have hr := B.returns
  have hlocks := B.notSynchronized
  obtain ⟨x, L⟩ := c_start B rfl (fun w h => wk_in h) hv
  have hl := lv_entry ([.ref (Z.ad 2 i0), .int p1, .ref (Z.ad 24 q2), .int p3]) (n := 5) (Nat.le_of_ble_eq_true rfl)
  rw [lg_entry_eq]
  generalize (lg_sl ([.ref (Z.ad 2 i0), .int p1, .ref (Z.ad 24 q2), .int p3]) ++ List.replicate (5 - (lg_sl ([.ref (Z.ad 2 i0), .int p1, .ref (Z.ad 24 q2), .int p3])).length) Slot.unset).toArray = ls at hl ⊢
  exact w_kqadd_24 x hml L hX i0 p1 q2 p3 hi0 hq2 rp3 hl (fun pc' ls' r g1 H1 locs1 hdg L hp => c_zret x L hr hlocks (nar01 (rg_w hp.2.1 rfl)) (Int.le_refl _) hp hdg)

def rm_kqadd_25 : Room := { frames := 1, cells := 0, slots := 0, locals := 48 }
theorem hd_kqadd_25 : yX2_add.cls = cRn 2 ∧ yX2_add.cls ≠ "java/lang/invoke/MethodHandle" ∧ yX2_add.cls ≠ "java/lang/invoke/VarHandle" ∧ (parseMethodDescriptor yX2_add.desc).map (fun d => d.parameters.length) = some 3 := by decide +kernel
set_option maxHeartbeats 4000000 in
set_option maxRecDepth 100000 in
theorem w_kqadd_25 {p : Program} {l : Launch} {e : Env} {s : State} {m : MethodId} {args : Array Value} {below : List Frame} {meth : Method} {c : Code} {H : Heap} {locs : List Loc} {Q : State → Prop} {ls : Array Slot} {G : cG} {Z : cZ} {g : mSt} {H0 : Heap} {X : Int} (x : cX p c cX2_add s args (wk (Cond.code yX2_add cX2_add 5 (some .boolean))) m G Z RX2 H0) (hml : c.maxLocals = 5) (L : cL G Z H0 X g H locs) (hX : 0 ≤ X ∧ X ≤ 2000000000) (i0 : Nat) (p1 : Int32) (q2 : Nat) (p3 : Int32) (hi0 : i0 < 4 * Z.n) (hq2 : Z.al 25 q2) (rp3 : rg (0) (10000) p3) (hl : lv_has ls 5 [(0, .ref (Z.ad 2 i0)), (1, .int p1), (2, .ref (Z.ad 25 q2)), (3, .int p3)]) (hQ : ∀ (pc' : Nat) (ls' : Array Slot) (r : Int32) (g1 : mSt) (H1 : Heap) (locs1 : List Loc), decode cX2_add pc' = .ok (.ireturn, 1) → cL G Z H0 X g1 H1 locs1 → (mFr [67, 544, 576] g g1 ∧ rg (0) (1) r ∧ True) → W p l e rm_kqadd_25 s m args below meth c H1 locs1 0 0 Q (F0 m pc' ls' [.int r])) : W p l e rm_kqadd_25 s m args below meth c H locs 0 0 Q (F0 m 0 ls []) := by
  have hx := x.1
  have hb := x.2.1
  have hz := x.2.2.2.2.2.2.2.1
  have hzn := hz.1
  have hal0 : Z.al 2 i0 := hz.2 2 i0 (show i0 < 4 * Z.n from hi0)
  have up1 : (-2147483648 : Int) ≤ p1.toInt ∧ p1.toInt ≤ 2147483647 := (rg_any p1)
  have up3 : (0 : Int) ≤ p3.toInt ∧ p3.toInt ≤ 10000 := rp3
  refine lv_aload_n hx hb dX2_add_0 rfl (lv_at hl 0 rfl) ?_
  refine c_geti x L 2 i0 3 67 hal0 rfl rfl (wk_in kf_X2_18) dX2_add_1 (fun v1 ev1 wv1 => ?_)
  have rv1 : rg (0) (40) v1 := clj_67 wv1
  have uv1 : (0 : Int) ≤ v1.toInt ∧ v1.toInt ≤ 40 := rv1
  have sv1 := congrArg Int32.toInt ev1
  refine lv_bipush (v := 40) hx hb dX2_add_4 (by decide) ?_
  refine lv_icmp_ge (tgt := 22) hx hb dX2_add_6 (by decide) (fun c6_2 => ?_) (fun c6_2 => ?_)
  · skip
    have ic6_2 := Int32.le_iff_toInt_le.mp c6_2
    have q3 : rg (40) (40) v1 := (rg_le c6_2 kc_40 rv1).2
    have uq3 : (40 : Int) ≤ v1.toInt ∧ v1.toInt ≤ 40 := q3
    refine lv_iconst (v := 0) hx hb dX2_add_22 (by decide) ?_
    exact hQ _ _ (0 : Int32) _ _ _ dX2_add_23 L ⟨mFr.rf, rg_w kc_0 rfl, trivial⟩
  · skip
    have ic6_2 := Int32.lt_iff_toInt_lt.mp (rg_nle c6_2)
    have q4 : rg (0) (39) v1 := (rg_lt (rg_nle c6_2) rv1 kc_40).1
    have uq4 : (0 : Int) ≤ v1.toInt ∧ v1.toInt ≤ 39 := q4
    refine lv_iload_n hx hb dX2_add_9 rfl (lv_at hl 3 rfl) ?_
    refine lv_if_lt (tgt := 22) hx hb dX2_add_10 (by decide) (fun c10_5 => ?_) (fun c10_5 => ?_)
    · skip
      have ic10_5 := Int32.lt_iff_toInt_lt.mp c10_5
      exact absurd ((rg_lt c10_5 rp3 kc_0).1 : rg (0) (-1) p3) (fun q => rg_dead q rfl)
    · skip
      have ic10_5 := Int32.le_iff_toInt_le.mp (rg_nlt c10_5)
      refine lv_iload_n hx hb dX2_add_13 rfl (lv_at hl 3 rfl) ?_
      refine lv_bipush (v := 48) hx hb dX2_add_14 (by decide) ?_
      refine lv_iadd hx hb dX2_add_16 ?_
      refine lv_topi (fun v6 ev6 => ?_)
      have rv6 : rg (48) (10048) v6 := (rg_add ev6 rp3 kc_48 rfl).1
      have dv6 := (rg_add ev6 rp3 kc_48 rfl).2
      have tv6 := (rg_add ev6 rp3 kc_48 rfl).2
      have y7 : (48 : Int32).toInt = 48 := by decide
      have uv6 : (48 : Int) ≤ v6.toInt ∧ v6.toInt ≤ 10048 := rv6
      refine lv_aload_n hx hb dX2_add_17 rfl (lv_at hl 2 rfl) ?_
      refine c_len (n := 48) x L 25 q2 hq2 rfl (by decide) dX2_add_18 ?_
      refine lv_icmp_le (tgt := 24) hx hb dX2_add_19 (by decide) (fun c19_8 => ?_) (fun c19_8 => ?_)
      · skip
        have ic19_8 := Int32.le_iff_toInt_le.mp c19_8
        have q9 : rg (48) (48) v6 := (rg_le c19_8 rv6 kc_48).1
        have uq9 : (48 : Int) ≤ v6.toInt ∧ v6.toInt ≤ 48 := q9
        have q10 : rg (0) (0) p3 := rg_back dv6 kc_48 q9
        refine lv_aload_n hx hb dX2_add_24 rfl (lv_at hl 0 rfl) ?_
        refine c_geti x L 2 i0 2 66 hal0 rfl rfl (wk_in kf_X2_22) dX2_add_25 (fun v11 ev11 wv11 => ?_)
        have rv11 : rg (0) (39) v11 := clj_66 wv11
        have uv11 : (0 : Int) ≤ v11.toInt ∧ v11.toInt ≤ 39 := rv11
        have sv11 : v11.toInt = (g 66 i0).toInt := congrArg Int32.toInt (ev11.trans (congrFun ((show mFr [67, 544, 576] g g from mFr.rf).at 66 rfl) _))
        refine lv_aload_n hx hb dX2_add_28 rfl (lv_at hl 0 rfl) ?_
        refine c_geti x L 2 i0 3 67 hal0 rfl rfl (wk_in kf_X2_18) dX2_add_29 (fun v12 ev12 wv12 => ?_)
        refine m_top ((ev1).trans ev12.symm) ?_
        refine lv_iadd hx hb dX2_add_32 ?_
        refine lv_topi (fun v13 ev13 => ?_)
        have rv13 : rg (0) (78) v13 := (rg_add ev13 rv11 q4 rfl).1
        have tv13 := (rg_add ev13 rv11 q4 rfl).2
        have uv13 : (0 : Int) ≤ v13.toInt ∧ v13.toInt ≤ 78 := rv13
        refine lv_bipush (v := 40) hx hb dX2_add_33 (by decide) ?_
        refine lv_irem hx hb dX2_add_35 (by decide) ?_
        refine lv_topi (fun v14 ev14 => ?_)
        have rv14 : rg (0) (39) v14 := (rg_rem ev14 rv13 kc_40 rfl).1
        have tv14 := (rg_rem ev14 rv13 kc_40 rfl).2
        have y15 : (40 : Int32).toInt = 40 := by decide
        have uv14 : (0 : Int) ≤ v14.toInt ∧ v14.toInt ≤ 39 := rv14
        refine lv_istore (lv' := [(4, .int v14), (0, .ref (Z.ad 2 i0)), (1, .int p1), (2, .ref (Z.ad 25 q2)), (3, .int p3)]) hx hb dX2_add_36 hl (by decide) rfl (fun ls hl => ?_)
        refine lv_aload_n hx hb dX2_add_38 rfl (lv_at hl 1 rfl) ?_
        have al16 : Z.al 18 i0 := hz.2 18 i0 (show i0 < 4 * Z.n from (by omega))
        refine c_getr (a := Z.ad 18 i0) x L 2 i0 1 hal0 rfl rfl (wk_in kf_X2_15) dX2_add_39 ?_
        refine lv_iload hx hb dX2_add_42 (lv_at hl 0 rfl) ?_
        refine lv_iload_n hx hb dX2_add_44 rfl (lv_at hl 2 rfl) ?_
        refine c_st x L 18 i0 576 al16 rfl rfl rv14 rfl (rg_any p1) dX2_add_45 (fun g17 H17 k17 eg17 L17 => ?_)
        refine lv_aload_n hx hb dX2_add_46 rfl (lv_at hl 3 rfl) ?_
        refine lv_iload_n hx hb dX2_add_47 rfl (lv_at hl 4 rfl) ?_
        refine lv_aload_n hx hb dX2_add_48 rfl (lv_at hl 1 rfl) ?_
        have al18 : Z.al 17 i0 := hz.2 17 i0 (show i0 < 4 * Z.n from (by omega))
        refine c_getr (a := Z.ad 17 i0) x L17 2 i0 0 hal0 rfl rfl (wk_in kf_X2_9) dX2_add_49 ?_
        refine lv_iload hx hb dX2_add_52 (lv_at hl 0 rfl) ?_
        refine lv_bipush (v := 48) hx hb dX2_add_54 (by decide) ?_
        refine lv_imul hx hb dX2_add_56 ?_
        refine lv_topi (fun v19 ev19 => ?_)
        have rv19 : rg (0) (1872) v19 := (rg_mul ev19 rv14 kc_48 rfl).1
        have tv19 := (rg_mul ev19 rv14 kc_48 rfl).2
        have y20 : (48 : Int32).toInt = 48 := by decide
        have uv19 : (0 : Int) ≤ v19.toInt ∧ v19.toInt ≤ 1872 := rv19
        refine lv_bipush (v := 48) hx hb dX2_add_57 (by decide) ?_
        refine c_copy (rest := []) x (hml.trans hl.1.symm) L17 25 q2 17 i0 800 544 hq2 al18 rfl rfl rfl rfl ⟨rfl, rfl⟩ kl_X2_25 kw_cp (Int.le_trans (by decide) q10.1) (Int.le_trans (by decide) rv19.1) (Int.le_trans (by decide) kc_48.1) (Int.le_trans (Int.add_le_add q10.2 kc_48.2) (by decide)) (Int.le_trans (Int.add_le_add rv19.2 kc_48.2) (by decide)) (Nat.le_of_ble_eq_true rfl) (Nat.le_of_ble_eq_true rfl) dX2_add_59 (fun g21 H21 k21 ec21 L21 => ?_)
        refine lv_aload_n hx hb dX2_add_62 rfl (lv_at hl 1 rfl) ?_
        refine lv_dup hx hb dX2_add_63 rfl ?_
        refine c_geti x L21 2 i0 3 67 hal0 rfl rfl (wk_in kf_X2_18) dX2_add_64 (fun v22 ev22 wv22 => ?_)
        refine m_top (((mm_fr (mm_up ev1 eg17 rfl) (cCpy_fr ec21) rfl)).trans ev22.symm) ?_
        refine lv_iconst (v := 1) hx hb dX2_add_67 (by decide) ?_
        refine lv_iadd hx hb dX2_add_68 ?_
        refine lv_topi (fun v23 ev23 => ?_)
        have rv23 : rg (1) (40) v23 := (rg_add ev23 q4 kc_1 rfl).1
        have dv23 := (rg_add ev23 q4 kc_1 rfl).2
        have tv23 := (rg_add ev23 q4 kc_1 rfl).2
        have y24 : (1 : Int32).toInt = 1 := by decide
        have uv23 : (1 : Int) ≤ v23.toInt ∧ v23.toInt ≤ 40 := rv23
        refine c_puti x L21 2 i0 3 67 hal0 rfl rfl ⟨rfl, by decide +kernel⟩ (wk_in kf_X2_18) dX2_add_69 (crj_67 (rg_w rv23 rfl)) (fun g25 H25 k25 eg25 L25 => ?_)
        refine lv_iconst (v := 1) hx hb dX2_add_72 (by decide) ?_
        exact hQ _ _ (1 : Int32) _ _ _ dX2_add_73 L25 ⟨(mFr.upE (mFr.tr (mFr.upE mFr.rf eg17 rfl) (cCpy_fr ec21) rfl) eg25 rfl), rg_w kc_1 rfl, trivial⟩
      · skip
        have ic19_8 := Int32.lt_iff_toInt_lt.mp (rg_nle c19_8)
        have q26 : rg (49) (10048) v6 := (rg_lt (rg_nle c19_8) kc_48 rv6).2
        have uq26 : (49 : Int) ≤ v6.toInt ∧ v6.toInt ≤ 10048 := q26
        have q27 : rg (1) (10000) p3 := rg_back dv6 kc_48 q26
        refine lv_iconst (v := 0) hx hb dX2_add_22 (by decide) ?_
        exact hQ _ _ (0 : Int32) _ _ _ dX2_add_23 L ⟨mFr.rf, rg_w kc_0 rfl, trivial⟩
theorem c_kqadd_25 (l : Launch) {G : cG} {Z : cZ} (X : Int) (g : mSt) (i0 : Nat) (p1 : Int32) (q2 : Nat) (p3 : Int32) (hX : 0 ≤ X ∧ X ≤ 2000000000) (hi0 : i0 < 4 * Z.n) (hq2 : Z.al 25 q2) (rp3 : rg (0) (10000) p3) : Met l yX2_add (wk (Cond.code yX2_add cX2_add 5 (some .boolean))) rm_kqadd_25 (va_Pc [.ref (Z.ad 2 i0), .int p1, .ref (Z.ad 25 q2), .int p3] (cPre G Z X g)) (cQi G Z X (fun r g1 => mFr [67, 544, 576] g g1 ∧ rg (0) (1) r ∧ True)) 0 0 (cAd Z) := by
  refine Met.ofW (cc := cX2_add) (maxL := 5) (ret := (some .boolean)) (by decide) rfl ?_
  intro p e s m args below meth c s₁ B hml hv
  obtain ⟨rfl, hv⟩ := hv
  have hr := B.returns
  have hlocks := B.notSynchronized
  obtain ⟨x, L⟩ := c_start B rfl (fun w h => wk_in h) hv
  have hl := lv_entry ([.ref (Z.ad 2 i0), .int p1, .ref (Z.ad 25 q2), .int p3]) (n := 5) (Nat.le_of_ble_eq_true rfl)
  rw [lg_entry_eq]
  generalize (lg_sl ([.ref (Z.ad 2 i0), .int p1, .ref (Z.ad 25 q2), .int p3]) ++ List.replicate (5 - (lg_sl ([.ref (Z.ad 2 i0), .int p1, .ref (Z.ad 25 q2), .int p3])).length) Slot.unset).toArray = ls at hl ⊢
  exact w_kqadd_25 x hml L hX i0 p1 q2 p3 hi0 hq2 rp3 hl (fun pc' ls' r g1 H1 locs1 hdg L hp => c_zret x L hr hlocks (nar01 (rg_w hp.2.1 rfl)) (Int.le_refl _) hp hdg)

def rm_kqtake : Room := { frames := 1, cells := 0, slots := 0, locals := 48 }
theorem hd_kqtake : yX2_takeFirst.cls = cRn 2 ∧ yX2_takeFirst.cls ≠ "java/lang/invoke/MethodHandle" ∧ yX2_takeFirst.cls ≠ "java/lang/invoke/VarHandle" ∧ (parseMethodDescriptor yX2_takeFirst.desc).map (fun d => d.parameters.length) = some 2 := by decide +kernel
set_option maxHeartbeats 4000000 in
set_option maxRecDepth 100000 in
theorem w_kqtake {p : Program} {l : Launch} {e : Env} {s : State} {m : MethodId} {args : Array Value} {below : List Frame} {meth : Method} {c : Code} {H : Heap} {locs : List Loc} {Q : State → Prop} {ls : Array Slot} {G : cG} {Z : cZ} {g : mSt} {H0 : Heap} {X : Int} (x : cX p c cX2_takeFirst s args (wk (Cond.code yX2_takeFirst cX2_takeFirst 4 (some .int))) m G Z RX2 H0) (hml : c.maxLocals = 4) (L : cL G Z H0 X g H locs) (hX : 0 ≤ X ∧ X ≤ 2000000000) (i0 : Nat) (q1 : Nat) (p2 : Int32) (hi0 : i0 < 4 * Z.n) (hq1 : Z.al 19 q1) (rp2 : rg (0) (10000) p2) (hl : lv_has ls 4 [(0, .ref (Z.ad 2 i0)), (1, .ref (Z.ad 19 q1)), (2, .int p2)]) (hQ : ∀ (pc' : Nat) (ls' : Array Slot) (r : Int32) (g1 : mSt) (H1 : Heap) (locs1 : List Loc), decode cX2_takeFirst pc' = .ok (.ireturn, 1) → cL G Z H0 X g1 H1 locs1 → (mFr [66, 67, 608] g g1 ∧ rg (-2147483648) (2147483647) r ∧ True) → W p l e rm_kqtake s m args below meth c H1 locs1 0 0 Q (F0 m pc' ls' [.int r])) : W p l e rm_kqtake s m args below meth c H locs 0 0 Q (F0 m 0 ls []) := by
  have hx := x.1
  have hb := x.2.1
  have hz := x.2.2.2.2.2.2.2.1
  have hzn := hz.1
  have hal0 : Z.al 2 i0 := hz.2 2 i0 (show i0 < 4 * Z.n from hi0)
  have up2 : (0 : Int) ≤ p2.toInt ∧ p2.toInt ≤ 10000 := rp2
  refine lv_aload_n hx hb dX2_takeFirst_0 rfl (lv_at hl 0 rfl) ?_
  refine c_geti x L 2 i0 3 67 hal0 rfl rfl (wk_in kf_X2_18) dX2_takeFirst_1 (fun v1 ev1 wv1 => ?_)
  have rv1 : rg (0) (40) v1 := clj_67 wv1
  have uv1 : (0 : Int) ≤ v1.toInt ∧ v1.toInt ≤ 40 := rv1
  have sv1 := congrArg Int32.toInt ev1
  refine lv_iconst (v := 1) hx hb dX2_takeFirst_4 (by decide) ?_
  refine lv_icmp_lt (tgt := 21) hx hb dX2_takeFirst_5 (by decide) (fun c5_2 => ?_) (fun c5_2 => ?_)
  · skip
    have ic5_2 := Int32.lt_iff_toInt_lt.mp c5_2
    have q3 : rg (0) (0) v1 := (rg_lt c5_2 rv1 kc_1).1
    have uq3 : (0 : Int) ≤ v1.toInt ∧ v1.toInt ≤ 0 := q3
    refine lv_iconst (v := 1) hx hb dX2_takeFirst_21 (by decide) ?_
    exact hQ _ _ (1 : Int32) _ _ _ dX2_takeFirst_22 L ⟨mFr.rf, rg_w kc_1 rfl, trivial⟩
  · skip
    have ic5_2 := Int32.le_iff_toInt_le.mp (rg_nlt c5_2)
    have q4 : rg (1) (40) v1 := (rg_le (rg_nlt c5_2) kc_1 rv1).2
    have uq4 : (1 : Int) ≤ v1.toInt ∧ v1.toInt ≤ 40 := q4
    refine lv_iload_n hx hb dX2_takeFirst_8 rfl (lv_at hl 2 rfl) ?_
    refine lv_if_lt (tgt := 21) hx hb dX2_takeFirst_9 (by decide) (fun c9_5 => ?_) (fun c9_5 => ?_)
    · skip
      have ic9_5 := Int32.lt_iff_toInt_lt.mp c9_5
      exact absurd ((rg_lt c9_5 rp2 kc_0).1 : rg (0) (-1) p2) (fun q => rg_dead q rfl)
    · skip
      have ic9_5 := Int32.le_iff_toInt_le.mp (rg_nlt c9_5)
      refine lv_iload_n hx hb dX2_takeFirst_12 rfl (lv_at hl 2 rfl) ?_
      refine lv_bipush (v := 48) hx hb dX2_takeFirst_13 (by decide) ?_
      refine lv_iadd hx hb dX2_takeFirst_15 ?_
      refine lv_topi (fun v6 ev6 => ?_)
      have rv6 : rg (48) (10048) v6 := (rg_add ev6 rp2 kc_48 rfl).1
      have dv6 := (rg_add ev6 rp2 kc_48 rfl).2
      have tv6 := (rg_add ev6 rp2 kc_48 rfl).2
      have y7 : (48 : Int32).toInt = 48 := by decide
      have uv6 : (48 : Int) ≤ v6.toInt ∧ v6.toInt ≤ 10048 := rv6
      refine lv_aload_n hx hb dX2_takeFirst_16 rfl (lv_at hl 1 rfl) ?_
      refine c_len (n := 212) x L 19 q1 hq1 rfl (by decide) dX2_takeFirst_17 ?_
      refine lv_icmp_le (tgt := 23) hx hb dX2_takeFirst_18 (by decide) (fun c18_8 => ?_) (fun c18_8 => ?_)
      · skip
        have ic18_8 := Int32.le_iff_toInt_le.mp c18_8
        have q9 : rg (48) (212) v6 := (rg_le c18_8 rv6 kc_212).1
        have uq9 : (48 : Int) ≤ v6.toInt ∧ v6.toInt ≤ 212 := q9
        have q10 : rg (0) (164) p2 := rg_back dv6 kc_48 q9
        refine lv_aload_n hx hb dX2_takeFirst_23 rfl (lv_at hl 0 rfl) ?_
        refine c_geti x L 2 i0 2 66 hal0 rfl rfl (wk_in kf_X2_22) dX2_takeFirst_24 (fun v11 ev11 wv11 => ?_)
        have rv11 : rg (0) (39) v11 := clj_66 wv11
        have uv11 : (0 : Int) ≤ v11.toInt ∧ v11.toInt ≤ 39 := rv11
        have sv11 := congrArg Int32.toInt ev11
        refine lv_istore_n (lv' := [(3, .int v11), (0, .ref (Z.ad 2 i0)), (1, .ref (Z.ad 19 q1)), (2, .int p2)]) hx hb dX2_takeFirst_27 rfl hl (by decide) rfl (fun ls hl => ?_)
        refine lv_aload_n hx hb dX2_takeFirst_28 rfl (lv_at hl 1 rfl) ?_
        have al12 : Z.al 17 i0 := hz.2 17 i0 (show i0 < 4 * Z.n from (by omega))
        refine c_getr (a := Z.ad 17 i0) x L 2 i0 0 hal0 rfl rfl (wk_in kf_X2_9) dX2_takeFirst_29 ?_
        refine lv_iload_n hx hb dX2_takeFirst_32 rfl (lv_at hl 0 rfl) ?_
        refine lv_bipush (v := 48) hx hb dX2_takeFirst_33 (by decide) ?_
        refine lv_imul hx hb dX2_takeFirst_35 ?_
        refine lv_topi (fun v13 ev13 => ?_)
        have rv13 : rg (0) (1872) v13 := (rg_mul ev13 rv11 kc_48 rfl).1
        have tv13 := (rg_mul ev13 rv11 kc_48 rfl).2
        have y14 : (48 : Int32).toInt = 48 := by decide
        have uv13 : (0 : Int) ≤ v13.toInt ∧ v13.toInt ≤ 1872 := rv13
        refine lv_aload_n hx hb dX2_takeFirst_36 rfl (lv_at hl 2 rfl) ?_
        refine lv_iload_n hx hb dX2_takeFirst_37 rfl (lv_at hl 3 rfl) ?_
        refine lv_bipush (v := 48) hx hb dX2_takeFirst_38 (by decide) ?_
        refine c_copy (rest := []) x (hml.trans hl.1.symm) L 17 i0 19 q1 544 608 al12 hq1 rfl rfl rfl rfl ⟨rfl, rfl⟩ kl_X2_25 kw_cp (Int.le_trans (by decide) rv13.1) (Int.le_trans (by decide) q10.1) (Int.le_trans (by decide) kc_48.1) (Int.le_trans (Int.add_le_add rv13.2 kc_48.2) (by decide)) (Int.le_trans (Int.add_le_add q10.2 kc_48.2) (by decide)) (Nat.le_of_ble_eq_true rfl) (Nat.le_of_ble_eq_true rfl) dX2_takeFirst_40 (fun g15 H15 k15 ec15 L15 => ?_)
        refine lv_aload_n hx hb dX2_takeFirst_43 rfl (lv_at hl 1 rfl) ?_
        refine lv_aload_n hx hb dX2_takeFirst_44 rfl (lv_at hl 1 rfl) ?_
        refine c_geti x L15 2 i0 2 66 hal0 rfl rfl (wk_in kf_X2_22) dX2_takeFirst_45 (fun v16 ev16 wv16 => ?_)
        refine m_top (((mm_fr ev11 (cCpy_fr ec15) rfl)).trans ev16.symm) ?_
        refine lv_iconst (v := 1) hx hb dX2_takeFirst_48 (by decide) ?_
        refine lv_iadd hx hb dX2_takeFirst_49 ?_
        refine lv_topi (fun v17 ev17 => ?_)
        have rv17 : rg (1) (40) v17 := (rg_add ev17 rv11 kc_1 rfl).1
        have dv17 := (rg_add ev17 rv11 kc_1 rfl).2
        have tv17 := (rg_add ev17 rv11 kc_1 rfl).2
        have y18 : (1 : Int32).toInt = 1 := by decide
        have uv17 : (1 : Int) ≤ v17.toInt ∧ v17.toInt ≤ 40 := rv17
        refine lv_bipush (v := 40) hx hb dX2_takeFirst_50 (by decide) ?_
        refine lv_irem hx hb dX2_takeFirst_52 (by decide) ?_
        refine lv_topi (fun v19 ev19 => ?_)
        have rv19 : rg (0) (39) v19 := (rg_rem ev19 rv17 kc_40 rfl).1
        have tv19 := (rg_rem ev19 rv17 kc_40 rfl).2
        have y20 : (40 : Int32).toInt = 40 := by decide
        have uv19 : (0 : Int) ≤ v19.toInt ∧ v19.toInt ≤ 39 := rv19
        refine c_puti x L15 2 i0 2 66 hal0 rfl rfl ⟨rfl, by decide +kernel⟩ (wk_in kf_X2_22) dX2_takeFirst_53 (crj_66 (rg_w rv19 rfl)) (fun g21 H21 k21 eg21 L21 => ?_)
        refine lv_aload_n hx hb dX2_takeFirst_56 rfl (lv_at hl 1 rfl) ?_
        refine lv_dup hx hb dX2_takeFirst_57 rfl ?_
        refine c_geti x L21 2 i0 3 67 hal0 rfl rfl (wk_in kf_X2_18) dX2_takeFirst_58 (fun v22 ev22 wv22 => ?_)
        refine m_top (((mm_up (mm_fr ev1 (cCpy_fr ec15) rfl) eg21 rfl)).trans ev22.symm) ?_
        refine lv_iconst (v := 1) hx hb dX2_takeFirst_61 (by decide) ?_
        refine lv_isub hx hb dX2_takeFirst_62 ?_
        refine lv_topi (fun v23 ev23 => ?_)
        have rv23 : rg (0) (39) v23 := (rg_sub ev23 q4 kc_1 rfl).1
        have tv23 := (rg_sub ev23 q4 kc_1 rfl).2
        have y24 : (1 : Int32).toInt = 1 := by decide
        have uv23 : (0 : Int) ≤ v23.toInt ∧ v23.toInt ≤ 39 := rv23
        refine c_puti x L21 2 i0 3 67 hal0 rfl rfl ⟨rfl, by decide +kernel⟩ (wk_in kf_X2_18) dX2_takeFirst_63 (crj_67 (rg_w rv23 rfl)) (fun g25 H25 k25 eg25 L25 => ?_)
        refine lv_aload_n hx hb dX2_takeFirst_66 rfl (lv_at hl 1 rfl) ?_
        have al26 : Z.al 18 i0 := hz.2 18 i0 (show i0 < 4 * Z.n from (by omega))
        refine c_getr (a := Z.ad 18 i0) x L25 2 i0 1 hal0 rfl rfl (wk_in kf_X2_15) dX2_takeFirst_67 ?_
        refine lv_iload_n hx hb dX2_takeFirst_70 rfl (lv_at hl 0 rfl) ?_
        refine c_ld x L25 18 i0 576 al26 rfl rfl rv11 rfl dX2_takeFirst_71 (fun v27 ev27 wv27 => ?_)
        have rv27 : rg (-2147483648) (2147483647) v27 := rg_any v27
        have uv27 : (-2147483648 : Int) ≤ v27.toInt ∧ v27.toInt ≤ 2147483647 := rv27
        have sv27 : v27.toInt = (g 576 (8192 * i0 + v11.toNatClampNeg)).toInt := congrArg Int32.toInt (ev27.trans (congrFun ((show mFr [66, 67, 608] g g25 from (mFr.upE (mFr.upE (mFr.tr mFr.rf (cCpy_fr ec15) rfl) eg21 rfl) eg25 rfl)).at 576 rfl) _))
        exact hQ _ _ v27 _ _ _ dX2_takeFirst_72 L25 ⟨(mFr.upE (mFr.upE (mFr.tr mFr.rf (cCpy_fr ec15) rfl) eg21 rfl) eg25 rfl), rg_w rv27 rfl, trivial⟩
      · skip
        have ic18_8 := Int32.lt_iff_toInt_lt.mp (rg_nle c18_8)
        have q28 : rg (213) (10048) v6 := (rg_lt (rg_nle c18_8) kc_212 rv6).2
        have uq28 : (213 : Int) ≤ v6.toInt ∧ v6.toInt ≤ 10048 := q28
        have q29 : rg (165) (10000) p2 := rg_back dv6 kc_48 q28
        refine lv_iconst (v := 1) hx hb dX2_takeFirst_21 (by decide) ?_
        exact hQ _ _ (1 : Int32) _ _ _ dX2_takeFirst_22 L ⟨mFr.rf, rg_w kc_1 rfl, trivial⟩
theorem c_kqtake (l : Launch) {G : cG} {Z : cZ} (X : Int) (g : mSt) (i0 : Nat) (q1 : Nat) (p2 : Int32) (hX : 0 ≤ X ∧ X ≤ 2000000000) (hi0 : i0 < 4 * Z.n) (hq1 : Z.al 19 q1) (rp2 : rg (0) (10000) p2) : Met l yX2_takeFirst (wk (Cond.code yX2_takeFirst cX2_takeFirst 4 (some .int))) rm_kqtake (va_Pc [.ref (Z.ad 2 i0), .ref (Z.ad 19 q1), .int p2] (cPre G Z X g)) (cQi G Z X (fun r g1 => mFr [66, 67, 608] g g1 ∧ rg (-2147483648) (2147483647) r ∧ True)) 0 0 (cAd Z) := by
  refine Met.ofW (cc := cX2_takeFirst) (maxL := 4) (ret := (some .int)) (by decide) rfl ?_
  intro p e s m args below meth c s₁ B hml hv
  obtain ⟨rfl, hv⟩ := hv
  have hr := B.returns
  have hlocks := B.notSynchronized
  obtain ⟨x, L⟩ := c_start B rfl (fun w h => wk_in h) hv
  have hl := lv_entry ([.ref (Z.ad 2 i0), .ref (Z.ad 19 q1), .int p2]) (n := 4) (Nat.le_of_ble_eq_true rfl)
  rw [lg_entry_eq]
  generalize (lg_sl ([.ref (Z.ad 2 i0), .ref (Z.ad 19 q1), .int p2]) ++ List.replicate (4 - (lg_sl ([.ref (Z.ad 2 i0), .ref (Z.ad 19 q1), .int p2])).length) Slot.unset).toArray = ls at hl ⊢
  exact w_kqtake x hml L hX i0 q1 p2 hi0 hq1 rp2 hl (fun pc' ls' r g1 H1 locs1 hdg L hp => c_iret x L hr hlocks (Int.le_refl _) hp hdg)

def rm_kclearAll_6 : Room := { frames := 0, cells := 0, slots := 0, locals := 0 }
theorem hd_kclearAll_6 : yX6_clearAll.cls = cRn 6 ∧ yX6_clearAll.cls ≠ "java/lang/invoke/MethodHandle" ∧ yX6_clearAll.cls ≠ "java/lang/invoke/VarHandle" ∧ (parseMethodDescriptor yX6_clearAll.desc).map (fun d => d.parameters.length) = some 0 := by decide +kernel
set_option maxHeartbeats 4000000 in
set_option maxRecDepth 100000 in
theorem w_kclearAll_6 {p : Program} {l : Launch} {e : Env} {s : State} {m : MethodId} {args : Array Value} {below : List Frame} {meth : Method} {c : Code} {H : Heap} {locs : List Loc} {Q : State → Prop} {ls : Array Slot} {G : cG} {Z : cZ} {g : mSt} {H0 : Heap} {X : Int} (x : cX p c cX6_clearAll s args (wk (Cond.code yX6_clearAll cX6_clearAll 2 none)) m G Z RX6 H0) (hml : c.maxLocals = 2) (L : cL G Z H0 X g H locs) (hX : 0 ≤ X ∧ X ≤ 2000000000) (i0 : Nat) (hi0 : i0 < 2 * Z.n) (hl : lv_has ls 2 [(0, .ref (Z.ad 6 i0))]) (hQ : ∀ (pc' : Nat) (ls' : Array Slot) (g1 : mSt) (H1 : Heap) (locs1 : List Loc), decode cX6_clearAll pc' = .ok (.return_, 1) → cL G Z H0 X g1 H1 locs1 → (mFr [197, 198, 864, 928] g g1 ∧ True) → W p l e rm_kclearAll_6 s m args below meth c H1 locs1 0 0 Q (F0 m pc' ls' [])) : W p l e rm_kclearAll_6 s m args below meth c H locs 0 0 Q (F0 m 0 ls []) := by
  have hx := x.1
  have hb := x.2.1
  have hz := x.2.2.2.2.2.2.2.1
  have hzn := hz.1
  have hal0 : Z.al 6 i0 := hz.2 6 i0 (show i0 < 2 * Z.n from hi0)
  refine lv_aload_n hx hb dX6_clearAll_0 rfl (lv_at hl 0 rfl) ?_
  refine lv_iconst (v := 0) hx hb dX6_clearAll_1 (by decide) ?_
  refine c_puti x L 6 i0 5 197 hal0 rfl rfl ⟨rfl, by decide +kernel⟩ (wk_in kf_X6_35) dX6_clearAll_2 (crj_197 (rg_w kc_0 rfl)) (fun g1 H1 k1 eg1 L1 => ?_)
  refine lv_aload_n hx hb dX6_clearAll_5 rfl (lv_at hl 0 rfl) ?_
  refine lv_iconst (v := 0) hx hb dX6_clearAll_6 (by decide) ?_
  refine c_puti x L1 6 i0 6 198 hal0 rfl rfl ⟨rfl, by decide +kernel⟩ (wk_in kf_X6_38) dX6_clearAll_7 (crj_198 (rg_w kc_0 rfl)) (fun g2 H2 k2 eg2 L2 => ?_)
  refine lv_iconst (v := 0) hx hb dX6_clearAll_10 (by decide) ?_
  refine lv_istore_n (lv' := [(1, .int (0 : Int32)), (0, .ref (Z.ad 6 i0))]) hx hb dX6_clearAll_11 rfl hl (by decide) rfl (fun ls hl => ?_)
  have j12_4 : ∀ (n : Nat) (a12_1_3 : Int32) (g4 : mSt) (H4 : Heap) (k4 : List Loc) (ls : Array Slot), mFr [864, 928] g2 g4 → cL G Z H0 X g4 H4 k4 → rg (0) (10) a12_1_3 → lv_has ls 2 [(0, .ref (Z.ad 6 i0)), (1, .int a12_1_3)] → ((10 : Int) - a12_1_3.toInt).toNat = n → W p l e rm_kclearAll_6 s m args below meth c H4 k4 0 0 Q (F0 m 12 ls []) := by
    intro n
    induction n using Nat.strongRecOn with
    | _ n ih4 =>
      intro a12_1_3 g4 H4 k4 ls hF4 L4 ra12_1_3 hl hn4
      subst hn4
      refine lv_iload_n hx hb dX6_clearAll_12 rfl (lv_at hl 1 rfl) ?_
      refine lv_aload_n hx hb dX6_clearAll_13 rfl (lv_at hl 0 rfl) ?_
      refine c_geti x L4 6 i0 0 192 hal0 rfl rfl (wk_in kf_X6_15) dX6_clearAll_14 (fun v5 ev5 wv5 => ?_)
      have rv5 : rg (10) (10) v5 := clj_192 wv5
      refine m_top (rg_lit rv5 (show (10 : Int32).toInt = 10 from (by decide))) ?_
      refine lv_icmp_ge (tgt := 40) hx hb dX6_clearAll_17 (by decide) (fun c17_6 => ?_) (fun c17_6 => ?_)
      · skip
        have q7 : rg (10) (10) a12_1_3 := (rg_le c17_6 kc_10 ra12_1_3).2
        exact hQ _ _ _ _ _ dX6_clearAll_40 L4 ⟨(mFr.tr (mFr.upE (mFr.upE mFr.rf eg1 rfl) eg2 rfl) hF4 rfl), trivial⟩
      · skip
        have q8 : rg (0) (9) a12_1_3 := (rg_lt (rg_nle c17_6) ra12_1_3 kc_10).1
        refine lv_aload_n hx hb dX6_clearAll_20 rfl (lv_at hl 0 rfl) ?_
        have al9 : Z.al 27 i0 := hz.2 27 i0 (show i0 < 2 * Z.n from (by omega))
        refine c_getr (a := Z.ad 27 i0) x L4 6 i0 2 hal0 rfl rfl (wk_in kf_X6_25) dX6_clearAll_21 ?_
        refine lv_iload_n hx hb dX6_clearAll_24 rfl (lv_at hl 1 rfl) ?_
        refine lv_iconst (v := 0) hx hb dX6_clearAll_25 (by decide) ?_
        refine c_st x L4 27 i0 864 al9 rfl rfl q8 rfl (crj_864 (rg_w kc_0 rfl)) dX6_clearAll_26 (fun g10 H10 k10 eg10 L10 => ?_)
        refine lv_aload_n hx hb dX6_clearAll_27 rfl (lv_at hl 0 rfl) ?_
        have al11 : Z.al 29 i0 := hz.2 29 i0 (show i0 < 2 * Z.n from (by omega))
        refine c_getr (a := Z.ad 29 i0) x L10 6 i0 4 hal0 rfl rfl (wk_in kf_X6_31) dX6_clearAll_28 ?_
        refine lv_iload_n hx hb dX6_clearAll_31 rfl (lv_at hl 1 rfl) ?_
        refine lv_iconst (v := 0) hx hb dX6_clearAll_32 (by decide) ?_
        refine c_stz x L10 29 i0 928 al11 rfl rfl q8 rfl (rg_w kc_0 rfl) (crj_928 (rg_w kc_0 rfl)) dX6_clearAll_33 (fun g12 H12 k12 eg12 L12 => ?_)
        obtain ⟨v13, ev13, fv13⟩ := inc_ex a12_1_3 (1) (1 : Int32) (by decide)
        have rv13 : rg (1) (10) v13 := (rg_add ev13 q8 kc_1 rfl).1
        have tv13 := (rg_add ev13 q8 kc_1 rfl).2
        refine lv_iinc (v := v13) (lv' := [(1, .int v13), (0, .ref (Z.ad 6 i0))]) hx hb dX6_clearAll_34 hl (k := 1) rfl fv13 (by decide) rfl (fun ls hl => ?_)
        refine lv_goto (tgt := 12) hx hb dX6_clearAll_37 (by decide) ?_
        exact ih4 _ (ms_up tv13 kc_1 q8 rfl rfl) v13 g12 _ _ ls (mFr.upE (mFr.upE hF4 eg10 rfl) eg12 rfl) L12 (rg_w rv13 rfl) (lv_sub hl [1, 0] rfl) rfl
  exact j12_4 _ (0 : Int32) g2 _ _ ls mFr.rf L2 (rg_w kc_0 rfl) (lv_sub hl [1, 0] rfl) rfl
theorem c_kclearAll_6 (l : Launch) {G : cG} {Z : cZ} (X : Int) (g : mSt) (i0 : Nat) (hX : 0 ≤ X ∧ X ≤ 2000000000) (hi0 : i0 < 2 * Z.n) : Met l yX6_clearAll (wk (Cond.code yX6_clearAll cX6_clearAll 2 none)) rm_kclearAll_6 (va_Pc [.ref (Z.ad 6 i0)] (cPre G Z X g)) (cQv G Z X (fun g1 => mFr [197, 198, 864, 928] g g1 ∧ True)) 0 0 (cAd Z) := by
  refine Met.ofW (cc := cX6_clearAll) (maxL := 2) (ret := none) (by decide) rfl ?_
  intro p e s m args below meth c s₁ B hml hv
  obtain ⟨rfl, hv⟩ := hv
  have hr := B.returns
  have hlocks := B.notSynchronized
  obtain ⟨x, L⟩ := c_start B rfl (fun w h => wk_in h) hv
  have hl := lv_entry ([.ref (Z.ad 6 i0)]) (n := 2) (Nat.le_of_ble_eq_true rfl)
  rw [lg_entry_eq]
  generalize (lg_sl ([.ref (Z.ad 6 i0)]) ++ List.replicate (2 - (lg_sl ([.ref (Z.ad 6 i0)])).length) Slot.unset).toArray = ls at hl ⊢
  exact w_kclearAll_6 x hml L hX i0 hi0 hl (fun pc' ls' g1 H1 locs1 hdg L hp => c_vret x L hr hlocks (Int.le_refl _) hp hdg)

def rm_kclearAll_13 : Room := { frames := 0, cells := 0, slots := 0, locals := 0 }
theorem hd_kclearAll_13 : yX6_clearAll.cls = cRn 13 ∧ yX6_clearAll.cls ≠ "java/lang/invoke/MethodHandle" ∧ yX6_clearAll.cls ≠ "java/lang/invoke/VarHandle" ∧ (parseMethodDescriptor yX6_clearAll.desc).map (fun d => d.parameters.length) = some 0 := by decide +kernel
set_option maxHeartbeats 4000000 in
set_option maxRecDepth 100000 in
theorem w_kclearAll_13 {p : Program} {l : Launch} {e : Env} {s : State} {m : MethodId} {args : Array Value} {below : List Frame} {meth : Method} {c : Code} {H : Heap} {locs : List Loc} {Q : State → Prop} {ls : Array Slot} {G : cG} {Z : cZ} {g : mSt} {H0 : Heap} {X : Int} (x : cX p c cX6_clearAll s args (wk (Cond.code yX6_clearAll cX6_clearAll 2 none)) m G Z RX6 H0) (hml : c.maxLocals = 2) (L : cL G Z H0 X g H locs) (hX : 0 ≤ X ∧ X ≤ 2000000000) (i0 : Nat) (hi0 : i0 < 4 * Z.n) (hl : lv_has ls 2 [(0, .ref (Z.ad 13 i0))]) (hQ : ∀ (pc' : Nat) (ls' : Array Slot) (g1 : mSt) (H1 : Heap) (locs1 : List Loc), decode cX6_clearAll pc' = .ok (.return_, 1) → cL G Z H0 X g1 H1 locs1 → (mFr [421, 422, 1280, 1344] g g1 ∧ True) → W p l e rm_kclearAll_13 s m args below meth c H1 locs1 0 0 Q (F0 m pc' ls' [])) : W p l e rm_kclearAll_13 s m args below meth c H locs 0 0 Q (F0 m 0 ls []) := by
  have hx := x.1
  have hb := x.2.1
  have hz := x.2.2.2.2.2.2.2.1
  have hzn := hz.1
  have hal0 : Z.al 13 i0 := hz.2 13 i0 (show i0 < 4 * Z.n from hi0)
  refine lv_aload_n hx hb dX6_clearAll_0 rfl (lv_at hl 0 rfl) ?_
  refine lv_iconst (v := 0) hx hb dX6_clearAll_1 (by decide) ?_
  refine c_puti x L 13 i0 5 421 hal0 rfl rfl ⟨rfl, by decide +kernel⟩ (wk_in kf_X6_35) dX6_clearAll_2 (crj_421 (rg_w kc_0 rfl)) (fun g1 H1 k1 eg1 L1 => ?_)
  refine lv_aload_n hx hb dX6_clearAll_5 rfl (lv_at hl 0 rfl) ?_
  refine lv_iconst (v := 0) hx hb dX6_clearAll_6 (by decide) ?_
  refine c_puti x L1 13 i0 6 422 hal0 rfl rfl ⟨rfl, by decide +kernel⟩ (wk_in kf_X6_38) dX6_clearAll_7 (crj_422 (rg_w kc_0 rfl)) (fun g2 H2 k2 eg2 L2 => ?_)
  refine lv_iconst (v := 0) hx hb dX6_clearAll_10 (by decide) ?_
  refine lv_istore_n (lv' := [(1, .int (0 : Int32)), (0, .ref (Z.ad 13 i0))]) hx hb dX6_clearAll_11 rfl hl (by decide) rfl (fun ls hl => ?_)
  have j12_4 : ∀ (n : Nat) (a12_1_3 : Int32) (g4 : mSt) (H4 : Heap) (k4 : List Loc) (ls : Array Slot), mFr [1280, 1344] g2 g4 → cL G Z H0 X g4 H4 k4 → rg (0) (8) a12_1_3 → lv_has ls 2 [(0, .ref (Z.ad 13 i0)), (1, .int a12_1_3)] → ((8 : Int) - a12_1_3.toInt).toNat = n → W p l e rm_kclearAll_13 s m args below meth c H4 k4 0 0 Q (F0 m 12 ls []) := by
    intro n
    induction n using Nat.strongRecOn with
    | _ n ih4 =>
      intro a12_1_3 g4 H4 k4 ls hF4 L4 ra12_1_3 hl hn4
      subst hn4
      refine lv_iload_n hx hb dX6_clearAll_12 rfl (lv_at hl 1 rfl) ?_
      refine lv_aload_n hx hb dX6_clearAll_13 rfl (lv_at hl 0 rfl) ?_
      refine c_geti x L4 13 i0 0 416 hal0 rfl rfl (wk_in kf_X6_15) dX6_clearAll_14 (fun v5 ev5 wv5 => ?_)
      have rv5 : rg (8) (8) v5 := clj_416 wv5
      refine m_top (rg_lit rv5 (show (8 : Int32).toInt = 8 from (by decide))) ?_
      refine lv_icmp_ge (tgt := 40) hx hb dX6_clearAll_17 (by decide) (fun c17_6 => ?_) (fun c17_6 => ?_)
      · skip
        have q7 : rg (8) (8) a12_1_3 := (rg_le c17_6 kc_8 ra12_1_3).2
        exact hQ _ _ _ _ _ dX6_clearAll_40 L4 ⟨(mFr.tr (mFr.upE (mFr.upE mFr.rf eg1 rfl) eg2 rfl) hF4 rfl), trivial⟩
      · skip
        have q8 : rg (0) (7) a12_1_3 := (rg_lt (rg_nle c17_6) ra12_1_3 kc_8).1
        refine lv_aload_n hx hb dX6_clearAll_20 rfl (lv_at hl 0 rfl) ?_
        have al9 : Z.al 40 i0 := hz.2 40 i0 (show i0 < 4 * Z.n from (by omega))
        refine c_getr (a := Z.ad 40 i0) x L4 13 i0 2 hal0 rfl rfl (wk_in kf_X6_25) dX6_clearAll_21 ?_
        refine lv_iload_n hx hb dX6_clearAll_24 rfl (lv_at hl 1 rfl) ?_
        refine lv_iconst (v := 0) hx hb dX6_clearAll_25 (by decide) ?_
        refine c_st x L4 40 i0 1280 al9 rfl rfl q8 rfl (crj_1280 (rg_w kc_0 rfl)) dX6_clearAll_26 (fun g10 H10 k10 eg10 L10 => ?_)
        refine lv_aload_n hx hb dX6_clearAll_27 rfl (lv_at hl 0 rfl) ?_
        have al11 : Z.al 42 i0 := hz.2 42 i0 (show i0 < 4 * Z.n from (by omega))
        refine c_getr (a := Z.ad 42 i0) x L10 13 i0 4 hal0 rfl rfl (wk_in kf_X6_31) dX6_clearAll_28 ?_
        refine lv_iload_n hx hb dX6_clearAll_31 rfl (lv_at hl 1 rfl) ?_
        refine lv_iconst (v := 0) hx hb dX6_clearAll_32 (by decide) ?_
        refine c_stz x L10 42 i0 1344 al11 rfl rfl q8 rfl (rg_w kc_0 rfl) (crj_1344 (rg_w kc_0 rfl)) dX6_clearAll_33 (fun g12 H12 k12 eg12 L12 => ?_)
        obtain ⟨v13, ev13, fv13⟩ := inc_ex a12_1_3 (1) (1 : Int32) (by decide)
        have rv13 : rg (1) (8) v13 := (rg_add ev13 q8 kc_1 rfl).1
        have tv13 := (rg_add ev13 q8 kc_1 rfl).2
        refine lv_iinc (v := v13) (lv' := [(1, .int v13), (0, .ref (Z.ad 13 i0))]) hx hb dX6_clearAll_34 hl (k := 1) rfl fv13 (by decide) rfl (fun ls hl => ?_)
        refine lv_goto (tgt := 12) hx hb dX6_clearAll_37 (by decide) ?_
        exact ih4 _ (ms_up tv13 kc_1 q8 rfl rfl) v13 g12 _ _ ls (mFr.upE (mFr.upE hF4 eg10 rfl) eg12 rfl) L12 (rg_w rv13 rfl) (lv_sub hl [1, 0] rfl) rfl
  exact j12_4 _ (0 : Int32) g2 _ _ ls mFr.rf L2 (rg_w kc_0 rfl) (lv_sub hl [1, 0] rfl) rfl
theorem c_kclearAll_13 (l : Launch) {G : cG} {Z : cZ} (X : Int) (g : mSt) (i0 : Nat) (hX : 0 ≤ X ∧ X ≤ 2000000000) (hi0 : i0 < 4 * Z.n) : Met l yX6_clearAll (wk (Cond.code yX6_clearAll cX6_clearAll 2 none)) rm_kclearAll_13 (va_Pc [.ref (Z.ad 13 i0)] (cPre G Z X g)) (cQv G Z X (fun g1 => mFr [421, 422, 1280, 1344] g g1 ∧ True)) 0 0 (cAd Z) := by
  refine Met.ofW (cc := cX6_clearAll) (maxL := 2) (ret := none) (by decide) rfl ?_
  intro p e s m args below meth c s₁ B hml hv
  obtain ⟨rfl, hv⟩ := hv
  have hr := B.returns
  have hlocks := B.notSynchronized
  obtain ⟨x, L⟩ := c_start B rfl (fun w h => wk_in h) hv
  have hl := lv_entry ([.ref (Z.ad 13 i0)]) (n := 2) (Nat.le_of_ble_eq_true rfl)
  rw [lg_entry_eq]
  generalize (lg_sl ([.ref (Z.ad 13 i0)]) ++ List.replicate (2 - (lg_sl ([.ref (Z.ad 13 i0)])).length) Slot.unset).toArray = ls at hl ⊢
  exact w_kclearAll_13 x hml L hX i0 hi0 hl (fun pc' ls' g1 H1 locs1 hdg L hp => c_vret x L hr hlocks (Int.le_refl _) hp hdg)

def rm_kclear : Room := { frames := 0, cells := 0, slots := 0, locals := 0 }
theorem hd_kclear : yX6_clear.cls = cRn 13 ∧ yX6_clear.cls ≠ "java/lang/invoke/MethodHandle" ∧ yX6_clear.cls ≠ "java/lang/invoke/VarHandle" ∧ (parseMethodDescriptor yX6_clear.desc).map (fun d => d.parameters.length) = some 1 := by decide +kernel
set_option maxHeartbeats 4000000 in
set_option maxRecDepth 100000 in
theorem w_kclear {p : Program} {l : Launch} {e : Env} {s : State} {m : MethodId} {args : Array Value} {below : List Frame} {meth : Method} {c : Code} {H : Heap} {locs : List Loc} {Q : State → Prop} {ls : Array Slot} {G : cG} {Z : cZ} {g : mSt} {H0 : Heap} {X : Int} (x : cX p c cX6_clear s args (wk (Cond.code yX6_clear cX6_clear 2 none)) m G Z RX6 H0) (hml : c.maxLocals = 2) (L : cL G Z H0 X g H locs) (hX : 0 ≤ X ∧ X ≤ 2000000000) (i0 : Nat) (p1 : Int32) (hi0 : i0 < 4 * Z.n) (hl : lv_has ls 2 [(0, .ref (Z.ad 13 i0)), (1, .int p1)]) (hQ : ∀ (pc' : Nat) (ls' : Array Slot) (g1 : mSt) (H1 : Heap) (locs1 : List Loc), decode cX6_clear pc' = .ok (.return_, 1) → cL G Z H0 X g1 H1 locs1 → (mFr [1280, 1344] g g1 ∧ True) → W p l e rm_kclear s m args below meth c H1 locs1 0 0 Q (F0 m pc' ls' [])) : W p l e rm_kclear s m args below meth c H locs 0 0 Q (F0 m 0 ls []) := by
  have hx := x.1
  have hb := x.2.1
  have hz := x.2.2.2.2.2.2.2.1
  have hzn := hz.1
  have hal0 : Z.al 13 i0 := hz.2 13 i0 (show i0 < 4 * Z.n from hi0)
  refine lv_iload_n hx hb dX6_clear_0 rfl (lv_at hl 1 rfl) ?_
  refine lv_if_lt (tgt := 26) hx hb dX6_clear_1 (by decide) (fun c1_1 => ?_) (fun c1_1 => ?_)
  · skip
    have q2 : rg (-2147483648) (-1) p1 := (rg_lt c1_1 (rg_any p1) kc_0).1
    exact hQ _ _ _ _ _ dX6_clear_26 L ⟨mFr.rf, trivial⟩
  · skip
    have q3 : rg (0) (2147483647) p1 := (rg_le (rg_nlt c1_1) kc_0 (rg_any p1)).2
    refine lv_iload_n hx hb dX6_clear_4 rfl (lv_at hl 1 rfl) ?_
    refine lv_aload_n hx hb dX6_clear_5 rfl (lv_at hl 0 rfl) ?_
    refine c_geti x L 13 i0 0 416 hal0 rfl rfl (wk_in kf_X6_15) dX6_clear_6 (fun v4 ev4 wv4 => ?_)
    have rv4 : rg (8) (8) v4 := clj_416 wv4
    refine m_top (rg_lit rv4 (show (8 : Int32).toInt = 8 from (by decide))) ?_
    refine lv_icmp_ge (tgt := 26) hx hb dX6_clear_9 (by decide) (fun c9_5 => ?_) (fun c9_5 => ?_)
    · skip
      have q6 : rg (8) (2147483647) p1 := (rg_le c9_5 kc_8 q3).2
      exact hQ _ _ _ _ _ dX6_clear_26 L ⟨mFr.rf, trivial⟩
    · skip
      have q7 : rg (0) (7) p1 := (rg_lt (rg_nle c9_5) q3 kc_8).1
      refine lv_aload_n hx hb dX6_clear_12 rfl (lv_at hl 0 rfl) ?_
      have al8 : Z.al 40 i0 := hz.2 40 i0 (show i0 < 4 * Z.n from (by omega))
      refine c_getr (a := Z.ad 40 i0) x L 13 i0 2 hal0 rfl rfl (wk_in kf_X6_25) dX6_clear_13 ?_
      refine lv_iload_n hx hb dX6_clear_16 rfl (lv_at hl 1 rfl) ?_
      refine lv_iconst (v := 0) hx hb dX6_clear_17 (by decide) ?_
      refine c_st x L 40 i0 1280 al8 rfl rfl q7 rfl (crj_1280 (rg_w kc_0 rfl)) dX6_clear_18 (fun g9 H9 k9 eg9 L9 => ?_)
      refine lv_aload_n hx hb dX6_clear_19 rfl (lv_at hl 0 rfl) ?_
      have al10 : Z.al 42 i0 := hz.2 42 i0 (show i0 < 4 * Z.n from (by omega))
      refine c_getr (a := Z.ad 42 i0) x L9 13 i0 4 hal0 rfl rfl (wk_in kf_X6_31) dX6_clear_20 ?_
      refine lv_iload_n hx hb dX6_clear_23 rfl (lv_at hl 1 rfl) ?_
      refine lv_iconst (v := 0) hx hb dX6_clear_24 (by decide) ?_
      refine c_stz x L9 42 i0 1344 al10 rfl rfl q7 rfl (rg_w kc_0 rfl) (crj_1344 (rg_w kc_0 rfl)) dX6_clear_25 (fun g11 H11 k11 eg11 L11 => ?_)
      exact hQ _ _ _ _ _ dX6_clear_26 L11 ⟨(mFr.upE (mFr.upE mFr.rf eg9 rfl) eg11 rfl), trivial⟩
theorem c_kclear (l : Launch) {G : cG} {Z : cZ} (X : Int) (g : mSt) (i0 : Nat) (p1 : Int32) (hX : 0 ≤ X ∧ X ≤ 2000000000) (hi0 : i0 < 4 * Z.n) : Met l yX6_clear (wk (Cond.code yX6_clear cX6_clear 2 none)) rm_kclear (va_Pc [.ref (Z.ad 13 i0), .int p1] (cPre G Z X g)) (cQv G Z X (fun g1 => mFr [1280, 1344] g g1 ∧ True)) 0 0 (cAd Z) := by
  refine Met.ofW (cc := cX6_clear) (maxL := 2) (ret := none) (by decide) rfl ?_
  intro p e s m args below meth c s₁ B hml hv
  obtain ⟨rfl, hv⟩ := hv
  have hr := B.returns
  have hlocks := B.notSynchronized
  obtain ⟨x, L⟩ := c_start B rfl (fun w h => wk_in h) hv
  have hl := lv_entry ([.ref (Z.ad 13 i0), .int p1]) (n := 2) (Nat.le_of_ble_eq_true rfl)
  rw [lg_entry_eq]
  generalize (lg_sl ([.ref (Z.ad 13 i0), .int p1]) ++ List.replicate (2 - (lg_sl ([.ref (Z.ad 13 i0), .int p1])).length) Slot.unset).toArray = ls at hl ⊢
  exact w_kclear x hml L hX i0 p1 hi0 hl (fun pc' ls' g1 H1 locs1 hdg L hp => c_vret x L hr hlocks (Int.le_refl _) hp hdg)

def rm_kput_16 : Room := { frames := 1, cells := 0, slots := 0, locals := 48 }
theorem hd_kput_16 : yX6_put.cls = cRn 13 ∧ yX6_put.cls ≠ "java/lang/invoke/MethodHandle" ∧ yX6_put.cls ≠ "java/lang/invoke/VarHandle" ∧ (parseMethodDescriptor yX6_put.desc).map (fun d => d.parameters.length) = some 4 := by decide +kernel
set_option maxHeartbeats 4000000 in
set_option maxRecDepth 100000 in
theorem w_kput_16 {p : Program} {l : Launch} {e : Env} {s : State} {m : MethodId} {args : Array Value} {below : List Frame} {meth : Method} {c : Code} {H : Heap} {locs : List Loc} {Q : State → Prop} {ls : Array Slot} {G : cG} {Z : cZ} {g : mSt} {H0 : Heap} {X : Int} (x : cX p c cX6_put s args (wk (Cond.code yX6_put cX6_put 5 none)) m G Z RX6 H0) (hml : c.maxLocals = 5) (L : cL G Z H0 X g H locs) (hX : 0 ≤ X ∧ X ≤ 2000000000) (i0 : Nat) (p1 : Int32) (q2 : Nat) (p3 : Int32) (p4 : Int32) (hi0 : i0 < 4 * Z.n) (hq2 : Z.al 16 q2) (rp3 : rg (0) (10000) p3) (hl : lv_has ls 5 [(0, .ref (Z.ad 13 i0)), (1, .int p1), (2, .ref (Z.ad 16 q2)), (3, .int p3), (4, .int p4)]) (hQ : ∀ (pc' : Nat) (ls' : Array Slot) (g1 : mSt) (H1 : Heap) (locs1 : List Loc), decode cX6_put pc' = .ok (.return_, 1) → cL G Z H0 X g1 H1 locs1 → (mFr [1248, 1280] g g1 ∧ True) → W p l e rm_kput_16 s m args below meth c H1 locs1 0 0 Q (F0 m pc' ls' [])) : W p l e rm_kput_16 s m args below meth c H locs 0 0 Q (F0 m 0 ls []) := by
  have hx := x.1
  have hb := x.2.1
  have hz := x.2.2.2.2.2.2.2.1
  have hzn := hz.1
  have hal0 : Z.al 13 i0 := hz.2 13 i0 (show i0 < 4 * Z.n from hi0)
  have up1 : (-2147483648 : Int) ≤ p1.toInt ∧ p1.toInt ≤ 2147483647 := (rg_any p1)
  have up3 : (0 : Int) ≤ p3.toInt ∧ p3.toInt ≤ 10000 := rp3
  have up4 : (-2147483648 : Int) ≤ p4.toInt ∧ p4.toInt ≤ 2147483647 := (rg_any p4)
  refine lv_iload_n hx hb dX6_put_0 rfl (lv_at hl 1 rfl) ?_
  refine lv_if_lt (tgt := 37) hx hb dX6_put_1 (by decide) (fun c1_1 => ?_) (fun c1_1 => ?_)
  · skip
    have ic1_1 := Int32.lt_iff_toInt_lt.mp c1_1
    have q2 : rg (-2147483648) (-1) p1 := (rg_lt c1_1 (rg_any p1) kc_0).1
    have uq2 : (-2147483648 : Int) ≤ p1.toInt ∧ p1.toInt ≤ -1 := q2
    exact hQ _ _ _ _ _ dX6_put_37 L ⟨mFr.rf, trivial⟩
  · skip
    have ic1_1 := Int32.le_iff_toInt_le.mp (rg_nlt c1_1)
    have q3 : rg (0) (2147483647) p1 := (rg_le (rg_nlt c1_1) kc_0 (rg_any p1)).2
    have uq3 : (0 : Int) ≤ p1.toInt ∧ p1.toInt ≤ 2147483647 := q3
    refine lv_iload_n hx hb dX6_put_4 rfl (lv_at hl 1 rfl) ?_
    refine lv_aload_n hx hb dX6_put_5 rfl (lv_at hl 0 rfl) ?_
    refine c_geti x L 13 i0 0 416 hal0 rfl rfl (wk_in kf_X6_15) dX6_put_6 (fun v4 ev4 wv4 => ?_)
    have rv4 : rg (8) (8) v4 := clj_416 wv4
    refine m_top (rg_lit rv4 (show (8 : Int32).toInt = 8 from (by decide))) ?_
    refine lv_icmp_ge (tgt := 37) hx hb dX6_put_9 (by decide) (fun c9_5 => ?_) (fun c9_5 => ?_)
    · skip
      have ic9_5 := Int32.le_iff_toInt_le.mp c9_5
      have q6 : rg (8) (2147483647) p1 := (rg_le c9_5 kc_8 q3).2
      have uq6 : (8 : Int) ≤ p1.toInt ∧ p1.toInt ≤ 2147483647 := q6
      exact hQ _ _ _ _ _ dX6_put_37 L ⟨mFr.rf, trivial⟩
    · skip
      have ic9_5 := Int32.lt_iff_toInt_lt.mp (rg_nle c9_5)
      have q7 : rg (0) (7) p1 := (rg_lt (rg_nle c9_5) q3 kc_8).1
      have uq7 : (0 : Int) ≤ p1.toInt ∧ p1.toInt ≤ 7 := q7
      refine lv_iload hx hb dX6_put_12 (lv_at hl 4 rfl) ?_
      refine lv_if_lt (tgt := 37) hx hb dX6_put_14 (by decide) (fun c14_8 => ?_) (fun c14_8 => ?_)
      · skip
        have ic14_8 := Int32.lt_iff_toInt_lt.mp c14_8
        have q9 : rg (-2147483648) (-1) p4 := (rg_lt c14_8 (rg_any p4) kc_0).1
        have uq9 : (-2147483648 : Int) ≤ p4.toInt ∧ p4.toInt ≤ -1 := q9
        exact hQ _ _ _ _ _ dX6_put_37 L ⟨mFr.rf, trivial⟩
      · skip
        have ic14_8 := Int32.le_iff_toInt_le.mp (rg_nlt c14_8)
        have q10 : rg (0) (2147483647) p4 := (rg_le (rg_nlt c14_8) kc_0 (rg_any p4)).2
        have uq10 : (0 : Int) ≤ p4.toInt ∧ p4.toInt ≤ 2147483647 := q10
        refine lv_iload hx hb dX6_put_17 (lv_at hl 4 rfl) ?_
        refine lv_bipush (v := 60) hx hb dX6_put_19 (by decide) ?_
        refine lv_icmp_gt (tgt := 37) hx hb dX6_put_21 (by decide) (fun c21_11 => ?_) (fun c21_11 => ?_)
        · skip
          have ic21_11 := Int32.lt_iff_toInt_lt.mp c21_11
          have q12 : rg (61) (2147483647) p4 := (rg_lt c21_11 kc_60 q10).2
          have uq12 : (61 : Int) ≤ p4.toInt ∧ p4.toInt ≤ 2147483647 := q12
          exact hQ _ _ _ _ _ dX6_put_37 L ⟨mFr.rf, trivial⟩
        · skip
          have ic21_11 := Int32.le_iff_toInt_le.mp (rg_nlt c21_11)
          have q13 : rg (0) (60) p4 := (rg_le (rg_nlt c21_11) q10 kc_60).1
          have uq13 : (0 : Int) ≤ p4.toInt ∧ p4.toInt ≤ 60 := q13
          refine lv_iload_n hx hb dX6_put_24 rfl (lv_at hl 3 rfl) ?_
          refine lv_if_lt (tgt := 37) hx hb dX6_put_25 (by decide) (fun c25_14 => ?_) (fun c25_14 => ?_)
          · skip
            have ic25_14 := Int32.lt_iff_toInt_lt.mp c25_14
            exact absurd ((rg_lt c25_14 rp3 kc_0).1 : rg (0) (-1) p3) (fun q => rg_dead q rfl)
          · skip
            have ic25_14 := Int32.le_iff_toInt_le.mp (rg_nlt c25_14)
            refine lv_iload_n hx hb dX6_put_28 rfl (lv_at hl 3 rfl) ?_
            refine lv_iload hx hb dX6_put_29 (lv_at hl 4 rfl) ?_
            refine lv_iadd hx hb dX6_put_31 ?_
            refine lv_topi (fun v15 ev15 => ?_)
            have rv15 : rg (0) (10060) v15 := (rg_add ev15 rp3 q13 rfl).1
            have tv15 := (rg_add ev15 rp3 q13 rfl).2
            have uv15 : (0 : Int) ≤ v15.toInt ∧ v15.toInt ≤ 10060 := rv15
            refine lv_aload_n hx hb dX6_put_32 rfl (lv_at hl 2 rfl) ?_
            refine c_len (n := 240) x L 16 q2 hq2 rfl (by decide) dX6_put_33 ?_
            refine lv_icmp_le (tgt := 38) hx hb dX6_put_34 (by decide) (fun c34_16 => ?_) (fun c34_16 => ?_)
            · skip
              have ic34_16 := Int32.le_iff_toInt_le.mp c34_16
              have q17 : rg (0) (240) v15 := (rg_le c34_16 rv15 kc_240).1
              have uq17 : (0 : Int) ≤ v15.toInt ∧ v15.toInt ≤ 240 := q17
              refine lv_aload_n hx hb dX6_put_38 rfl (lv_at hl 2 rfl) ?_
              refine lv_iload_n hx hb dX6_put_39 rfl (lv_at hl 3 rfl) ?_
              refine lv_aload_n hx hb dX6_put_40 rfl (lv_at hl 0 rfl) ?_
              have al18 : Z.al 39 i0 := hz.2 39 i0 (show i0 < 4 * Z.n from (by omega))
              refine c_getr (a := Z.ad 39 i0) x L 13 i0 1 hal0 rfl rfl (wk_in kf_X6_21) dX6_put_41 ?_
              refine lv_iload_n hx hb dX6_put_44 rfl (lv_at hl 1 rfl) ?_
              refine lv_bipush (v := 60) hx hb dX6_put_45 (by decide) ?_
              refine lv_imul hx hb dX6_put_47 ?_
              refine lv_topi (fun v19 ev19 => ?_)
              have rv19 : rg (0) (420) v19 := (rg_mul ev19 q7 kc_60 rfl).1
              have tv19 := (rg_mul ev19 q7 kc_60 rfl).2
              have y20 : (60 : Int32).toInt = 60 := by decide
              have uv19 : (0 : Int) ≤ v19.toInt ∧ v19.toInt ≤ 420 := rv19
              refine lv_iload hx hb dX6_put_48 (lv_at hl 4 rfl) ?_
              refine c_copy (rest := []) x (hml.trans hl.1.symm) L 16 q2 39 i0 512 1248 hq2 al18 rfl rfl rfl rfl ⟨rfl, rfl⟩ kl_X6_41 kw_cp (Int.le_trans (by decide) rp3.1) (Int.le_trans (by decide) rv19.1) (Int.le_trans (by decide) q13.1) (by show p3.toInt + p4.toInt ≤ 240; omega) (Int.le_trans (Int.add_le_add rv19.2 q13.2) (by decide)) (Nat.le_of_ble_eq_true rfl) (Nat.le_of_ble_eq_true rfl) dX6_put_50 (fun g21 H21 k21 ec21 L21 => ?_)
              refine lv_aload_n hx hb dX6_put_53 rfl (lv_at hl 0 rfl) ?_
              have al22 : Z.al 40 i0 := hz.2 40 i0 (show i0 < 4 * Z.n from (by omega))
              refine c_getr (a := Z.ad 40 i0) x L21 13 i0 2 hal0 rfl rfl (wk_in kf_X6_25) dX6_put_54 ?_
              refine lv_iload_n hx hb dX6_put_57 rfl (lv_at hl 1 rfl) ?_
              refine lv_iload hx hb dX6_put_58 (lv_at hl 4 rfl) ?_
              refine c_st x L21 40 i0 1280 al22 rfl rfl q7 rfl (crj_1280 (rg_w q13 rfl)) dX6_put_60 (fun g23 H23 k23 eg23 L23 => ?_)
              exact hQ _ _ _ _ _ dX6_put_61 L23 ⟨(mFr.upE (mFr.tr mFr.rf (cCpy_fr ec21) rfl) eg23 rfl), trivial⟩
            · skip
              have ic34_16 := Int32.lt_iff_toInt_lt.mp (rg_nle c34_16)
              have q24 : rg (241) (10060) v15 := (rg_lt (rg_nle c34_16) kc_240 rv15).2
              have uq24 : (241 : Int) ≤ v15.toInt ∧ v15.toInt ≤ 10060 := q24
              exact hQ _ _ _ _ _ dX6_put_37 L ⟨mFr.rf, trivial⟩
theorem c_kput_16 (l : Launch) {G : cG} {Z : cZ} (X : Int) (g : mSt) (i0 : Nat) (p1 : Int32) (q2 : Nat) (p3 : Int32) (p4 : Int32) (hX : 0 ≤ X ∧ X ≤ 2000000000) (hi0 : i0 < 4 * Z.n) (hq2 : Z.al 16 q2) (rp3 : rg (0) (10000) p3) : Met l yX6_put (wk (Cond.code yX6_put cX6_put 5 none)) rm_kput_16 (va_Pc [.ref (Z.ad 13 i0), .int p1, .ref (Z.ad 16 q2), .int p3, .int p4] (cPre G Z X g)) (cQv G Z X (fun g1 => mFr [1248, 1280] g g1 ∧ True)) 0 0 (cAd Z) := by
  refine Met.ofW (cc := cX6_put) (maxL := 5) (ret := none) (by decide) rfl ?_
  intro p e s m args below meth c s₁ B hml hv
  obtain ⟨rfl, hv⟩ := hv
  have hr := B.returns
  have hlocks := B.notSynchronized
  obtain ⟨x, L⟩ := c_start B rfl (fun w h => wk_in h) hv
  have hl := lv_entry ([.ref (Z.ad 13 i0), .int p1, .ref (Z.ad 16 q2), .int p3, .int p4]) (n := 5) (Nat.le_of_ble_eq_true rfl)
  rw [lg_entry_eq]
  generalize (lg_sl ([.ref (Z.ad 13 i0), .int p1, .ref (Z.ad 16 q2), .int p3, .int p4]) ++ List.replicate (5 - (lg_sl ([.ref (Z.ad 13 i0), .int p1, .ref (Z.ad 16 q2), .int p3, .int p4])).length) Slot.unset).toArray = ls at hl ⊢
  exact w_kput_16 x hml L hX i0 p1 q2 p3 p4 hi0 hq2 rp3 hl (fun pc' ls' g1 H1 locs1 hdg L hp => c_vret x L hr hlocks (Int.le_refl _) hp hdg)

def rm_kput_26 : Room := { frames := 1, cells := 0, slots := 0, locals := 48 }
theorem hd_kput_26 : yX6_put.cls = cRn 13 ∧ yX6_put.cls ≠ "java/lang/invoke/MethodHandle" ∧ yX6_put.cls ≠ "java/lang/invoke/VarHandle" ∧ (parseMethodDescriptor yX6_put.desc).map (fun d => d.parameters.length) = some 4 := by decide +kernel
set_option maxHeartbeats 4000000 in
set_option maxRecDepth 100000 in
theorem w_kput_26 {p : Program} {l : Launch} {e : Env} {s : State} {m : MethodId} {args : Array Value} {below : List Frame} {meth : Method} {c : Code} {H : Heap} {locs : List Loc} {Q : State → Prop} {ls : Array Slot} {G : cG} {Z : cZ} {g : mSt} {H0 : Heap} {X : Int} (x : cX p c cX6_put s args (wk (Cond.code yX6_put cX6_put 5 none)) m G Z RX6 H0) (hml : c.maxLocals = 5) (L : cL G Z H0 X g H locs) (hX : 0 ≤ X ∧ X ≤ 2000000000) (i0 : Nat) (p1 : Int32) (q2 : Nat) (p3 : Int32) (p4 : Int32) (hi0 : i0 < 4 * Z.n) (hq2 : Z.al 26 q2) (rp3 : rg (0) (10000) p3) (hl : lv_has ls 5 [(0, .ref (Z.ad 13 i0)), (1, .int p1), (2, .ref (Z.ad 26 q2)), (3, .int p3), (4, .int p4)]) (hQ : ∀ (pc' : Nat) (ls' : Array Slot) (g1 : mSt) (H1 : Heap) (locs1 : List Loc), decode cX6_put pc' = .ok (.return_, 1) → cL G Z H0 X g1 H1 locs1 → (mFr [1248, 1280] g g1 ∧ True) → W p l e rm_kput_26 s m args below meth c H1 locs1 0 0 Q (F0 m pc' ls' [])) : W p l e rm_kput_26 s m args below meth c H locs 0 0 Q (F0 m 0 ls []) := by
  have hx := x.1
  have hb := x.2.1
  have hz := x.2.2.2.2.2.2.2.1
  have hzn := hz.1
  have hal0 : Z.al 13 i0 := hz.2 13 i0 (show i0 < 4 * Z.n from hi0)
  have up1 : (-2147483648 : Int) ≤ p1.toInt ∧ p1.toInt ≤ 2147483647 := (rg_any p1)
  have up3 : (0 : Int) ≤ p3.toInt ∧ p3.toInt ≤ 10000 := rp3
  have up4 : (-2147483648 : Int) ≤ p4.toInt ∧ p4.toInt ≤ 2147483647 := (rg_any p4)
  refine lv_iload_n hx hb dX6_put_0 rfl (lv_at hl 1 rfl) ?_
  refine lv_if_lt (tgt := 37) hx hb dX6_put_1 (by decide) (fun c1_1 => ?_) (fun c1_1 => ?_)
  · skip
    have ic1_1 := Int32.lt_iff_toInt_lt.mp c1_1
    have q2 : rg (-2147483648) (-1) p1 := (rg_lt c1_1 (rg_any p1) kc_0).1
    have uq2 : (-2147483648 : Int) ≤ p1.toInt ∧ p1.toInt ≤ -1 := q2
    exact hQ _ _ _ _ _ dX6_put_37 L ⟨mFr.rf, trivial⟩
  · skip
    have ic1_1 := Int32.le_iff_toInt_le.mp (rg_nlt c1_1)
    have q3 : rg (0) (2147483647) p1 := (rg_le (rg_nlt c1_1) kc_0 (rg_any p1)).2
    have uq3 : (0 : Int) ≤ p1.toInt ∧ p1.toInt ≤ 2147483647 := q3
    refine lv_iload_n hx hb dX6_put_4 rfl (lv_at hl 1 rfl) ?_
    refine lv_aload_n hx hb dX6_put_5 rfl (lv_at hl 0 rfl) ?_
    refine c_geti x L 13 i0 0 416 hal0 rfl rfl (wk_in kf_X6_15) dX6_put_6 (fun v4 ev4 wv4 => ?_)
    have rv4 : rg (8) (8) v4 := clj_416 wv4
    refine m_top (rg_lit rv4 (show (8 : Int32).toInt = 8 from (by decide))) ?_
    refine lv_icmp_ge (tgt := 37) hx hb dX6_put_9 (by decide) (fun c9_5 => ?_) (fun c9_5 => ?_)
    · skip
      have ic9_5 := Int32.le_iff_toInt_le.mp c9_5
      have q6 : rg (8) (2147483647) p1 := (rg_le c9_5 kc_8 q3).2
      have uq6 : (8 : Int) ≤ p1.toInt ∧ p1.toInt ≤ 2147483647 := q6
      exact hQ _ _ _ _ _ dX6_put_37 L ⟨mFr.rf, trivial⟩
    · skip
      have ic9_5 := Int32.lt_iff_toInt_lt.mp (rg_nle c9_5)
      have q7 : rg (0) (7) p1 := (rg_lt (rg_nle c9_5) q3 kc_8).1
      have uq7 : (0 : Int) ≤ p1.toInt ∧ p1.toInt ≤ 7 := q7
      refine lv_iload hx hb dX6_put_12 (lv_at hl 4 rfl) ?_
      refine lv_if_lt (tgt := 37) hx hb dX6_put_14 (by decide) (fun c14_8 => ?_) (fun c14_8 => ?_)
      · skip
        have ic14_8 := Int32.lt_iff_toInt_lt.mp c14_8
        have q9 : rg (-2147483648) (-1) p4 := (rg_lt c14_8 (rg_any p4) kc_0).1
        have uq9 : (-2147483648 : Int) ≤ p4.toInt ∧ p4.toInt ≤ -1 := q9
        exact hQ _ _ _ _ _ dX6_put_37 L ⟨mFr.rf, trivial⟩
      · skip
        have ic14_8 := Int32.le_iff_toInt_le.mp (rg_nlt c14_8)
        have q10 : rg (0) (2147483647) p4 := (rg_le (rg_nlt c14_8) kc_0 (rg_any p4)).2
        have uq10 : (0 : Int) ≤ p4.toInt ∧ p4.toInt ≤ 2147483647 := q10
        refine lv_iload hx hb dX6_put_17 (lv_at hl 4 rfl) ?_
        refine lv_bipush (v := 60) hx hb dX6_put_19 (by decide) ?_
        refine lv_icmp_gt (tgt := 37) hx hb dX6_put_21 (by decide) (fun c21_11 => ?_) (fun c21_11 => ?_)
        · skip
          have ic21_11 := Int32.lt_iff_toInt_lt.mp c21_11
          have q12 : rg (61) (2147483647) p4 := (rg_lt c21_11 kc_60 q10).2
          have uq12 : (61 : Int) ≤ p4.toInt ∧ p4.toInt ≤ 2147483647 := q12
          exact hQ _ _ _ _ _ dX6_put_37 L ⟨mFr.rf, trivial⟩
        · skip
          have ic21_11 := Int32.le_iff_toInt_le.mp (rg_nlt c21_11)
          have q13 : rg (0) (60) p4 := (rg_le (rg_nlt c21_11) q10 kc_60).1
          have uq13 : (0 : Int) ≤ p4.toInt ∧ p4.toInt ≤ 60 := q13
          refine lv_iload_n hx hb dX6_put_24 rfl (lv_at hl 3 rfl) ?_
          refine lv_if_lt (tgt := 37) hx hb dX6_put_25 (by decide) (fun c25_14 => ?_) (fun c25_14 => ?_)
          · skip
            have ic25_14 := Int32.lt_iff_toInt_lt.mp c25_14
            exact absurd ((rg_lt c25_14 rp3 kc_0).1 : rg (0) (-1) p3) (fun q => rg_dead q rfl)
          · skip
            have ic25_14 := Int32.le_iff_toInt_le.mp (rg_nlt c25_14)
            refine lv_iload_n hx hb dX6_put_28 rfl (lv_at hl 3 rfl) ?_
            refine lv_iload hx hb dX6_put_29 (lv_at hl 4 rfl) ?_
            refine lv_iadd hx hb dX6_put_31 ?_
            refine lv_topi (fun v15 ev15 => ?_)
            have rv15 : rg (0) (10060) v15 := (rg_add ev15 rp3 q13 rfl).1
            have tv15 := (rg_add ev15 rp3 q13 rfl).2
            have uv15 : (0 : Int) ≤ v15.toInt ∧ v15.toInt ≤ 10060 := rv15
            refine lv_aload_n hx hb dX6_put_32 rfl (lv_at hl 2 rfl) ?_
            refine c_len (n := 600) x L 26 q2 hq2 rfl (by decide) dX6_put_33 ?_
            refine lv_icmp_le (tgt := 38) hx hb dX6_put_34 (by decide) (fun c34_16 => ?_) (fun c34_16 => ?_)
            · skip
              have ic34_16 := Int32.le_iff_toInt_le.mp c34_16
              have q17 : rg (0) (600) v15 := (rg_le c34_16 rv15 kc_600).1
              have uq17 : (0 : Int) ≤ v15.toInt ∧ v15.toInt ≤ 600 := q17
              refine lv_aload_n hx hb dX6_put_38 rfl (lv_at hl 2 rfl) ?_
              refine lv_iload_n hx hb dX6_put_39 rfl (lv_at hl 3 rfl) ?_
              refine lv_aload_n hx hb dX6_put_40 rfl (lv_at hl 0 rfl) ?_
              have al18 : Z.al 39 i0 := hz.2 39 i0 (show i0 < 4 * Z.n from (by omega))
              refine c_getr (a := Z.ad 39 i0) x L 13 i0 1 hal0 rfl rfl (wk_in kf_X6_21) dX6_put_41 ?_
              refine lv_iload_n hx hb dX6_put_44 rfl (lv_at hl 1 rfl) ?_
              refine lv_bipush (v := 60) hx hb dX6_put_45 (by decide) ?_
              refine lv_imul hx hb dX6_put_47 ?_
              refine lv_topi (fun v19 ev19 => ?_)
              have rv19 : rg (0) (420) v19 := (rg_mul ev19 q7 kc_60 rfl).1
              have tv19 := (rg_mul ev19 q7 kc_60 rfl).2
              have y20 : (60 : Int32).toInt = 60 := by decide
              have uv19 : (0 : Int) ≤ v19.toInt ∧ v19.toInt ≤ 420 := rv19
              refine lv_iload hx hb dX6_put_48 (lv_at hl 4 rfl) ?_
              refine c_copy (rest := []) x (hml.trans hl.1.symm) L 26 q2 39 i0 832 1248 hq2 al18 rfl rfl rfl rfl ⟨rfl, rfl⟩ kl_X6_41 kw_cp (Int.le_trans (by decide) rp3.1) (Int.le_trans (by decide) rv19.1) (Int.le_trans (by decide) q13.1) (by show p3.toInt + p4.toInt ≤ 600; omega) (Int.le_trans (Int.add_le_add rv19.2 q13.2) (by decide)) (Nat.le_of_ble_eq_true rfl) (Nat.le_of_ble_eq_true rfl) dX6_put_50 (fun g21 H21 k21 ec21 L21 => ?_)
              refine lv_aload_n hx hb dX6_put_53 rfl (lv_at hl 0 rfl) ?_
              have al22 : Z.al 40 i0 := hz.2 40 i0 (show i0 < 4 * Z.n from (by omega))
              refine c_getr (a := Z.ad 40 i0) x L21 13 i0 2 hal0 rfl rfl (wk_in kf_X6_25) dX6_put_54 ?_
              refine lv_iload_n hx hb dX6_put_57 rfl (lv_at hl 1 rfl) ?_
              refine lv_iload hx hb dX6_put_58 (lv_at hl 4 rfl) ?_
              refine c_st x L21 40 i0 1280 al22 rfl rfl q7 rfl (crj_1280 (rg_w q13 rfl)) dX6_put_60 (fun g23 H23 k23 eg23 L23 => ?_)
              exact hQ _ _ _ _ _ dX6_put_61 L23 ⟨(mFr.upE (mFr.tr mFr.rf (cCpy_fr ec21) rfl) eg23 rfl), trivial⟩
            · skip
              have ic34_16 := Int32.lt_iff_toInt_lt.mp (rg_nle c34_16)
              have q24 : rg (601) (10060) v15 := (rg_lt (rg_nle c34_16) kc_600 rv15).2
              have uq24 : (601 : Int) ≤ v15.toInt ∧ v15.toInt ≤ 10060 := q24
              exact hQ _ _ _ _ _ dX6_put_37 L ⟨mFr.rf, trivial⟩
theorem c_kput_26 (l : Launch) {G : cG} {Z : cZ} (X : Int) (g : mSt) (i0 : Nat) (p1 : Int32) (q2 : Nat) (p3 : Int32) (p4 : Int32) (hX : 0 ≤ X ∧ X ≤ 2000000000) (hi0 : i0 < 4 * Z.n) (hq2 : Z.al 26 q2) (rp3 : rg (0) (10000) p3) : Met l yX6_put (wk (Cond.code yX6_put cX6_put 5 none)) rm_kput_26 (va_Pc [.ref (Z.ad 13 i0), .int p1, .ref (Z.ad 26 q2), .int p3, .int p4] (cPre G Z X g)) (cQv G Z X (fun g1 => mFr [1248, 1280] g g1 ∧ True)) 0 0 (cAd Z) := by
  refine Met.ofW (cc := cX6_put) (maxL := 5) (ret := none) (by decide) rfl ?_
  intro p e s m args below meth c s₁ B hml hv
  obtain ⟨rfl, hv⟩ := hv
  have hr := B.returns
  have hlocks := B.notSynchronized
  obtain ⟨x, L⟩ := c_start B rfl (fun w h => wk_in h) hv
  have hl := lv_entry ([.ref (Z.ad 13 i0), .int p1, .ref (Z.ad 26 q2), .int p3, .int p4]) (n := 5) (Nat.le_of_ble_eq_true rfl)
  rw [lg_entry_eq]
  generalize (lg_sl ([.ref (Z.ad 13 i0), .int p1, .ref (Z.ad 26 q2), .int p3, .int p4]) ++ List.replicate (5 - (lg_sl ([.ref (Z.ad 13 i0), .int p1, .ref (Z.ad 26 q2), .int p3, .int p4])).length) Slot.unset).toArray = ls at hl ⊢
  exact w_kput_26 x hml L hX i0 p1 q2 p3 p4 hi0 hq2 rp3 hl (fun pc' ls' g1 H1 locs1 hdg L hp => c_vret x L hr hlocks (Int.le_refl _) hp hdg)

def rm_kbegin : Room := { frames := 0, cells := 0, slots := 0, locals := 0 }
theorem hd_kbegin : yX6_begin.cls = cRn 6 ∧ yX6_begin.cls ≠ "java/lang/invoke/MethodHandle" ∧ yX6_begin.cls ≠ "java/lang/invoke/VarHandle" ∧ (parseMethodDescriptor yX6_begin.desc).map (fun d => d.parameters.length) = some 4 := by decide +kernel
set_option maxHeartbeats 4000000 in
set_option maxRecDepth 100000 in
theorem w_kbegin {p : Program} {l : Launch} {e : Env} {s : State} {m : MethodId} {args : Array Value} {below : List Frame} {meth : Method} {c : Code} {H : Heap} {locs : List Loc} {Q : State → Prop} {ls : Array Slot} {G : cG} {Z : cZ} {g : mSt} {H0 : Heap} {X : Int} (x : cX p c cX6_begin s args (wk (Cond.code yX6_begin cX6_begin 7 (some .boolean))) m G Z RX6 H0) (hml : c.maxLocals = 7) (L : cL G Z H0 X g H locs) (hX : 0 ≤ X ∧ X ≤ 2000000000) (i0 : Nat) (p1 : Int32) (p2 : Int32) (p3 : Int32) (p4 : Int32) (hi0 : i0 < 2 * Z.n) (rp3 : rg (0) (1) p3) (hl : lv_has ls 7 [(0, .ref (Z.ad 6 i0)), (1, .int p1), (2, .int p2), (3, .int p3), (4, .int p4)]) (hQ : ∀ (pc' : Nat) (ls' : Array Slot) (r : Int32) (g1 : mSt) (H1 : Heap) (locs1 : List Loc), decode cX6_begin pc' = .ok (.ireturn, 1) → cL G Z H0 X g1 H1 locs1 → (mFr [198, 832, 864] g g1 ∧ rg (0) (1) r ∧ True) → W p l e rm_kbegin s m args below meth c H1 locs1 0 0 Q (F0 m pc' ls' [.int r])) : W p l e rm_kbegin s m args below meth c H locs 0 0 Q (F0 m 0 ls []) := by
  have hx := x.1
  have hb := x.2.1
  have hz := x.2.2.2.2.2.2.2.1
  have hzn := hz.1
  have hal0 : Z.al 6 i0 := hz.2 6 i0 (show i0 < 2 * Z.n from hi0)
  refine lv_aload_n hx hb dX6_begin_0 rfl (lv_at hl 0 rfl) ?_
  refine c_geti x L 6 i0 6 198 hal0 rfl rfl (wk_in kf_X6_38) dX6_begin_1 (fun v1 ev1 wv1 => ?_)
  have rv1 : rg (0) (10) v1 := clj_198 wv1
  refine lv_aload_n hx hb dX6_begin_4 rfl (lv_at hl 0 rfl) ?_
  refine c_geti x L 6 i0 0 192 hal0 rfl rfl (wk_in kf_X6_15) dX6_begin_5 (fun v2 ev2 wv2 => ?_)
  have rv2 : rg (10) (10) v2 := clj_192 wv2
  refine m_top (rg_lit rv2 (show (10 : Int32).toInt = 10 from (by decide))) ?_
  refine lv_icmp_lt (tgt := 13) hx hb dX6_begin_8 (by decide) (fun c8_3 => ?_) (fun c8_3 => ?_)
  · skip
    have q4 : rg (0) (9) v1 := (rg_lt c8_3 rv1 kc_10).1
    refine lv_aload_n hx hb dX6_begin_13 rfl (lv_at hl 0 rfl) ?_
    refine c_geti x L 6 i0 5 197 hal0 rfl rfl (wk_in kf_X6_35) dX6_begin_14 (fun v5 ev5 wv5 => ?_)
    have rv5 : rg (0) (9) v5 := clj_197 wv5
    refine lv_aload_n hx hb dX6_begin_17 rfl (lv_at hl 0 rfl) ?_
    refine c_geti x L 6 i0 6 198 hal0 rfl rfl (wk_in kf_X6_38) dX6_begin_18 (fun v6 ev6 wv6 => ?_)
    refine m_top ((ev1).trans ev6.symm) ?_
    refine lv_iadd hx hb dX6_begin_21 ?_
    refine lv_topi (fun v7 ev7 => ?_)
    have rv7 : rg (0) (18) v7 := (rg_add ev7 rv5 q4 rfl).1
    refine lv_aload_n hx hb dX6_begin_22 rfl (lv_at hl 0 rfl) ?_
    refine c_geti x L 6 i0 0 192 hal0 rfl rfl (wk_in kf_X6_15) dX6_begin_23 (fun v8 ev8 wv8 => ?_)
    have rv8 : rg (10) (10) v8 := clj_192 wv8
    refine m_top (rg_lit rv8 (show (10 : Int32).toInt = 10 from (by decide))) ?_
    refine lv_irem hx hb dX6_begin_26 (by decide) ?_
    refine lv_topi (fun v9 ev9 => ?_)
    have rv9 : rg (0) (9) v9 := (rg_rem ev9 rv7 kc_10 rfl).1
    refine lv_istore (lv' := [(5, .int v9), (0, .ref (Z.ad 6 i0)), (1, .int p1), (2, .int p2), (3, .int p3), (4, .int p4)]) hx hb dX6_begin_27 hl (by decide) rfl (fun ls hl => ?_)
    refine lv_iload hx hb dX6_begin_29 (lv_at hl 0 rfl) ?_
    refine lv_bipush (v := 60) hx hb dX6_begin_31 (by decide) ?_
    refine lv_imul hx hb dX6_begin_33 ?_
    refine lv_topi (fun v10 ev10 => ?_)
    have rv10 : rg (0) (540) v10 := (rg_mul ev10 rv9 kc_60 rfl).1
    refine lv_istore (lv' := [(6, .int v10), (5, .int v9), (0, .ref (Z.ad 6 i0)), (1, .int p1), (2, .int p2), (3, .int p3), (4, .int p4)]) hx hb dX6_begin_34 hl (by decide) rfl (fun ls hl => ?_)
    refine lv_aload_n hx hb dX6_begin_36 rfl (lv_at hl 2 rfl) ?_
    have al11 : Z.al 26 i0 := hz.2 26 i0 (show i0 < 2 * Z.n from (by omega))
    refine c_getr (a := Z.ad 26 i0) x L 6 i0 1 hal0 rfl rfl (wk_in kf_X6_21) dX6_begin_37 ?_
    refine lv_iload hx hb dX6_begin_40 (lv_at hl 0 rfl) ?_
    refine lv_bipush (v := 9) hx hb dX6_begin_42 (by decide) ?_
    refine c_st x L 26 i0 832 al11 rfl rfl rv10 rfl (rg_any (9 : Int32)) dX6_begin_44 (fun g12 H12 k12 eg12 L12 => ?_)
    refine lv_aload_n hx hb dX6_begin_45 rfl (lv_at hl 2 rfl) ?_
    refine c_getr (a := Z.ad 26 i0) x L12 6 i0 1 hal0 rfl rfl (wk_in kf_X6_21) dX6_begin_46 ?_
    refine lv_iload hx hb dX6_begin_49 (lv_at hl 0 rfl) ?_
    refine lv_iconst (v := 1) hx hb dX6_begin_51 (by decide) ?_
    refine lv_iadd hx hb dX6_begin_52 ?_
    refine lv_topi (fun v13 ev13 => ?_)
    have rv13 : rg (1) (541) v13 := (rg_add ev13 rv10 kc_1 rfl).1
    refine lv_iconst (v := 3) hx hb dX6_begin_53 (by decide) ?_
    refine c_st x L12 26 i0 832 al11 rfl rfl rv13 rfl (rg_any (3 : Int32)) dX6_begin_54 (fun g14 H14 k14 eg14 L14 => ?_)
    refine lv_aload_n hx hb dX6_begin_55 rfl (lv_at hl 2 rfl) ?_
    refine c_getr (a := Z.ad 26 i0) x L14 6 i0 1 hal0 rfl rfl (wk_in kf_X6_21) dX6_begin_56 ?_
    refine lv_iload hx hb dX6_begin_59 (lv_at hl 0 rfl) ?_
    refine lv_iconst (v := 2) hx hb dX6_begin_61 (by decide) ?_
    refine lv_iadd hx hb dX6_begin_62 ?_
    refine lv_topi (fun v15 ev15 => ?_)
    have rv15 : rg (2) (542) v15 := (rg_add ev15 rv10 kc_2 rfl).1
    refine lv_iload_n hx hb dX6_begin_63 rfl (lv_at hl 4 rfl) ?_
    refine lv_bipush (v := 16) hx hb dX6_begin_64 (by decide) ?_
    refine lv_iushr hx hb dX6_begin_66 rfl ?_
    refine lv_topi (fun v16 ev16 => ?_)
    have rv16 : rg (0) (65535) v16 := rg_ush ev16 16 rfl
    refine lv_bipush (v := 127) hx hb dX6_begin_67 (by decide) ?_
    refine lv_iand hx hb dX6_begin_69 ?_
    refine lv_topi (fun v17 ev17 => ?_)
    have rv17 : rg (0) (127) v17 := rg_and ev17 7 127 (by decide) rfl
    refine lv_iload_n hx hb dX6_begin_70 rfl (lv_at hl 5 rfl) ?_
    have j81_19 : ∀ (b81_3_18 : Int32) (g19 : mSt) (H19 : Heap) (k19 : List Loc) (ls : Array Slot), mFr [] g14 g19 → cL G Z H0 X g19 H19 k19 → rg (0) (128) b81_3_18 → lv_has ls 7 [(0, .ref (Z.ad 6 i0)), (1, .int p1), (2, .int p2), (4, .int p4), (5, .int v9), (6, .int v10)] → W p l e rm_kbegin s m args below meth c H19 k19 0 0 Q (F0 m 81 ls [.int b81_3_18, .int v17, .int v15, .ref (Z.ad 26 i0)]) := by
      intro b81_3_18 g19 H19 k19 ls hF19 L19 rb81_3_18 hl
      refine lv_ior hx hb dX6_begin_81 ?_
      refine lv_topi (fun v20 ev20 => ?_)
      have rv20 : rg (-2147483648) (2147483647) v20 := rg_any v20
      refine c_st x L19 26 i0 832 al11 rfl rfl rv15 rfl (rg_any v20) dX6_begin_82 (fun g21 H21 k21 eg21 L21 => ?_)
      refine lv_aload_n hx hb dX6_begin_83 rfl (lv_at hl 0 rfl) ?_
      refine c_getr (a := Z.ad 26 i0) x L21 6 i0 1 hal0 rfl rfl (wk_in kf_X6_21) dX6_begin_84 ?_
      refine lv_iload hx hb dX6_begin_87 (lv_at hl 5 rfl) ?_
      refine lv_iconst (v := 3) hx hb dX6_begin_89 (by decide) ?_
      refine lv_iadd hx hb dX6_begin_90 ?_
      refine lv_topi (fun v22 ev22 => ?_)
      have rv22 : rg (3) (543) v22 := (rg_add ev22 rv10 kc_3 rfl).1
      refine lv_iload_n hx hb dX6_begin_91 rfl (lv_at hl 2 rfl) ?_
      refine lv_bipush (v := 8) hx hb dX6_begin_92 (by decide) ?_
      refine lv_iushr hx hb dX6_begin_94 rfl ?_
      refine lv_topi (fun v23 ev23 => ?_)
      have rv23 : rg (0) (16777215) v23 := rg_ush ev23 8 rfl
      refine lv_sipush (v := 255) hx hb dX6_begin_95 (by decide) ?_
      refine lv_iand hx hb dX6_begin_98 ?_
      refine lv_topi (fun v24 ev24 => ?_)
      have rv24 : rg (0) (255) v24 := rg_and ev24 8 255 (by decide) rfl
      refine c_st x L21 26 i0 832 al11 rfl rfl rv22 rfl (rg_any v24) dX6_begin_99 (fun g25 H25 k25 eg25 L25 => ?_)
      refine lv_aload_n hx hb dX6_begin_100 rfl (lv_at hl 0 rfl) ?_
      refine c_getr (a := Z.ad 26 i0) x L25 6 i0 1 hal0 rfl rfl (wk_in kf_X6_21) dX6_begin_101 ?_
      refine lv_iload hx hb dX6_begin_104 (lv_at hl 5 rfl) ?_
      refine lv_iconst (v := 4) hx hb dX6_begin_106 (by decide) ?_
      refine lv_iadd hx hb dX6_begin_107 ?_
      refine lv_topi (fun v26 ev26 => ?_)
      have rv26 : rg (4) (544) v26 := (rg_add ev26 rv10 kc_4 rfl).1
      refine lv_iload_n hx hb dX6_begin_108 rfl (lv_at hl 2 rfl) ?_
      refine lv_sipush (v := 255) hx hb dX6_begin_109 (by decide) ?_
      refine lv_iand hx hb dX6_begin_112 ?_
      refine lv_topi (fun v27 ev27 => ?_)
      have rv27 : rg (0) (255) v27 := rg_and ev27 8 255 (by decide) rfl
      refine c_st x L25 26 i0 832 al11 rfl rfl rv26 rfl (rg_any v27) dX6_begin_113 (fun g28 H28 k28 eg28 L28 => ?_)
      refine lv_aload_n hx hb dX6_begin_114 rfl (lv_at hl 0 rfl) ?_
      refine c_getr (a := Z.ad 26 i0) x L28 6 i0 1 hal0 rfl rfl (wk_in kf_X6_21) dX6_begin_115 ?_
      refine lv_iload hx hb dX6_begin_118 (lv_at hl 5 rfl) ?_
      refine lv_iconst (v := 5) hx hb dX6_begin_120 (by decide) ?_
      refine lv_iadd hx hb dX6_begin_121 ?_
      refine lv_topi (fun v29 ev29 => ?_)
      have rv29 : rg (5) (545) v29 := (rg_add ev29 rv10 kc_5 rfl).1
      refine lv_iload_n hx hb dX6_begin_122 rfl (lv_at hl 1 rfl) ?_
      refine c_st x L28 26 i0 832 al11 rfl rfl rv29 rfl (rg_any p1) dX6_begin_123 (fun g30 H30 k30 eg30 L30 => ?_)
      refine lv_aload_n hx hb dX6_begin_124 rfl (lv_at hl 0 rfl) ?_
      refine c_getr (a := Z.ad 26 i0) x L30 6 i0 1 hal0 rfl rfl (wk_in kf_X6_21) dX6_begin_125 ?_
      refine lv_iload hx hb dX6_begin_128 (lv_at hl 5 rfl) ?_
      refine lv_bipush (v := 6) hx hb dX6_begin_130 (by decide) ?_
      refine lv_iadd hx hb dX6_begin_132 ?_
      refine lv_topi (fun v31 ev31 => ?_)
      have rv31 : rg (6) (546) v31 := (rg_add ev31 rv10 kc_6 rfl).1
      refine lv_sipush (v := 128) hx hb dX6_begin_133 (by decide) ?_
      refine c_st x L30 26 i0 832 al11 rfl rfl rv31 rfl (rg_any (128 : Int32)) dX6_begin_136 (fun g32 H32 k32 eg32 L32 => ?_)
      refine lv_aload_n hx hb dX6_begin_137 rfl (lv_at hl 0 rfl) ?_
      refine c_getr (a := Z.ad 26 i0) x L32 6 i0 1 hal0 rfl rfl (wk_in kf_X6_21) dX6_begin_138 ?_
      refine lv_iload hx hb dX6_begin_141 (lv_at hl 5 rfl) ?_
      refine lv_bipush (v := 7) hx hb dX6_begin_143 (by decide) ?_
      refine lv_iadd hx hb dX6_begin_145 ?_
      refine lv_topi (fun v33 ev33 => ?_)
      have rv33 : rg (7) (547) v33 := (rg_add ev33 rv10 kc_7 rfl).1
      refine lv_iconst (v := 0) hx hb dX6_begin_146 (by decide) ?_
      refine c_st x L32 26 i0 832 al11 rfl rfl rv33 rfl (rg_any (0 : Int32)) dX6_begin_147 (fun g34 H34 k34 eg34 L34 => ?_)
      refine lv_aload_n hx hb dX6_begin_148 rfl (lv_at hl 0 rfl) ?_
      refine c_getr (a := Z.ad 26 i0) x L34 6 i0 1 hal0 rfl rfl (wk_in kf_X6_21) dX6_begin_149 ?_
      refine lv_iload hx hb dX6_begin_152 (lv_at hl 5 rfl) ?_
      refine lv_bipush (v := 8) hx hb dX6_begin_154 (by decide) ?_
      refine lv_iadd hx hb dX6_begin_156 ?_
      refine lv_topi (fun v35 ev35 => ?_)
      have rv35 : rg (8) (548) v35 := (rg_add ev35 rv10 kc_8 rfl).1
      refine lv_iload hx hb dX6_begin_157 (lv_at hl 3 rfl) ?_
      refine c_st x L34 26 i0 832 al11 rfl rfl rv35 rfl (rg_any p4) dX6_begin_159 (fun g36 H36 k36 eg36 L36 => ?_)
      refine lv_aload_n hx hb dX6_begin_160 rfl (lv_at hl 0 rfl) ?_
      have al37 : Z.al 27 i0 := hz.2 27 i0 (show i0 < 2 * Z.n from (by omega))
      refine c_getr (a := Z.ad 27 i0) x L36 6 i0 2 hal0 rfl rfl (wk_in kf_X6_25) dX6_begin_161 ?_
      refine lv_iload hx hb dX6_begin_164 (lv_at hl 4 rfl) ?_
      refine lv_bipush (v := 9) hx hb dX6_begin_166 (by decide) ?_
      refine c_st x L36 27 i0 864 al37 rfl rfl rv9 rfl (crj_864 (rg_w kc_9 rfl)) dX6_begin_168 (fun g38 H38 k38 eg38 L38 => ?_)
      refine lv_aload_n hx hb dX6_begin_169 rfl (lv_at hl 0 rfl) ?_
      refine lv_dup hx hb dX6_begin_170 rfl ?_
      refine c_geti x L38 6 i0 6 198 hal0 rfl rfl (wk_in kf_X6_38) dX6_begin_171 (fun v39 ev39 wv39 => ?_)
      refine m_top (((mm_up (mm_up (mm_up (mm_up (mm_up (mm_up (mm_up (mm_up (mm_fr (mm_up (mm_up ev1 eg12 rfl) eg14 rfl) hF19 rfl) eg21 rfl) eg25 rfl) eg28 rfl) eg30 rfl) eg32 rfl) eg34 rfl) eg36 rfl) eg38 rfl)).trans ev39.symm) ?_
      refine lv_iconst (v := 1) hx hb dX6_begin_174 (by decide) ?_
      refine lv_iadd hx hb dX6_begin_175 ?_
      refine lv_topi (fun v40 ev40 => ?_)
      have rv40 : rg (1) (10) v40 := (rg_add ev40 q4 kc_1 rfl).1
      refine c_puti x L38 6 i0 6 198 hal0 rfl rfl ⟨rfl, by decide +kernel⟩ (wk_in kf_X6_38) dX6_begin_176 (crj_198 (rg_w rv40 rfl)) (fun g41 H41 k41 eg41 L41 => ?_)
      refine lv_iconst (v := 1) hx hb dX6_begin_179 (by decide) ?_
      exact hQ _ _ (1 : Int32) _ _ _ dX6_begin_180 L41 ⟨(mFr.upE (mFr.upE (mFr.upE (mFr.upE (mFr.upE (mFr.upE (mFr.upE (mFr.upE (mFr.upE (mFr.tr (mFr.upE (mFr.upE mFr.rf eg12 rfl) eg14 rfl) hF19 rfl) eg21 rfl) eg25 rfl) eg28 rfl) eg30 rfl) eg32 rfl) eg34 rfl) eg36 rfl) eg38 rfl) eg41 rfl), rg_w kc_1 rfl, trivial⟩
    refine lv_if_eq (tgt := 78) hx hb dX6_begin_71 (by decide) (fun c71_42 => ?_) (fun c71_42 => ?_)
    · skip
      have q43 : rg (0) (0) p3 := (rg_eq c71_42 rp3 kc_0).1
      refine lv_sipush (v := 128) hx hb dX6_begin_78 (by decide) ?_
      exact j81_19 (128 : Int32) g14 _ _ ls mFr.rf L14 (rg_w kc_128 rfl) (lv_sub hl [2, 3, 4, 6, 1, 0] rfl)
    · skip
      have q44 : rg (1) (1) p3 := rg_neL c71_42 rp3 kc_0
      refine lv_iconst (v := 0) hx hb dX6_begin_74 (by decide) ?_
      refine lv_goto (tgt := 81) hx hb dX6_begin_75 (by decide) ?_
      exact j81_19 (0 : Int32) g14 _ _ ls mFr.rf L14 (rg_w kc_0 rfl) (lv_sub hl [2, 3, 4, 6, 1, 0] rfl)
  · skip
    have q45 : rg (10) (10) v1 := (rg_le (rg_nlt c8_3) kc_10 rv1).2
    refine lv_iconst (v := 0) hx hb dX6_begin_11 (by decide) ?_
    exact hQ _ _ (0 : Int32) _ _ _ dX6_begin_12 L ⟨mFr.rf, rg_w kc_0 rfl, trivial⟩
theorem c_kbegin (l : Launch) {G : cG} {Z : cZ} (X : Int) (g : mSt) (i0 : Nat) (p1 : Int32) (p2 : Int32) (p3 : Int32) (p4 : Int32) (hX : 0 ≤ X ∧ X ≤ 2000000000) (hi0 : i0 < 2 * Z.n) (rp3 : rg (0) (1) p3) : Met l yX6_begin (wk (Cond.code yX6_begin cX6_begin 7 (some .boolean))) rm_kbegin (va_Pc [.ref (Z.ad 6 i0), .int p1, .int p2, .int p3, .int p4] (cPre G Z X g)) (cQi G Z X (fun r g1 => mFr [198, 832, 864] g g1 ∧ rg (0) (1) r ∧ True)) 0 0 (cAd Z) := by
  refine Met.ofW (cc := cX6_begin) (maxL := 7) (ret := (some .boolean)) (by decide) rfl ?_
  intro p e s m args below meth c s₁ B hml hv
  obtain ⟨rfl, hv⟩ := hv
  have hr := B.returns
  have hlocks := B.notSynchronized
  obtain ⟨x, L⟩ := c_start B rfl (fun w h => wk_in h) hv
  have hl := lv_entry ([.ref (Z.ad 6 i0), .int p1, .int p2, .int p3, .int p4]) (n := 7) (Nat.le_of_ble_eq_true rfl)
  rw [lg_entry_eq]
  generalize (lg_sl ([.ref (Z.ad 6 i0), .int p1, .int p2, .int p3, .int p4]) ++ List.replicate (7 - (lg_sl ([.ref (Z.ad 6 i0), .int p1, .int p2, .int p3, .int p4])).length) Slot.unset).toArray = ls at hl ⊢
  exact w_kbegin x hml L hX i0 p1 p2 p3 p4 hi0 rp3 hl (fun pc' ls' r g1 H1 locs1 hdg L hp => c_zret x L hr hlocks (nar01 (rg_w hp.2.1 rfl)) (Int.le_refl _) hp hdg)

def rm_kmelement : Room := { frames := 1, cells := 0, slots := 0, locals := 21 }
theorem hd_kmelement : yX6_element.cls = cRn 6 ∧ yX6_element.cls ≠ "java/lang/invoke/MethodHandle" ∧ yX6_element.cls ≠ "java/lang/invoke/VarHandle" ∧ (parseMethodDescriptor yX6_element.desc).map (fun d => d.parameters.length) = some 3 := by decide +kernel
set_option maxHeartbeats 4000000 in
set_option maxRecDepth 100000 in
theorem w_kmelement {p : Program} {l : Launch} {e : Env} {s : State} {m : MethodId} {args : Array Value} {below : List Frame} {meth : Method} {c : Code} {H : Heap} {locs : List Loc} {Q : State → Prop} {ls : Array Slot} {G : cG} {Z : cZ} {g : mSt} {H0 : Heap} {X : Int} (x : cX p c cX6_element s args (wk (Cond.code yX6_element cX6_element 8 none)) m G Z RX6 H0) (hml : c.maxLocals = 8) (L : cL G Z H0 X g H locs) (hX : 0 ≤ X ∧ X ≤ 2000000000) (i0 : Nat) (p1 : Int32) (p2 : Int32) (p3 : Int32) (hi0 : i0 < 2 * Z.n) (rp2 : rg (1) (2) p2) (hl : lv_has ls 8 [(0, .ref (Z.ad 6 i0)), (1, .int p1), (2, .int p2), (3, .int p3)]) (hQ : ∀ (pc' : Nat) (ls' : Array Slot) (g1 : mSt) (H1 : Heap) (locs1 : List Loc), decode cX6_element pc' = .ok (.return_, 1) → cL G Z H0 X g1 H1 locs1 → (mFr [832, 864] g g1 ∧ True) → W p l e rm_kmelement s m args below meth c H1 locs1 0 0 Q (F0 m pc' ls' [])) : W p l e rm_kmelement s m args below meth c H locs 0 0 Q (F0 m 0 ls []) := by
  have hx := x.1
  have hb := x.2.1
  have hz := x.2.2.2.2.2.2.2.1
  have hzn := hz.1
  have hal0 : Z.al 6 i0 := hz.2 6 i0 (show i0 < 2 * Z.n from hi0)
  have up1 : (-2147483648 : Int) ≤ p1.toInt ∧ p1.toInt ≤ 2147483647 := (rg_any p1)
  have up2 : (1 : Int) ≤ p2.toInt ∧ p2.toInt ≤ 2 := rp2
  have up3 : (-2147483648 : Int) ≤ p3.toInt ∧ p3.toInt ≤ 2147483647 := (rg_any p3)
  refine lv_aload_n hx hb dX6_element_0 rfl (lv_at hl 0 rfl) ?_
  refine c_geti x L 6 i0 5 197 hal0 rfl rfl (wk_in kf_X6_35) dX6_element_1 (fun v1 ev1 wv1 => ?_)
  have rv1 : rg (0) (9) v1 := clj_197 wv1
  have uv1 : (0 : Int) ≤ v1.toInt ∧ v1.toInt ≤ 9 := rv1
  have sv1 : v1.toInt = (g 197 i0).toInt := congrArg Int32.toInt (ev1.trans (congrFun ((show mFr [832, 864] g g from mFr.rf).at 197 rfl) _))
  refine lv_iconst (v := 0) hx hb dX6_element_4 (by decide) ?_
  refine lv_aload_n hx hb dX6_element_5 rfl (lv_at hl 0 rfl) ?_
  refine c_geti x L 6 i0 6 198 hal0 rfl rfl (wk_in kf_X6_38) dX6_element_6 (fun v2 ev2 wv2 => ?_)
  have rv2 : rg (0) (10) v2 := clj_198 wv2
  have uv2 : (0 : Int) ≤ v2.toInt ∧ v2.toInt ≤ 10 := rv2
  have sv2 : v2.toInt = (g 198 i0).toInt := congrArg Int32.toInt (ev2.trans (congrFun ((show mFr [832, 864] g g from mFr.rf).at 198 rfl) _))
  refine lv_iconst (v := 1) hx hb dX6_element_9 (by decide) ?_
  refine lv_isub hx hb dX6_element_10 ?_
  refine lv_topi (fun v3 ev3 => ?_)
  have rv3 : rg (-1) (9) v3 := (rg_sub ev3 rv2 kc_1 rfl).1
  have tv3 := (rg_sub ev3 rv2 kc_1 rfl).2
  have y4 : (1 : Int32).toInt = 1 := by decide
  have uv3 : (-1 : Int) ≤ v3.toInt ∧ v3.toInt ≤ 9 := rv3
  refine va_mmax (rest := [.int v1]) hx hb (hml.trans hl.1.symm) x.2.2.2.2.1 (x.2.2.1 _ (wk_in kl_X6_9)) (x.2.2.1 _ (wk_in kw_max.1)) (x.2.2.1 _ (wk_in kw_max.2.1)) (x.2.2.1 _ (wk_in kw_max.2.2)) (Nat.le_of_ble_eq_true rfl) (Nat.le_of_ble_eq_true rfl) (Nat.zero_le _) (Nat.zero_le _) dX6_element_11 ?_
  refine lv_topi (fun v5 ev5 => ?_)
  have hmv5 := rg_max ev5 kc_0 rv3
  have rv5 : rg (0) (9) v5 := rg_w hmv5.1 rfl
  have tv5 := hmv5.2
  have uv5 : (0 : Int) ≤ v5.toInt ∧ v5.toInt ≤ 9 := rv5
  have y6 : (0 : Int32).toInt = 0 := by decide
  refine lv_iadd hx hb dX6_element_14 ?_
  refine lv_topi (fun v7 ev7 => ?_)
  have rv7 : rg (0) (18) v7 := (rg_add ev7 rv1 rv5 rfl).1
  have tv7 := (rg_add ev7 rv1 rv5 rfl).2
  have uv7 : (0 : Int) ≤ v7.toInt ∧ v7.toInt ≤ 18 := rv7
  refine lv_aload_n hx hb dX6_element_15 rfl (lv_at hl 0 rfl) ?_
  refine c_geti x L 6 i0 0 192 hal0 rfl rfl (wk_in kf_X6_15) dX6_element_16 (fun v8 ev8 wv8 => ?_)
  have rv8 : rg (10) (10) v8 := clj_192 wv8
  refine m_top (rg_lit rv8 (show (10 : Int32).toInt = 10 from (by decide))) ?_
  refine lv_irem hx hb dX6_element_19 (by decide) ?_
  refine lv_topi (fun v9 ev9 => ?_)
  have rv9 : rg (0) (9) v9 := (rg_rem ev9 rv7 kc_10 rfl).1
  have tv9 := (rg_rem ev9 rv7 kc_10 rfl).2
  have y10 : (10 : Int32).toInt = 10 := by decide
  have uv9 : (0 : Int) ≤ v9.toInt ∧ v9.toInt ≤ 9 := rv9
  refine lv_istore (lv' := [(4, .int v9), (0, .ref (Z.ad 6 i0)), (1, .int p1), (2, .int p2), (3, .int p3)]) hx hb dX6_element_20 hl (by decide) rfl (fun ls hl => ?_)
  refine lv_aload_n hx hb dX6_element_22 rfl (lv_at hl 1 rfl) ?_
  have al11 : Z.al 27 i0 := hz.2 27 i0 (show i0 < 2 * Z.n from (by omega))
  refine c_getr (a := Z.ad 27 i0) x L 6 i0 2 hal0 rfl rfl (wk_in kf_X6_25) dX6_element_23 ?_
  refine lv_iload hx hb dX6_element_26 (lv_at hl 0 rfl) ?_
  refine c_ld x L 27 i0 864 al11 rfl rfl rv9 rfl dX6_element_28 (fun v12 ev12 wv12 => ?_)
  have rv12 : rg (0) (60) v12 := clj_864 wv12
  have uv12 : (0 : Int) ≤ v12.toInt ∧ v12.toInt ≤ 60 := rv12
  have sv12 := congrArg Int32.toInt ev12
  refine lv_istore (lv' := [(5, .int v12), (4, .int v9), (0, .ref (Z.ad 6 i0)), (1, .int p1), (2, .int p2), (3, .int p3)]) hx hb dX6_element_29 hl (by decide) rfl (fun ls hl => ?_)
  refine lv_aload_n hx hb dX6_element_31 rfl (lv_at hl 2 rfl) ?_
  refine c_geti x L 6 i0 6 198 hal0 rfl rfl (wk_in kf_X6_38) dX6_element_32 (fun v13 ev13 wv13 => ?_)
  refine m_top ((ev2).trans ev13.symm) ?_
  refine lv_iconst (v := 1) hx hb dX6_element_35 (by decide) ?_
  refine lv_icmp_lt (tgt := 50) hx hb dX6_element_36 (by decide) (fun c36_14 => ?_) (fun c36_14 => ?_)
  · skip
    have ic36_14 := Int32.lt_iff_toInt_lt.mp c36_14
    have q15 : rg (0) (0) v2 := (rg_lt c36_14 rv2 kc_1).1
    have uq15 : (0 : Int) ≤ v2.toInt ∧ v2.toInt ≤ 0 := q15
    exact hQ _ _ _ _ _ dX6_element_50 L ⟨mFr.rf, trivial⟩
  · skip
    have ic36_14 := Int32.le_iff_toInt_le.mp (rg_nlt c36_14)
    have q16 : rg (1) (10) v2 := (rg_le (rg_nlt c36_14) kc_1 rv2).2
    have uq16 : (1 : Int) ≤ v2.toInt ∧ v2.toInt ≤ 10 := q16
    refine lv_iload hx hb dX6_element_39 (lv_at hl 0 rfl) ?_
    refine lv_iconst (v := 4) hx hb dX6_element_41 (by decide) ?_
    refine lv_iadd hx hb dX6_element_42 ?_
    refine lv_topi (fun v17 ev17 => ?_)
    have rv17 : rg (4) (64) v17 := (rg_add ev17 rv12 kc_4 rfl).1
    have dv17 := (rg_add ev17 rv12 kc_4 rfl).2
    have tv17 := (rg_add ev17 rv12 kc_4 rfl).2
    have y18 : (4 : Int32).toInt = 4 := by decide
    have uv17 : (4 : Int) ≤ v17.toInt ∧ v17.toInt ≤ 64 := rv17
    refine lv_iload_n hx hb dX6_element_43 rfl (lv_at hl 4 rfl) ?_
    refine lv_iadd hx hb dX6_element_44 ?_
    refine lv_topi (fun v19 ev19 => ?_)
    have rv19 : rg (5) (66) v19 := (rg_add ev19 rv17 rp2 rfl).1
    have tv19 := (rg_add ev19 rv17 rp2 rfl).2
    have uv19 : (5 : Int) ≤ v19.toInt ∧ v19.toInt ≤ 66 := rv19
    refine lv_bipush (v := 60) hx hb dX6_element_45 (by decide) ?_
    refine lv_icmp_le (tgt := 51) hx hb dX6_element_47 (by decide) (fun c47_20 => ?_) (fun c47_20 => ?_)
    · skip
      have ic47_20 := Int32.le_iff_toInt_le.mp c47_20
      have q21 : rg (5) (60) v19 := (rg_le c47_20 rv19 kc_60).1
      have uq21 : (5 : Int) ≤ v19.toInt ∧ v19.toInt ≤ 60 := q21
      refine lv_iload hx hb dX6_element_51 (lv_at hl 1 rfl) ?_
      refine lv_bipush (v := 60) hx hb dX6_element_53 (by decide) ?_
      refine lv_imul hx hb dX6_element_55 ?_
      refine lv_topi (fun v22 ev22 => ?_)
      have rv22 : rg (0) (540) v22 := (rg_mul ev22 rv9 kc_60 rfl).1
      have tv22 := (rg_mul ev22 rv9 kc_60 rfl).2
      have y23 : (60 : Int32).toInt = 60 := by decide
      have uv22 : (0 : Int) ≤ v22.toInt ∧ v22.toInt ≤ 540 := rv22
      refine lv_iload hx hb dX6_element_56 (lv_at hl 0 rfl) ?_
      refine lv_iadd hx hb dX6_element_58 ?_
      refine lv_topi (fun v24 ev24 => ?_)
      have rv24 : rg (0) (600) v24 := (rg_add ev24 rv22 rv12 rfl).1
      have tv24 := (rg_add ev24 rv22 rv12 rfl).2
      have q25 : rg (0) (595) v24 := ⟨by omega, by omega⟩
      have uv24 : (0 : Int) ≤ v24.toInt ∧ v24.toInt ≤ 595 := q25
      refine lv_istore (lv' := [(6, .int v24), (5, .int v12), (4, .int v9), (0, .ref (Z.ad 6 i0)), (1, .int p1), (2, .int p2), (3, .int p3)]) hx hb dX6_element_59 hl (by decide) rfl (fun ls hl => ?_)
      refine lv_aload_n hx hb dX6_element_61 rfl (lv_at hl 3 rfl) ?_
      have al26 : Z.al 26 i0 := hz.2 26 i0 (show i0 < 2 * Z.n from (by omega))
      refine c_getr (a := Z.ad 26 i0) x L 6 i0 1 hal0 rfl rfl (wk_in kf_X6_21) dX6_element_62 ?_
      refine lv_iload hx hb dX6_element_65 (lv_at hl 0 rfl) ?_
      refine lv_iload_n hx hb dX6_element_67 rfl (lv_at hl 4 rfl) ?_
      refine c_st x L 26 i0 832 al26 rfl rfl q25 rfl (rg_any p1) dX6_element_68 (fun g27 H27 k27 eg27 L27 => ?_)
      refine lv_aload_n hx hb dX6_element_69 rfl (lv_at hl 3 rfl) ?_
      refine c_getr (a := Z.ad 26 i0) x L27 6 i0 1 hal0 rfl rfl (wk_in kf_X6_21) dX6_element_70 ?_
      refine lv_iload hx hb dX6_element_73 (lv_at hl 0 rfl) ?_
      refine lv_iconst (v := 1) hx hb dX6_element_75 (by decide) ?_
      refine lv_iadd hx hb dX6_element_76 ?_
      refine lv_topi (fun v28 ev28 => ?_)
      have rv28 : rg (1) (596) v28 := (rg_add ev28 q25 kc_1 rfl).1
      have dv28 := (rg_add ev28 q25 kc_1 rfl).2
      have tv28 := (rg_add ev28 q25 kc_1 rfl).2
      have y29 : (1 : Int32).toInt = 1 := by decide
      have uv28 : (1 : Int) ≤ v28.toInt ∧ v28.toInt ≤ 596 := rv28
      refine lv_sipush (v := 128) hx hb dX6_element_77 (by decide) ?_
      refine c_st x L27 26 i0 832 al26 rfl rfl rv28 rfl (rg_any (128 : Int32)) dX6_element_80 (fun g30 H30 k30 eg30 L30 => ?_)
      refine lv_aload_n hx hb dX6_element_81 rfl (lv_at hl 3 rfl) ?_
      refine c_getr (a := Z.ad 26 i0) x L30 6 i0 1 hal0 rfl rfl (wk_in kf_X6_21) dX6_element_82 ?_
      refine lv_iload hx hb dX6_element_85 (lv_at hl 0 rfl) ?_
      refine lv_iconst (v := 2) hx hb dX6_element_87 (by decide) ?_
      refine lv_iadd hx hb dX6_element_88 ?_
      refine lv_topi (fun v31 ev31 => ?_)
      have rv31 : rg (2) (597) v31 := (rg_add ev31 q25 kc_2 rfl).1
      have dv31 := (rg_add ev31 q25 kc_2 rfl).2
      have tv31 := (rg_add ev31 q25 kc_2 rfl).2
      have y32 : (2 : Int32).toInt = 2 := by decide
      have uv31 : (2 : Int) ≤ v31.toInt ∧ v31.toInt ≤ 597 := rv31
      refine lv_iconst (v := 0) hx hb dX6_element_89 (by decide) ?_
      refine c_st x L30 26 i0 832 al26 rfl rfl rv31 rfl (rg_any (0 : Int32)) dX6_element_90 (fun g33 H33 k33 eg33 L33 => ?_)
      refine lv_aload_n hx hb dX6_element_91 rfl (lv_at hl 3 rfl) ?_
      refine c_getr (a := Z.ad 26 i0) x L33 6 i0 1 hal0 rfl rfl (wk_in kf_X6_21) dX6_element_92 ?_
      refine lv_iload hx hb dX6_element_95 (lv_at hl 0 rfl) ?_
      refine lv_iconst (v := 3) hx hb dX6_element_97 (by decide) ?_
      refine lv_iadd hx hb dX6_element_98 ?_
      refine lv_topi (fun v34 ev34 => ?_)
      have rv34 : rg (3) (598) v34 := (rg_add ev34 q25 kc_3 rfl).1
      have dv34 := (rg_add ev34 q25 kc_3 rfl).2
      have tv34 := (rg_add ev34 q25 kc_3 rfl).2
      have y35 : (3 : Int32).toInt = 3 := by decide
      have uv34 : (3 : Int) ≤ v34.toInt ∧ v34.toInt ≤ 598 := rv34
      refine lv_iload_n hx hb dX6_element_99 rfl (lv_at hl 5 rfl) ?_
      refine c_st x L33 26 i0 832 al26 rfl rfl rv34 rfl (rg_any p2) dX6_element_100 (fun g36 H36 k36 eg36 L36 => ?_)
      refine lv_iconst (v := 0) hx hb dX6_element_101 (by decide) ?_
      refine lv_istore (lv' := [(7, .int (0 : Int32)), (6, .int v24), (5, .int v12), (4, .int v9), (0, .ref (Z.ad 6 i0)), (1, .int p1), (2, .int p2), (3, .int p3)]) hx hb dX6_element_102 hl (by decide) rfl (fun ls hl => ?_)
      have j104_38 : ∀ (n : Nat) (a104_7_37 : Int32) (g38 : mSt) (H38 : Heap) (k38 : List Loc) (ls : Array Slot), mFr [832] g36 g38 → cL G Z H0 X g38 H38 k38 → rg (0) (2) a104_7_37 → lv_has ls 8 [(0, .ref (Z.ad 6 i0)), (2, .int p2), (3, .int p3), (4, .int v9), (5, .int v12), (6, .int v24), (7, .int a104_7_37)] → ((2 : Int) - a104_7_37.toInt).toNat = n → W p l e rm_kmelement s m args below meth c H38 k38 0 0 Q (F0 m 104 ls []) := by
        intro n
        induction n using Nat.strongRecOn with
        | _ n ih38 =>
          intro a104_7_37 g38 H38 k38 ls hF38 L38 ra104_7_37 hl hn38
          subst hn38
          have ua104_7_37 : (0 : Int) ≤ a104_7_37.toInt ∧ a104_7_37.toInt ≤ 2 := ra104_7_37
          refine lv_iload hx hb dX6_element_104 (lv_at hl 6 rfl) ?_
          refine lv_iload_n hx hb dX6_element_106 rfl (lv_at hl 1 rfl) ?_
          refine lv_icmp_ge (tgt := 143) hx hb dX6_element_107 (by decide) (fun c107_39 => ?_) (fun c107_39 => ?_)
          · skip
            have ic107_39 := Int32.le_iff_toInt_le.mp c107_39
            have q40 : rg (1) (2) a104_7_37 := (rg_le c107_39 rp2 ra104_7_37).2
            have uq40 : (1 : Int) ≤ a104_7_37.toInt ∧ a104_7_37.toInt ≤ 2 := q40
            refine lv_aload_n hx hb dX6_element_143 rfl (lv_at hl 0 rfl) ?_
            refine c_getr (a := Z.ad 27 i0) x L38 6 i0 2 hal0 rfl rfl (wk_in kf_X6_25) dX6_element_144 ?_
            refine lv_iload hx hb dX6_element_147 (lv_at hl 3 rfl) ?_
            refine lv_iload hx hb dX6_element_149 (lv_at hl 4 rfl) ?_
            refine lv_iconst (v := 4) hx hb dX6_element_151 (by decide) ?_
            refine lv_iadd hx hb dX6_element_152 ?_
            refine m_top ev17 ?_
            refine lv_iload_n hx hb dX6_element_153 rfl (lv_at hl 1 rfl) ?_
            refine lv_iadd hx hb dX6_element_154 ?_
            refine m_top ev19 ?_
            refine c_st x L38 27 i0 864 al11 rfl rfl rv9 rfl (crj_864 (rg_w q21 rfl)) dX6_element_155 (fun g41 H41 k41 eg41 L41 => ?_)
            exact hQ _ _ _ _ _ dX6_element_156 L41 ⟨(mFr.upE (mFr.tr (mFr.upE (mFr.upE (mFr.upE (mFr.upE mFr.rf eg27 rfl) eg30 rfl) eg33 rfl) eg36 rfl) hF38 rfl) eg41 rfl), trivial⟩
          · skip
            have ic107_39 := Int32.lt_iff_toInt_lt.mp (rg_nle c107_39)
            have q42 : rg (0) (1) a104_7_37 := (rg_lt (rg_nle c107_39) ra104_7_37 rp2).1
            have uq42 : (0 : Int) ≤ a104_7_37.toInt ∧ a104_7_37.toInt ≤ 1 := q42
            refine lv_aload_n hx hb dX6_element_110 rfl (lv_at hl 0 rfl) ?_
            refine c_getr (a := Z.ad 26 i0) x L38 6 i0 1 hal0 rfl rfl (wk_in kf_X6_21) dX6_element_111 ?_
            refine lv_iload hx hb dX6_element_114 (lv_at hl 5 rfl) ?_
            refine lv_iconst (v := 4) hx hb dX6_element_116 (by decide) ?_
            refine lv_iadd hx hb dX6_element_117 ?_
            refine lv_topi (fun v43 ev43 => ?_)
            have rv43 : rg (4) (599) v43 := (rg_add ev43 q25 kc_4 rfl).1
            have dv43 := (rg_add ev43 q25 kc_4 rfl).2
            have tv43 := (rg_add ev43 q25 kc_4 rfl).2
            have y44 : (4 : Int32).toInt = 4 := by decide
            have uv43 : (4 : Int) ≤ v43.toInt ∧ v43.toInt ≤ 599 := rv43
            refine lv_iload hx hb dX6_element_118 (lv_at hl 6 rfl) ?_
            refine lv_iadd hx hb dX6_element_120 ?_
            refine lv_topi (fun v45 ev45 => ?_)
            have rv45 : rg (4) (600) v45 := (rg_add ev45 rv43 q42 rfl).1
            have tv45 := (rg_add ev45 rv43 q42 rfl).2
            have q46 : rg (4) (599) v45 := ⟨by omega, by omega⟩
            have uv45 : (4 : Int) ≤ v45.toInt ∧ v45.toInt ≤ 599 := q46
            refine lv_iload_n hx hb dX6_element_121 rfl (lv_at hl 2 rfl) ?_
            refine lv_bipush (v := 8) hx hb dX6_element_122 (by decide) ?_
            refine lv_iload_n hx hb dX6_element_124 rfl (lv_at hl 1 rfl) ?_
            refine lv_iconst (v := 1) hx hb dX6_element_125 (by decide) ?_
            refine lv_isub hx hb dX6_element_126 ?_
            refine lv_topi (fun v47 ev47 => ?_)
            have rv47 : rg (0) (1) v47 := (rg_sub ev47 rp2 kc_1 rfl).1
            have tv47 := (rg_sub ev47 rp2 kc_1 rfl).2
            have y48 : (1 : Int32).toInt = 1 := by decide
            have uv47 : (0 : Int) ≤ v47.toInt ∧ v47.toInt ≤ 1 := rv47
            refine lv_iload hx hb dX6_element_127 (lv_at hl 6 rfl) ?_
            refine lv_isub hx hb dX6_element_129 ?_
            refine lv_topi (fun v49 ev49 => ?_)
            have rv49 : rg (-1) (1) v49 := (rg_sub ev49 rv47 q42 rfl).1
            have tv49 := (rg_sub ev49 rv47 q42 rfl).2
            have uv49 : (-1 : Int) ≤ v49.toInt ∧ v49.toInt ≤ 1 := rv49
            refine lv_imul hx hb dX6_element_130 ?_
            refine lv_topi (fun v50 ev50 => ?_)
            have rv50 : rg (-8) (8) v50 := (rg_mulL ev50 kc_8 rv49 rfl).1
            have tv50 := (rg_mulL ev50 kc_8 rv49 rfl).2
            have y51 : (8 : Int32).toInt = 8 := by decide
            have uv50 : (-8 : Int) ≤ v50.toInt ∧ v50.toInt ≤ 8 := rv50
            refine lv_iushr hx hb dX6_element_131 rfl ?_
            refine lv_topi (fun v52 ev52 => ?_)
            have rv52 : rg (-2147483648) (2147483647) v52 := rg_any v52
            have uv52 : (-2147483648 : Int) ≤ v52.toInt ∧ v52.toInt ≤ 2147483647 := rv52
            refine lv_sipush (v := 255) hx hb dX6_element_132 (by decide) ?_
            refine lv_iand hx hb dX6_element_135 ?_
            refine lv_topi (fun v53 ev53 => ?_)
            have rv53 : rg (0) (255) v53 := rg_and ev53 8 255 (by decide) rfl
            have uv53 : (0 : Int) ≤ v53.toInt ∧ v53.toInt ≤ 255 := rv53
            refine c_st x L38 26 i0 832 al26 rfl rfl q46 rfl (rg_any v53) dX6_element_136 (fun g54 H54 k54 eg54 L54 => ?_)
            obtain ⟨v55, ev55, fv55⟩ := inc_ex a104_7_37 (1) (1 : Int32) (by decide)
            have rv55 : rg (1) (2) v55 := (rg_add ev55 q42 kc_1 rfl).1
            have tv55 := (rg_add ev55 q42 kc_1 rfl).2
            have yv55 : (1 : Int32).toInt = 1 := by decide
            refine lv_iinc (v := v55) (lv' := [(7, .int v55), (0, .ref (Z.ad 6 i0)), (2, .int p2), (3, .int p3), (4, .int v9), (5, .int v12), (6, .int v24)]) hx hb dX6_element_137 hl (k := 6) rfl fv55 (by decide) rfl (fun ls hl => ?_)
            refine lv_goto (tgt := 104) hx hb dX6_element_140 (by decide) ?_
            exact ih38 _ (ms_up tv55 kc_1 q42 rfl rfl) v55 g54 _ _ ls (mFr.upE hF38 eg54 rfl) L54 (rg_w rv55 rfl) (lv_sub hl [1, 2, 3, 4, 5, 6, 0] rfl) rfl
      have y56 : (0 : Int32).toInt = 0 := by decide
      exact j104_38 _ (0 : Int32) g36 _ _ ls mFr.rf L36 (rg_w kc_0 rfl) (lv_sub hl [4, 6, 7, 3, 2, 1, 0] rfl) rfl
    · skip
      have ic47_20 := Int32.lt_iff_toInt_lt.mp (rg_nle c47_20)
      have q57 : rg (61) (66) v19 := (rg_lt (rg_nle c47_20) kc_60 rv19).2
      have uq57 : (61 : Int) ≤ v19.toInt ∧ v19.toInt ≤ 66 := q57
      exact hQ _ _ _ _ _ dX6_element_50 L ⟨mFr.rf, trivial⟩
theorem c_kmelement (l : Launch) {G : cG} {Z : cZ} (X : Int) (g : mSt) (i0 : Nat) (p1 : Int32) (p2 : Int32) (p3 : Int32) (hX : 0 ≤ X ∧ X ≤ 2000000000) (hi0 : i0 < 2 * Z.n) (rp2 : rg (1) (2) p2) : Met l yX6_element (wk (Cond.code yX6_element cX6_element 8 none)) rm_kmelement (va_Pc [.ref (Z.ad 6 i0), .int p1, .int p2, .int p3] (cPre G Z X g)) (cQv G Z X (fun g1 => mFr [832, 864] g g1 ∧ True)) 0 0 (cAd Z) := by
  refine Met.ofW (cc := cX6_element) (maxL := 8) (ret := none) (by decide) rfl ?_
  intro p e s m args below meth c s₁ B hml hv
  obtain ⟨rfl, hv⟩ := hv
  have hr := B.returns
  have hlocks := B.notSynchronized
  obtain ⟨x, L⟩ := c_start B rfl (fun w h => wk_in h) hv
  have hl := lv_entry ([.ref (Z.ad 6 i0), .int p1, .int p2, .int p3]) (n := 8) (Nat.le_of_ble_eq_true rfl)
  rw [lg_entry_eq]
  generalize (lg_sl ([.ref (Z.ad 6 i0), .int p1, .int p2, .int p3]) ++ List.replicate (8 - (lg_sl ([.ref (Z.ad 6 i0), .int p1, .int p2, .int p3])).length) Slot.unset).toArray = ls at hl ⊢
  exact w_kmelement x hml L hX i0 p1 p2 p3 hi0 rp2 hl (fun pc' ls' g1 H1 locs1 hdg L hp => c_vret x L hr hlocks (Int.le_refl _) hp hdg)

def rm_kmdropFirst : Room := { frames := 0, cells := 0, slots := 0, locals := 0 }
theorem hd_kmdropFirst : yX6_dropFirst.cls = cRn 6 ∧ yX6_dropFirst.cls ≠ "java/lang/invoke/MethodHandle" ∧ yX6_dropFirst.cls ≠ "java/lang/invoke/VarHandle" ∧ (parseMethodDescriptor yX6_dropFirst.desc).map (fun d => d.parameters.length) = some 0 := by decide +kernel
set_option maxHeartbeats 4000000 in
set_option maxRecDepth 100000 in
theorem w_kmdropFirst {p : Program} {l : Launch} {e : Env} {s : State} {m : MethodId} {args : Array Value} {below : List Frame} {meth : Method} {c : Code} {H : Heap} {locs : List Loc} {Q : State → Prop} {ls : Array Slot} {G : cG} {Z : cZ} {g : mSt} {H0 : Heap} {X : Int} (x : cX p c cX6_dropFirst s args (wk (Cond.code yX6_dropFirst cX6_dropFirst 1 none)) m G Z RX6 H0) (hml : c.maxLocals = 1) (L : cL G Z H0 X g H locs) (hX : 0 ≤ X ∧ X ≤ 2000000000) (i0 : Nat) (hi0 : i0 < 2 * Z.n) (hl : lv_has ls 1 [(0, .ref (Z.ad 6 i0))]) (hQ : ∀ (pc' : Nat) (ls' : Array Slot) (g1 : mSt) (H1 : Heap) (locs1 : List Loc), decode cX6_dropFirst pc' = .ok (.return_, 1) → cL G Z H0 X g1 H1 locs1 → (mFr [197, 198] g g1 ∧ True) → W p l e rm_kmdropFirst s m args below meth c H1 locs1 0 0 Q (F0 m pc' ls' [])) : W p l e rm_kmdropFirst s m args below meth c H locs 0 0 Q (F0 m 0 ls []) := by
  have hx := x.1
  have hb := x.2.1
  have hz := x.2.2.2.2.2.2.2.1
  have hzn := hz.1
  have hal0 : Z.al 6 i0 := hz.2 6 i0 (show i0 < 2 * Z.n from hi0)
  refine lv_aload_n hx hb dX6_dropFirst_0 rfl (lv_at hl 0 rfl) ?_
  refine c_geti x L 6 i0 6 198 hal0 rfl rfl (wk_in kf_X6_38) dX6_dropFirst_1 (fun v1 ev1 wv1 => ?_)
  have rv1 : rg (0) (10) v1 := clj_198 wv1
  refine lv_if_le (tgt := 32) hx hb dX6_dropFirst_4 (by decide) (fun c4_2 => ?_) (fun c4_2 => ?_)
  · skip
    have q3 : rg (0) (0) v1 := (rg_le c4_2 rv1 kc_0).1
    exact hQ _ _ _ _ _ dX6_dropFirst_32 L ⟨mFr.rf, trivial⟩
  · skip
    have q4 : rg (1) (10) v1 := (rg_lt (rg_nle c4_2) kc_0 rv1).2
    refine lv_aload_n hx hb dX6_dropFirst_7 rfl (lv_at hl 0 rfl) ?_
    refine lv_aload_n hx hb dX6_dropFirst_8 rfl (lv_at hl 0 rfl) ?_
    refine c_geti x L 6 i0 5 197 hal0 rfl rfl (wk_in kf_X6_35) dX6_dropFirst_9 (fun v5 ev5 wv5 => ?_)
    have rv5 : rg (0) (9) v5 := clj_197 wv5
    refine lv_iconst (v := 1) hx hb dX6_dropFirst_12 (by decide) ?_
    refine lv_iadd hx hb dX6_dropFirst_13 ?_
    refine lv_topi (fun v6 ev6 => ?_)
    have rv6 : rg (1) (10) v6 := (rg_add ev6 rv5 kc_1 rfl).1
    refine lv_aload_n hx hb dX6_dropFirst_14 rfl (lv_at hl 0 rfl) ?_
    refine c_geti x L 6 i0 0 192 hal0 rfl rfl (wk_in kf_X6_15) dX6_dropFirst_15 (fun v7 ev7 wv7 => ?_)
    have rv7 : rg (10) (10) v7 := clj_192 wv7
    refine m_top (rg_lit rv7 (show (10 : Int32).toInt = 10 from (by decide))) ?_
    refine lv_irem hx hb dX6_dropFirst_18 (by decide) ?_
    refine lv_topi (fun v8 ev8 => ?_)
    have rv8 : rg (0) (9) v8 := (rg_rem ev8 rv6 kc_10 rfl).1
    refine c_puti x L 6 i0 5 197 hal0 rfl rfl ⟨rfl, by decide +kernel⟩ (wk_in kf_X6_35) dX6_dropFirst_19 (crj_197 (rg_w rv8 rfl)) (fun g9 H9 k9 eg9 L9 => ?_)
    refine lv_aload_n hx hb dX6_dropFirst_22 rfl (lv_at hl 0 rfl) ?_
    refine lv_dup hx hb dX6_dropFirst_23 rfl ?_
    refine c_geti x L9 6 i0 6 198 hal0 rfl rfl (wk_in kf_X6_38) dX6_dropFirst_24 (fun v10 ev10 wv10 => ?_)
    refine m_top (((mm_up ev1 eg9 rfl)).trans ev10.symm) ?_
    refine lv_iconst (v := 1) hx hb dX6_dropFirst_27 (by decide) ?_
    refine lv_isub hx hb dX6_dropFirst_28 ?_
    refine lv_topi (fun v11 ev11 => ?_)
    have rv11 : rg (0) (9) v11 := (rg_sub ev11 q4 kc_1 rfl).1
    refine c_puti x L9 6 i0 6 198 hal0 rfl rfl ⟨rfl, by decide +kernel⟩ (wk_in kf_X6_38) dX6_dropFirst_29 (crj_198 (rg_w rv11 rfl)) (fun g12 H12 k12 eg12 L12 => ?_)
    exact hQ _ _ _ _ _ dX6_dropFirst_32 L12 ⟨(mFr.upE (mFr.upE mFr.rf eg9 rfl) eg12 rfl), trivial⟩
theorem c_kmdropFirst (l : Launch) {G : cG} {Z : cZ} (X : Int) (g : mSt) (i0 : Nat) (hX : 0 ≤ X ∧ X ≤ 2000000000) (hi0 : i0 < 2 * Z.n) : Met l yX6_dropFirst (wk (Cond.code yX6_dropFirst cX6_dropFirst 1 none)) rm_kmdropFirst (va_Pc [.ref (Z.ad 6 i0)] (cPre G Z X g)) (cQv G Z X (fun g1 => mFr [197, 198] g g1 ∧ True)) 0 0 (cAd Z) := by
  refine Met.ofW (cc := cX6_dropFirst) (maxL := 1) (ret := none) (by decide) rfl ?_
  intro p e s m args below meth c s₁ B hml hv
  obtain ⟨rfl, hv⟩ := hv
  have hr := B.returns
  have hlocks := B.notSynchronized
  obtain ⟨x, L⟩ := c_start B rfl (fun w h => wk_in h) hv
  have hl := lv_entry ([.ref (Z.ad 6 i0)]) (n := 1) (Nat.le_of_ble_eq_true rfl)
  rw [lg_entry_eq]
  generalize (lg_sl ([.ref (Z.ad 6 i0)]) ++ List.replicate (1 - (lg_sl ([.ref (Z.ad 6 i0)])).length) Slot.unset).toArray = ls at hl ⊢
  exact w_kmdropFirst x hml L hX i0 hi0 hl (fun pc' ls' g1 H1 locs1 hdg L hp => c_vret x L hr hlocks (Int.le_refl _) hp hdg)

def rm_kaddDamage : Room := { frames := 0, cells := 0, slots := 0, locals := 0 }
theorem hd_kaddDamage : yX3_addDamage.cls = cRn 3 ∧ yX3_addDamage.cls ≠ "java/lang/invoke/MethodHandle" ∧ yX3_addDamage.cls ≠ "java/lang/invoke/VarHandle" ∧ (parseMethodDescriptor yX3_addDamage.desc).map (fun d => d.parameters.length) = some 4 := by decide +kernel
set_option maxHeartbeats 4000000 in
set_option maxRecDepth 100000 in
theorem w_kaddDamage {p : Program} {l : Launch} {e : Env} {s : State} {m : MethodId} {args : Array Value} {below : List Frame} {meth : Method} {c : Code} {H : Heap} {locs : List Loc} {Q : State → Prop} {ls : Array Slot} {G : cG} {Z : cZ} {g : mSt} {H0 : Heap} {X : Int} (x : cX p c cX3_addDamage s args (wk (Cond.code yX3_addDamage cX3_addDamage 5 (some .int))) m G Z RX3 H0) (hml : c.maxLocals = 5) (L : cL G Z H0 X g H locs) (hX : 0 ≤ X ∧ X ≤ 2000000000) (i0 : Nat) (p1 : Int32) (p2 : Int32) (p3 : Int32) (p4 : Int32) (hJ : cJ g) (hi0 : i0 < 2 * Z.n) (hoct : p1.toInt = 1 → 0 ≤ p3.toInt ∧ p3.toInt ≤ 52) (hl : lv_has ls 5 [(0, .ref (Z.ad 3 i0)), (1, .int p1), (2, .int p2), (3, .int p3), (4, .int p4)]) (hQ : ∀ (pc' : Nat) (ls' : Array Slot) (r : Int32) (g1 : mSt) (H1 : Heap) (locs1 : List Loc), decode cX3_addDamage pc' = .ok (.ireturn, 1) → cL G Z H0 X g1 H1 locs1 → (mFr [106, 640, 672, 704, 736] g g1 ∧ rg (-3) (8) r ∧ cJ g1 ∧ True) → W p l e rm_kaddDamage s m args below meth c H1 locs1 0 0 Q (F0 m pc' ls' [.int r])) : W p l e rm_kaddDamage s m args below meth c H locs 0 0 Q (F0 m 0 ls []) := by
  have hx := x.1
  have hb := x.2.1
  have hz := x.2.2.2.2.2.2.2.1
  have hzn := hz.1
  have hal0 : Z.al 3 i0 := hz.2 3 i0 (show i0 < 2 * Z.n from hi0)
  have up1 : (-2147483648 : Int) ≤ p1.toInt ∧ p1.toInt ≤ 2147483647 := (rg_any p1)
  have up2 : (-2147483648 : Int) ≤ p2.toInt ∧ p2.toInt ≤ 2147483647 := (rg_any p2)
  have up3 : (-2147483648 : Int) ≤ p3.toInt ∧ p3.toInt ≤ 2147483647 := (rg_any p3)
  have up4 : (-2147483648 : Int) ≤ p4.toInt ∧ p4.toInt ≤ 2147483647 := (rg_any p4)
  refine lv_aload_n hx hb dX3_addDamage_0 rfl (lv_at hl 0 rfl) ?_
  refine c_geti x L 3 i0 10 106 hal0 rfl rfl (wk_in kf_X3_54) dX3_addDamage_1 (fun v1 ev1 wv1 => ?_)
  have rv1 : rg (0) (8) v1 := clj_106 wv1
  have uv1 : (0 : Int) ≤ v1.toInt ∧ v1.toInt ≤ 8 := rv1
  have sv1 := congrArg Int32.toInt ev1
  refine lv_bipush (v := 8) hx hb dX3_addDamage_4 (by decide) ?_
  refine lv_icmp_lt (tgt := 12) hx hb dX3_addDamage_6 (by decide) (fun c6_2 => ?_) (fun c6_2 => ?_)
  · skip
    have ic6_2 := Int32.lt_iff_toInt_lt.mp c6_2
    have q3 : rg (0) (7) v1 := (rg_lt c6_2 rv1 kc_8).1
    have uq3 : (0 : Int) ≤ v1.toInt ∧ v1.toInt ≤ 7 := q3
    refine lv_aload_n hx hb dX3_addDamage_12 rfl (lv_at hl 0 rfl) ?_
    have al4 : Z.al 20 i0 := hz.2 20 i0 (show i0 < 2 * Z.n from (by omega))
    refine c_getr (a := Z.ad 20 i0) x L 3 i0 6 hal0 rfl rfl (wk_in kf_X3_39) dX3_addDamage_13 ?_
    refine lv_aload_n hx hb dX3_addDamage_16 rfl (lv_at hl 0 rfl) ?_
    refine c_geti x L 3 i0 10 106 hal0 rfl rfl (wk_in kf_X3_54) dX3_addDamage_17 (fun v5 ev5 wv5 => ?_)
    refine m_top ((ev1).trans ev5.symm) ?_
    refine lv_iload_n hx hb dX3_addDamage_20 rfl (lv_at hl 1 rfl) ?_
    refine c_st x L 20 i0 640 al4 rfl rfl q3 rfl (rg_any p1) dX3_addDamage_21 (fun g6 H6 k6 eg6 L6 => ?_)
    refine lv_aload_n hx hb dX3_addDamage_22 rfl (lv_at hl 0 rfl) ?_
    have al7 : Z.al 21 i0 := hz.2 21 i0 (show i0 < 2 * Z.n from (by omega))
    refine c_getr (a := Z.ad 21 i0) x L6 3 i0 7 hal0 rfl rfl (wk_in kf_X3_42) dX3_addDamage_23 ?_
    refine lv_aload_n hx hb dX3_addDamage_26 rfl (lv_at hl 0 rfl) ?_
    refine c_geti x L6 3 i0 10 106 hal0 rfl rfl (wk_in kf_X3_54) dX3_addDamage_27 (fun v8 ev8 wv8 => ?_)
    refine m_top (((mm_up ev1 eg6 rfl)).trans ev8.symm) ?_
    refine lv_aload_n hx hb dX3_addDamage_30 rfl (lv_at hl 0 rfl) ?_
    refine c_geti x L6 3 i0 11 107 hal0 rfl rfl (wk_in kf_X3_58) dX3_addDamage_31 (fun v9 ev9 wv9 => ?_)
    have rv9 : rg (-2147483648) (2147483647) v9 := rg_any v9
    have uv9 : (-2147483648 : Int) ≤ v9.toInt ∧ v9.toInt ≤ 2147483647 := rv9
    have sv9 : v9.toInt = (g 107 i0).toInt := congrArg Int32.toInt (ev9.trans (congrFun ((show mFr [106, 640, 672, 704, 736] g g6 from (mFr.upE mFr.rf eg6 rfl)).at 107 rfl) _))
    refine lv_iload_n hx hb dX3_addDamage_34 rfl (lv_at hl 2 rfl) ?_
    refine lv_iadd hx hb dX3_addDamage_35 ?_
    refine lv_topi (fun v10 ev10 => ?_)
    have rv10 : rg (-2147483648) (2147483647) v10 := rg_any v10
    have uv10 : (-2147483648 : Int) ≤ v10.toInt ∧ v10.toInt ≤ 2147483647 := rv10
    refine c_st x L6 21 i0 672 al7 rfl rfl q3 rfl (rg_any v10) dX3_addDamage_36 (fun g11 H11 k11 eg11 L11 => ?_)
    refine lv_aload_n hx hb dX3_addDamage_37 rfl (lv_at hl 0 rfl) ?_
    have al12 : Z.al 22 i0 := hz.2 22 i0 (show i0 < 2 * Z.n from (by omega))
    refine c_getr (a := Z.ad 22 i0) x L11 3 i0 8 hal0 rfl rfl (wk_in kf_X3_45) dX3_addDamage_38 ?_
    refine lv_aload_n hx hb dX3_addDamage_41 rfl (lv_at hl 0 rfl) ?_
    refine c_geti x L11 3 i0 10 106 hal0 rfl rfl (wk_in kf_X3_54) dX3_addDamage_42 (fun v13 ev13 wv13 => ?_)
    refine m_top (((mm_up (mm_up ev1 eg6 rfl) eg11 rfl)).trans ev13.symm) ?_
    refine lv_iload_n hx hb dX3_addDamage_45 rfl (lv_at hl 3 rfl) ?_
    refine c_st x L11 22 i0 704 al12 rfl rfl q3 rfl (rg_any p3) dX3_addDamage_46 (fun g14 H14 k14 eg14 L14 => ?_)
    have hJ15 := cJ_dmg hJ eg6 eg11 eg14 hoct
    refine lv_aload_n hx hb dX3_addDamage_47 rfl (lv_at hl 0 rfl) ?_
    have al16 : Z.al 23 i0 := hz.2 23 i0 (show i0 < 2 * Z.n from (by omega))
    refine c_getr (a := Z.ad 23 i0) x L14 3 i0 9 hal0 rfl rfl (wk_in kf_X3_48) dX3_addDamage_48 ?_
    refine lv_aload_n hx hb dX3_addDamage_51 rfl (lv_at hl 0 rfl) ?_
    refine c_geti x L14 3 i0 10 106 hal0 rfl rfl (wk_in kf_X3_54) dX3_addDamage_52 (fun v17 ev17 wv17 => ?_)
    refine m_top (((mm_up (mm_up (mm_up ev1 eg6 rfl) eg11 rfl) eg14 rfl)).trans ev17.symm) ?_
    refine lv_iload hx hb dX3_addDamage_55 (lv_at hl 4 rfl) ?_
    refine c_st x L14 23 i0 736 al16 rfl rfl q3 rfl (rg_any p4) dX3_addDamage_57 (fun g18 H18 k18 eg18 L18 => ?_)
    refine lv_aload_n hx hb dX3_addDamage_58 rfl (lv_at hl 0 rfl) ?_
    refine lv_dup hx hb dX3_addDamage_59 rfl ?_
    refine c_geti x L18 3 i0 10 106 hal0 rfl rfl (wk_in kf_X3_54) dX3_addDamage_60 (fun v19 ev19 wv19 => ?_)
    refine m_top (((mm_up (mm_up (mm_up (mm_up ev1 eg6 rfl) eg11 rfl) eg14 rfl) eg18 rfl)).trans ev19.symm) ?_
    refine lv_iconst (v := 1) hx hb dX3_addDamage_63 (by decide) ?_
    refine lv_iadd hx hb dX3_addDamage_64 ?_
    refine lv_topi (fun v20 ev20 => ?_)
    have rv20 : rg (1) (8) v20 := (rg_add ev20 q3 kc_1 rfl).1
    have tv20 := (rg_add ev20 q3 kc_1 rfl).2
    have y21 : (1 : Int32).toInt = 1 := by decide
    have uv20 : (1 : Int) ≤ v20.toInt ∧ v20.toInt ≤ 8 := rv20
    refine c_puti x L18 3 i0 10 106 hal0 rfl rfl ⟨rfl, by decide +kernel⟩ (wk_in kf_X3_54) dX3_addDamage_65 (crj_106 (rg_w rv20 rfl)) (fun g22 H22 k22 eg22 L22 => ?_)
    refine lv_aload_n hx hb dX3_addDamage_68 rfl (lv_at hl 0 rfl) ?_
    refine c_geti x L22 3 i0 10 106 hal0 rfl rfl (wk_in kf_X3_54) dX3_addDamage_69 (fun v23 ev23 wv23 => ?_)
    refine m_top (((mm_st eg22)).trans ev23.symm) ?_
    exact hQ _ _ v20 _ _ _ dX3_addDamage_72 L22 ⟨(mFr.upE (mFr.upE (mFr.upE (mFr.upE (mFr.upE mFr.rf eg6 rfl) eg11 rfl) eg14 rfl) eg18 rfl) eg22 rfl), rg_w rv20 rfl, (cJ_up (cJ_up hJ15 eg18 rfl) eg22 rfl), trivial⟩
  · skip
    have ic6_2 := Int32.le_iff_toInt_le.mp (rg_nlt c6_2)
    have q24 : rg (8) (8) v1 := (rg_le (rg_nlt c6_2) kc_8 rv1).2
    have uq24 : (8 : Int) ≤ v1.toInt ∧ v1.toInt ≤ 8 := q24
    refine lv_bipush (v := (-3)) hx hb dX3_addDamage_9 (by decide) ?_
    exact hQ _ _ (-3 : Int32) _ _ _ dX3_addDamage_11 L ⟨mFr.rf, rg_w kc_m3 rfl, hJ, trivial⟩
theorem c_kaddDamage (l : Launch) {G : cG} {Z : cZ} (X : Int) (g : mSt) (i0 : Nat) (p1 : Int32) (p2 : Int32) (p3 : Int32) (p4 : Int32) (hX : 0 ≤ X ∧ X ≤ 2000000000) (hJ : cJ g) (hi0 : i0 < 2 * Z.n) (hoct : p1.toInt = 1 → 0 ≤ p3.toInt ∧ p3.toInt ≤ 52) : Met l yX3_addDamage (wk (Cond.code yX3_addDamage cX3_addDamage 5 (some .int))) rm_kaddDamage (va_Pc [.ref (Z.ad 3 i0), .int p1, .int p2, .int p3, .int p4] (cPre G Z X g)) (cQi G Z X (fun r g1 => mFr [106, 640, 672, 704, 736] g g1 ∧ rg (-3) (8) r ∧ cJ g1 ∧ True)) 0 0 (cAd Z) := by
  refine Met.ofW (cc := cX3_addDamage) (maxL := 5) (ret := (some .int)) (by decide) rfl ?_
  intro p e s m args below meth c s₁ B hml hv
  obtain ⟨rfl, hv⟩ := hv
  have hr := B.returns
  have hlocks := B.notSynchronized
  obtain ⟨x, L⟩ := c_start B rfl (fun w h => wk_in h) hv
  have hl := lv_entry ([.ref (Z.ad 3 i0), .int p1, .int p2, .int p3, .int p4]) (n := 5) (Nat.le_of_ble_eq_true rfl)
  rw [lg_entry_eq]
  generalize (lg_sl ([.ref (Z.ad 3 i0), .int p1, .int p2, .int p3, .int p4]) ++ List.replicate (5 - (lg_sl ([.ref (Z.ad 3 i0), .int p1, .int p2, .int p3, .int p4])).length) Slot.unset).toArray = ls at hl ⊢
  exact w_kaddDamage x hml L hX i0 p1 p2 p3 p4 hJ hi0 hoct hl (fun pc' ls' r g1 H1 locs1 hdg L hp => c_iret x L hr hlocks (Int.le_refl _) hp hdg)

def rm_kputHeader : Room := { frames := 1, cells := 0, slots := 0, locals := 23 }
theorem hd_kputHeader : yX3_putHeader.cls = cRn 3 ∧ yX3_putHeader.cls ≠ "java/lang/invoke/MethodHandle" ∧ yX3_putHeader.cls ≠ "java/lang/invoke/VarHandle" ∧ (parseMethodDescriptor yX3_putHeader.desc).map (fun d => d.parameters.length) = some 1 := by decide +kernel
set_option maxHeartbeats 4000000 in
set_option maxRecDepth 100000 in
theorem w_kputHeader {p : Program} {l : Launch} {e : Env} {s : State} {m : MethodId} {args : Array Value} {below : List Frame} {meth : Method} {c : Code} {H : Heap} {locs : List Loc} {Q : State → Prop} {ls : Array Slot} {G : cG} {Z : cZ} {g : mSt} {H0 : Heap} {X : Int} (x : cX p c cX3_putHeader s args (wk (Cond.code yX3_putHeader cX3_putHeader 2 none)) m G Z RX3 H0) (hml : c.maxLocals = 2) (L : cL G Z H0 X g H locs) (hX : 0 ≤ X ∧ X ≤ 2000000000) (i0 : Nat) (p1 : Int32) (hi0 : i0 < 2 * Z.n) (hpre0 : rg (0) (159) (g 101 i0)) (hl : lv_has ls 2 [(0, .ref (Z.ad 3 i0)), (1, .int p1)]) (hQ : ∀ (pc' : Nat) (ls' : Array Slot) (g1 : mSt) (H1 : Heap) (locs1 : List Loc), decode cX3_putHeader pc' = .ok (.return_, 1) → cL G Z H0 X g1 H1 locs1 → (mFr [608] g g1 ∧ True) → W p l e rm_kputHeader s m args below meth c H1 locs1 0 0 Q (F0 m pc' ls' [])) : W p l e rm_kputHeader s m args below meth c H locs 0 0 Q (F0 m 0 ls []) := by
  have hx := x.1
  have hb := x.2.1
  have hz := x.2.2.2.2.2.2.2.1
  have hzn := hz.1
  have hal0 : Z.al 3 i0 := hz.2 3 i0 (show i0 < 2 * Z.n from hi0)
  obtain ⟨z0, ez0⟩ : ∃ y : Int32, y = g 101 i0 := ⟨_, rfl⟩
  have rz0 : rg (0) (159) z0 := rg_eqv ez0.symm hpre0
  refine lv_aload_n hx hb dX3_putHeader_0 rfl (lv_at hl 0 rfl) ?_
  have al1 : Z.al 19 i0 := hz.2 19 i0 (show i0 < 2 * Z.n from (by omega))
  refine c_getr (a := Z.ad 19 i0) x L 3 i0 4 hal0 rfl rfl (wk_in kf_X3_35) dX3_putHeader_1 ?_
  refine lv_aload_n hx hb dX3_putHeader_4 rfl (lv_at hl 0 rfl) ?_
  refine c_geti x L 3 i0 5 101 hal0 rfl rfl (wk_in kf_X3_61) dX3_putHeader_5 (fun v2 ev2 wv2 => ?_)
  refine m_top ((ez0).trans ev2.symm) ?_
  refine lv_iload_n hx hb dX3_putHeader_8 rfl (lv_at hl 1 rfl) ?_
  refine lv_bipush (v := 24) hx hb dX3_putHeader_9 (by decide) ?_
  refine lv_iushr hx hb dX3_putHeader_11 rfl ?_
  refine lv_topi (fun v3 ev3 => ?_)
  have rv3 : rg (0) (255) v3 := rg_ush ev3 24 rfl
  refine c_st x L 19 i0 608 al1 rfl rfl rz0 rfl (rg_any v3) dX3_putHeader_12 (fun g4 H4 k4 eg4 L4 => ?_)
  refine lv_aload_n hx hb dX3_putHeader_13 rfl (lv_at hl 0 rfl) ?_
  refine c_getr (a := Z.ad 19 i0) x L4 3 i0 4 hal0 rfl rfl (wk_in kf_X3_35) dX3_putHeader_14 ?_
  refine lv_aload_n hx hb dX3_putHeader_17 rfl (lv_at hl 0 rfl) ?_
  refine c_geti x L4 3 i0 5 101 hal0 rfl rfl (wk_in kf_X3_61) dX3_putHeader_18 (fun v5 ev5 wv5 => ?_)
  refine m_top (((mm_up ez0 eg4 rfl)).trans ev5.symm) ?_
  refine lv_iconst (v := 1) hx hb dX3_putHeader_21 (by decide) ?_
  refine lv_iadd hx hb dX3_putHeader_22 ?_
  refine lv_topi (fun v6 ev6 => ?_)
  have rv6 : rg (1) (160) v6 := (rg_add ev6 rz0 kc_1 rfl).1
  refine lv_iload_n hx hb dX3_putHeader_23 rfl (lv_at hl 1 rfl) ?_
  refine lv_bipush (v := 16) hx hb dX3_putHeader_24 (by decide) ?_
  refine lv_iushr hx hb dX3_putHeader_26 rfl ?_
  refine lv_topi (fun v7 ev7 => ?_)
  have rv7 : rg (0) (65535) v7 := rg_ush ev7 16 rfl
  refine lv_sipush (v := 255) hx hb dX3_putHeader_27 (by decide) ?_
  refine lv_iand hx hb dX3_putHeader_30 ?_
  refine lv_topi (fun v8 ev8 => ?_)
  have rv8 : rg (0) (255) v8 := rg_and ev8 8 255 (by decide) rfl
  refine c_st x L4 19 i0 608 al1 rfl rfl rv6 rfl (rg_any v8) dX3_putHeader_31 (fun g9 H9 k9 eg9 L9 => ?_)
  refine lv_aload_n hx hb dX3_putHeader_32 rfl (lv_at hl 0 rfl) ?_
  refine c_getr (a := Z.ad 19 i0) x L9 3 i0 4 hal0 rfl rfl (wk_in kf_X3_35) dX3_putHeader_33 ?_
  refine lv_aload_n hx hb dX3_putHeader_36 rfl (lv_at hl 0 rfl) ?_
  refine c_geti x L9 3 i0 5 101 hal0 rfl rfl (wk_in kf_X3_61) dX3_putHeader_37 (fun v10 ev10 wv10 => ?_)
  refine m_top (((mm_up (mm_up ez0 eg4 rfl) eg9 rfl)).trans ev10.symm) ?_
  refine lv_iconst (v := 2) hx hb dX3_putHeader_40 (by decide) ?_
  refine lv_iadd hx hb dX3_putHeader_41 ?_
  refine lv_topi (fun v11 ev11 => ?_)
  have rv11 : rg (2) (161) v11 := (rg_add ev11 rz0 kc_2 rfl).1
  refine lv_iload_n hx hb dX3_putHeader_42 rfl (lv_at hl 1 rfl) ?_
  refine lv_bipush (v := 8) hx hb dX3_putHeader_43 (by decide) ?_
  refine lv_iushr hx hb dX3_putHeader_45 rfl ?_
  refine lv_topi (fun v12 ev12 => ?_)
  have rv12 : rg (0) (16777215) v12 := rg_ush ev12 8 rfl
  refine lv_sipush (v := 255) hx hb dX3_putHeader_46 (by decide) ?_
  refine lv_iand hx hb dX3_putHeader_49 ?_
  refine lv_topi (fun v13 ev13 => ?_)
  have rv13 : rg (0) (255) v13 := rg_and ev13 8 255 (by decide) rfl
  refine c_st x L9 19 i0 608 al1 rfl rfl rv11 rfl (rg_any v13) dX3_putHeader_50 (fun g14 H14 k14 eg14 L14 => ?_)
  refine lv_aload_n hx hb dX3_putHeader_51 rfl (lv_at hl 0 rfl) ?_
  refine c_getr (a := Z.ad 19 i0) x L14 3 i0 4 hal0 rfl rfl (wk_in kf_X3_35) dX3_putHeader_52 ?_
  refine lv_aload_n hx hb dX3_putHeader_55 rfl (lv_at hl 0 rfl) ?_
  refine c_geti x L14 3 i0 5 101 hal0 rfl rfl (wk_in kf_X3_61) dX3_putHeader_56 (fun v15 ev15 wv15 => ?_)
  refine m_top (((mm_up (mm_up (mm_up ez0 eg4 rfl) eg9 rfl) eg14 rfl)).trans ev15.symm) ?_
  refine lv_iconst (v := 3) hx hb dX3_putHeader_59 (by decide) ?_
  refine lv_iadd hx hb dX3_putHeader_60 ?_
  refine lv_topi (fun v16 ev16 => ?_)
  have rv16 : rg (3) (162) v16 := (rg_add ev16 rz0 kc_3 rfl).1
  refine lv_iload_n hx hb dX3_putHeader_61 rfl (lv_at hl 1 rfl) ?_
  refine lv_sipush (v := 255) hx hb dX3_putHeader_62 (by decide) ?_
  refine lv_iand hx hb dX3_putHeader_65 ?_
  refine lv_topi (fun v17 ev17 => ?_)
  have rv17 : rg (0) (255) v17 := rg_and ev17 8 255 (by decide) rfl
  refine c_st x L14 19 i0 608 al1 rfl rfl rv16 rfl (rg_any v17) dX3_putHeader_66 (fun g18 H18 k18 eg18 L18 => ?_)
  refine lv_aload_n hx hb dX3_putHeader_67 rfl (lv_at hl 0 rfl) ?_
  refine c_getr (a := Z.ad 19 i0) x L18 3 i0 4 hal0 rfl rfl (wk_in kf_X3_35) dX3_putHeader_68 ?_
  refine lv_aload_n hx hb dX3_putHeader_71 rfl (lv_at hl 0 rfl) ?_
  refine c_geti x L18 3 i0 5 101 hal0 rfl rfl (wk_in kf_X3_61) dX3_putHeader_72 (fun v19 ev19 wv19 => ?_)
  refine m_top (((mm_up (mm_up (mm_up (mm_up ez0 eg4 rfl) eg9 rfl) eg14 rfl) eg18 rfl)).trans ev19.symm) ?_
  refine lv_iconst (v := 4) hx hb dX3_putHeader_75 (by decide) ?_
  refine lv_iadd hx hb dX3_putHeader_76 ?_
  refine lv_topi (fun v20 ev20 => ?_)
  have rv20 : rg (4) (163) v20 := (rg_add ev20 rz0 kc_4 rfl).1
  refine lv_iload_n hx hb dX3_putHeader_77 rfl (lv_at hl 1 rfl) ?_
  refine pf_call (va_runSN (As := [.int p1]) (rest := [.int v20, .ref (Z.ad 19 i0)]) ⟨hx, hb, hml, x.2.2.2.2.1, x.2.2.1⟩ (c_hc l p1) ⟨va_cnB 1 x.2.2.1 (goodC us_X11_hecOf) rfl rfl rfl (x.2.2.2.2.2.2.2.2.2 _ (List.mem_of_getElem? (i := 11) rfl)) (x.2.2.1 _ (wk_in kn_X11)) (by decide +kernel) ⟨Nat.le_of_ble_eq_true rfl, Nat.le_of_ble_eq_true rfl⟩, x.2.2.1 _ (wk_in kt_X11_hecOf), trivial⟩ ⟨hc_blind, fun U hU hW => ⟨rfl, hc_at x L18 hU hW⟩⟩ rfl rfl hl.1 rfl (lv_room (Nat.le_of_ble_eq_true rfl)) dX3_putHeader_78 ⟨Nat.zero_le _, Nat.zero_le _⟩) ?_
  refine lv_topi (fun v21 ev21 => ?_)
  have rv21 : rg (-2147483648) (2147483647) v21 := rg_any v21
  refine c_st x L18 19 i0 608 al1 rfl rfl rv20 rfl (rg_any v21) dX3_putHeader_81 (fun g22 H22 k22 eg22 L22 => ?_)
  exact hQ _ _ _ _ _ dX3_putHeader_82 L22 ⟨(mFr.upE (mFr.upE (mFr.upE (mFr.upE (mFr.upE mFr.rf eg4 rfl) eg9 rfl) eg14 rfl) eg18 rfl) eg22 rfl), trivial⟩
theorem c_kputHeader (l : Launch) {G : cG} {Z : cZ} (X : Int) (g : mSt) (i0 : Nat) (p1 : Int32) (hX : 0 ≤ X ∧ X ≤ 2000000000) (hi0 : i0 < 2 * Z.n) (hpre0 : rg (0) (159) (g 101 i0)) : Met l yX3_putHeader (wk (Cond.code yX3_putHeader cX3_putHeader 2 none)) rm_kputHeader (va_Pc [.ref (Z.ad 3 i0), .int p1] (cPre G Z X g)) (cQv G Z X (fun g1 => mFr [608] g g1 ∧ True)) 0 0 (cAd Z) := by
  refine Met.ofW (cc := cX3_putHeader) (maxL := 2) (ret := none) (by decide) rfl ?_
  intro p e s m args below meth c s₁ B hml hv
  obtain ⟨rfl, hv⟩ := hv
  have hr := B.returns
  have hlocks := B.notSynchronized
  obtain ⟨x, L⟩ := c_start B rfl (fun w h => wk_in h) hv
  have hl := lv_entry ([.ref (Z.ad 3 i0), .int p1]) (n := 2) (Nat.le_of_ble_eq_true rfl)
  rw [lg_entry_eq]
  generalize (lg_sl ([.ref (Z.ad 3 i0), .int p1]) ++ List.replicate (2 - (lg_sl ([.ref (Z.ad 3 i0), .int p1])).length) Slot.unset).toArray = ls at hl ⊢
  exact w_kputHeader x hml L hX i0 p1 hi0 hpre0 hl (fun pc' ls' g1 H1 locs1 hdg L hp => c_vret x L hr hlocks (Int.le_refl _) hp hdg)

def rm_kword : Room := { frames := 0, cells := 0, slots := 0, locals := 0 }
theorem hd_kword : yX3_word.cls = cRn 3 ∧ yX3_word.cls ≠ "java/lang/invoke/MethodHandle" ∧ yX3_word.cls ≠ "java/lang/invoke/VarHandle" ∧ (parseMethodDescriptor yX3_word.desc).map (fun d => d.parameters.length) = some 1 := by decide +kernel
set_option maxHeartbeats 4000000 in
set_option maxRecDepth 100000 in
theorem w_kword {p : Program} {l : Launch} {e : Env} {s : State} {m : MethodId} {args : Array Value} {below : List Frame} {meth : Method} {c : Code} {H : Heap} {locs : List Loc} {Q : State → Prop} {ls : Array Slot} {G : cG} {Z : cZ} {g : mSt} {H0 : Heap} {X : Int} (x : cX p c cX3_word s args (wk (Cond.code yX3_word cX3_word 3 none)) m G Z RX3 H0) (hml : c.maxLocals = 3) (L : cL G Z H0 X g H locs) (hX : 0 ≤ X ∧ X ≤ 2000000000) (i0 : Nat) (p1 : Int32) (hi0 : i0 < 2 * Z.n) (hl : lv_has ls 3 [(0, .ref (Z.ad 3 i0)), (1, .int p1)]) (hQ : ∀ (pc' : Nat) (ls' : Array Slot) (g1 : mSt) (H1 : Heap) (locs1 : List Loc), decode cX3_word pc' = .ok (.return_, 1) → cL G Z H0 X g1 H1 locs1 → (mFr [111, 768] g g1 ∧ True) → W p l e rm_kword s m args below meth c H1 locs1 0 0 Q (F0 m pc' ls' [])) : W p l e rm_kword s m args below meth c H locs 0 0 Q (F0 m 0 ls []) := by
  have hx := x.1
  have hb := x.2.1
  have hz := x.2.2.2.2.2.2.2.1
  have hzn := hz.1
  have hal0 : Z.al 3 i0 := hz.2 3 i0 (show i0 < 2 * Z.n from hi0)
  refine lv_bipush (v := 24) hx hb dX3_word_0 (by decide) ?_
  refine lv_istore_n (lv' := [(2, .int (24 : Int32)), (0, .ref (Z.ad 3 i0)), (1, .int p1)]) hx hb dX3_word_2 rfl hl (by decide) rfl (fun ls hl => ?_)
  have j3_2 : ∀ (n : Nat) (a3_2_1 : Int32) (g2 : mSt) (H2 : Heap) (k2 : List Loc) (ls : Array Slot), mFr [111, 768] g g2 → cL G Z H0 X g2 H2 k2 → rg (-8) (24) a3_2_1 → rg (0) (200) (g2 111 i0) → lv_has ls 3 [(0, .ref (Z.ad 3 i0)), (1, .int p1), (2, .int a3_2_1)] → (a3_2_1.toInt - (-8 : Int)).toNat = n → W p l e rm_kword s m args below meth c H2 k2 0 0 Q (F0 m 3 ls []) := by
    intro n
    induction n using Nat.strongRecOn with
    | _ n ih2 =>
      intro a3_2_1 g2 H2 k2 ls hF2 L2 ra3_2_1 hm2_0 hl hn2
      subst hn2
      obtain ⟨z2_0, ez2_0⟩ : ∃ y : Int32, y = g2 111 i0 := ⟨_, rfl⟩
      have rz2_0 : rg (0) (200) z2_0 := rg_eqv ez2_0.symm hm2_0
      refine lv_iload_n hx hb dX3_word_3 rfl (lv_at hl 2 rfl) ?_
      have j49_3 : ∀ (g3 : mSt) (H3 : Heap) (k3 : List Loc) (ls : Array Slot), mFr [] g2 g3 → cL G Z H0 X g3 H3 k3 → lv_has ls 3 [(0, .ref (Z.ad 3 i0))] → W p l e rm_kword s m args below meth c H3 k3 0 0 Q (F0 m 49 ls []) := by
        intro  g3 H3 k3 ls hF3 L3  hl
        exact hQ _ _ _ _ _ dX3_word_49 L3 ⟨(mFr.tr (mFr.tr mFr.rf hF2 rfl) hF3 rfl), trivial⟩
      refine lv_if_lt (tgt := 49) hx hb dX3_word_4 (by decide) (fun c4_4 => ?_) (fun c4_4 => ?_)
      · skip
        have q5 : rg (-8) (-1) a3_2_1 := (rg_lt c4_4 ra3_2_1 kc_0).1
        exact j49_3  g2 _ _ ls mFr.rf L2  (lv_sub hl [0] rfl)
      · skip
        have q6 : rg (0) (24) a3_2_1 := (rg_le (rg_nlt c4_4) kc_0 ra3_2_1).2
        refine lv_aload_n hx hb dX3_word_7 rfl (lv_at hl 0 rfl) ?_
        refine c_geti x L2 3 i0 15 111 hal0 rfl rfl (wk_in kf_X3_102) dX3_word_8 (fun v7 ev7 wv7 => ?_)
        refine m_top ((ez2_0).trans ev7.symm) ?_
        refine lv_sipush (v := 200) hx hb dX3_word_11 (by decide) ?_
        refine lv_icmp_ge (tgt := 49) hx hb dX3_word_14 (by decide) (fun c14_8 => ?_) (fun c14_8 => ?_)
        · skip
          have q9 : rg (200) (200) z2_0 := (rg_le c14_8 kc_200 rz2_0).2
          exact j49_3  g2 _ _ ls mFr.rf L2  (lv_sub hl [0] rfl)
        · skip
          have q10 : rg (0) (199) z2_0 := (rg_lt (rg_nle c14_8) rz2_0 kc_200).1
          refine lv_aload_n hx hb dX3_word_17 rfl (lv_at hl 0 rfl) ?_
          have al11 : Z.al 24 i0 := hz.2 24 i0 (show i0 < 2 * Z.n from (by omega))
          refine c_getr (a := Z.ad 24 i0) x L2 3 i0 14 hal0 rfl rfl (wk_in kf_X3_51) dX3_word_18 ?_
          refine lv_aload_n hx hb dX3_word_21 rfl (lv_at hl 0 rfl) ?_
          refine c_geti x L2 3 i0 15 111 hal0 rfl rfl (wk_in kf_X3_102) dX3_word_22 (fun v12 ev12 wv12 => ?_)
          refine m_top ((ez2_0).trans ev12.symm) ?_
          refine lv_iload_n hx hb dX3_word_25 rfl (lv_at hl 1 rfl) ?_
          refine lv_iload_n hx hb dX3_word_26 rfl (lv_at hl 2 rfl) ?_
          refine lv_iushr hx hb dX3_word_27 rfl ?_
          refine lv_topi (fun v13 ev13 => ?_)
          have rv13 : rg (-2147483648) (2147483647) v13 := rg_any v13
          refine lv_sipush (v := 255) hx hb dX3_word_28 (by decide) ?_
          refine lv_iand hx hb dX3_word_31 ?_
          refine lv_topi (fun v14 ev14 => ?_)
          have rv14 : rg (0) (255) v14 := rg_and ev14 8 255 (by decide) rfl
          refine c_st x L2 24 i0 768 al11 rfl rfl q10 rfl (rg_any v14) dX3_word_32 (fun g15 H15 k15 eg15 L15 => ?_)
          refine lv_aload_n hx hb dX3_word_33 rfl (lv_at hl 0 rfl) ?_
          refine lv_dup hx hb dX3_word_34 rfl ?_
          refine c_geti x L15 3 i0 15 111 hal0 rfl rfl (wk_in kf_X3_102) dX3_word_35 (fun v16 ev16 wv16 => ?_)
          refine m_top (((mm_up ez2_0 eg15 rfl)).trans ev16.symm) ?_
          refine lv_iconst (v := 1) hx hb dX3_word_38 (by decide) ?_
          refine lv_iadd hx hb dX3_word_39 ?_
          refine lv_topi (fun v17 ev17 => ?_)
          have rv17 : rg (1) (200) v17 := (rg_add ev17 q10 kc_1 rfl).1
          refine c_puti x L15 3 i0 15 111 hal0 rfl rfl ⟨rfl, by decide +kernel⟩ (wk_in kf_X3_102) dX3_word_40 (crj_111 (rg_w rv17 rfl)) (fun g18 H18 k18 eg18 L18 => ?_)
          obtain ⟨v19, ev19, fv19⟩ := inc_ex a3_2_1 (-8) (-8 : Int32) (by decide)
          have rv19 : rg (-8) (16) v19 := (rg_add ev19 q6 kc_m8 rfl).1
          have tv19 := (rg_add ev19 q6 kc_m8 rfl).2
          refine lv_iinc (v := v19) (lv' := [(2, .int v19), (0, .ref (Z.ad 3 i0)), (1, .int p1)]) hx hb dX3_word_43 hl (k := 2) rfl fv19 (by decide) rfl (fun ls hl => ?_)
          refine lv_goto (tgt := 3) hx hb dX3_word_46 (by decide) ?_
          exact ih2 _ (ms_dn tv19 kc_m8 q6 rfl rfl) v19 g18 _ _ ls (mFr.upE (mFr.upE hF2 eg15 rfl) eg18 rfl) L18 (rg_w rv19 rfl) (rg_eqv (mm_st eg18) (rg_w rv17 rfl)) (lv_sub hl [1, 2, 0] rfl) rfl
  exact j3_2 _ (24 : Int32) g _ _ ls mFr.rf L (rg_w kc_24 rfl) (rg_w (clj_111 (L.2.2 111 i0)) rfl) (lv_sub hl [1, 2, 0] rfl) rfl
theorem c_kword (l : Launch) {G : cG} {Z : cZ} (X : Int) (g : mSt) (i0 : Nat) (p1 : Int32) (hX : 0 ≤ X ∧ X ≤ 2000000000) (hi0 : i0 < 2 * Z.n) : Met l yX3_word (wk (Cond.code yX3_word cX3_word 3 none)) rm_kword (va_Pc [.ref (Z.ad 3 i0), .int p1] (cPre G Z X g)) (cQv G Z X (fun g1 => mFr [111, 768] g g1 ∧ True)) 0 0 (cAd Z) := by
  refine Met.ofW (cc := cX3_word) (maxL := 3) (ret := none) (by decide) rfl ?_
  intro p e s m args below meth c s₁ B hml hv
  obtain ⟨rfl, hv⟩ := hv
  have hr := B.returns
  have hlocks := B.notSynchronized
  obtain ⟨x, L⟩ := c_start B rfl (fun w h => wk_in h) hv
  have hl := lv_entry ([.ref (Z.ad 3 i0), .int p1]) (n := 3) (Nat.le_of_ble_eq_true rfl)
  rw [lg_entry_eq]
  generalize (lg_sl ([.ref (Z.ad 3 i0), .int p1]) ++ List.replicate (3 - (lg_sl ([.ref (Z.ad 3 i0), .int p1])).length) Slot.unset).toArray = ls at hl ⊢
  exact w_kword x hml L hX i0 p1 hi0 hl (fun pc' ls' g1 H1 locs1 hdg L hp => c_vret x L hr hlocks (Int.le_refl _) hp hdg)

def rm_krow_39 : Room := { frames := 1, cells := 0, slots := 0, locals := 48 }
theorem hd_krow_39 : yX3_row.cls = cRn 3 ∧ yX3_row.cls ≠ "java/lang/invoke/MethodHandle" ∧ yX3_row.cls ≠ "java/lang/invoke/VarHandle" ∧ (parseMethodDescriptor yX3_row.desc).map (fun d => d.parameters.length) = some 3 := by decide +kernel
set_option maxHeartbeats 4000000 in
set_option maxRecDepth 100000 in
theorem w_krow_39 {p : Program} {l : Launch} {e : Env} {s : State} {m : MethodId} {args : Array Value} {below : List Frame} {meth : Method} {c : Code} {H : Heap} {locs : List Loc} {Q : State → Prop} {ls : Array Slot} {G : cG} {Z : cZ} {g : mSt} {H0 : Heap} {X : Int} (x : cX p c cX3_row s args (wk (Cond.code yX3_row cX3_row 4 none)) m G Z RX3 H0) (hml : c.maxLocals = 4) (L : cL G Z H0 X g H locs) (hX : 0 ≤ X ∧ X ≤ 2000000000) (i0 : Nat) (q1 : Nat) (p2 : Int32) (p3 : Int32) (hi0 : i0 < 2 * Z.n) (hq1 : Z.al 39 q1) (rp2 : rg (0) (10000) p2) (rp3 : rg (0) (60) p3) (hl : lv_has ls 4 [(0, .ref (Z.ad 3 i0)), (1, .ref (Z.ad 39 q1)), (2, .int p2), (3, .int p3)]) (hQ : ∀ (pc' : Nat) (ls' : Array Slot) (g1 : mSt) (H1 : Heap) (locs1 : List Loc), decode cX3_row pc' = .ok (.return_, 1) → cL G Z H0 X g1 H1 locs1 → (mFr [111, 768] g g1 ∧ True) → W p l e rm_krow_39 s m args below meth c H1 locs1 0 0 Q (F0 m pc' ls' [])) : W p l e rm_krow_39 s m args below meth c H locs 0 0 Q (F0 m 0 ls []) := by
  have hx := x.1
  have hb := x.2.1
  have hz := x.2.2.2.2.2.2.2.1
  have hzn := hz.1
  have hal0 : Z.al 3 i0 := hz.2 3 i0 (show i0 < 2 * Z.n from hi0)
  have up2 : (0 : Int) ≤ p2.toInt ∧ p2.toInt ≤ 10000 := rp2
  have up3 : (0 : Int) ≤ p3.toInt ∧ p3.toInt ≤ 60 := rp3
  refine lv_iload_n hx hb dX3_row_0 rfl (lv_at hl 2 rfl) ?_
  refine lv_if_lt (tgt := 28) hx hb dX3_row_1 (by decide) (fun c1_1 => ?_) (fun c1_1 => ?_)
  · skip
    have ic1_1 := Int32.lt_iff_toInt_lt.mp c1_1
    exact absurd ((rg_lt c1_1 rp2 kc_0).1 : rg (0) (-1) p2) (fun q => rg_dead q rfl)
  · skip
    have ic1_1 := Int32.le_iff_toInt_le.mp (rg_nlt c1_1)
    refine lv_iload_n hx hb dX3_row_4 rfl (lv_at hl 3 rfl) ?_
    refine lv_if_lt (tgt := 28) hx hb dX3_row_5 (by decide) (fun c5_2 => ?_) (fun c5_2 => ?_)
    · skip
      have ic5_2 := Int32.lt_iff_toInt_lt.mp c5_2
      exact absurd ((rg_lt c5_2 rp3 kc_0).1 : rg (0) (-1) p3) (fun q => rg_dead q rfl)
    · skip
      have ic5_2 := Int32.le_iff_toInt_le.mp (rg_nlt c5_2)
      refine lv_iload_n hx hb dX3_row_8 rfl (lv_at hl 2 rfl) ?_
      refine lv_iload_n hx hb dX3_row_9 rfl (lv_at hl 3 rfl) ?_
      refine lv_iadd hx hb dX3_row_10 ?_
      refine lv_topi (fun v3 ev3 => ?_)
      have rv3 : rg (0) (10060) v3 := (rg_add ev3 rp2 rp3 rfl).1
      have tv3 := (rg_add ev3 rp2 rp3 rfl).2
      have uv3 : (0 : Int) ≤ v3.toInt ∧ v3.toInt ≤ 10060 := rv3
      refine lv_aload_n hx hb dX3_row_11 rfl (lv_at hl 1 rfl) ?_
      refine c_len (n := 480) x L 39 q1 hq1 rfl (by decide) dX3_row_12 ?_
      refine lv_icmp_gt (tgt := 28) hx hb dX3_row_13 (by decide) (fun c13_4 => ?_) (fun c13_4 => ?_)
      · skip
        have ic13_4 := Int32.lt_iff_toInt_lt.mp c13_4
        have q5 : rg (481) (10060) v3 := (rg_lt c13_4 kc_480 rv3).2
        have uq5 : (481 : Int) ≤ v3.toInt ∧ v3.toInt ≤ 10060 := q5
        exact hQ _ _ _ _ _ dX3_row_28 L ⟨mFr.rf, trivial⟩
      · skip
        have ic13_4 := Int32.le_iff_toInt_le.mp (rg_nlt c13_4)
        have q6 : rg (0) (480) v3 := (rg_le (rg_nlt c13_4) rv3 kc_480).1
        have uq6 : (0 : Int) ≤ v3.toInt ∧ v3.toInt ≤ 480 := q6
        refine lv_aload_n hx hb dX3_row_16 rfl (lv_at hl 0 rfl) ?_
        refine c_geti x L 3 i0 15 111 hal0 rfl rfl (wk_in kf_X3_102) dX3_row_17 (fun v7 ev7 wv7 => ?_)
        have rv7 : rg (0) (200) v7 := clj_111 wv7
        have uv7 : (0 : Int) ≤ v7.toInt ∧ v7.toInt ≤ 200 := rv7
        have sv7 := congrArg Int32.toInt ev7
        refine lv_iload_n hx hb dX3_row_20 rfl (lv_at hl 3 rfl) ?_
        refine lv_iadd hx hb dX3_row_21 ?_
        refine lv_topi (fun v8 ev8 => ?_)
        have rv8 : rg (0) (260) v8 := (rg_add ev8 rv7 rp3 rfl).1
        have tv8 := (rg_add ev8 rv7 rp3 rfl).2
        have uv8 : (0 : Int) ≤ v8.toInt ∧ v8.toInt ≤ 260 := rv8
        refine lv_sipush (v := 200) hx hb dX3_row_22 (by decide) ?_
        refine lv_icmp_le (tgt := 29) hx hb dX3_row_25 (by decide) (fun c25_9 => ?_) (fun c25_9 => ?_)
        · skip
          have ic25_9 := Int32.le_iff_toInt_le.mp c25_9
          have q10 : rg (0) (200) v8 := (rg_le c25_9 rv8 kc_200).1
          have uq10 : (0 : Int) ≤ v8.toInt ∧ v8.toInt ≤ 200 := q10
          refine lv_aload_n hx hb dX3_row_29 rfl (lv_at hl 1 rfl) ?_
          refine lv_iload_n hx hb dX3_row_30 rfl (lv_at hl 2 rfl) ?_
          refine lv_aload_n hx hb dX3_row_31 rfl (lv_at hl 0 rfl) ?_
          have al11 : Z.al 24 i0 := hz.2 24 i0 (show i0 < 2 * Z.n from (by omega))
          refine c_getr (a := Z.ad 24 i0) x L 3 i0 14 hal0 rfl rfl (wk_in kf_X3_51) dX3_row_32 ?_
          refine lv_aload_n hx hb dX3_row_35 rfl (lv_at hl 0 rfl) ?_
          refine c_geti x L 3 i0 15 111 hal0 rfl rfl (wk_in kf_X3_102) dX3_row_36 (fun v12 ev12 wv12 => ?_)
          refine m_top ((ev7).trans ev12.symm) ?_
          refine lv_iload_n hx hb dX3_row_39 rfl (lv_at hl 3 rfl) ?_
          refine c_copy (rest := []) x (hml.trans hl.1.symm) L 39 q1 24 i0 1248 768 hq1 al11 rfl rfl rfl rfl ⟨rfl, rfl⟩ kl_X3_105 kw_cp (Int.le_trans (by decide) rp2.1) (Int.le_trans (by decide) rv7.1) (Int.le_trans (by decide) rp3.1) (by show p2.toInt + p3.toInt ≤ 480; omega) (by show v7.toInt + p3.toInt ≤ 240; omega) (Nat.le_of_ble_eq_true rfl) (Nat.le_of_ble_eq_true rfl) dX3_row_40 (fun g13 H13 k13 ec13 L13 => ?_)
          refine lv_aload_n hx hb dX3_row_43 rfl (lv_at hl 0 rfl) ?_
          refine lv_dup hx hb dX3_row_44 rfl ?_
          refine c_geti x L13 3 i0 15 111 hal0 rfl rfl (wk_in kf_X3_102) dX3_row_45 (fun v14 ev14 wv14 => ?_)
          refine m_top (((mm_fr ev7 (cCpy_fr ec13) rfl)).trans ev14.symm) ?_
          refine lv_iload_n hx hb dX3_row_48 rfl (lv_at hl 3 rfl) ?_
          refine lv_iadd hx hb dX3_row_49 ?_
          refine m_top ev8 ?_
          refine c_puti x L13 3 i0 15 111 hal0 rfl rfl ⟨rfl, by decide +kernel⟩ (wk_in kf_X3_102) dX3_row_50 (crj_111 (rg_w q10 rfl)) (fun g15 H15 k15 eg15 L15 => ?_)
          exact hQ _ _ _ _ _ dX3_row_53 L15 ⟨(mFr.upE (mFr.tr mFr.rf (cCpy_fr ec13) rfl) eg15 rfl), trivial⟩
        · skip
          have ic25_9 := Int32.lt_iff_toInt_lt.mp (rg_nle c25_9)
          have q16 : rg (201) (260) v8 := (rg_lt (rg_nle c25_9) kc_200 rv8).2
          have uq16 : (201 : Int) ≤ v8.toInt ∧ v8.toInt ≤ 260 := q16
          exact hQ _ _ _ _ _ dX3_row_28 L ⟨mFr.rf, trivial⟩
theorem c_krow_39 (l : Launch) {G : cG} {Z : cZ} (X : Int) (g : mSt) (i0 : Nat) (q1 : Nat) (p2 : Int32) (p3 : Int32) (hX : 0 ≤ X ∧ X ≤ 2000000000) (hi0 : i0 < 2 * Z.n) (hq1 : Z.al 39 q1) (rp2 : rg (0) (10000) p2) (rp3 : rg (0) (60) p3) : Met l yX3_row (wk (Cond.code yX3_row cX3_row 4 none)) rm_krow_39 (va_Pc [.ref (Z.ad 3 i0), .ref (Z.ad 39 q1), .int p2, .int p3] (cPre G Z X g)) (cQv G Z X (fun g1 => mFr [111, 768] g g1 ∧ True)) 0 0 (cAd Z) := by
  refine Met.ofW (cc := cX3_row) (maxL := 4) (ret := none) (by decide) rfl ?_
  intro p e s m args below meth c s₁ B hml hv
  obtain ⟨rfl, hv⟩ := hv
  have hr := B.returns
  have hlocks := B.notSynchronized
  obtain ⟨x, L⟩ := c_start B rfl (fun w h => wk_in h) hv
  have hl := lv_entry ([.ref (Z.ad 3 i0), .ref (Z.ad 39 q1), .int p2, .int p3]) (n := 4) (Nat.le_of_ble_eq_true rfl)
  rw [lg_entry_eq]
  generalize (lg_sl ([.ref (Z.ad 3 i0), .ref (Z.ad 39 q1), .int p2, .int p3]) ++ List.replicate (4 - (lg_sl ([.ref (Z.ad 3 i0), .ref (Z.ad 39 q1), .int p2, .int p3])).length) Slot.unset).toArray = ls at hl ⊢
  exact w_krow_39 x hml L hX i0 q1 p2 p3 hi0 hq1 rp2 rp3 hl (fun pc' ls' g1 H1 locs1 hdg L hp => c_vret x L hr hlocks (Int.le_refl _) hp hdg)

def rm_ksendUnit : Room := { frames := 3, cells := 0, slots := 0, locals := 72 }
theorem hd_ksendUnit : yX3_sendUnit.cls = cRn 3 ∧ yX3_sendUnit.cls ≠ "java/lang/invoke/MethodHandle" ∧ yX3_sendUnit.cls ≠ "java/lang/invoke/VarHandle" ∧ (parseMethodDescriptor yX3_sendUnit.desc).map (fun d => d.parameters.length) = some 2 := by decide +kernel
set_option maxHeartbeats 4000000 in
set_option maxRecDepth 100000 in
theorem w_ksendUnit {p : Program} {l : Launch} {e : Env} {s : State} {m : MethodId} {args : Array Value} {below : List Frame} {meth : Method} {c : Code} {H : Heap} {locs : List Loc} {Q : State → Prop} {ls : Array Slot} {G : cG} {Z : cZ} {g : mSt} {H0 : Heap} {X : Int} (x : cX p c cX3_sendUnit s args (wk (Cond.code yX3_sendUnit cX3_sendUnit 5 none)) m G Z RX3 H0) (hml : c.maxLocals = 5) (L : cL G Z H0 X g H locs) (hX : 0 ≤ X ∧ X ≤ 2000000000) (i0 : Nat) (p1 : Int32) (p2 : Int32) (hi0 : i0 < 2 * Z.n) (hl : lv_has ls 5 [(0, .ref (Z.ad 3 i0)), (1, .int p1), (2, .int p2)]) (hQ : ∀ (pc' : Nat) (ls' : Array Slot) (g1 : mSt) (H1 : Heap) (locs1 : List Loc), decode cX3_sendUnit pc' = .ok (.return_, 1) → cL G Z H0 X g1 H1 locs1 → (mFr [67, 108, 111, 544, 576, 768] g g1 ∧ True) → W p l e rm_ksendUnit s m args below meth c H1 locs1 0 0 Q (F0 m pc' ls' [])) : W p l e rm_ksendUnit s m args below meth c H locs 0 0 Q (F0 m 0 ls []) := by
  have hx := x.1
  have hb := x.2.1
  have hz := x.2.2.2.2.2.2.2.1
  have hzn := hz.1
  have hal0 : Z.al 3 i0 := hz.2 3 i0 (show i0 < 2 * Z.n from hi0)
  have up1 : (-2147483648 : Int) ≤ p1.toInt ∧ p1.toInt ≤ 2147483647 := (rg_any p1)
  have up2 : (-2147483648 : Int) ≤ p2.toInt ∧ p2.toInt ≤ 2147483647 := (rg_any p2)
  refine lv_aload_n hx hb dX3_sendUnit_0 rfl (lv_at hl 0 rfl) ?_
  refine lv_iload_n hx hb dX3_sendUnit_1 rfl (lv_at hl 1 rfl) ?_
  refine lv_bipush (v := 24) hx hb dX3_sendUnit_2 (by decide) ?_
  refine lv_ishl hx hb dX3_sendUnit_4 ?_
  refine lv_topi (fun v1 ev1 => ?_)
  have rv1 : rg (-2147483648) (2147483647) v1 := rg_any v1
  have uv1 : (-2147483648 : Int) ≤ v1.toInt ∧ v1.toInt ≤ 2147483647 := rv1
  refine lv_iload_n hx hb dX3_sendUnit_5 rfl (lv_at hl 2 rfl) ?_
  refine lv_ior hx hb dX3_sendUnit_6 ?_
  refine lv_topi (fun v2 ev2 => ?_)
  have rv2 : rg (-2147483648) (2147483647) v2 := rg_any v2
  have uv2 : (-2147483648 : Int) ≤ v2.toInt ∧ v2.toInt ≤ 2147483647 := rv2
  refine c_cv (As := [.int v2]) (rest := []) x hml L 3 i0 hal0 rfl (c_kword l X g i0 v2 hX (show i0 < 2 * Z.n from (by omega))) (wk_V kd_X3_word kl_X3_111 ki_X3_word ks_X3_X3_word kn_X3) rfl ⟨rfl, rfl⟩ hd_kword ⟨Nat.le_of_ble_eq_true rfl, Nat.le_of_ble_eq_true rfl⟩ rfl hl.1 rfl (lv_room (Nat.le_of_ble_eq_true rfl)) dX3_sendUnit_7 (fun  g3 H3 k3 hp3 L3 => ?_)
  refine lv_aload_n hx hb dX3_sendUnit_10 rfl (lv_at hl 0 rfl) ?_
  have al4 : Z.al 24 i0 := hz.2 24 i0 (show i0 < 2 * Z.n from (by omega))
  refine c_getr (a := Z.ad 24 i0) x L3 3 i0 14 hal0 rfl rfl (wk_in kf_X3_51) dX3_sendUnit_11 ?_
  refine lv_aload_n hx hb dX3_sendUnit_14 rfl (lv_at hl 0 rfl) ?_
  refine c_geti x L3 3 i0 15 111 hal0 rfl rfl (wk_in kf_X3_102) dX3_sendUnit_15 (fun v5 ev5 wv5 => ?_)
  have rv5 : rg (0) (200) v5 := clj_111 wv5
  have uv5 : (0 : Int) ≤ v5.toInt ∧ v5.toInt ≤ 200 := rv5
  refine c_siN (As := [.ref (Z.ad 24 i0), .int v5]) (rest := []) x hml L3 (c_kcloseFrame_24 l X g3 i0 v5 hX al4) (goodC (wk_all kd_X11_closeFrame)) (List.mem_of_getElem? (i := 8) rfl) (wk_in kt_X11_closeFrame) (wk_in kn_X11) rfl ⟨rfl, rfl⟩ hd_kcloseFrame_24 ⟨Nat.le_of_ble_eq_true rfl, Nat.le_of_ble_eq_true rfl⟩ rfl hl.1 rfl (lv_room (Nat.le_of_ble_eq_true rfl)) dX3_sendUnit_18 (fun v7 g6 H6 k6 hp6 L6 => ?_)
  have rv7 : rg (0) (5) v7 := hp6.2.1
  have uv7 : (0 : Int) ≤ v7.toInt ∧ v7.toInt ≤ 5 := rv7
  refine lv_istore_n (lv' := [(3, .int v7), (0, .ref (Z.ad 3 i0)), (1, .int p1), (2, .int p2)]) hx hb dX3_sendUnit_21 rfl hl (by decide) rfl (fun ls hl => ?_)
  refine lv_aload_n hx hb dX3_sendUnit_22 rfl (lv_at hl 1 rfl) ?_
  refine lv_iconst (v := 0) hx hb dX3_sendUnit_23 (by decide) ?_
  refine c_puti x L6 3 i0 15 111 hal0 rfl rfl ⟨rfl, by decide +kernel⟩ (wk_in kf_X3_102) dX3_sendUnit_24 (crj_111 (rg_w kc_0 rfl)) (fun g8 H8 k8 eg8 L8 => ?_)
  refine lv_aload_n hx hb dX3_sendUnit_27 rfl (lv_at hl 1 rfl) ?_
  have al9 : Z.al 2 (2 * i0) := hz.2 2 (2 * i0) (show (2 * i0) < 4 * Z.n from (by omega))
  refine c_getr (a := Z.ad 2 (2 * i0)) x L8 3 i0 0 hal0 rfl rfl (wk_in kf_X3_12) dX3_sendUnit_28 ?_
  refine c_geti x L8 2 (2 * i0) 3 67 al9 rfl rfl (wk_in kf_X3_64) dX3_sendUnit_31 (fun v10 ev10 wv10 => ?_)
  have rv10 : rg (0) (40) v10 := clj_67 wv10
  have uv10 : (0 : Int) ≤ v10.toInt ∧ v10.toInt ≤ 40 := rv10
  refine lv_iload_n hx hb dX3_sendUnit_34 rfl (lv_at hl 0 rfl) ?_
  refine lv_iadd hx hb dX3_sendUnit_35 ?_
  refine lv_topi (fun v11 ev11 => ?_)
  have rv11 : rg (0) (45) v11 := (rg_add ev11 rv10 rv7 rfl).1
  have tv11 := (rg_add ev11 rv10 rv7 rfl).2
  have uv11 : (0 : Int) ≤ v11.toInt ∧ v11.toInt ≤ 45 := rv11
  refine lv_bipush (v := 40) hx hb dX3_sendUnit_36 (by decide) ?_
  refine lv_icmp_le (tgt := 52) hx hb dX3_sendUnit_38 (by decide) (fun c38_12 => ?_) (fun c38_12 => ?_)
  · skip
    have ic38_12 := Int32.le_iff_toInt_le.mp c38_12
    have q13 : rg (0) (40) v11 := (rg_le c38_12 rv11 kc_40).1
    have uq13 : (0 : Int) ≤ v11.toInt ∧ v11.toInt ≤ 40 := q13
    refine lv_iconst (v := 0) hx hb dX3_sendUnit_52 (by decide) ?_
    refine lv_istore (lv' := [(4, .int (0 : Int32)), (3, .int v7), (0, .ref (Z.ad 3 i0)), (1, .int p1), (2, .int p2)]) hx hb dX3_sendUnit_53 hl (by decide) rfl (fun ls hl => ?_)
    have j55_15 : ∀ (n : Nat) (a55_4_14 : Int32) (g15 : mSt) (H15 : Heap) (k15 : List Loc) (ls : Array Slot), mFr [67, 544, 576] g8 g15 → cL G Z H0 X g15 H15 k15 → rg (0) (5) a55_4_14 → lv_has ls 5 [(0, .ref (Z.ad 3 i0)), (3, .int v7), (4, .int a55_4_14)] → ((5 : Int) - a55_4_14.toInt).toNat = n → W p l e rm_ksendUnit s m args below meth c H15 k15 0 0 Q (F0 m 55 ls []) := by
      intro n
      induction n using Nat.strongRecOn with
      | _ n ih15 =>
        intro a55_4_14 g15 H15 k15 ls hF15 L15 ra55_4_14 hl hn15
        subst hn15
        have ua55_4_14 : (0 : Int) ≤ a55_4_14.toInt ∧ a55_4_14.toInt ≤ 5 := ra55_4_14
        refine lv_iload hx hb dX3_sendUnit_55 (lv_at hl 2 rfl) ?_
        refine lv_iload_n hx hb dX3_sendUnit_57 rfl (lv_at hl 1 rfl) ?_
        refine lv_icmp_ge (tgt := 100) hx hb dX3_sendUnit_58 (by decide) (fun c58_16 => ?_) (fun c58_16 => ?_)
        · skip
          have ic58_16 := Int32.le_iff_toInt_le.mp c58_16
          exact hQ _ _ _ _ _ dX3_sendUnit_100 L15 ⟨(mFr.tr (mFr.upE (mFr.tr (mFr.tr mFr.rf hp3.1 rfl) hp6.1 rfl) eg8 rfl) hF15 rfl), trivial⟩
        · skip
          have ic58_16 := Int32.lt_iff_toInt_lt.mp (rg_nle c58_16)
          have q17 : rg (0) (4) a55_4_14 := (rg_lt (rg_nle c58_16) ra55_4_14 rv7).1
          have uq17 : (0 : Int) ≤ a55_4_14.toInt ∧ a55_4_14.toInt ≤ 4 := q17
          have q18 : rg (1) (5) v7 := (rg_lt (rg_nle c58_16) ra55_4_14 rv7).2
          have uq18 : (1 : Int) ≤ v7.toInt ∧ v7.toInt ≤ 5 := q18
          refine lv_aload_n hx hb dX3_sendUnit_61 rfl (lv_at hl 0 rfl) ?_
          refine c_getr (a := Z.ad 2 (2 * i0)) x L15 3 i0 0 hal0 rfl rfl (wk_in kf_X3_12) dX3_sendUnit_62 ?_
          refine lv_bipush (v := 80) hx hb dX3_sendUnit_65 (by decide) ?_
          refine lv_iload hx hb dX3_sendUnit_67 (lv_at hl 2 rfl) ?_
          refine lv_iload_n hx hb dX3_sendUnit_69 rfl (lv_at hl 1 rfl) ?_
          refine lv_iconst (v := 1) hx hb dX3_sendUnit_70 (by decide) ?_
          refine lv_isub hx hb dX3_sendUnit_71 ?_
          refine lv_topi (fun v19 ev19 => ?_)
          have rv19 : rg (0) (4) v19 := (rg_sub ev19 q18 kc_1 rfl).1
          have tv19 := (rg_sub ev19 q18 kc_1 rfl).2
          have y20 : (1 : Int32).toInt = 1 := by decide
          have uv19 : (0 : Int) ≤ v19.toInt ∧ v19.toInt ≤ 4 := rv19
          refine lv_icmp_ne (tgt := 79) hx hb dX3_sendUnit_72 (by decide) (fun c72_21 => ?_) (fun c72_21 => ?_)
          · skip
            have ic72_21 : a55_4_14.toInt ≠ v19.toInt := fun z => c72_21 (Int32.toInt_inj.mp z)
            refine lv_iconst (v := 0) hx hb dX3_sendUnit_79 (by decide) ?_
            refine lv_ior hx hb dX3_sendUnit_80 ?_
            refine lv_topi (fun v22 ev22 => ?_)
            have rv22 : rg (-2147483648) (2147483647) v22 := rg_any v22
            have uv22 : (-2147483648 : Int) ≤ v22.toInt ∧ v22.toInt ≤ 2147483647 := rv22
            refine lv_aload_n hx hb dX3_sendUnit_81 rfl (lv_at hl 0 rfl) ?_
            refine c_getr (a := Z.ad 24 i0) x L15 3 i0 14 hal0 rfl rfl (wk_in kf_X3_51) dX3_sendUnit_82 ?_
            refine lv_iload hx hb dX3_sendUnit_85 (lv_at hl 2 rfl) ?_
            refine lv_bipush (v := 48) hx hb dX3_sendUnit_87 (by decide) ?_
            refine lv_imul hx hb dX3_sendUnit_89 ?_
            refine lv_topi (fun v23 ev23 => ?_)
            have rv23 : rg (0) (192) v23 := (rg_mul ev23 q17 kc_48 rfl).1
            have tv23 := (rg_mul ev23 q17 kc_48 rfl).2
            have y24 : (48 : Int32).toInt = 48 := by decide
            have uv23 : (0 : Int) ≤ v23.toInt ∧ v23.toInt ≤ 192 := rv23
            refine c_ci (As := [.int v22, .ref (Z.ad 24 i0), .int v23]) (rest := []) x hml L15 2 (2 * i0) al9 rfl (c_kqadd_24 l X g15 (2 * i0) v22 i0 v23 hX (show (2 * i0) < 4 * Z.n from (by omega)) al4 (rg_w rv23 rfl)) (wk_V kd_X2_add kl_X3_95 ki_X2_add ks_X2_X2_add kn_X2) rfl ⟨rfl, rfl⟩ hd_kqadd_24 ⟨Nat.le_of_ble_eq_true rfl, Nat.le_of_ble_eq_true rfl⟩ rfl hl.1 rfl (lv_room (Nat.le_of_ble_eq_true rfl)) dX3_sendUnit_90 (fun v26 g25 H25 k25 hp25 L25 => ?_)
            have rv26 : rg (0) (1) v26 := hp25.2.1
            have uv26 : (0 : Int) ≤ v26.toInt ∧ v26.toInt ≤ 1 := rv26
            refine lv_pop hx hb dX3_sendUnit_93 rfl ?_
            obtain ⟨v27, ev27, fv27⟩ := inc_ex a55_4_14 (1) (1 : Int32) (by decide)
            have rv27 : rg (1) (5) v27 := (rg_add ev27 q17 kc_1 rfl).1
            have tv27 := (rg_add ev27 q17 kc_1 rfl).2
            have yv27 : (1 : Int32).toInt = 1 := by decide
            refine lv_iinc (v := v27) (lv' := [(4, .int v27), (0, .ref (Z.ad 3 i0)), (3, .int v7)]) hx hb dX3_sendUnit_94 hl (k := 2) rfl fv27 (by decide) rfl (fun ls hl => ?_)
            refine lv_goto (tgt := 55) hx hb dX3_sendUnit_97 (by decide) ?_
            exact ih15 _ (ms_up tv27 kc_1 q17 rfl rfl) v27 g25 _ _ ls (mFr.tr hF15 hp25.1 rfl) L25 (rg_w rv27 rfl) (lv_sub hl [1, 2, 0] rfl) rfl
          · skip
            have ic72_21 := congrArg Int32.toInt c72_21
            refine lv_iconst (v := 2) hx hb dX3_sendUnit_75 (by decide) ?_
            refine lv_goto (tgt := 80) hx hb dX3_sendUnit_76 (by decide) ?_
            refine lv_ior hx hb dX3_sendUnit_80 ?_
            refine lv_topi (fun v28 ev28 => ?_)
            have rv28 : rg (-2147483648) (2147483647) v28 := rg_any v28
            have uv28 : (-2147483648 : Int) ≤ v28.toInt ∧ v28.toInt ≤ 2147483647 := rv28
            refine lv_aload_n hx hb dX3_sendUnit_81 rfl (lv_at hl 0 rfl) ?_
            refine c_getr (a := Z.ad 24 i0) x L15 3 i0 14 hal0 rfl rfl (wk_in kf_X3_51) dX3_sendUnit_82 ?_
            refine lv_iload hx hb dX3_sendUnit_85 (lv_at hl 2 rfl) ?_
            refine lv_bipush (v := 48) hx hb dX3_sendUnit_87 (by decide) ?_
            refine lv_imul hx hb dX3_sendUnit_89 ?_
            refine lv_topi (fun v29 ev29 => ?_)
            have rv29 : rg (0) (192) v29 := (rg_mul ev29 q17 kc_48 rfl).1
            have tv29 := (rg_mul ev29 q17 kc_48 rfl).2
            have y30 : (48 : Int32).toInt = 48 := by decide
            have uv29 : (0 : Int) ≤ v29.toInt ∧ v29.toInt ≤ 192 := rv29
            refine c_ci (As := [.int v28, .ref (Z.ad 24 i0), .int v29]) (rest := []) x hml L15 2 (2 * i0) al9 rfl (c_kqadd_24 l X g15 (2 * i0) v28 i0 v29 hX (show (2 * i0) < 4 * Z.n from (by omega)) al4 (rg_w rv29 rfl)) (wk_V kd_X2_add kl_X3_95 ki_X2_add ks_X2_X2_add kn_X2) rfl ⟨rfl, rfl⟩ hd_kqadd_24 ⟨Nat.le_of_ble_eq_true rfl, Nat.le_of_ble_eq_true rfl⟩ rfl hl.1 rfl (lv_room (Nat.le_of_ble_eq_true rfl)) dX3_sendUnit_90 (fun v32 g31 H31 k31 hp31 L31 => ?_)
            have rv32 : rg (0) (1) v32 := hp31.2.1
            have uv32 : (0 : Int) ≤ v32.toInt ∧ v32.toInt ≤ 1 := rv32
            refine lv_pop hx hb dX3_sendUnit_93 rfl ?_
            obtain ⟨v33, ev33, fv33⟩ := inc_ex a55_4_14 (1) (1 : Int32) (by decide)
            have rv33 : rg (1) (5) v33 := (rg_add ev33 q17 kc_1 rfl).1
            have tv33 := (rg_add ev33 q17 kc_1 rfl).2
            have yv33 : (1 : Int32).toInt = 1 := by decide
            refine lv_iinc (v := v33) (lv' := [(4, .int v33), (0, .ref (Z.ad 3 i0)), (3, .int v7)]) hx hb dX3_sendUnit_94 hl (k := 2) rfl fv33 (by decide) rfl (fun ls hl => ?_)
            refine lv_goto (tgt := 55) hx hb dX3_sendUnit_97 (by decide) ?_
            exact ih15 _ (ms_up tv33 kc_1 q17 rfl rfl) v33 g31 _ _ ls (mFr.tr hF15 hp31.1 rfl) L31 (rg_w rv33 rfl) (lv_sub hl [1, 2, 0] rfl) rfl
    have y34 : (0 : Int32).toInt = 0 := by decide
    exact j55_15 _ (0 : Int32) g8 _ _ ls mFr.rf L8 (rg_w kc_0 rfl) (lv_sub hl [2, 1, 0] rfl) rfl
  · skip
    have ic38_12 := Int32.lt_iff_toInt_lt.mp (rg_nle c38_12)
    have q35 : rg (41) (45) v11 := (rg_lt (rg_nle c38_12) kc_40 rv11).2
    have uq35 : (41 : Int) ≤ v11.toInt ∧ v11.toInt ≤ 45 := q35
    refine lv_aload_n hx hb dX3_sendUnit_41 rfl (lv_at hl 1 rfl) ?_
    refine lv_dup hx hb dX3_sendUnit_42 rfl ?_
    refine c_geti x L8 3 i0 12 108 hal0 rfl rfl (wk_in kf_X3_99) dX3_sendUnit_43 (fun v36 ev36 wv36 => ?_)
    have rv36 : rg (-2147483648) (2147483647) v36 := rg_any v36
    have uv36 : (-2147483648 : Int) ≤ v36.toInt ∧ v36.toInt ≤ 2147483647 := rv36
    refine lv_iload_n hx hb dX3_sendUnit_46 rfl (lv_at hl 0 rfl) ?_
    refine lv_iadd hx hb dX3_sendUnit_47 ?_
    refine lv_topi (fun v37 ev37 => ?_)
    have rv37 : rg (-2147483648) (2147483647) v37 := rg_any v37
    have uv37 : (-2147483648 : Int) ≤ v37.toInt ∧ v37.toInt ≤ 2147483647 := rv37
    refine c_puti x L8 3 i0 12 108 hal0 rfl rfl ⟨rfl, by decide +kernel⟩ (wk_in kf_X3_99) dX3_sendUnit_48 (rg_any v37) (fun g38 H38 k38 eg38 L38 => ?_)
    exact hQ _ _ _ _ _ dX3_sendUnit_51 L38 ⟨(mFr.upE (mFr.upE (mFr.tr (mFr.tr mFr.rf hp3.1 rfl) hp6.1 rfl) eg8 rfl) eg38 rfl), trivial⟩
theorem c_ksendUnit (l : Launch) {G : cG} {Z : cZ} (X : Int) (g : mSt) (i0 : Nat) (p1 : Int32) (p2 : Int32) (hX : 0 ≤ X ∧ X ≤ 2000000000) (hi0 : i0 < 2 * Z.n) : Met l yX3_sendUnit (wk (Cond.code yX3_sendUnit cX3_sendUnit 5 none)) rm_ksendUnit (va_Pc [.ref (Z.ad 3 i0), .int p1, .int p2] (cPre G Z X g)) (cQv G Z X (fun g1 => mFr [67, 108, 111, 544, 576, 768] g g1 ∧ True)) 0 0 (cAd Z) := by
  refine Met.ofW (cc := cX3_sendUnit) (maxL := 5) (ret := none) (by decide) rfl ?_
  intro p e s m args below meth c s₁ B hml hv
  obtain ⟨rfl, hv⟩ := hv
  have hr := B.returns
  have hlocks := B.notSynchronized
  obtain ⟨x, L⟩ := c_start B rfl (fun w h => wk_in h) hv
  have hl := lv_entry ([.ref (Z.ad 3 i0), .int p1, .int p2]) (n := 5) (Nat.le_of_ble_eq_true rfl)
  rw [lg_entry_eq]
  generalize (lg_sl ([.ref (Z.ad 3 i0), .int p1, .int p2]) ++ List.replicate (5 - (lg_sl ([.ref (Z.ad 3 i0), .int p1, .int p2])).length) Slot.unset).toArray = ls at hl ⊢
  exact w_ksendUnit x hml L hX i0 p1 p2 hi0 hl (fun pc' ls' g1 H1 locs1 hdg L hp => c_vret x L hr hlocks (Int.le_refl _) hp hdg)

def rm_kaddData_25 : Room := { frames := 2, cells := 0, slots := 0, locals := 72 }
theorem hd_kaddData_25 : yX3_addData.cls = cRn 3 ∧ yX3_addData.cls ≠ "java/lang/invoke/MethodHandle" ∧ yX3_addData.cls ≠ "java/lang/invoke/VarHandle" ∧ (parseMethodDescriptor yX3_addData.desc).map (fun d => d.parameters.length) = some 3 := by decide +kernel
set_option maxHeartbeats 4000000 in
set_option maxRecDepth 100000 in
theorem w_kaddData_25 {p : Program} {l : Launch} {e : Env} {s : State} {m : MethodId} {args : Array Value} {below : List Frame} {meth : Method} {c : Code} {H : Heap} {locs : List Loc} {Q : State → Prop} {ls : Array Slot} {G : cG} {Z : cZ} {g : mSt} {H0 : Heap} {X : Int} (x : cX p c cX3_addData s args (wk (Cond.code yX3_addData cX3_addData 4 none)) m G Z RX3 H0) (hml : c.maxLocals = 4) (L : cL G Z H0 X g H locs) (hX : 0 ≤ X ∧ X ≤ 2000000000) (i0 : Nat) (p1 : Int32) (q2 : Nat) (p3 : Int32) (hi0 : i0 < 2 * Z.n) (hq2 : Z.al 25 q2) (rp3 : rg (0) (10000) p3) (hl : lv_has ls 4 [(0, .ref (Z.ad 3 i0)), (1, .int p1), (2, .ref (Z.ad 25 q2)), (3, .int p3)]) (hQ : ∀ (pc' : Nat) (ls' : Array Slot) (g1 : mSt) (H1 : Heap) (locs1 : List Loc), decode cX3_addData pc' = .ok (.return_, 1) → cL G Z H0 X g1 H1 locs1 → (mFr [67, 108, 544, 576] g g1 ∧ True) → W p l e rm_kaddData_25 s m args below meth c H1 locs1 0 0 Q (F0 m pc' ls' [])) : W p l e rm_kaddData_25 s m args below meth c H locs 0 0 Q (F0 m 0 ls []) := by
  have hx := x.1
  have hb := x.2.1
  have hz := x.2.2.2.2.2.2.2.1
  have hzn := hz.1
  have hal0 : Z.al 3 i0 := hz.2 3 i0 (show i0 < 2 * Z.n from hi0)
  refine lv_aload_n hx hb dX3_addData_0 rfl (lv_at hl 0 rfl) ?_
  have al1 : Z.al 2 (2 * i0 + 1) := hz.2 2 (2 * i0 + 1) (show (2 * i0 + 1) < 4 * Z.n from (by omega))
  refine c_getr (a := Z.ad 2 (2 * i0 + 1)) x L 3 i0 1 hal0 rfl rfl (wk_in kf_X3_18) dX3_addData_1 ?_
  refine lv_iload_n hx hb dX3_addData_4 rfl (lv_at hl 1 rfl) ?_
  refine lv_aload_n hx hb dX3_addData_5 rfl (lv_at hl 2 rfl) ?_
  refine lv_iload_n hx hb dX3_addData_6 rfl (lv_at hl 3 rfl) ?_
  refine c_ci (As := [.int p1, .ref (Z.ad 25 q2), .int p3]) (rest := []) x hml L 2 (2 * i0 + 1) al1 rfl (c_kqadd_25 l X g (2 * i0 + 1) p1 q2 p3 hX (show (2 * i0 + 1) < 4 * Z.n from (by omega)) hq2 (rg_w rp3 rfl)) (wk_V kd_X2_add kl_X3_95 ki_X2_add ks_X2_X2_add kn_X2) rfl ⟨rfl, rfl⟩ hd_kqadd_25 ⟨Nat.le_of_ble_eq_true rfl, Nat.le_of_ble_eq_true rfl⟩ rfl hl.1 rfl (lv_room (Nat.le_of_ble_eq_true rfl)) dX3_addData_7 (fun v3 g2 H2 k2 hp2 L2 => ?_)
  have rv3 : rg (0) (1) v3 := hp2.2.1
  have j23_4 : ∀ (g4 : mSt) (H4 : Heap) (k4 : List Loc) (ls : Array Slot), mFr [108] g2 g4 → cL G Z H0 X g4 H4 k4 → lv_has ls 4 [(0, .ref (Z.ad 3 i0))] → W p l e rm_kaddData_25 s m args below meth c H4 k4 0 0 Q (F0 m 23 ls []) := by
    intro  g4 H4 k4 ls hF4 L4  hl
    exact hQ _ _ _ _ _ dX3_addData_23 L4 ⟨(mFr.tr (mFr.tr mFr.rf hp2.1 rfl) hF4 rfl), trivial⟩
  refine lv_if_ne (tgt := 23) hx hb dX3_addData_10 (by decide) (fun c10_5 => ?_) (fun c10_5 => ?_)
  · skip
    have q6 : rg (1) (1) v3 := rg_neL c10_5 rv3 kc_0
    exact j23_4  g2 _ _ ls mFr.rf L2  (lv_sub hl [0] rfl)
  · skip
    have q7 : rg (0) (0) v3 := (rg_eq c10_5 rv3 kc_0).1
    refine lv_aload_n hx hb dX3_addData_13 rfl (lv_at hl 0 rfl) ?_
    refine lv_dup hx hb dX3_addData_14 rfl ?_
    refine c_geti x L2 3 i0 12 108 hal0 rfl rfl (wk_in kf_X3_99) dX3_addData_15 (fun v8 ev8 wv8 => ?_)
    have rv8 : rg (-2147483648) (2147483647) v8 := rg_any v8
    refine lv_iconst (v := 1) hx hb dX3_addData_18 (by decide) ?_
    refine lv_iadd hx hb dX3_addData_19 ?_
    refine lv_topi (fun v9 ev9 => ?_)
    have rv9 : rg (-2147483648) (2147483647) v9 := rg_any v9
    refine c_puti x L2 3 i0 12 108 hal0 rfl rfl ⟨rfl, by decide +kernel⟩ (wk_in kf_X3_99) dX3_addData_20 (rg_any v9) (fun g10 H10 k10 eg10 L10 => ?_)
    exact j23_4  g10 _ _ ls (mFr.upE mFr.rf eg10 rfl) L10  (lv_sub hl [0] rfl)
theorem c_kaddData_25 (l : Launch) {G : cG} {Z : cZ} (X : Int) (g : mSt) (i0 : Nat) (p1 : Int32) (q2 : Nat) (p3 : Int32) (hX : 0 ≤ X ∧ X ≤ 2000000000) (hi0 : i0 < 2 * Z.n) (hq2 : Z.al 25 q2) (rp3 : rg (0) (10000) p3) : Met l yX3_addData (wk (Cond.code yX3_addData cX3_addData 4 none)) rm_kaddData_25 (va_Pc [.ref (Z.ad 3 i0), .int p1, .ref (Z.ad 25 q2), .int p3] (cPre G Z X g)) (cQv G Z X (fun g1 => mFr [67, 108, 544, 576] g g1 ∧ True)) 0 0 (cAd Z) := by
  refine Met.ofW (cc := cX3_addData) (maxL := 4) (ret := none) (by decide) rfl ?_
  intro p e s m args below meth c s₁ B hml hv
  obtain ⟨rfl, hv⟩ := hv
  have hr := B.returns
  have hlocks := B.notSynchronized
  obtain ⟨x, L⟩ := c_start B rfl (fun w h => wk_in h) hv
  have hl := lv_entry ([.ref (Z.ad 3 i0), .int p1, .ref (Z.ad 25 q2), .int p3]) (n := 4) (Nat.le_of_ble_eq_true rfl)
  rw [lg_entry_eq]
  generalize (lg_sl ([.ref (Z.ad 3 i0), .int p1, .ref (Z.ad 25 q2), .int p3]) ++ List.replicate (4 - (lg_sl ([.ref (Z.ad 3 i0), .int p1, .ref (Z.ad 25 q2), .int p3])).length) Slot.unset).toArray = ls at hl ⊢
  exact w_kaddData_25 x hml L hX i0 p1 q2 p3 hi0 hq2 rp3 hl (fun pc' ls' g1 H1 locs1 hdg L hp => c_vret x L hr hlocks (Int.le_refl _) hp hdg)

def rm_kdtell : Room := { frames := 0, cells := 0, slots := 0, locals := 0 }
theorem hd_kdtell : yX3_tell.cls = cRn 3 ∧ yX3_tell.cls ≠ "java/lang/invoke/MethodHandle" ∧ yX3_tell.cls ≠ "java/lang/invoke/VarHandle" ∧ (parseMethodDescriptor yX3_tell.desc).map (fun d => d.parameters.length) = some 1 := by decide +kernel
set_option maxHeartbeats 4000000 in
set_option maxRecDepth 100000 in
theorem w_kdtell {p : Program} {l : Launch} {e : Env} {s : State} {m : MethodId} {args : Array Value} {below : List Frame} {meth : Method} {c : Code} {H : Heap} {locs : List Loc} {Q : State → Prop} {ls : Array Slot} {G : cG} {Z : cZ} {g : mSt} {H0 : Heap} {X : Int} (x : cX p c cX3_tell s args (wk (Cond.code yX3_tell cX3_tell 2 (some .int))) m G Z RX3 H0) (hml : c.maxLocals = 2) (L : cL G Z H0 X g H locs) (hX : 0 ≤ X ∧ X ≤ 2000000000) (i0 : Nat) (p1 : Int32) (hi0 : i0 < 2 * Z.n) (hl : lv_has ls 2 [(0, .ref (Z.ad 3 i0)), (1, .int p1)]) (hQ : ∀ (pc' : Nat) (ls' : Array Slot) (r : Int32) (g1 : mSt) (H1 : Heap) (locs1 : List Loc), decode cX3_tell pc' = .ok (.ireturn, 1) → cL G Z H0 X g1 H1 locs1 → (mFr [] g g1 ∧ rg (-2147483648) (2147483647) r ∧ True) → W p l e rm_kdtell s m args below meth c H1 locs1 0 0 Q (F0 m pc' ls' [.int r])) : W p l e rm_kdtell s m args below meth c H locs 0 0 Q (F0 m 0 ls []) := by
  have hx := x.1
  have hb := x.2.1
  have hz := x.2.2.2.2.2.2.2.1
  have hzn := hz.1
  have hal0 : Z.al 3 i0 := hz.2 3 i0 (show i0 < 2 * Z.n from hi0)
  have up1 : (-2147483648 : Int) ≤ p1.toInt ∧ p1.toInt ≤ 2147483647 := (rg_any p1)
  refine lv_iload_n hx hb dX3_tell_0 rfl (lv_at hl 1 rfl) ?_
  rcases (show p1.toInt < 0 ∨ 9 < p1.toInt ∨ p1.toInt = 0 ∨ p1.toInt = 1 ∨ p1.toInt = 2 ∨ p1.toInt = 3 ∨ p1.toInt = 4 ∨ p1.toInt = 5 ∨ p1.toInt = 6 ∨ p1.toInt = 7 ∨ p1.toInt = 8 ∨ p1.toInt = 9 by omega) with c1_1 | c1_1 | c1_1 | c1_1 | c1_1 | c1_1 | c1_1 | c1_1 | c1_1 | c1_1 | c1_1 | c1_1
  · skip
    refine lv_tableOut (tgt := 149) hx hb dX3_tell_1 (Or.inl c1_1) (by decide) ?_
    refine lv_iconst (v := (-1)) hx hb dX3_tell_149 (by decide) ?_
    exact hQ _ _ (-1 : Int32) _ _ _ dX3_tell_150 L ⟨mFr.rf, rg_w kc_m1 rfl, trivial⟩
  · skip
    refine lv_tableOut (tgt := 149) hx hb dX3_tell_1 (Or.inr c1_1) (by decide) ?_
    refine lv_iconst (v := (-1)) hx hb dX3_tell_149 (by decide) ?_
    exact hQ _ _ (-1 : Int32) _ _ _ dX3_tell_150 L ⟨mFr.rf, rg_w kc_m1 rfl, trivial⟩
  · skip
    have q2 : rg (0) (0) p1 := ⟨by omega, by omega⟩
    refine lv_tableIn (off := 55) (tgt := 56) hx hb dX3_tell_1 (by omega) (by omega) (by rw [c1_1]; rfl) (by decide) ?_
    refine lv_aload_n hx hb dX3_tell_56 rfl (lv_at hl 0 rfl) ?_
    have al3 : Z.al 7 i0 := hz.2 7 i0 (show i0 < 2 * Z.n from (by omega))
    refine c_getr (a := Z.ad 7 i0) x L 3 i0 2 hal0 rfl rfl (wk_in kf_X3_24) dX3_tell_57 ?_
    refine c_geti x L 7 i0 1 225 al3 rfl rfl (wk_in kf_X3_117) dX3_tell_60 (fun v4 ev4 wv4 => ?_)
    have rv4 : rg (0) (2) v4 := clj_225 wv4
    have uv4 : (0 : Int) ≤ v4.toInt ∧ v4.toInt ≤ 2 := rv4
    have sv4 : v4.toInt = (g 225 i0).toInt := congrArg Int32.toInt (ev4.trans (congrFun ((show mFr [] g g from mFr.rf).at 225 rfl) _))
    exact hQ _ _ v4 _ _ _ dX3_tell_63 L ⟨mFr.rf, rg_w rv4 rfl, trivial⟩
  · skip
    have q5 : rg (1) (1) p1 := ⟨by omega, by omega⟩
    refine lv_tableIn (off := 63) (tgt := 64) hx hb dX3_tell_1 (by omega) (by omega) (by rw [c1_1]; rfl) (by decide) ?_
    refine lv_aload_n hx hb dX3_tell_64 rfl (lv_at hl 0 rfl) ?_
    have al6 : Z.al 7 i0 := hz.2 7 i0 (show i0 < 2 * Z.n from (by omega))
    refine c_getr (a := Z.ad 7 i0) x L 3 i0 2 hal0 rfl rfl (wk_in kf_X3_24) dX3_tell_65 ?_
    refine c_geti x L 7 i0 1 225 al6 rfl rfl (wk_in kf_X3_117) dX3_tell_68 (fun v7 ev7 wv7 => ?_)
    have rv7 : rg (0) (2) v7 := clj_225 wv7
    have uv7 : (0 : Int) ≤ v7.toInt ∧ v7.toInt ≤ 2 := rv7
    have sv7 : v7.toInt = (g 225 i0).toInt := congrArg Int32.toInt (ev7.trans (congrFun ((show mFr [] g g from mFr.rf).at 225 rfl) _))
    refine lv_iconst (v := 2) hx hb dX3_tell_71 (by decide) ?_
    refine lv_icmp_ne (tgt := 89) hx hb dX3_tell_72 (by decide) (fun c72_8 => ?_) (fun c72_8 => ?_)
    · skip
      have ic72_8 : v7.toInt ≠ (2 : Int32).toInt := fun z => c72_8 (Int32.toInt_inj.mp z)
      have y9 : (2 : Int32).toInt = 2 := by decide
      have q10 : rg (0) (1) v7 := rg_neH c72_8 rv7 kc_2
      have uq10 : (0 : Int) ≤ v7.toInt ∧ v7.toInt ≤ 1 := q10
      refine lv_iconst (v := 0) hx hb dX3_tell_89 (by decide) ?_
      exact hQ _ _ (0 : Int32) _ _ _ dX3_tell_90 L ⟨mFr.rf, rg_w kc_0 rfl, trivial⟩
    · skip
      have ic72_8 := congrArg Int32.toInt c72_8
      have y11 : (2 : Int32).toInt = 2 := by decide
      have q12 : rg (2) (2) v7 := (rg_eq c72_8 rv7 kc_2).1
      have uq12 : (2 : Int) ≤ v7.toInt ∧ v7.toInt ≤ 2 := q12
      refine lv_aload_n hx hb dX3_tell_75 rfl (lv_at hl 0 rfl) ?_
      refine c_getr (a := Z.ad 7 i0) x L 3 i0 2 hal0 rfl rfl (wk_in kf_X3_24) dX3_tell_76 ?_
      refine c_geti x L 7 i0 2 226 al6 rfl rfl (wk_in kf_X3_120) dX3_tell_79 (fun v13 ev13 wv13 => ?_)
      have rv13 : rg (0) (1) v13 := clj_226 wv13
      have uv13 : (0 : Int) ≤ v13.toInt ∧ v13.toInt ≤ 1 := rv13
      have sv13 : v13.toInt = (g 226 i0).toInt := congrArg Int32.toInt (ev13.trans (congrFun ((show mFr [] g g from mFr.rf).at 226 rfl) _))
      refine lv_if_eq (tgt := 89) hx hb dX3_tell_82 (by decide) (fun c82_14 => ?_) (fun c82_14 => ?_)
      · skip
        have ic82_14 := congrArg Int32.toInt c82_14
        have y15 : (0 : Int32).toInt = 0 := by decide
        have q16 : rg (0) (0) v13 := (rg_eq c82_14 rv13 kc_0).1
        have uq16 : (0 : Int) ≤ v13.toInt ∧ v13.toInt ≤ 0 := q16
        refine lv_iconst (v := 0) hx hb dX3_tell_89 (by decide) ?_
        exact hQ _ _ (0 : Int32) _ _ _ dX3_tell_90 L ⟨mFr.rf, rg_w kc_0 rfl, trivial⟩
      · skip
        have ic82_14 : v13.toInt ≠ (0 : Int32).toInt := fun z => c82_14 (Int32.toInt_inj.mp z)
        have y17 : (0 : Int32).toInt = 0 := by decide
        have q18 : rg (1) (1) v13 := rg_neL c82_14 rv13 kc_0
        have uq18 : (1 : Int) ≤ v13.toInt ∧ v13.toInt ≤ 1 := q18
        refine lv_iconst (v := 1) hx hb dX3_tell_85 (by decide) ?_
        refine lv_goto (tgt := 90) hx hb dX3_tell_86 (by decide) ?_
        exact hQ _ _ (1 : Int32) _ _ _ dX3_tell_90 L ⟨mFr.rf, rg_w kc_1 rfl, trivial⟩
  · skip
    have q19 : rg (2) (2) p1 := ⟨by omega, by omega⟩
    refine lv_tableIn (off := 90) (tgt := 91) hx hb dX3_tell_1 (by omega) (by omega) (by rw [c1_1]; rfl) (by decide) ?_
    refine lv_aload_n hx hb dX3_tell_91 rfl (lv_at hl 0 rfl) ?_
    have al20 : Z.al 7 i0 := hz.2 7 i0 (show i0 < 2 * Z.n from (by omega))
    refine c_getr (a := Z.ad 7 i0) x L 3 i0 2 hal0 rfl rfl (wk_in kf_X3_24) dX3_tell_92 ?_
    refine c_geti x L 7 i0 3 227 al20 rfl rfl (wk_in kf_X3_124) dX3_tell_95 (fun v21 ev21 wv21 => ?_)
    have rv21 : rg (-2147483648) (2147483647) v21 := rg_any v21
    have uv21 : (-2147483648 : Int) ≤ v21.toInt ∧ v21.toInt ≤ 2147483647 := rv21
    have sv21 : v21.toInt = (g 227 i0).toInt := congrArg Int32.toInt (ev21.trans (congrFun ((show mFr [] g g from mFr.rf).at 227 rfl) _))
    exact hQ _ _ v21 _ _ _ dX3_tell_98 L ⟨mFr.rf, rg_w rv21 rfl, trivial⟩
  · skip
    have q22 : rg (3) (3) p1 := ⟨by omega, by omega⟩
    refine lv_tableIn (off := 98) (tgt := 99) hx hb dX3_tell_1 (by omega) (by omega) (by rw [c1_1]; rfl) (by decide) ?_
    refine lv_aload_n hx hb dX3_tell_99 rfl (lv_at hl 0 rfl) ?_
    have al23 : Z.al 7 i0 := hz.2 7 i0 (show i0 < 2 * Z.n from (by omega))
    refine c_getr (a := Z.ad 7 i0) x L 3 i0 2 hal0 rfl rfl (wk_in kf_X3_24) dX3_tell_100 ?_
    refine c_geti x L 7 i0 4 228 al23 rfl rfl (wk_in kf_X3_127) dX3_tell_103 (fun v24 ev24 wv24 => ?_)
    have rv24 : rg (-2147483648) (2147483647) v24 := rg_any v24
    have uv24 : (-2147483648 : Int) ≤ v24.toInt ∧ v24.toInt ≤ 2147483647 := rv24
    have sv24 : v24.toInt = (g 228 i0).toInt := congrArg Int32.toInt (ev24.trans (congrFun ((show mFr [] g g from mFr.rf).at 228 rfl) _))
    exact hQ _ _ v24 _ _ _ dX3_tell_106 L ⟨mFr.rf, rg_w rv24 rfl, trivial⟩
  · skip
    have q25 : rg (4) (4) p1 := ⟨by omega, by omega⟩
    refine lv_tableIn (off := 106) (tgt := 107) hx hb dX3_tell_1 (by omega) (by omega) (by rw [c1_1]; rfl) (by decide) ?_
    refine lv_aload_n hx hb dX3_tell_107 rfl (lv_at hl 0 rfl) ?_
    have al26 : Z.al 7 i0 := hz.2 7 i0 (show i0 < 2 * Z.n from (by omega))
    refine c_getr (a := Z.ad 7 i0) x L 3 i0 2 hal0 rfl rfl (wk_in kf_X3_24) dX3_tell_108 ?_
    refine c_geti x L 7 i0 5 229 al26 rfl rfl (wk_in kf_X3_130) dX3_tell_111 (fun v27 ev27 wv27 => ?_)
    have rv27 : rg (-2147483648) (2147483647) v27 := rg_any v27
    have uv27 : (-2147483648 : Int) ≤ v27.toInt ∧ v27.toInt ≤ 2147483647 := rv27
    have sv27 : v27.toInt = (g 229 i0).toInt := congrArg Int32.toInt (ev27.trans (congrFun ((show mFr [] g g from mFr.rf).at 229 rfl) _))
    exact hQ _ _ v27 _ _ _ dX3_tell_114 L ⟨mFr.rf, rg_w rv27 rfl, trivial⟩
  · skip
    have q28 : rg (5) (5) p1 := ⟨by omega, by omega⟩
    refine lv_tableIn (off := 114) (tgt := 115) hx hb dX3_tell_1 (by omega) (by omega) (by rw [c1_1]; rfl) (by decide) ?_
    refine lv_aload_n hx hb dX3_tell_115 rfl (lv_at hl 0 rfl) ?_
    have al29 : Z.al 7 i0 := hz.2 7 i0 (show i0 < 2 * Z.n from (by omega))
    refine c_getr (a := Z.ad 7 i0) x L 3 i0 2 hal0 rfl rfl (wk_in kf_X3_24) dX3_tell_116 ?_
    refine c_geti x L 7 i0 6 230 al29 rfl rfl (wk_in kf_X3_133) dX3_tell_119 (fun v30 ev30 wv30 => ?_)
    have rv30 : rg (-2147483648) (2147483647) v30 := rg_any v30
    have uv30 : (-2147483648 : Int) ≤ v30.toInt ∧ v30.toInt ≤ 2147483647 := rv30
    have sv30 : v30.toInt = (g 230 i0).toInt := congrArg Int32.toInt (ev30.trans (congrFun ((show mFr [] g g from mFr.rf).at 230 rfl) _))
    exact hQ _ _ v30 _ _ _ dX3_tell_122 L ⟨mFr.rf, rg_w rv30 rfl, trivial⟩
  · skip
    have q31 : rg (6) (6) p1 := ⟨by omega, by omega⟩
    refine lv_tableIn (off := 122) (tgt := 123) hx hb dX3_tell_1 (by omega) (by omega) (by rw [c1_1]; rfl) (by decide) ?_
    refine lv_aload_n hx hb dX3_tell_123 rfl (lv_at hl 0 rfl) ?_
    refine c_geti x L 3 i0 13 109 hal0 rfl rfl (wk_in kf_X3_136) dX3_tell_124 (fun v32 ev32 wv32 => ?_)
    have rv32 : rg (-2147483648) (2147483647) v32 := rg_any v32
    have uv32 : (-2147483648 : Int) ≤ v32.toInt ∧ v32.toInt ≤ 2147483647 := rv32
    have sv32 : v32.toInt = (g 109 i0).toInt := congrArg Int32.toInt (ev32.trans (congrFun ((show mFr [] g g from mFr.rf).at 109 rfl) _))
    exact hQ _ _ v32 _ _ _ dX3_tell_127 L ⟨mFr.rf, rg_w rv32 rfl, trivial⟩
  · skip
    have q33 : rg (7) (7) p1 := ⟨by omega, by omega⟩
    refine lv_tableIn (off := 127) (tgt := 128) hx hb dX3_tell_1 (by omega) (by omega) (by rw [c1_1]; rfl) (by decide) ?_
    refine lv_aload_n hx hb dX3_tell_128 rfl (lv_at hl 0 rfl) ?_
    refine c_geti x L 3 i0 12 108 hal0 rfl rfl (wk_in kf_X3_99) dX3_tell_129 (fun v34 ev34 wv34 => ?_)
    have rv34 : rg (-2147483648) (2147483647) v34 := rg_any v34
    have uv34 : (-2147483648 : Int) ≤ v34.toInt ∧ v34.toInt ≤ 2147483647 := rv34
    have sv34 : v34.toInt = (g 108 i0).toInt := congrArg Int32.toInt (ev34.trans (congrFun ((show mFr [] g g from mFr.rf).at 108 rfl) _))
    exact hQ _ _ v34 _ _ _ dX3_tell_132 L ⟨mFr.rf, rg_w rv34 rfl, trivial⟩
  · skip
    have q35 : rg (8) (8) p1 := ⟨by omega, by omega⟩
    refine lv_tableIn (off := 132) (tgt := 133) hx hb dX3_tell_1 (by omega) (by omega) (by rw [c1_1]; rfl) (by decide) ?_
    refine lv_aload_n hx hb dX3_tell_133 rfl (lv_at hl 0 rfl) ?_
    have al36 : Z.al 2 (2 * i0) := hz.2 2 (2 * i0) (show (2 * i0) < 4 * Z.n from (by omega))
    refine c_getr (a := Z.ad 2 (2 * i0)) x L 3 i0 0 hal0 rfl rfl (wk_in kf_X3_12) dX3_tell_134 ?_
    refine c_geti x L 2 (2 * i0) 3 67 al36 rfl rfl (wk_in kf_X3_64) dX3_tell_137 (fun v37 ev37 wv37 => ?_)
    have rv37 : rg (0) (40) v37 := clj_67 wv37
    have uv37 : (0 : Int) ≤ v37.toInt ∧ v37.toInt ≤ 40 := rv37
    have sv37 : v37.toInt = (g 67 (2 * i0)).toInt := congrArg Int32.toInt (ev37.trans (congrFun ((show mFr [] g g from mFr.rf).at 67 rfl) _))
    exact hQ _ _ v37 _ _ _ dX3_tell_140 L ⟨mFr.rf, rg_w rv37 rfl, trivial⟩
  · skip
    have q38 : rg (9) (9) p1 := ⟨by omega, by omega⟩
    refine lv_tableIn (off := 140) (tgt := 141) hx hb dX3_tell_1 (by omega) (by omega) (by rw [c1_1]; rfl) (by decide) ?_
    refine lv_aload_n hx hb dX3_tell_141 rfl (lv_at hl 0 rfl) ?_
    have al39 : Z.al 2 (2 * i0 + 1) := hz.2 2 (2 * i0 + 1) (show (2 * i0 + 1) < 4 * Z.n from (by omega))
    refine c_getr (a := Z.ad 2 (2 * i0 + 1)) x L 3 i0 1 hal0 rfl rfl (wk_in kf_X3_18) dX3_tell_142 ?_
    refine c_geti x L 2 (2 * i0 + 1) 3 67 al39 rfl rfl (wk_in kf_X3_64) dX3_tell_145 (fun v40 ev40 wv40 => ?_)
    have rv40 : rg (0) (40) v40 := clj_67 wv40
    have uv40 : (0 : Int) ≤ v40.toInt ∧ v40.toInt ≤ 40 := rv40
    have sv40 : v40.toInt = (g 67 (2 * i0 + 1)).toInt := congrArg Int32.toInt (ev40.trans (congrFun ((show mFr [] g g from mFr.rf).at 67 rfl) _))
    exact hQ _ _ v40 _ _ _ dX3_tell_148 L ⟨mFr.rf, rg_w rv40 rfl, trivial⟩
theorem c_kdtell (l : Launch) {G : cG} {Z : cZ} (X : Int) (g : mSt) (i0 : Nat) (p1 : Int32) (hX : 0 ≤ X ∧ X ≤ 2000000000) (hi0 : i0 < 2 * Z.n) : Met l yX3_tell (wk (Cond.code yX3_tell cX3_tell 2 (some .int))) rm_kdtell (va_Pc [.ref (Z.ad 3 i0), .int p1] (cPre G Z X g)) (cQi G Z X (fun r g1 => mFr [] g g1 ∧ rg (-2147483648) (2147483647) r ∧ True)) 0 0 (cAd Z) := by
  refine Met.ofW (cc := cX3_tell) (maxL := 2) (ret := (some .int)) (by decide) rfl ?_
  intro p e s m args below meth c s₁ B hml hv
  obtain ⟨rfl, hv⟩ := hv
  have hr := B.returns
  have hlocks := B.notSynchronized
  obtain ⟨x, L⟩ := c_start B rfl (fun w h => wk_in h) hv
  have hl := lv_entry ([.ref (Z.ad 3 i0), .int p1]) (n := 2) (Nat.le_of_ble_eq_true rfl)
  rw [lg_entry_eq]
  generalize (lg_sl ([.ref (Z.ad 3 i0), .int p1]) ++ List.replicate (2 - (lg_sl ([.ref (Z.ad 3 i0), .int p1])).length) Slot.unset).toArray = ls at hl ⊢
  exact w_kdtell x hml L hX i0 p1 hi0 hl (fun pc' ls' r g1 H1 locs1 hdg L hp => c_iret x L hr hlocks (Int.le_refl _) hp hdg)

def rm_kspoilCell : Room := { frames := 1, cells := 0, slots := 0, locals := 21 }
theorem hd_kspoilCell : yX3_spoilCell.cls = cRn 3 ∧ yX3_spoilCell.cls ≠ "java/lang/invoke/MethodHandle" ∧ yX3_spoilCell.cls ≠ "java/lang/invoke/VarHandle" ∧ (parseMethodDescriptor yX3_spoilCell.desc).map (fun d => d.parameters.length) = some 0 := by decide +kernel
set_option maxHeartbeats 4000000 in
set_option maxRecDepth 100000 in
theorem w_kspoilCell {p : Program} {l : Launch} {e : Env} {s : State} {m : MethodId} {args : Array Value} {below : List Frame} {meth : Method} {c : Code} {H : Heap} {locs : List Loc} {Q : State → Prop} {ls : Array Slot} {G : cG} {Z : cZ} {g : mSt} {H0 : Heap} {X : Int} (x : cX p c cX3_spoilCell s args (wk (Cond.code yX3_spoilCell cX3_spoilCell 4 (some .int))) m G Z RX3 H0) (hml : c.maxLocals = 4) (L : cL G Z H0 X g H locs) (hX : 0 ≤ X ∧ X ≤ 2000000000) (i0 : Nat) (hJ : cJ g) (hi0 : i0 < 2 * Z.n) (hpre0 : rg (0) (159) (g 101 i0)) (hl : lv_has ls 4 [(0, .ref (Z.ad 3 i0))]) (hQ : ∀ (pc' : Nat) (ls' : Array Slot) (r : Int32) (g1 : mSt) (H1 : Heap) (locs1 : List Loc), decode cX3_spoilCell pc' = .ok (.ireturn, 1) → cL G Z H0 X g1 H1 locs1 → (mFr [106, 608, 640, 672, 704, 736] g g1 ∧ rg (0) (53) r ∧ cJ g1 ∧ True) → W p l e rm_kspoilCell s m args below meth c H1 locs1 0 0 Q (F0 m pc' ls' [.int r])) : W p l e rm_kspoilCell s m args below meth c H locs 0 0 Q (F0 m 0 ls []) := by
  have hx := x.1
  have hb := x.2.1
  have hz := x.2.2.2.2.2.2.2.1
  have hzn := hz.1
  have hal0 : Z.al 3 i0 := hz.2 3 i0 (show i0 < 2 * Z.n from hi0)
  obtain ⟨z0, ez0⟩ : ∃ y : Int32, y = g 101 i0 := ⟨_, rfl⟩
  have rz0 : rg (0) (159) z0 := rg_eqv ez0.symm hpre0
  have sz0 := congrArg Int32.toInt ez0
  have uz0 : (0 : Int) ≤ z0.toInt ∧ z0.toInt ≤ 159 := rz0
  refine lv_bipush (v := 53) hx hb dX3_spoilCell_0 (by decide) ?_
  refine lv_istore_n (lv' := [(1, .int (53 : Int32)), (0, .ref (Z.ad 3 i0))]) hx hb dX3_spoilCell_2 rfl hl (by decide) rfl (fun ls hl => ?_)
  refine lv_iconst (v := 0) hx hb dX3_spoilCell_3 (by decide) ?_
  refine lv_istore_n (lv' := [(2, .int (0 : Int32)), (1, .int (53 : Int32)), (0, .ref (Z.ad 3 i0))]) hx hb dX3_spoilCell_4 rfl hl (by decide) rfl (fun ls hl => ?_)
  refine lv_iconst (v := 0) hx hb dX3_spoilCell_5 (by decide) ?_
  refine lv_istore_n (lv' := [(3, .int (0 : Int32)), (2, .int (0 : Int32)), (1, .int (53 : Int32)), (0, .ref (Z.ad 3 i0))]) hx hb dX3_spoilCell_6 rfl hl (by decide) rfl (fun ls hl => ?_)
  have j7_4 : ∀ (n : Nat) (a7_1_1 a7_2_2 a7_3_3 : Int32) (g4 : mSt) (H4 : Heap) (k4 : List Loc) (ls : Array Slot), mFr [608, 640, 672, 704, 736] g g4 → cL G Z H0 X g4 H4 k4 → cJ g4 → rg (0) (53) a7_1_1 → rg (0) (8) a7_2_2 → rg (0) (8) a7_3_3 → (a7_2_2.toInt ≤ a7_3_3.toInt) → lv_has ls 4 [(0, .ref (Z.ad 3 i0)), (1, .int a7_1_1), (2, .int a7_2_2), (3, .int a7_3_3)] → ((8 : Int) - a7_3_3.toInt).toNat = n → W p l e rm_kspoilCell s m args below meth c H4 k4 0 0 Q (F0 m 7 ls []) := by
    intro n
    induction n using Nat.strongRecOn with
    | _ n ih4 =>
      intro a7_1_1 a7_2_2 a7_3_3 g4 H4 k4 ls hF4 L4 hJ4 ra7_1_1 ra7_2_2 ra7_3_3 hv4_0 hl hn4
      subst hn4
      have ua7_1_1 : (0 : Int) ≤ a7_1_1.toInt ∧ a7_1_1.toInt ≤ 53 := ra7_1_1
      have ua7_2_2 : (0 : Int) ≤ a7_2_2.toInt ∧ a7_2_2.toInt ≤ 8 := ra7_2_2
      have ua7_3_3 : (0 : Int) ≤ a7_3_3.toInt ∧ a7_3_3.toInt ≤ 8 := ra7_3_3
      refine lv_iload_n hx hb dX3_spoilCell_7 rfl (lv_at hl 3 rfl) ?_
      refine lv_aload_n hx hb dX3_spoilCell_8 rfl (lv_at hl 0 rfl) ?_
      refine c_geti x L4 3 i0 10 106 hal0 rfl rfl (wk_in kf_X3_54) dX3_spoilCell_9 (fun v5 ev5 wv5 => ?_)
      have rv5 : rg (0) (8) v5 := clj_106 wv5
      have uv5 : (0 : Int) ≤ v5.toInt ∧ v5.toInt ≤ 8 := rv5
      refine lv_icmp_ge (tgt := 146) hx hb dX3_spoilCell_12 (by decide) (fun c12_6 => ?_) (fun c12_6 => ?_)
      · skip
        have ic12_6 := Int32.le_iff_toInt_le.mp c12_6
        refine lv_aload_n hx hb dX3_spoilCell_146 rfl (lv_at hl 0 rfl) ?_
        refine lv_iload_n hx hb dX3_spoilCell_147 rfl (lv_at hl 2 rfl) ?_
        refine c_puti x L4 3 i0 10 106 hal0 rfl rfl ⟨rfl, by decide +kernel⟩ (wk_in kf_X3_54) dX3_spoilCell_148 (crj_106 (rg_w ra7_2_2 rfl)) (fun g7 H7 k7 eg7 L7 => ?_)
        refine lv_iload_n hx hb dX3_spoilCell_151 rfl (lv_at hl 1 rfl) ?_
        exact hQ _ _ a7_1_1 _ _ _ dX3_spoilCell_152 L7 ⟨(mFr.upE (mFr.tr mFr.rf hF4 rfl) eg7 rfl), rg_w ra7_1_1 rfl, (cJ_up hJ4 eg7 rfl), trivial⟩
      · skip
        have ic12_6 := Int32.lt_iff_toInt_lt.mp (rg_nle c12_6)
        have q8 : rg (0) (7) a7_3_3 := (rg_lt (rg_nle c12_6) ra7_3_3 rv5).1
        have uq8 : (0 : Int) ≤ a7_3_3.toInt ∧ a7_3_3.toInt ≤ 7 := q8
        have q9 : rg (1) (8) v5 := (rg_lt (rg_nle c12_6) ra7_3_3 rv5).2
        have uq9 : (1 : Int) ≤ v5.toInt ∧ v5.toInt ≤ 8 := q9
        refine lv_aload_n hx hb dX3_spoilCell_15 rfl (lv_at hl 0 rfl) ?_
        have al10 : Z.al 21 i0 := hz.2 21 i0 (show i0 < 2 * Z.n from (by omega))
        refine c_getr (a := Z.ad 21 i0) x L4 3 i0 7 hal0 rfl rfl (wk_in kf_X3_42) dX3_spoilCell_16 ?_
        refine lv_iload_n hx hb dX3_spoilCell_19 rfl (lv_at hl 3 rfl) ?_
        refine c_ld x L4 21 i0 672 al10 rfl rfl q8 rfl dX3_spoilCell_20 (fun v11 ev11 wv11 => ?_)
        have rv11 : rg (-2147483648) (2147483647) v11 := rg_any v11
        have uv11 : (-2147483648 : Int) ≤ v11.toInt ∧ v11.toInt ≤ 2147483647 := rv11
        refine lv_aload_n hx hb dX3_spoilCell_21 rfl (lv_at hl 0 rfl) ?_
        refine c_geti x L4 3 i0 11 107 hal0 rfl rfl (wk_in kf_X3_58) dX3_spoilCell_22 (fun v12 ev12 wv12 => ?_)
        have rv12 : rg (-2147483648) (2147483647) v12 := rg_any v12
        have uv12 : (-2147483648 : Int) ≤ v12.toInt ∧ v12.toInt ≤ 2147483647 := rv12
        have sv12 : v12.toInt = (g 107 i0).toInt := congrArg Int32.toInt (ev12.trans (congrFun ((show mFr [106, 608, 640, 672, 704, 736] g g4 from (mFr.tr mFr.rf hF4 rfl)).at 107 rfl) _))
        have j140_15 : ∀ (a140_1_13 a140_2_14 : Int32) (g15 : mSt) (H15 : Heap) (k15 : List Loc) (ls : Array Slot), mFr [608, 640, 672, 704, 736] g4 g15 → cL G Z H0 X g15 H15 k15 → cJ g15 → rg (0) (53) a140_1_13 → rg (0) (8) a140_2_14 → (a140_2_14.toInt ≤ a7_3_3.toInt + 1) → lv_has ls 4 [(0, .ref (Z.ad 3 i0)), (1, .int a140_1_13), (2, .int a140_2_14), (3, .int a7_3_3)] → W p l e rm_kspoilCell s m args below meth c H15 k15 0 0 Q (F0 m 140 ls []) := by
          intro a140_1_13 a140_2_14 g15 H15 k15 ls hF15 L15 hJ15 ra140_1_13 ra140_2_14 hv15_0 hl
          have ua140_1_13 : (0 : Int) ≤ a140_1_13.toInt ∧ a140_1_13.toInt ≤ 53 := ra140_1_13
          have ua140_2_14 : (0 : Int) ≤ a140_2_14.toInt ∧ a140_2_14.toInt ≤ 8 := ra140_2_14
          obtain ⟨v16, ev16, fv16⟩ := inc_ex a7_3_3 (1) (1 : Int32) (by decide)
          have rv16 : rg (1) (8) v16 := (rg_add ev16 q8 kc_1 rfl).1
          have tv16 := (rg_add ev16 q8 kc_1 rfl).2
          have yv16 : (1 : Int32).toInt = 1 := by decide
          refine lv_iinc (v := v16) (lv' := [(3, .int v16), (0, .ref (Z.ad 3 i0)), (1, .int a140_1_13), (2, .int a140_2_14)]) hx hb dX3_spoilCell_140 hl (k := 3) rfl fv16 (by decide) rfl (fun ls hl => ?_)
          refine lv_goto (tgt := 7) hx hb dX3_spoilCell_143 (by decide) ?_
          exact ih4 _ (ms_up tv16 kc_1 q8 rfl rfl) a140_1_13 a140_2_14 v16 g15 _ _ ls (mFr.tr hF4 hF15 rfl) L15 hJ15 (rg_w ra140_1_13 rfl) (rg_w ra140_2_14 rfl) (rg_w rv16 rfl) (by omega) (lv_sub hl [1, 2, 3, 0] rfl) rfl
        refine lv_icmp_eq (tgt := 82) hx hb dX3_spoilCell_25 (by decide) (fun c25_17 => ?_) (fun c25_17 => ?_)
        · skip
          have ic25_17 := congrArg Int32.toInt c25_17
          refine lv_aload_n hx hb dX3_spoilCell_82 rfl (lv_at hl 0 rfl) ?_
          have al18 : Z.al 20 i0 := hz.2 20 i0 (show i0 < 2 * Z.n from (by omega))
          refine c_getr (a := Z.ad 20 i0) x L4 3 i0 6 hal0 rfl rfl (wk_in kf_X3_39) dX3_spoilCell_83 ?_
          refine lv_iload_n hx hb dX3_spoilCell_86 rfl (lv_at hl 3 rfl) ?_
          refine c_ld x L4 20 i0 640 al18 rfl rfl q8 rfl dX3_spoilCell_87 (fun v19 ev19 wv19 => ?_)
          have rv19 : rg (-2147483648) (2147483647) v19 := rg_any v19
          have uv19 : (-2147483648 : Int) ≤ v19.toInt ∧ v19.toInt ≤ 2147483647 := rv19
          refine lv_iconst (v := 1) hx hb dX3_spoilCell_88 (by decide) ?_
          refine lv_icmp_ne (tgt := 120) hx hb dX3_spoilCell_89 (by decide) (fun c89_20 => ?_) (fun c89_20 => ?_)
          · skip
            have ic89_20 : v19.toInt ≠ (1 : Int32).toInt := fun z => c89_20 (Int32.toInt_inj.mp z)
            have y21 : (1 : Int32).toInt = 1 := by decide
            refine lv_iload_n hx hb dX3_spoilCell_120 rfl (lv_at hl 1 rfl) ?_
            refine lv_aload_n hx hb dX3_spoilCell_121 rfl (lv_at hl 0 rfl) ?_
            refine c_getr (a := Z.ad 20 i0) x L4 3 i0 6 hal0 rfl rfl (wk_in kf_X3_39) dX3_spoilCell_122 ?_
            refine lv_iload_n hx hb dX3_spoilCell_125 rfl (lv_at hl 3 rfl) ?_
            refine c_ld x L4 20 i0 640 al18 rfl rfl q8 rfl dX3_spoilCell_126 (fun v22 ev22 wv22 => ?_)
            refine m_top ((ev19).trans ev22.symm) ?_
            have j136_24 : ∀ (b136_1_23 : Int32) (g24 : mSt) (H24 : Heap) (k24 : List Loc) (ls : Array Slot), mFr [] g4 g24 → cL G Z H0 X g24 H24 k24 → cJ g24 → rg (0) (52) b136_1_23 → lv_has ls 4 [(0, .ref (Z.ad 3 i0)), (2, .int a7_2_2), (3, .int a7_3_3)] → W p l e rm_kspoilCell s m args below meth c H24 k24 0 0 Q (F0 m 136 ls [.int b136_1_23, .int a7_1_1]) := by
              intro b136_1_23 g24 H24 k24 ls hF24 L24 hJ24 rb136_1_23 hl
              have ub136_1_23 : (0 : Int) ≤ b136_1_23.toInt ∧ b136_1_23.toInt ≤ 52 := rb136_1_23
              refine va_mmin (rest := []) hx hb (hml.trans hl.1.symm) x.2.2.2.2.1 (x.2.2.1 _ (wk_in kl_X3_89)) (x.2.2.1 _ (wk_in kw_min.1)) (x.2.2.1 _ (wk_in kw_min.2.1)) (x.2.2.1 _ (wk_in kw_min.2.2)) (Nat.le_of_ble_eq_true rfl) (Nat.le_of_ble_eq_true rfl) (Nat.zero_le _) (Nat.zero_le _) dX3_spoilCell_136 ?_
              refine lv_topi (fun v25 ev25 => ?_)
              have hmv25 := rg_min ev25 ra7_1_1 rb136_1_23
              have rv25 : rg (0) (52) v25 := rg_w hmv25.1 rfl
              have tv25 := hmv25.2
              have uv25 : (0 : Int) ≤ v25.toInt ∧ v25.toInt ≤ 52 := rv25
              refine lv_istore_n (lv' := [(1, .int v25), (0, .ref (Z.ad 3 i0)), (2, .int a7_2_2), (3, .int a7_3_3)]) hx hb dX3_spoilCell_139 rfl hl (by decide) rfl (fun ls hl => ?_)
              exact j140_15 v25 a7_2_2 g24 _ _ ls (mFr.tr mFr.rf hF24 rfl) L24 hJ24 (rg_w rv25 rfl) (rg_w ra7_2_2 rfl) (by omega) (lv_sub hl [1, 0, 2, 3] rfl)
            refine lv_if_ne (tgt := 134) hx hb dX3_spoilCell_127 (by decide) (fun c127_26 => ?_) (fun c127_26 => ?_)
            · skip
              have ic127_26 : v19.toInt ≠ (0 : Int32).toInt := fun z => c127_26 (Int32.toInt_inj.mp z)
              have y27 : (0 : Int32).toInt = 0 := by decide
              refine lv_bipush (v := 52) hx hb dX3_spoilCell_134 (by decide) ?_
              have y28 : (52 : Int32).toInt = 52 := by decide
              exact j136_24 (52 : Int32) g4 _ _ ls mFr.rf L4 hJ4 (rg_w kc_52 rfl) (lv_sub hl [0, 2, 3] rfl)
            · skip
              have ic127_26 := congrArg Int32.toInt c127_26
              have y29 : (0 : Int32).toInt = 0 := by decide
              have q30 : rg (0) (0) v19 := (rg_eq c127_26 rv19 kc_0).1
              have uq30 : (0 : Int) ≤ v19.toInt ∧ v19.toInt ≤ 0 := q30
              refine lv_iconst (v := 0) hx hb dX3_spoilCell_130 (by decide) ?_
              refine lv_goto (tgt := 136) hx hb dX3_spoilCell_131 (by decide) ?_
              have y31 : (0 : Int32).toInt = 0 := by decide
              exact j136_24 (0 : Int32) g4 _ _ ls mFr.rf L4 hJ4 (rg_w kc_0 rfl) (lv_sub hl [0, 2, 3] rfl)
          · skip
            have ic89_20 := congrArg Int32.toInt c89_20
            have y32 : (1 : Int32).toInt = 1 := by decide
            have q33 : rg (1) (1) v19 := (rg_eq c89_20 rv19 kc_1).1
            have uq33 : (1 : Int) ≤ v19.toInt ∧ v19.toInt ≤ 1 := q33
            refine lv_aload_n hx hb dX3_spoilCell_92 rfl (lv_at hl 0 rfl) ?_
            have al34 : Z.al 19 i0 := hz.2 19 i0 (show i0 < 2 * Z.n from (by omega))
            refine c_getr (a := Z.ad 19 i0) x L4 3 i0 4 hal0 rfl rfl (wk_in kf_X3_35) dX3_spoilCell_93 ?_
            refine lv_aload_n hx hb dX3_spoilCell_96 rfl (lv_at hl 0 rfl) ?_
            refine c_geti x L4 3 i0 5 101 hal0 rfl rfl (wk_in kf_X3_61) dX3_spoilCell_97 (fun v35 ev35 wv35 => ?_)
            refine m_top (((mm_fr ez0 hF4 rfl)).trans ev35.symm) ?_
            refine lv_aload_n hx hb dX3_spoilCell_100 rfl (lv_at hl 0 rfl) ?_
            have al36 : Z.al 22 i0 := hz.2 22 i0 (show i0 < 2 * Z.n from (by omega))
            refine c_getr (a := Z.ad 22 i0) x L4 3 i0 8 hal0 rfl rfl (wk_in kf_X3_45) dX3_spoilCell_101 ?_
            refine lv_iload_n hx hb dX3_spoilCell_104 rfl (lv_at hl 3 rfl) ?_
            refine c_ld x L4 22 i0 704 al36 rfl rfl q8 rfl dX3_spoilCell_105 (fun v37 ev37 wv37 => ?_)
            have rv37 : rg (-2147483648) (2147483647) v37 := rg_any v37
            have rrv37 : rg (0) (52) v37 := cJ_ro hJ4 ev37 ev19 (by omega)
            have uv37 : (0 : Int) ≤ v37.toInt ∧ v37.toInt ≤ 52 := rrv37
            refine lv_iadd hx hb dX3_spoilCell_106 ?_
            refine lv_topi (fun v38 ev38 => ?_)
            have rv38 : rg (0) (211) v38 := (rg_add ev38 rz0 rrv37 rfl).1
            have tv38 := (rg_add ev38 rz0 rrv37 rfl).2
            have uv38 : (0 : Int) ≤ v38.toInt ∧ v38.toInt ≤ 211 := rv38
            refine lv_dup2_11 hx hb dX3_spoilCell_107 rfl rfl ?_
            refine c_ld x L4 19 i0 608 al34 rfl rfl rv38 rfl dX3_spoilCell_108 (fun v39 ev39 wv39 => ?_)
            have rv39 : rg (-2147483648) (2147483647) v39 := rg_any v39
            have uv39 : (-2147483648 : Int) ≤ v39.toInt ∧ v39.toInt ≤ 2147483647 := rv39
            refine lv_aload_n hx hb dX3_spoilCell_109 rfl (lv_at hl 0 rfl) ?_
            have al40 : Z.al 23 i0 := hz.2 23 i0 (show i0 < 2 * Z.n from (by omega))
            refine c_getr (a := Z.ad 23 i0) x L4 3 i0 9 hal0 rfl rfl (wk_in kf_X3_48) dX3_spoilCell_110 ?_
            refine lv_iload_n hx hb dX3_spoilCell_113 rfl (lv_at hl 3 rfl) ?_
            refine c_ld x L4 23 i0 736 al40 rfl rfl q8 rfl dX3_spoilCell_114 (fun v41 ev41 wv41 => ?_)
            have rv41 : rg (-2147483648) (2147483647) v41 := rg_any v41
            have uv41 : (-2147483648 : Int) ≤ v41.toInt ∧ v41.toInt ≤ 2147483647 := rv41
            refine lv_ixor hx hb dX3_spoilCell_115 ?_
            refine lv_topi (fun v42 ev42 => ?_)
            have rv42 : rg (-2147483648) (2147483647) v42 := rg_any v42
            have uv42 : (-2147483648 : Int) ≤ v42.toInt ∧ v42.toInt ≤ 2147483647 := rv42
            refine c_st x L4 19 i0 608 al34 rfl rfl rv38 rfl (rg_any v42) dX3_spoilCell_116 (fun g43 H43 k43 eg43 L43 => ?_)
            refine lv_goto (tgt := 140) hx hb dX3_spoilCell_117 (by decide) ?_
            exact j140_15 a7_1_1 a7_2_2 g43 _ _ ls (mFr.upE mFr.rf eg43 rfl) L43 (cJ_up hJ4 eg43 rfl) (rg_w ra7_1_1 rfl) (rg_w ra7_2_2 rfl) (by omega) (lv_sub hl [0, 1, 2, 3] rfl)
        · skip
          have ic25_17 : v11.toInt ≠ v12.toInt := fun z => c25_17 (Int32.toInt_inj.mp z)
          have q44 : rg (0) (7) a7_2_2 := ⟨by omega, by omega⟩
          refine lv_aload_n hx hb dX3_spoilCell_28 rfl (lv_at hl 0 rfl) ?_
          have al45 : Z.al 20 i0 := hz.2 20 i0 (show i0 < 2 * Z.n from (by omega))
          refine c_getr (a := Z.ad 20 i0) x L4 3 i0 6 hal0 rfl rfl (wk_in kf_X3_39) dX3_spoilCell_29 ?_
          refine lv_iload_n hx hb dX3_spoilCell_32 rfl (lv_at hl 2 rfl) ?_
          refine lv_aload_n hx hb dX3_spoilCell_33 rfl (lv_at hl 0 rfl) ?_
          refine c_getr (a := Z.ad 20 i0) x L4 3 i0 6 hal0 rfl rfl (wk_in kf_X3_39) dX3_spoilCell_34 ?_
          refine lv_iload_n hx hb dX3_spoilCell_37 rfl (lv_at hl 3 rfl) ?_
          refine c_ld x L4 20 i0 640 al45 rfl rfl q8 rfl dX3_spoilCell_38 (fun v46 ev46 wv46 => ?_)
          have rv46 : rg (-2147483648) (2147483647) v46 := rg_any v46
          have uv46 : (-2147483648 : Int) ≤ v46.toInt ∧ v46.toInt ≤ 2147483647 := rv46
          refine c_st x L4 20 i0 640 al45 rfl rfl q44 rfl (rg_any v46) dX3_spoilCell_39 (fun g47 H47 k47 eg47 L47 => ?_)
          refine lv_aload_n hx hb dX3_spoilCell_40 rfl (lv_at hl 0 rfl) ?_
          refine c_getr (a := Z.ad 21 i0) x L47 3 i0 7 hal0 rfl rfl (wk_in kf_X3_42) dX3_spoilCell_41 ?_
          refine lv_iload_n hx hb dX3_spoilCell_44 rfl (lv_at hl 2 rfl) ?_
          refine lv_aload_n hx hb dX3_spoilCell_45 rfl (lv_at hl 0 rfl) ?_
          refine c_getr (a := Z.ad 21 i0) x L47 3 i0 7 hal0 rfl rfl (wk_in kf_X3_42) dX3_spoilCell_46 ?_
          refine lv_iload_n hx hb dX3_spoilCell_49 rfl (lv_at hl 3 rfl) ?_
          refine c_ld x L47 21 i0 672 al10 rfl rfl q8 rfl dX3_spoilCell_50 (fun v48 ev48 wv48 => ?_)
          refine m_top (((mm_up ev11 eg47 rfl)).trans ev48.symm) ?_
          refine c_st x L47 21 i0 672 al10 rfl rfl q44 rfl (rg_any v11) dX3_spoilCell_51 (fun g49 H49 k49 eg49 L49 => ?_)
          refine lv_aload_n hx hb dX3_spoilCell_52 rfl (lv_at hl 0 rfl) ?_
          have al50 : Z.al 22 i0 := hz.2 22 i0 (show i0 < 2 * Z.n from (by omega))
          refine c_getr (a := Z.ad 22 i0) x L49 3 i0 8 hal0 rfl rfl (wk_in kf_X3_45) dX3_spoilCell_53 ?_
          refine lv_iload_n hx hb dX3_spoilCell_56 rfl (lv_at hl 2 rfl) ?_
          refine lv_aload_n hx hb dX3_spoilCell_57 rfl (lv_at hl 0 rfl) ?_
          refine c_getr (a := Z.ad 22 i0) x L49 3 i0 8 hal0 rfl rfl (wk_in kf_X3_45) dX3_spoilCell_58 ?_
          refine lv_iload_n hx hb dX3_spoilCell_61 rfl (lv_at hl 3 rfl) ?_
          refine c_ld x L49 22 i0 704 al50 rfl rfl q8 rfl dX3_spoilCell_62 (fun v51 ev51 wv51 => ?_)
          have rv51 : rg (-2147483648) (2147483647) v51 := rg_any v51
          have uv51 : (-2147483648 : Int) ≤ v51.toInt ∧ v51.toInt ≤ 2147483647 := rv51
          refine c_st x L49 22 i0 704 al50 rfl rfl q44 rfl (rg_any v51) dX3_spoilCell_63 (fun g52 H52 k52 eg52 L52 => ?_)
          have hJ53 := cJ_dmg hJ4 eg47 eg49 eg52 (fun z => by have w := hJ4.1 (8192 * i0 + a7_3_3.toNatClampNeg) (by rw [← ev46]; exact z); have h14 : g4 704 (8192 * i0 + a7_3_3.toNatClampNeg) = g49 704 (8192 * i0 + a7_3_3.toNatClampNeg) := mm_up (mm_up rfl eg47 rfl) eg49 rfl; rw [h14, ← ev51] at w; exact w)
          refine lv_aload_n hx hb dX3_spoilCell_64 rfl (lv_at hl 0 rfl) ?_
          have al54 : Z.al 23 i0 := hz.2 23 i0 (show i0 < 2 * Z.n from (by omega))
          refine c_getr (a := Z.ad 23 i0) x L52 3 i0 9 hal0 rfl rfl (wk_in kf_X3_48) dX3_spoilCell_65 ?_
          refine lv_iload_n hx hb dX3_spoilCell_68 rfl (lv_at hl 2 rfl) ?_
          refine lv_aload_n hx hb dX3_spoilCell_69 rfl (lv_at hl 0 rfl) ?_
          refine c_getr (a := Z.ad 23 i0) x L52 3 i0 9 hal0 rfl rfl (wk_in kf_X3_48) dX3_spoilCell_70 ?_
          refine lv_iload_n hx hb dX3_spoilCell_73 rfl (lv_at hl 3 rfl) ?_
          refine c_ld x L52 23 i0 736 al54 rfl rfl q8 rfl dX3_spoilCell_74 (fun v55 ev55 wv55 => ?_)
          have rv55 : rg (-2147483648) (2147483647) v55 := rg_any v55
          have uv55 : (-2147483648 : Int) ≤ v55.toInt ∧ v55.toInt ≤ 2147483647 := rv55
          refine c_st x L52 23 i0 736 al54 rfl rfl q44 rfl (rg_any v55) dX3_spoilCell_75 (fun g56 H56 k56 eg56 L56 => ?_)
          obtain ⟨v57, ev57, fv57⟩ := inc_ex a7_2_2 (1) (1 : Int32) (by decide)
          have rv57 : rg (1) (8) v57 := (rg_add ev57 q44 kc_1 rfl).1
          have tv57 := (rg_add ev57 q44 kc_1 rfl).2
          have yv57 : (1 : Int32).toInt = 1 := by decide
          refine lv_iinc (v := v57) (lv' := [(2, .int v57), (0, .ref (Z.ad 3 i0)), (1, .int a7_1_1), (3, .int a7_3_3)]) hx hb dX3_spoilCell_76 hl (k := 2) rfl fv57 (by decide) rfl (fun ls hl => ?_)
          refine lv_goto (tgt := 140) hx hb dX3_spoilCell_79 (by decide) ?_
          exact j140_15 a7_1_1 v57 g56 _ _ ls (mFr.upE (mFr.upE (mFr.upE (mFr.upE mFr.rf eg47 rfl) eg49 rfl) eg52 rfl) eg56 rfl) L56 (cJ_up hJ53 eg56 rfl) (rg_w ra7_1_1 rfl) (rg_w rv57 rfl) (by omega) (lv_sub hl [1, 2, 0, 3] rfl)
  have y58 : (53 : Int32).toInt = 53 := by decide
  have y59 : (0 : Int32).toInt = 0 := by decide
  have y60 : (0 : Int32).toInt = 0 := by decide
  exact j7_4 _ (53 : Int32) (0 : Int32) (0 : Int32) g _ _ ls mFr.rf L hJ (rg_w kc_53 rfl) (rg_w kc_0 rfl) (rg_w kc_0 rfl) (by omega) (lv_sub hl [3, 2, 1, 0] rfl) rfl
theorem c_kspoilCell (l : Launch) {G : cG} {Z : cZ} (X : Int) (g : mSt) (i0 : Nat) (hX : 0 ≤ X ∧ X ≤ 2000000000) (hJ : cJ g) (hi0 : i0 < 2 * Z.n) (hpre0 : rg (0) (159) (g 101 i0)) : Met l yX3_spoilCell (wk (Cond.code yX3_spoilCell cX3_spoilCell 4 (some .int))) rm_kspoilCell (va_Pc [.ref (Z.ad 3 i0)] (cPre G Z X g)) (cQi G Z X (fun r g1 => mFr [106, 608, 640, 672, 704, 736] g g1 ∧ rg (0) (53) r ∧ cJ g1 ∧ True)) 0 0 (cAd Z) := by
  refine Met.ofW (cc := cX3_spoilCell) (maxL := 4) (ret := (some .int)) (by decide) rfl ?_
  intro p e s m args below meth c s₁ B hml hv
  obtain ⟨rfl, hv⟩ := hv
  have hr := B.returns
  have hlocks := B.notSynchronized
  obtain ⟨x, L⟩ := c_start B rfl (fun w h => wk_in h) hv
  have hl := lv_entry ([.ref (Z.ad 3 i0)]) (n := 4) (Nat.le_of_ble_eq_true rfl)
  rw [lg_entry_eq]
  generalize (lg_sl ([.ref (Z.ad 3 i0)]) ++ List.replicate (4 - (lg_sl ([.ref (Z.ad 3 i0)])).length) Slot.unset).toArray = ls at hl ⊢
  exact w_kspoilCell x hml L hX i0 hJ hi0 hpre0 hl (fun pc' ls' r g1 H1 locs1 hdg L hp => c_iret x L hr hlocks (Int.le_refl _) hp hdg)

def rm_kputCells : Room := { frames := 2, cells := 0, slots := 0, locals := 71 }
theorem hd_kputCells : yX3_putCells.cls = cRn 3 ∧ yX3_putCells.cls ≠ "java/lang/invoke/MethodHandle" ∧ yX3_putCells.cls ≠ "java/lang/invoke/VarHandle" ∧ (parseMethodDescriptor yX3_putCells.desc).map (fun d => d.parameters.length) = some 0 := by decide +kernel
set_option maxHeartbeats 4000000 in
set_option maxRecDepth 100000 in
theorem w_kputCells {p : Program} {l : Launch} {e : Env} {s : State} {m : MethodId} {args : Array Value} {below : List Frame} {meth : Method} {c : Code} {H : Heap} {locs : List Loc} {Q : State → Prop} {ls : Array Slot} {G : cG} {Z : cZ} {g : mSt} {H0 : Heap} {X : Int} (x : cX p c cX3_putCells s args (wk (Cond.code yX3_putCells cX3_putCells 4 (some .int))) m G Z RX3 H0) (hml : c.maxLocals = 4) (L : cL G Z H0 X g H locs) (hX : 0 ≤ X ∧ X ≤ 2000000000) (i0 : Nat) (hJ : cJ g) (hi0 : i0 < 2 * Z.n) (hl : lv_has ls 4 [(0, .ref (Z.ad 3 i0))]) (hQ : ∀ (pc' : Nat) (ls' : Array Slot) (r : Int32) (g1 : mSt) (H1 : Heap) (locs1 : List Loc), decode cX3_putCells pc' = .ok (.ireturn, 1) → cL G Z H0 X g1 H1 locs1 → (mFr [66, 67, 101, 106, 107, 608, 640, 672, 704, 736] g g1 ∧ rg (-2147483648) (2147483647) r ∧ cJ g1 ∧ True) → W p l e rm_kputCells s m args below meth c H1 locs1 0 0 Q (F0 m pc' ls' [.int r])) : W p l e rm_kputCells s m args below meth c H locs 0 0 Q (F0 m 0 ls []) := by
  have hx := x.1
  have hb := x.2.1
  have hz := x.2.2.2.2.2.2.2.1
  have hzn := hz.1
  have hal0 : Z.al 3 i0 := hz.2 3 i0 (show i0 < 2 * Z.n from hi0)
  refine lv_iconst (v := 0) hx hb dX3_putCells_0 (by decide) ?_
  refine lv_istore_n (lv' := [(1, .int (0 : Int32)), (0, .ref (Z.ad 3 i0))]) hx hb dX3_putCells_1 rfl hl (by decide) rfl (fun ls hl => ?_)
  refine lv_aload_n hx hb dX3_putCells_2 rfl (lv_at hl 1 rfl) ?_
  refine lv_iconst (v := 0) hx hb dX3_putCells_3 (by decide) ?_
  refine c_puti x L 3 i0 5 101 hal0 rfl rfl ⟨rfl, by decide +kernel⟩ (wk_in kf_X3_61) dX3_putCells_4 (crj_101 (rg_w kc_0 rfl)) (fun g1 H1 k1 eg1 L1 => ?_)
  refine lv_iconst (v := 0) hx hb dX3_putCells_7 (by decide) ?_
  refine lv_istore_n (lv' := [(2, .int (0 : Int32)), (1, .int (0 : Int32)), (0, .ref (Z.ad 3 i0))]) hx hb dX3_putCells_8 rfl hl (by decide) rfl (fun ls hl => ?_)
  have j9_4 : ∀ (n : Nat) (a9_1_2 a9_2_3 : Int32) (g4 : mSt) (H4 : Heap) (k4 : List Loc) (ls : Array Slot), mFr [66, 67, 101, 106, 107, 608, 640, 672, 704, 736] g1 g4 → cL G Z H0 X g4 H4 k4 → cJ g4 → rg (-2147483648) (2147483647) a9_1_2 → rg (0) (4) a9_2_3 → rg (0) (212) (g4 101 i0) → ((g4 101 i0)).toInt ≤ 53 * a9_2_3.toInt → lv_has ls 4 [(0, .ref (Z.ad 3 i0)), (1, .int a9_1_2), (2, .int a9_2_3)] → ((4 : Int) - a9_2_3.toInt).toNat = n → W p l e rm_kputCells s m args below meth c H4 k4 0 0 Q (F0 m 9 ls []) := by
    intro n
    induction n using Nat.strongRecOn with
    | _ n ih4 =>
      intro a9_1_2 a9_2_3 g4 H4 k4 ls hF4 L4 hJ4 ra9_1_2 ra9_2_3 hm4_0 hv4_0 hl hn4
      subst hn4
      obtain ⟨z4_0, ez4_0⟩ : ∃ y : Int32, y = g4 101 i0 := ⟨_, rfl⟩
      have rz4_0 : rg (0) (212) z4_0 := rg_eqv ez4_0.symm hm4_0
      have uz4_0 : (0 : Int) ≤ z4_0.toInt ∧ z4_0.toInt ≤ 212 := rz4_0
      have sz4_0 := congrArg Int32.toInt ez4_0
      have ua9_1_2 : (-2147483648 : Int) ≤ a9_1_2.toInt ∧ a9_1_2.toInt ≤ 2147483647 := ra9_1_2
      have ua9_2_3 : (0 : Int) ≤ a9_2_3.toInt ∧ a9_2_3.toInt ≤ 4 := ra9_2_3
      refine lv_iload_n hx hb dX3_putCells_9 rfl (lv_at hl 2 rfl) ?_
      refine lv_iconst (v := 4) hx hb dX3_putCells_10 (by decide) ?_
      refine lv_icmp_ge (tgt := 149) hx hb dX3_putCells_11 (by decide) (fun c11_5 => ?_) (fun c11_5 => ?_)
      · skip
        have ic11_5 := Int32.le_iff_toInt_le.mp c11_5
        have q6 : rg (4) (4) a9_2_3 := (rg_le c11_5 kc_4 ra9_2_3).2
        have uq6 : (4 : Int) ≤ a9_2_3.toInt ∧ a9_2_3.toInt ≤ 4 := q6
        refine lv_iload_n hx hb dX3_putCells_149 rfl (lv_at hl 1 rfl) ?_
        exact hQ _ _ a9_1_2 _ _ _ dX3_putCells_150 L4 ⟨(mFr.tr (mFr.upE mFr.rf eg1 rfl) hF4 rfl), rg_w ra9_1_2 rfl, hJ4, trivial⟩
      · skip
        have ic11_5 := Int32.lt_iff_toInt_lt.mp (rg_nle c11_5)
        have q7 : rg (0) (3) a9_2_3 := (rg_lt (rg_nle c11_5) ra9_2_3 kc_4).1
        have uq7 : (0 : Int) ≤ a9_2_3.toInt ∧ a9_2_3.toInt ≤ 3 := q7
        have q8 : rg (0) (159) z4_0 := ⟨by omega, by omega⟩
        refine lv_iconst (v := 1) hx hb dX3_putCells_14 (by decide) ?_
        refine lv_istore_n (lv' := [(3, .int (1 : Int32)), (0, .ref (Z.ad 3 i0)), (1, .int a9_1_2), (2, .int a9_2_3)]) hx hb dX3_putCells_15 rfl hl (by decide) rfl (fun ls hl => ?_)
        refine lv_aload_n hx hb dX3_putCells_16 rfl (lv_at hl 1 rfl) ?_
        have al9 : Z.al 2 (2 * i0) := hz.2 2 (2 * i0) (show (2 * i0) < 4 * Z.n from (by omega))
        refine c_getr (a := Z.ad 2 (2 * i0)) x L4 3 i0 0 hal0 rfl rfl (wk_in kf_X3_12) dX3_putCells_17 ?_
        refine c_geti x L4 2 (2 * i0) 3 67 al9 rfl rfl (wk_in kf_X3_64) dX3_putCells_20 (fun v10 ev10 wv10 => ?_)
        have rv10 : rg (0) (40) v10 := clj_67 wv10
        have uv10 : (0 : Int) ≤ v10.toInt ∧ v10.toInt ≤ 40 := rv10
        have j103_13 : ∀ (a103_1_11 a103_3_12 : Int32) (g13 : mSt) (H13 : Heap) (k13 : List Loc) (ls : Array Slot), mFr [66, 67, 608] g4 g13 → cL G Z H0 X g13 H13 k13 → cJ g13 → rg (-2147483648) (2147483647) a103_1_11 → rg (-2147483648) (2147483647) a103_3_12 → lv_has ls 4 [(0, .ref (Z.ad 3 i0)), (1, .int a103_1_11), (2, .int a9_2_3), (3, .int a103_3_12)] → W p l e rm_kputCells s m args below meth c H13 k13 0 0 Q (F0 m 103 ls []) := by
          intro a103_1_11 a103_3_12 g13 H13 k13 ls hF13 L13 hJ13 ra103_1_11 ra103_3_12 hl
          have ua103_1_11 : (-2147483648 : Int) ≤ a103_1_11.toInt ∧ a103_1_11.toInt ≤ 2147483647 := ra103_1_11
          have ua103_3_12 : (-2147483648 : Int) ≤ a103_3_12.toInt ∧ a103_3_12.toInt ≤ 2147483647 := ra103_3_12
          refine lv_aload_n hx hb dX3_putCells_103 rfl (lv_at hl 0 rfl) ?_
          refine lv_iload_n hx hb dX3_putCells_104 rfl (lv_at hl 3 rfl) ?_
          refine c_cv (As := [.int a103_3_12]) (rest := []) x hml L13 3 i0 hal0 rfl (c_kputHeader l X g13 i0 a103_3_12 hX (show i0 < 2 * Z.n from (by omega)) (rg_eqv (mm_fr ez4_0 hF13 rfl) (rg_w q8 rfl))) (wk_V kd_X3_putHeader kl_X3_77 ki_X3_putHeader ks_X3_X3_putHeader kn_X3) rfl ⟨rfl, rfl⟩ hd_kputHeader ⟨Nat.le_of_ble_eq_true rfl, Nat.le_of_ble_eq_true rfl⟩ rfl hl.1 rfl (lv_room (Nat.le_of_ble_eq_true rfl)) dX3_putCells_105 (fun  g14 H14 k14 hp14 L14 => ?_)
          refine lv_aload_n hx hb dX3_putCells_108 rfl (lv_at hl 0 rfl) ?_
          refine lv_dup hx hb dX3_putCells_109 rfl ?_
          refine c_geti x L14 3 i0 5 101 hal0 rfl rfl (wk_in kf_X3_61) dX3_putCells_110 (fun v15 ev15 wv15 => ?_)
          refine m_top (((mm_fr (mm_fr ez4_0 hF13 rfl) hp14.1 rfl)).trans ev15.symm) ?_
          refine lv_aload_n hx hb dX3_putCells_113 rfl (lv_at hl 0 rfl) ?_
          refine c_geti x L14 3 i0 10 106 hal0 rfl rfl (wk_in kf_X3_54) dX3_putCells_114 (fun v16 ev16 wv16 => ?_)
          have rv16 : rg (0) (8) v16 := clj_106 wv16
          have uv16 : (0 : Int) ≤ v16.toInt ∧ v16.toInt ≤ 8 := rv16
          have j129_18 : ∀ (b129_2_17 : Int32) (g18 : mSt) (H18 : Heap) (k18 : List Loc) (ls : Array Slot), mFr [106, 608, 640, 672, 704, 736] g14 g18 → cL G Z H0 X g18 H18 k18 → cJ g18 → rg (0) (53) b129_2_17 → lv_has ls 4 [(0, .ref (Z.ad 3 i0)), (1, .int a103_1_11), (2, .int a9_2_3)] → W p l e rm_kputCells s m args below meth c H18 k18 0 0 Q (F0 m 129 ls [.int b129_2_17, .int z4_0, .ref (Z.ad 3 i0)]) := by
            intro b129_2_17 g18 H18 k18 ls hF18 L18 hJ18 rb129_2_17 hl
            have ub129_2_17 : (0 : Int) ≤ b129_2_17.toInt ∧ b129_2_17.toInt ≤ 53 := rb129_2_17
            refine lv_iadd hx hb dX3_putCells_129 ?_
            refine lv_topi (fun v19 ev19 => ?_)
            have rv19 : rg (0) (212) v19 := (rg_add ev19 q8 rb129_2_17 rfl).1
            have tv19 := (rg_add ev19 q8 rb129_2_17 rfl).2
            have uv19 : (0 : Int) ≤ v19.toInt ∧ v19.toInt ≤ 212 := rv19
            refine c_puti x L18 3 i0 5 101 hal0 rfl rfl ⟨rfl, by decide +kernel⟩ (wk_in kf_X3_61) dX3_putCells_130 (crj_101 (rg_w rv19 rfl)) (fun g20 H20 k20 eg20 L20 => ?_)
            refine lv_aload_n hx hb dX3_putCells_133 rfl (lv_at hl 0 rfl) ?_
            refine lv_dup hx hb dX3_putCells_134 rfl ?_
            refine c_geti x L20 3 i0 11 107 hal0 rfl rfl (wk_in kf_X3_58) dX3_putCells_135 (fun v21 ev21 wv21 => ?_)
            have rv21 : rg (-2147483648) (2147483647) v21 := rg_any v21
            have uv21 : (-2147483648 : Int) ≤ v21.toInt ∧ v21.toInt ≤ 2147483647 := rv21
            refine lv_iconst (v := 1) hx hb dX3_putCells_138 (by decide) ?_
            refine lv_iadd hx hb dX3_putCells_139 ?_
            refine lv_topi (fun v22 ev22 => ?_)
            have rv22 : rg (-2147483648) (2147483647) v22 := rg_any v22
            have uv22 : (-2147483648 : Int) ≤ v22.toInt ∧ v22.toInt ≤ 2147483647 := rv22
            refine c_puti x L20 3 i0 11 107 hal0 rfl rfl ⟨rfl, by decide +kernel⟩ (wk_in kf_X3_58) dX3_putCells_140 (rg_any v22) (fun g23 H23 k23 eg23 L23 => ?_)
            obtain ⟨v24, ev24, fv24⟩ := inc_ex a9_2_3 (1) (1 : Int32) (by decide)
            have rv24 : rg (1) (4) v24 := (rg_add ev24 q7 kc_1 rfl).1
            have tv24 := (rg_add ev24 q7 kc_1 rfl).2
            have yv24 : (1 : Int32).toInt = 1 := by decide
            refine lv_iinc (v := v24) (lv' := [(2, .int v24), (0, .ref (Z.ad 3 i0)), (1, .int a103_1_11)]) hx hb dX3_putCells_143 hl (k := 2) rfl fv24 (by decide) rfl (fun ls hl => ?_)
            refine lv_goto (tgt := 9) hx hb dX3_putCells_146 (by decide) ?_
            have y25 := congrArg Int32.toInt (mm_up (mm_st eg20) eg23 rfl)
            exact ih4 _ (ms_up tv24 kc_1 q7 rfl rfl) a103_1_11 v24 g23 _ _ ls (mFr.upE (mFr.upE (mFr.tr (mFr.tr (mFr.tr hF4 hF13 rfl) hp14.1 rfl) hF18 rfl) eg20 rfl) eg23 rfl) L23 (cJ_up (cJ_up hJ18 eg20 rfl) eg23 rfl) (rg_w ra103_1_11 rfl) (rg_w rv24 rfl) (rg_eqv (mm_up (mm_st eg20) eg23 rfl) (rg_w rv19 rfl)) (by omega) (lv_sub hl [1, 2, 0] rfl) rfl
          refine lv_if_le (tgt := 127) hx hb dX3_putCells_117 (by decide) (fun c117_26 => ?_) (fun c117_26 => ?_)
          · skip
            have ic117_26 := Int32.le_iff_toInt_le.mp c117_26
            have q27 : rg (0) (0) v16 := (rg_le c117_26 rv16 kc_0).1
            have uq27 : (0 : Int) ≤ v16.toInt ∧ v16.toInt ≤ 0 := q27
            refine lv_bipush (v := 53) hx hb dX3_putCells_127 (by decide) ?_
            have y28 : (53 : Int32).toInt = 53 := by decide
            exact j129_18 (53 : Int32) g14 _ _ ls mFr.rf L14 (cJ_fr hJ13 hp14.1 rfl) (rg_w kc_53 rfl) (lv_sub hl [0, 1, 2] rfl)
          · skip
            have ic117_26 := Int32.lt_iff_toInt_lt.mp (rg_nle c117_26)
            have q29 : rg (1) (8) v16 := (rg_lt (rg_nle c117_26) kc_0 rv16).2
            have uq29 : (1 : Int) ≤ v16.toInt ∧ v16.toInt ≤ 8 := q29
            refine lv_aload_n hx hb dX3_putCells_120 rfl (lv_at hl 0 rfl) ?_
            refine c_ci (As := []) (rest := [.int z4_0, .ref (Z.ad 3 i0)]) x hml L14 3 i0 hal0 rfl (c_kspoilCell l X g14 i0 hX (cJ_fr hJ13 hp14.1 rfl) (show i0 < 2 * Z.n from (by omega)) (rg_eqv (mm_fr (mm_fr ez4_0 hF13 rfl) hp14.1 rfl) (rg_w q8 rfl))) (wk_V kd_X3_spoilCell kl_X3_81 ki_X3_spoilCell ks_X3_X3_spoilCell kn_X3) rfl ⟨rfl, rfl⟩ hd_kspoilCell ⟨Nat.le_of_ble_eq_true rfl, Nat.le_of_ble_eq_true rfl⟩ rfl hl.1 rfl (lv_room (Nat.le_of_ble_eq_true rfl)) dX3_putCells_121 (fun v31 g30 H30 k30 hp30 L30 => ?_)
            have rv31 : rg (0) (53) v31 := hp30.2.1
            have uv31 : (0 : Int) ≤ v31.toInt ∧ v31.toInt ≤ 53 := rv31
            refine lv_goto (tgt := 129) hx hb dX3_putCells_124 (by decide) ?_
            exact j129_18 v31 g30 _ _ ls (mFr.tr mFr.rf hp30.1 rfl) L30 hp30.2.2.1 (rg_w rv31 rfl) (lv_sub hl [0, 1, 2] rfl)
        refine lv_if_le (tgt := 47) hx hb dX3_putCells_23 (by decide) (fun c23_32 => ?_) (fun c23_32 => ?_)
        · skip
          have ic23_32 := Int32.le_iff_toInt_le.mp c23_32
          have q33 : rg (0) (0) v10 := (rg_le c23_32 rv10 kc_0).1
          have uq33 : (0 : Int) ≤ v10.toInt ∧ v10.toInt ≤ 0 := q33
          refine lv_aload_n hx hb dX3_putCells_47 rfl (lv_at hl 1 rfl) ?_
          have al34 : Z.al 2 (2 * i0 + 1) := hz.2 2 (2 * i0 + 1) (show (2 * i0 + 1) < 4 * Z.n from (by omega))
          refine c_getr (a := Z.ad 2 (2 * i0 + 1)) x L4 3 i0 1 hal0 rfl rfl (wk_in kf_X3_18) dX3_putCells_48 ?_
          refine c_geti x L4 2 (2 * i0 + 1) 3 67 al34 rfl rfl (wk_in kf_X3_64) dX3_putCells_51 (fun v35 ev35 wv35 => ?_)
          have rv35 : rg (0) (40) v35 := clj_67 wv35
          have uv35 : (0 : Int) ≤ v35.toInt ∧ v35.toInt ≤ 40 := rv35
          refine lv_if_le (tgt := 78) hx hb dX3_putCells_54 (by decide) (fun c54_36 => ?_) (fun c54_36 => ?_)
          · skip
            have ic54_36 := Int32.le_iff_toInt_le.mp c54_36
            have q37 : rg (0) (0) v35 := (rg_le c54_36 rv35 kc_0).1
            have uq37 : (0 : Int) ≤ v35.toInt ∧ v35.toInt ≤ 0 := q37
            refine lv_aload_n hx hb dX3_putCells_78 rfl (lv_at hl 1 rfl) ?_
            have al38 : Z.al 19 i0 := hz.2 19 i0 (show i0 < 2 * Z.n from (by omega))
            refine c_getr (a := Z.ad 19 i0) x L4 3 i0 4 hal0 rfl rfl (wk_in kf_X3_35) dX3_putCells_79 ?_
            refine lv_aload_n hx hb dX3_putCells_82 rfl (lv_at hl 1 rfl) ?_
            refine c_geti x L4 3 i0 5 101 hal0 rfl rfl (wk_in kf_X3_61) dX3_putCells_83 (fun v39 ev39 wv39 => ?_)
            refine m_top ((ez4_0).trans ev39.symm) ?_
            refine lv_iconst (v := 5) hx hb dX3_putCells_86 (by decide) ?_
            refine lv_iadd hx hb dX3_putCells_87 ?_
            refine lv_topi (fun v40 ev40 => ?_)
            have rv40 : rg (5) (164) v40 := (rg_add ev40 q8 kc_5 rfl).1
            have tv40 := (rg_add ev40 q8 kc_5 rfl).2
            have y41 : (5 : Int32).toInt = 5 := by decide
            have uv40 : (5 : Int) ≤ v40.toInt ∧ v40.toInt ≤ 164 := rv40
            refine lv_aload_n hx hb dX3_putCells_88 rfl (lv_at hl 1 rfl) ?_
            refine c_geti x L4 3 i0 5 101 hal0 rfl rfl (wk_in kf_X3_61) dX3_putCells_89 (fun v42 ev42 wv42 => ?_)
            refine m_top ((ez4_0).trans ev42.symm) ?_
            refine lv_bipush (v := 53) hx hb dX3_putCells_92 (by decide) ?_
            refine lv_iadd hx hb dX3_putCells_94 ?_
            refine lv_topi (fun v43 ev43 => ?_)
            have rv43 : rg (53) (212) v43 := (rg_add ev43 q8 kc_53 rfl).1
            have tv43 := (rg_add ev43 q8 kc_53 rfl).2
            have y44 : (53 : Int32).toInt = 53 := by decide
            have uv43 : (53 : Int) ≤ v43.toInt ∧ v43.toInt ≤ 212 := rv43
            refine lv_bipush (v := 106) hx hb dX3_putCells_95 (by decide) ?_
            have y45 : (106 : Int32).toInt = 106 := by decide
            refine c_sv (As := [.ref (Z.ad 19 i0), .int v40, .int v43, .int (106 : Int32)]) (rest := []) x hml L4 (c_kfill_19 l X g4 i0 v40 v43 (106 : Int32) hX al38 (rg_w rv40 rfl) (rg_w rv43 rfl) (by omega)) (wk_T kt_J7_fill_fda19 kl_X3_71 kn_J7 (wk_all kd_J7_fill_fda19)) rfl ⟨rfl, rfl⟩ hd_kfill_19 ⟨Nat.le_of_ble_eq_true rfl, Nat.le_of_ble_eq_true rfl⟩ rfl hl.1 rfl (lv_room (Nat.le_of_ble_eq_true rfl)) dX3_putCells_97 (fun  g46 H46 k46 hp46 L46 => ?_)
            obtain ⟨v47, ev47, fv47⟩ := inc_ex a9_1_2 (1) (1 : Int32) (by decide)
            have rv47 := rg_any v47
            refine lv_iinc (v := v47) (lv' := [(1, .int v47), (3, .int (1 : Int32)), (0, .ref (Z.ad 3 i0)), (2, .int a9_2_3)]) hx hb dX3_putCells_100 hl (k := 2) rfl fv47 (by decide) rfl (fun ls hl => ?_)
            have y48 : (1 : Int32).toInt = 1 := by decide
            exact j103_13 v47 (1 : Int32) g46 _ _ ls (mFr.tr mFr.rf hp46.1 rfl) L46 (cJ_fr hJ4 hp46.1 rfl) (rg_w rv47 rfl) (rg_w kc_1 rfl) (lv_sub hl [2, 0, 3, 1] rfl)
          · skip
            have ic54_36 := Int32.lt_iff_toInt_lt.mp (rg_nle c54_36)
            have q49 : rg (1) (40) v35 := (rg_lt (rg_nle c54_36) kc_0 rv35).2
            have uq49 : (1 : Int) ≤ v35.toInt ∧ v35.toInt ≤ 40 := q49
            refine lv_aload_n hx hb dX3_putCells_57 rfl (lv_at hl 1 rfl) ?_
            refine c_getr (a := Z.ad 2 (2 * i0 + 1)) x L4 3 i0 1 hal0 rfl rfl (wk_in kf_X3_18) dX3_putCells_58 ?_
            refine lv_aload_n hx hb dX3_putCells_61 rfl (lv_at hl 1 rfl) ?_
            have al50 : Z.al 19 i0 := hz.2 19 i0 (show i0 < 2 * Z.n from (by omega))
            refine c_getr (a := Z.ad 19 i0) x L4 3 i0 4 hal0 rfl rfl (wk_in kf_X3_35) dX3_putCells_62 ?_
            refine lv_aload_n hx hb dX3_putCells_65 rfl (lv_at hl 1 rfl) ?_
            refine c_geti x L4 3 i0 5 101 hal0 rfl rfl (wk_in kf_X3_61) dX3_putCells_66 (fun v51 ev51 wv51 => ?_)
            refine m_top ((ez4_0).trans ev51.symm) ?_
            refine lv_iconst (v := 5) hx hb dX3_putCells_69 (by decide) ?_
            refine lv_iadd hx hb dX3_putCells_70 ?_
            refine lv_topi (fun v52 ev52 => ?_)
            have rv52 : rg (5) (164) v52 := (rg_add ev52 q8 kc_5 rfl).1
            have tv52 := (rg_add ev52 q8 kc_5 rfl).2
            have y53 : (5 : Int32).toInt = 5 := by decide
            have uv52 : (5 : Int) ≤ v52.toInt ∧ v52.toInt ≤ 164 := rv52
            refine c_ci (As := [.ref (Z.ad 19 i0), .int v52]) (rest := []) x hml L4 2 (2 * i0 + 1) al34 rfl (c_kqtake l X g4 (2 * i0 + 1) i0 v52 hX (show (2 * i0 + 1) < 4 * Z.n from (by omega)) al50 (rg_w rv52 rfl)) (wk_V kd_X2_takeFirst kl_X3_67 ki_X2_takeFirst ks_X2_X2_takeFirst kn_X2) rfl ⟨rfl, rfl⟩ hd_kqtake ⟨Nat.le_of_ble_eq_true rfl, Nat.le_of_ble_eq_true rfl⟩ rfl hl.1 rfl (lv_room (Nat.le_of_ble_eq_true rfl)) dX3_putCells_71 (fun v55 g54 H54 k54 hp54 L54 => ?_)
            have rv55 : rg (-2147483648) (2147483647) v55 := hp54.2.1
            have uv55 : (-2147483648 : Int) ≤ v55.toInt ∧ v55.toInt ≤ 2147483647 := rv55
            refine lv_istore_n (lv' := [(3, .int v55), (0, .ref (Z.ad 3 i0)), (1, .int a9_1_2), (2, .int a9_2_3)]) hx hb dX3_putCells_74 rfl hl (by decide) rfl (fun ls hl => ?_)
            refine lv_goto (tgt := 103) hx hb dX3_putCells_75 (by decide) ?_
            exact j103_13 a9_1_2 v55 g54 _ _ ls (mFr.tr mFr.rf hp54.1 rfl) L54 (cJ_fr hJ4 hp54.1 rfl) (rg_w ra9_1_2 rfl) (rg_w rv55 rfl) (lv_sub hl [1, 2, 3, 0] rfl)
        · skip
          have ic23_32 := Int32.lt_iff_toInt_lt.mp (rg_nle c23_32)
          have q56 : rg (1) (40) v10 := (rg_lt (rg_nle c23_32) kc_0 rv10).2
          have uq56 : (1 : Int) ≤ v10.toInt ∧ v10.toInt ≤ 40 := q56
          refine lv_aload_n hx hb dX3_putCells_26 rfl (lv_at hl 1 rfl) ?_
          refine c_getr (a := Z.ad 2 (2 * i0)) x L4 3 i0 0 hal0 rfl rfl (wk_in kf_X3_12) dX3_putCells_27 ?_
          refine lv_aload_n hx hb dX3_putCells_30 rfl (lv_at hl 1 rfl) ?_
          have al57 : Z.al 19 i0 := hz.2 19 i0 (show i0 < 2 * Z.n from (by omega))
          refine c_getr (a := Z.ad 19 i0) x L4 3 i0 4 hal0 rfl rfl (wk_in kf_X3_35) dX3_putCells_31 ?_
          refine lv_aload_n hx hb dX3_putCells_34 rfl (lv_at hl 1 rfl) ?_
          refine c_geti x L4 3 i0 5 101 hal0 rfl rfl (wk_in kf_X3_61) dX3_putCells_35 (fun v58 ev58 wv58 => ?_)
          refine m_top ((ez4_0).trans ev58.symm) ?_
          refine lv_iconst (v := 5) hx hb dX3_putCells_38 (by decide) ?_
          refine lv_iadd hx hb dX3_putCells_39 ?_
          refine lv_topi (fun v59 ev59 => ?_)
          have rv59 : rg (5) (164) v59 := (rg_add ev59 q8 kc_5 rfl).1
          have tv59 := (rg_add ev59 q8 kc_5 rfl).2
          have y60 : (5 : Int32).toInt = 5 := by decide
          have uv59 : (5 : Int) ≤ v59.toInt ∧ v59.toInt ≤ 164 := rv59
          refine c_ci (As := [.ref (Z.ad 19 i0), .int v59]) (rest := []) x hml L4 2 (2 * i0) al9 rfl (c_kqtake l X g4 (2 * i0) i0 v59 hX (show (2 * i0) < 4 * Z.n from (by omega)) al57 (rg_w rv59 rfl)) (wk_V kd_X2_takeFirst kl_X3_67 ki_X2_takeFirst ks_X2_X2_takeFirst kn_X2) rfl ⟨rfl, rfl⟩ hd_kqtake ⟨Nat.le_of_ble_eq_true rfl, Nat.le_of_ble_eq_true rfl⟩ rfl hl.1 rfl (lv_room (Nat.le_of_ble_eq_true rfl)) dX3_putCells_40 (fun v62 g61 H61 k61 hp61 L61 => ?_)
          have rv62 : rg (-2147483648) (2147483647) v62 := hp61.2.1
          have uv62 : (-2147483648 : Int) ≤ v62.toInt ∧ v62.toInt ≤ 2147483647 := rv62
          refine lv_istore_n (lv' := [(3, .int v62), (0, .ref (Z.ad 3 i0)), (1, .int a9_1_2), (2, .int a9_2_3)]) hx hb dX3_putCells_43 rfl hl (by decide) rfl (fun ls hl => ?_)
          refine lv_goto (tgt := 103) hx hb dX3_putCells_44 (by decide) ?_
          exact j103_13 a9_1_2 v62 g61 _ _ ls (mFr.tr mFr.rf hp61.1 rfl) L61 (cJ_fr hJ4 hp61.1 rfl) (rg_w ra9_1_2 rfl) (rg_w rv62 rfl) (lv_sub hl [1, 2, 3, 0] rfl)
  have y63 : (0 : Int32).toInt = 0 := by decide
  have y64 : (0 : Int32).toInt = 0 := by decide
  have y65 := congrArg Int32.toInt (mm_st eg1)
  exact j9_4 _ (0 : Int32) (0 : Int32) g1 _ _ ls mFr.rf L1 (cJ_up hJ eg1 rfl) (rg_w kc_0 rfl) (rg_w kc_0 rfl) (rg_eqv (mm_st eg1) (rg_w kc_0 rfl)) (by omega) (lv_sub hl [2, 1, 0] rfl) rfl
theorem c_kputCells (l : Launch) {G : cG} {Z : cZ} (X : Int) (g : mSt) (i0 : Nat) (hX : 0 ≤ X ∧ X ≤ 2000000000) (hJ : cJ g) (hi0 : i0 < 2 * Z.n) : Met l yX3_putCells (wk (Cond.code yX3_putCells cX3_putCells 4 (some .int))) rm_kputCells (va_Pc [.ref (Z.ad 3 i0)] (cPre G Z X g)) (cQi G Z X (fun r g1 => mFr [66, 67, 101, 106, 107, 608, 640, 672, 704, 736] g g1 ∧ rg (-2147483648) (2147483647) r ∧ cJ g1 ∧ True)) 0 0 (cAd Z) := by
  refine Met.ofW (cc := cX3_putCells) (maxL := 4) (ret := (some .int)) (by decide) rfl ?_
  intro p e s m args below meth c s₁ B hml hv
  obtain ⟨rfl, hv⟩ := hv
  have hr := B.returns
  have hlocks := B.notSynchronized
  obtain ⟨x, L⟩ := c_start B rfl (fun w h => wk_in h) hv
  have hl := lv_entry ([.ref (Z.ad 3 i0)]) (n := 4) (Nat.le_of_ble_eq_true rfl)
  rw [lg_entry_eq]
  generalize (lg_sl ([.ref (Z.ad 3 i0)]) ++ List.replicate (4 - (lg_sl ([.ref (Z.ad 3 i0)])).length) Slot.unset).toArray = ls at hl ⊢
  exact w_kputCells x hml L hX i0 hJ hi0 hl (fun pc' ls' r g1 H1 locs1 hdg L hp => c_iret x L hr hlocks (Int.le_refl _) hp hdg)

def rm_khunt : Room := { frames := 0, cells := 0, slots := 0, locals := 0 }
theorem hd_khunt : yX7_hunt.cls = cRn 7 ∧ yX7_hunt.cls ≠ "java/lang/invoke/MethodHandle" ∧ yX7_hunt.cls ≠ "java/lang/invoke/VarHandle" ∧ (parseMethodDescriptor yX7_hunt.desc).map (fun d => d.parameters.length) = some 0 := by decide +kernel
set_option maxHeartbeats 4000000 in
set_option maxRecDepth 100000 in
theorem w_khunt {p : Program} {l : Launch} {e : Env} {s : State} {m : MethodId} {args : Array Value} {below : List Frame} {meth : Method} {c : Code} {H : Heap} {locs : List Loc} {Q : State → Prop} {ls : Array Slot} {G : cG} {Z : cZ} {g : mSt} {H0 : Heap} {X : Int} (x : cX p c cX7_hunt s args (wk (Cond.code yX7_hunt cX7_hunt 1 none)) m G Z RX7 H0) (hml : c.maxLocals = 1) (L : cL G Z H0 X g H locs) (hX : 0 ≤ X ∧ X ≤ 2000000000) (i0 : Nat) (hJ : cJ g) (hi0 : i0 < 2 * Z.n) (hl : lv_has ls 1 [(0, .ref (Z.ad 7 i0))]) (hQ : ∀ (pc' : Nat) (ls' : Array Slot) (g1 : mSt) (H1 : Heap) (locs1 : List Loc), decode cX7_hunt pc' = .ok (.return_, 1) → cL G Z H0 X g1 H1 locs1 → (mFr [225, 226, 227, 233, 234] g g1 ∧ cJ g1 ∧ True) → W p l e rm_khunt s m args below meth c H1 locs1 0 0 Q (F0 m pc' ls' [])) : W p l e rm_khunt s m args below meth c H locs 0 0 Q (F0 m 0 ls []) := by
  have hx := x.1
  have hb := x.2.1
  have hz := x.2.2.2.2.2.2.2.1
  have hzn := hz.1
  have hal0 : Z.al 7 i0 := hz.2 7 i0 (show i0 < 2 * Z.n from hi0)
  refine lv_aload_n hx hb dX7_hunt_0 rfl (lv_at hl 0 rfl) ?_
  refine lv_iconst (v := 0) hx hb dX7_hunt_1 (by decide) ?_
  refine c_puti x L 7 i0 1 225 hal0 rfl rfl ⟨rfl, by decide +kernel⟩ (wk_in kf_X7_15) dX7_hunt_2 (crj_225 (rg_w kc_0 rfl)) (fun g1 H1 k1 eg1 L1 => ?_)
  have hJ2 := cJ_225 hJ eg1 (Or.inl (by decide))
  refine lv_aload_n hx hb dX7_hunt_5 rfl (lv_at hl 0 rfl) ?_
  refine lv_iconst (v := 0) hx hb dX7_hunt_6 (by decide) ?_
  refine c_puti x L1 7 i0 3 227 hal0 rfl rfl ⟨rfl, by decide +kernel⟩ (wk_in kf_X7_58) dX7_hunt_7 (rg_any (0 : Int32)) (fun g3 H3 k3 eg3 L3 => ?_)
  refine lv_aload_n hx hb dX7_hunt_10 rfl (lv_at hl 0 rfl) ?_
  refine lv_iconst (v := 0) hx hb dX7_hunt_11 (by decide) ?_
  refine c_puti x L3 7 i0 9 233 hal0 rfl rfl ⟨rfl, by decide +kernel⟩ (wk_in kf_X7_23) dX7_hunt_12 (rg_any (0 : Int32)) (fun g4 H4 k4 eg4 L4 => ?_)
  have hJ5 := cJ_233 (cJ_up hJ2 eg3 rfl) eg4 (fun _ => ⟨Int.le_trans (by decide) kc_0.1, Int.le_trans kc_0.2 (by decide)⟩)
  refine lv_aload_n hx hb dX7_hunt_15 rfl (lv_at hl 0 rfl) ?_
  refine lv_iconst (v := 0) hx hb dX7_hunt_16 (by decide) ?_
  refine c_putz x L4 7 i0 10 234 hal0 rfl rfl ⟨rfl, by decide +kernel⟩ (wk_in kf_X7_36) dX7_hunt_17 (rg_w kc_0 rfl) (crj_234 (rg_w kc_0 rfl)) (fun g6 H6 k6 eg6 L6 => ?_)
  refine lv_aload_n hx hb dX7_hunt_20 rfl (lv_at hl 0 rfl) ?_
  refine lv_iconst (v := 0) hx hb dX7_hunt_21 (by decide) ?_
  refine c_putz x L6 7 i0 2 226 hal0 rfl rfl ⟨rfl, by decide +kernel⟩ (wk_in kf_X7_71) dX7_hunt_22 (rg_w kc_0 rfl) (crj_226 (rg_w kc_0 rfl)) (fun g7 H7 k7 eg7 L7 => ?_)
  exact hQ _ _ _ _ _ dX7_hunt_25 L7 ⟨(mFr.upE (mFr.upE (mFr.upE (mFr.upE (mFr.upE mFr.rf eg1 rfl) eg3 rfl) eg4 rfl) eg6 rfl) eg7 rfl), (cJ_up (cJ_up hJ5 eg6 rfl) eg7 rfl), trivial⟩
theorem c_khunt (l : Launch) {G : cG} {Z : cZ} (X : Int) (g : mSt) (i0 : Nat) (hX : 0 ≤ X ∧ X ≤ 2000000000) (hJ : cJ g) (hi0 : i0 < 2 * Z.n) : Met l yX7_hunt (wk (Cond.code yX7_hunt cX7_hunt 1 none)) rm_khunt (va_Pc [.ref (Z.ad 7 i0)] (cPre G Z X g)) (cQv G Z X (fun g1 => mFr [225, 226, 227, 233, 234] g g1 ∧ cJ g1 ∧ True)) 0 0 (cAd Z) := by
  refine Met.ofW (cc := cX7_hunt) (maxL := 1) (ret := none) (by decide) rfl ?_
  intro p e s m args below meth c s₁ B hml hv
  obtain ⟨rfl, hv⟩ := hv
  have hr := B.returns
  have hlocks := B.notSynchronized
  obtain ⟨x, L⟩ := c_start B rfl (fun w h => wk_in h) hv
  have hl := lv_entry ([.ref (Z.ad 7 i0)]) (n := 1) (Nat.le_of_ble_eq_true rfl)
  rw [lg_entry_eq]
  generalize (lg_sl ([.ref (Z.ad 7 i0)]) ++ List.replicate (1 - (lg_sl ([.ref (Z.ad 7 i0)])).length) Slot.unset).toArray = ls at hl ⊢
  exact w_khunt x hml L hX i0 hJ hi0 hl (fun pc' ls' g1 H1 locs1 hdg L hp => c_vret x L hr hlocks (Int.le_refl _) hp hdg)

def rm_kpresync : Room := { frames := 1, cells := 0, slots := 0, locals := 20 }
theorem hd_kpresync : yX7_presyncHeader.cls = cRn 7 ∧ yX7_presyncHeader.cls ≠ "java/lang/invoke/MethodHandle" ∧ yX7_presyncHeader.cls ≠ "java/lang/invoke/VarHandle" ∧ (parseMethodDescriptor yX7_presyncHeader.desc).map (fun d => d.parameters.length) = some 1 := by decide +kernel
set_option maxHeartbeats 4000000 in
set_option maxRecDepth 100000 in
theorem w_kpresync {p : Program} {l : Launch} {e : Env} {s : State} {m : MethodId} {args : Array Value} {below : List Frame} {meth : Method} {c : Code} {H : Heap} {locs : List Loc} {Q : State → Prop} {ls : Array Slot} {G : cG} {Z : cZ} {g : mSt} {H0 : Heap} {X : Int} (x : cX p c cX7_presyncHeader s args (wk (Cond.code yX7_presyncHeader cX7_presyncHeader 2 none)) m G Z RX7 H0) (hml : c.maxLocals = 2) (L : cL G Z H0 X g H locs) (hX : 0 ≤ X ∧ X ≤ 2000000000) (i0 : Nat) (p1 : Int32) (hJ : cJ g) (hi0 : i0 < 2 * Z.n) (rp1 : rg (0) (1) p1) (hpre0 : rg (1) (2) (g 225 i0)) (hl : lv_has ls 2 [(0, .ref (Z.ad 7 i0)), (1, .int p1)]) (hQ : ∀ (pc' : Nat) (ls' : Array Slot) (g1 : mSt) (H1 : Heap) (locs1 : List Loc), decode cX7_presyncHeader pc' = .ok (.return_, 1) → cL G Z H0 X g1 H1 locs1 → (mFr [225, 226, 227, 233, 234] g g1 ∧ cJ g1 ∧ True) → W p l e rm_kpresync s m args below meth c H1 locs1 0 0 Q (F0 m pc' ls' [])) : W p l e rm_kpresync s m args below meth c H locs 0 0 Q (F0 m 0 ls []) := by
  have hx := x.1
  have hb := x.2.1
  have hz := x.2.2.2.2.2.2.2.1
  have hzn := hz.1
  have hal0 : Z.al 7 i0 := hz.2 7 i0 (show i0 < 2 * Z.n from hi0)
  obtain ⟨z0, ez0⟩ : ∃ y : Int32, y = g 225 i0 := ⟨_, rfl⟩
  have rz0 : rg (1) (2) z0 := rg_eqv ez0.symm hpre0
  refine lv_iload_n hx hb dX7_presyncHeader_0 rfl (lv_at hl 1 rfl) ?_
  refine lv_if_ne (tgt := 9) hx hb dX7_presyncHeader_1 (by decide) (fun c1_1 => ?_) (fun c1_1 => ?_)
  · skip
    have q2 : rg (1) (1) p1 := rg_neL c1_1 rp1 kc_0
    refine lv_aload_n hx hb dX7_presyncHeader_9 rfl (lv_at hl 0 rfl) ?_
    refine lv_dup hx hb dX7_presyncHeader_10 rfl ?_
    refine c_geti x L 7 i0 3 227 hal0 rfl rfl (wk_in kf_X7_58) dX7_presyncHeader_11 (fun v3 ev3 wv3 => ?_)
    have rv3 : rg (-2147483648) (2147483647) v3 := rg_any v3
    refine lv_iconst (v := 1) hx hb dX7_presyncHeader_14 (by decide) ?_
    refine lv_iadd hx hb dX7_presyncHeader_15 ?_
    refine lv_topi (fun v4 ev4 => ?_)
    have rv4 : rg (-2147483648) (2147483647) v4 := rg_any v4
    refine c_puti x L 7 i0 3 227 hal0 rfl rfl ⟨rfl, by decide +kernel⟩ (wk_in kf_X7_58) dX7_presyncHeader_16 (rg_any v4) (fun g5 H5 k5 eg5 L5 => ?_)
    refine lv_aload_n hx hb dX7_presyncHeader_19 rfl (lv_at hl 0 rfl) ?_
    refine c_geti x L5 7 i0 3 227 hal0 rfl rfl (wk_in kf_X7_58) dX7_presyncHeader_20 (fun v6 ev6 wv6 => ?_)
    refine m_top (((mm_st eg5)).trans ev6.symm) ?_
    refine lv_bipush (v := 6) hx hb dX7_presyncHeader_23 (by decide) ?_
    refine lv_icmp_lt (tgt := 48) hx hb dX7_presyncHeader_25 (by decide) (fun c25_7 => ?_) (fun c25_7 => ?_)
    · skip
      have q8 : rg (-2147483648) (5) v4 := (rg_lt c25_7 rv4 kc_6).1
      exact hQ _ _ _ _ _ dX7_presyncHeader_48 L5 ⟨(mFr.upE mFr.rf eg5 rfl), (cJ_up hJ eg5 rfl), trivial⟩
    · skip
      have q9 : rg (6) (2147483647) v4 := (rg_le (rg_nlt c25_7) kc_6 rv4).2
      refine lv_aload_n hx hb dX7_presyncHeader_28 rfl (lv_at hl 0 rfl) ?_
      refine lv_iconst (v := 2) hx hb dX7_presyncHeader_29 (by decide) ?_
      refine c_puti x L5 7 i0 1 225 hal0 rfl rfl ⟨rfl, by decide +kernel⟩ (wk_in kf_X7_15) dX7_presyncHeader_30 (crj_225 (rg_w kc_2 rfl)) (fun g10 H10 k10 eg10 L10 => ?_)
      have hJ11 := cJ_225 (cJ_up hJ eg5 rfl) eg10 (Or.inr (fun z => by rw [← (mm_up ez0 eg5 rfl)] at z; have h1 : (1 : Int) ≤ z0.toInt := rz0.1; omega))
      refine lv_aload_n hx hb dX7_presyncHeader_33 rfl (lv_at hl 0 rfl) ?_
      refine lv_iconst (v := 0) hx hb dX7_presyncHeader_34 (by decide) ?_
      refine c_puti x L10 7 i0 3 227 hal0 rfl rfl ⟨rfl, by decide +kernel⟩ (wk_in kf_X7_58) dX7_presyncHeader_35 (rg_any (0 : Int32)) (fun g12 H12 k12 eg12 L12 => ?_)
      refine lv_aload_n hx hb dX7_presyncHeader_38 rfl (lv_at hl 0 rfl) ?_
      refine lv_iconst (v := 0) hx hb dX7_presyncHeader_39 (by decide) ?_
      refine c_putz x L12 7 i0 2 226 hal0 rfl rfl ⟨rfl, by decide +kernel⟩ (wk_in kf_X7_71) dX7_presyncHeader_40 (rg_w kc_0 rfl) (crj_226 (rg_w kc_0 rfl)) (fun g13 H13 k13 eg13 L13 => ?_)
      refine lv_aload_n hx hb dX7_presyncHeader_43 rfl (lv_at hl 0 rfl) ?_
      refine lv_iconst (v := 1) hx hb dX7_presyncHeader_44 (by decide) ?_
      refine c_putz x L13 7 i0 10 234 hal0 rfl rfl ⟨rfl, by decide +kernel⟩ (wk_in kf_X7_36) dX7_presyncHeader_45 (rg_w kc_1 rfl) (crj_234 (rg_w kc_1 rfl)) (fun g14 H14 k14 eg14 L14 => ?_)
      exact hQ _ _ _ _ _ dX7_presyncHeader_48 L14 ⟨(mFr.upE (mFr.upE (mFr.upE (mFr.upE (mFr.upE mFr.rf eg5 rfl) eg10 rfl) eg12 rfl) eg13 rfl) eg14 rfl), (cJ_up (cJ_up (cJ_up hJ11 eg12 rfl) eg13 rfl) eg14 rfl), trivial⟩
  · skip
    have q15 : rg (0) (0) p1 := (rg_eq c1_1 rp1 kc_0).1
    refine lv_aload_n hx hb dX7_presyncHeader_4 rfl (lv_at hl 0 rfl) ?_
    refine c_cv (As := []) (rest := []) x hml L 7 i0 hal0 rfl (c_khunt l X g i0 hX hJ (show i0 < 2 * Z.n from (by omega))) (wk_V kd_X7_hunt kl_X7_68 ki_X7_hunt ks_X7_X7_hunt kn_X7) rfl ⟨rfl, rfl⟩ hd_khunt ⟨Nat.le_of_ble_eq_true rfl, Nat.le_of_ble_eq_true rfl⟩ rfl hl.1 rfl (lv_room (Nat.le_of_ble_eq_true rfl)) dX7_presyncHeader_5 (fun  g16 H16 k16 hp16 L16 => ?_)
    exact hQ _ _ _ _ _ dX7_presyncHeader_8 L16 ⟨(mFr.tr mFr.rf hp16.1 rfl), hp16.2.1, trivial⟩
theorem c_kpresync (l : Launch) {G : cG} {Z : cZ} (X : Int) (g : mSt) (i0 : Nat) (p1 : Int32) (hX : 0 ≤ X ∧ X ≤ 2000000000) (hJ : cJ g) (hi0 : i0 < 2 * Z.n) (rp1 : rg (0) (1) p1) (hpre0 : rg (1) (2) (g 225 i0)) : Met l yX7_presyncHeader (wk (Cond.code yX7_presyncHeader cX7_presyncHeader 2 none)) rm_kpresync (va_Pc [.ref (Z.ad 7 i0), .int p1] (cPre G Z X g)) (cQv G Z X (fun g1 => mFr [225, 226, 227, 233, 234] g g1 ∧ cJ g1 ∧ True)) 0 0 (cAd Z) := by
  refine Met.ofW (cc := cX7_presyncHeader) (maxL := 2) (ret := none) (by decide) rfl ?_
  intro p e s m args below meth c s₁ B hml hv
  obtain ⟨rfl, hv⟩ := hv
  have hr := B.returns
  have hlocks := B.notSynchronized
  obtain ⟨x, L⟩ := c_start B rfl (fun w h => wk_in h) hv
  have hl := lv_entry ([.ref (Z.ad 7 i0), .int p1]) (n := 2) (Nat.le_of_ble_eq_true rfl)
  rw [lg_entry_eq]
  generalize (lg_sl ([.ref (Z.ad 7 i0), .int p1]) ++ List.replicate (2 - (lg_sl ([.ref (Z.ad 7 i0), .int p1])).length) Slot.unset).toArray = ls at hl ⊢
  exact w_kpresync x hml L hX i0 p1 hJ hi0 rp1 hpre0 hl (fun pc' ls' g1 H1 locs1 hdg L hp => c_vret x L hr hlocks (Int.le_refl _) hp hdg)

def rm_ksyncHeader : Room := { frames := 2, cells := 0, slots := 0, locals := 45 }
theorem hd_ksyncHeader : yX7_syncHeader.cls = cRn 7 ∧ yX7_syncHeader.cls ≠ "java/lang/invoke/MethodHandle" ∧ yX7_syncHeader.cls ≠ "java/lang/invoke/VarHandle" ∧ (parseMethodDescriptor yX7_syncHeader.desc).map (fun d => d.parameters.length) = some 1 := by decide +kernel
set_option maxHeartbeats 4000000 in
set_option maxRecDepth 100000 in
theorem w_ksyncHeader {p : Program} {l : Launch} {e : Env} {s : State} {m : MethodId} {args : Array Value} {below : List Frame} {meth : Method} {c : Code} {H : Heap} {locs : List Loc} {Q : State → Prop} {ls : Array Slot} {G : cG} {Z : cZ} {g : mSt} {H0 : Heap} {X : Int} (x : cX p c cX7_syncHeader s args (wk (Cond.code yX7_syncHeader cX7_syncHeader 3 none)) m G Z RX7 H0) (hml : c.maxLocals = 3) (L : cL G Z H0 X g H locs) (hX : 0 ≤ X ∧ X ≤ 2000000000) (i0 : Nat) (p1 : Int32) (hJ : cJ g) (hi0 : i0 < 2 * Z.n) (rp1 : rg (0) (1) p1) (hl : lv_has ls 3 [(0, .ref (Z.ad 7 i0)), (1, .int p1)]) (hQ : ∀ (pc' : Nat) (ls' : Array Slot) (g1 : mSt) (H1 : Heap) (locs1 : List Loc), decode cX7_syncHeader pc' = .ok (.return_, 1) → cL G Z H0 X g1 H1 locs1 → (mFr [225, 226, 227, 229, 230, 231, 233, 234] g g1 ∧ cJ g1 ∧ True) → W p l e rm_ksyncHeader s m args below meth c H1 locs1 0 0 Q (F0 m pc' ls' [])) : W p l e rm_ksyncHeader s m args below meth c H locs 0 0 Q (F0 m 0 ls []) := by
  have hx := x.1
  have hb := x.2.1
  have hz := x.2.2.2.2.2.2.2.1
  have hzn := hz.1
  have hal0 : Z.al 7 i0 := hz.2 7 i0 (show i0 < 2 * Z.n from hi0)
  refine lv_aload_n hx hb dX7_syncHeader_0 rfl (lv_at hl 0 rfl) ?_
  refine lv_iload_n hx hb dX7_syncHeader_1 rfl (lv_at hl 1 rfl) ?_
  refine c_putz x L 7 i0 10 234 hal0 rfl rfl ⟨rfl, by decide +kernel⟩ (wk_in kf_X7_36) dX7_syncHeader_2 (rg_w rp1 rfl) (crj_234 (rg_w rp1 rfl)) (fun g1 H1 k1 eg1 L1 => ?_)
  refine lv_iload_n hx hb dX7_syncHeader_5 rfl (lv_at hl 1 rfl) ?_
  refine lv_if_eq (tgt := 20) hx hb dX7_syncHeader_6 (by decide) (fun c6_2 => ?_) (fun c6_2 => ?_)
  · skip
    have q3 : rg (0) (0) p1 := (rg_eq c6_2 rp1 kc_0).1
    refine lv_aload_n hx hb dX7_syncHeader_20 rfl (lv_at hl 0 rfl) ?_
    refine lv_dup hx hb dX7_syncHeader_21 rfl ?_
    refine c_geti x L1 7 i0 3 227 hal0 rfl rfl (wk_in kf_X7_58) dX7_syncHeader_22 (fun v4 ev4 wv4 => ?_)
    have rv4 : rg (-2147483648) (2147483647) v4 := rg_any v4
    refine lv_iconst (v := 1) hx hb dX7_syncHeader_25 (by decide) ?_
    refine lv_iadd hx hb dX7_syncHeader_26 ?_
    refine lv_topi (fun v5 ev5 => ?_)
    have rv5 : rg (-2147483648) (2147483647) v5 := rg_any v5
    refine c_puti x L1 7 i0 3 227 hal0 rfl rfl ⟨rfl, by decide +kernel⟩ (wk_in kf_X7_58) dX7_syncHeader_27 (rg_any v5) (fun g6 H6 k6 eg6 L6 => ?_)
    refine lv_aload_n hx hb dX7_syncHeader_30 rfl (lv_at hl 0 rfl) ?_
    refine c_geti x L6 7 i0 3 227 hal0 rfl rfl (wk_in kf_X7_58) dX7_syncHeader_31 (fun v7 ev7 wv7 => ?_)
    refine m_top (((mm_st eg6)).trans ev7.symm) ?_
    refine lv_bipush (v := 7) hx hb dX7_syncHeader_34 (by decide) ?_
    refine lv_icmp_lt (tgt := 44) hx hb dX7_syncHeader_36 (by decide) (fun c36_8 => ?_) (fun c36_8 => ?_)
    · skip
      have q9 : rg (-2147483648) (6) v5 := (rg_lt c36_8 rv5 kc_7).1
      refine lv_aload_n hx hb dX7_syncHeader_44 rfl (lv_at hl 0 rfl) ?_
      refine c_geti x L6 7 i0 2 226 hal0 rfl rfl (wk_in kf_X7_71) dX7_syncHeader_45 (fun v10 ev10 wv10 => ?_)
      have rv10 : rg (0) (1) v10 := clj_226 wv10
      have j66_12 : ∀ (b66_0_11 : Int32) (g12 : mSt) (H12 : Heap) (k12 : List Loc) (ls : Array Slot), mFr [] g6 g12 → cL G Z H0 X g12 H12 k12 → cJ g12 → rg (-2147483648) (2147483647) b66_0_11 → lv_has ls 3 [(0, .ref (Z.ad 7 i0))] → W p l e rm_ksyncHeader s m args below meth c H12 k12 0 0 Q (F0 m 66 ls [.int b66_0_11]) := by
        intro b66_0_11 g12 H12 k12 ls hF12 L12 hJ12 rb66_0_11 hl
        refine lv_istore_n (lv' := [(2, .int b66_0_11), (0, .ref (Z.ad 7 i0))]) hx hb dX7_syncHeader_66 rfl hl (by decide) rfl (fun ls hl => ?_)
        refine lv_aload_n hx hb dX7_syncHeader_67 rfl (lv_at hl 1 rfl) ?_
        refine lv_iconst (v := 1) hx hb dX7_syncHeader_68 (by decide) ?_
        refine c_putz x L12 7 i0 2 226 hal0 rfl rfl ⟨rfl, by decide +kernel⟩ (wk_in kf_X7_71) dX7_syncHeader_69 (rg_w kc_1 rfl) (crj_226 (rg_w kc_1 rfl)) (fun g13 H13 k13 eg13 L13 => ?_)
        refine lv_iload_n hx hb dX7_syncHeader_72 rfl (lv_at hl 0 rfl) ?_
        refine lv_if_ge (tgt := 87) hx hb dX7_syncHeader_73 (by decide) (fun c73_14 => ?_) (fun c73_14 => ?_)
        · skip
          have q15 : rg (0) (2147483647) b66_0_11 := (rg_le c73_14 kc_0 rb66_0_11).2
          refine lv_aload_n hx hb dX7_syncHeader_87 rfl (lv_at hl 1 rfl) ?_
          refine lv_iconst (v := 1) hx hb dX7_syncHeader_88 (by decide) ?_
          refine c_putz x L13 7 i0 10 234 hal0 rfl rfl ⟨rfl, by decide +kernel⟩ (wk_in kf_X7_36) dX7_syncHeader_89 (rg_w kc_1 rfl) (crj_234 (rg_w kc_1 rfl)) (fun g16 H16 k16 eg16 L16 => ?_)
          refine lv_aload_n hx hb dX7_syncHeader_92 rfl (lv_at hl 1 rfl) ?_
          refine lv_dup hx hb dX7_syncHeader_93 rfl ?_
          refine c_geti x L16 7 i0 6 230 hal0 rfl rfl (wk_in kf_X7_80) dX7_syncHeader_94 (fun v17 ev17 wv17 => ?_)
          have rv17 : rg (-2147483648) (2147483647) v17 := rg_any v17
          refine lv_iconst (v := 1) hx hb dX7_syncHeader_97 (by decide) ?_
          refine lv_iadd hx hb dX7_syncHeader_98 ?_
          refine lv_topi (fun v18 ev18 => ?_)
          have rv18 : rg (-2147483648) (2147483647) v18 := rg_any v18
          refine c_puti x L16 7 i0 6 230 hal0 rfl rfl ⟨rfl, by decide +kernel⟩ (wk_in kf_X7_80) dX7_syncHeader_99 (rg_any v18) (fun g19 H19 k19 eg19 L19 => ?_)
          refine lv_aload_n hx hb dX7_syncHeader_102 rfl (lv_at hl 1 rfl) ?_
          refine lv_dup hx hb dX7_syncHeader_103 rfl ?_
          refine c_geti x L19 7 i0 7 231 hal0 rfl rfl (wk_in kf_X7_48) dX7_syncHeader_104 (fun v20 ev20 wv20 => ?_)
          have rv20 : rg (-2147483648) (2147483647) v20 := rg_any v20
          refine lv_iload_n hx hb dX7_syncHeader_107 rfl (lv_at hl 0 rfl) ?_
          refine lv_bipush (v := 32) hx hb dX7_syncHeader_108 (by decide) ?_
          have j123_22 : ∀ (b123_2_21 : Int32) (g22 : mSt) (H22 : Heap) (k22 : List Loc) (ls : Array Slot), mFr [] g19 g22 → cL G Z H0 X g22 H22 k22 → cJ g22 → rg (-2147483648) (2147483647) b123_2_21 → lv_has ls 3 [(0, .ref (Z.ad 7 i0))] → W p l e rm_ksyncHeader s m args below meth c H22 k22 0 0 Q (F0 m 123 ls [.int b123_2_21, .int v20, .ref (Z.ad 7 i0)]) := by
            intro b123_2_21 g22 H22 k22 ls hF22 L22 hJ22 rb123_2_21 hl
            refine lv_ixor hx hb dX7_syncHeader_123 ?_
            refine lv_topi (fun v23 ev23 => ?_)
            have rv23 : rg (-2147483648) (2147483647) v23 := rg_any v23
            refine c_puti x L22 7 i0 7 231 hal0 rfl rfl ⟨rfl, by decide +kernel⟩ (wk_in kf_X7_48) dX7_syncHeader_124 (rg_any v23) (fun g24 H24 k24 eg24 L24 => ?_)
            exact hQ _ _ _ _ _ dX7_syncHeader_127 L24 ⟨(mFr.upE (mFr.tr (mFr.upE (mFr.upE (mFr.upE (mFr.tr (mFr.upE (mFr.upE mFr.rf eg1 rfl) eg6 rfl) hF12 rfl) eg13 rfl) eg16 rfl) eg19 rfl) hF22 rfl) eg24 rfl), (cJ_up hJ22 eg24 rfl), trivial⟩
          refine lv_icmp_ge (tgt := 122) hx hb dX7_syncHeader_110 (by decide) (fun c110_25 => ?_) (fun c110_25 => ?_)
          · skip
            have q26 : rg (32) (2147483647) b66_0_11 := (rg_le c110_25 kc_32 q15).2
            refine lv_iconst (v := 0) hx hb dX7_syncHeader_122 (by decide) ?_
            exact j123_22 (0 : Int32) g19 _ _ ls mFr.rf L19 (cJ_up (cJ_up (cJ_up hJ12 eg13 rfl) eg16 rfl) eg19 rfl) (rg_w kc_0 rfl) (lv_sub hl [1] rfl)
          · skip
            have q27 : rg (0) (31) b66_0_11 := (rg_lt (rg_nle c110_25) q15 kc_32).1
            refine lv_iconst (v := 1) hx hb dX7_syncHeader_113 (by decide) ?_
            refine lv_bipush (v := 31) hx hb dX7_syncHeader_114 (by decide) ?_
            refine lv_iload_n hx hb dX7_syncHeader_116 rfl (lv_at hl 0 rfl) ?_
            refine lv_isub hx hb dX7_syncHeader_117 ?_
            refine lv_topi (fun v28 ev28 => ?_)
            have rv28 : rg (0) (31) v28 := (rg_sub ev28 kc_31 q27 rfl).1
            refine lv_ishl hx hb dX7_syncHeader_118 ?_
            refine lv_topi (fun v29 ev29 => ?_)
            have rv29 : rg (-2147483648) (2147483647) v29 := rg_any v29
            refine lv_goto (tgt := 123) hx hb dX7_syncHeader_119 (by decide) ?_
            exact j123_22 v29 g19 _ _ ls mFr.rf L19 (cJ_up (cJ_up (cJ_up hJ12 eg13 rfl) eg16 rfl) eg19 rfl) (rg_w rv29 rfl) (lv_sub hl [1] rfl)
        · skip
          have q30 : rg (-2147483648) (-1) b66_0_11 := (rg_lt (rg_nle c73_14) rb66_0_11 kc_0).1
          refine lv_aload_n hx hb dX7_syncHeader_76 rfl (lv_at hl 1 rfl) ?_
          refine lv_dup hx hb dX7_syncHeader_77 rfl ?_
          refine c_geti x L13 7 i0 5 229 hal0 rfl rfl (wk_in kf_X7_77) dX7_syncHeader_78 (fun v31 ev31 wv31 => ?_)
          have rv31 : rg (-2147483648) (2147483647) v31 := rg_any v31
          refine lv_iconst (v := 1) hx hb dX7_syncHeader_81 (by decide) ?_
          refine lv_iadd hx hb dX7_syncHeader_82 ?_
          refine lv_topi (fun v32 ev32 => ?_)
          have rv32 : rg (-2147483648) (2147483647) v32 := rg_any v32
          refine c_puti x L13 7 i0 5 229 hal0 rfl rfl ⟨rfl, by decide +kernel⟩ (wk_in kf_X7_77) dX7_syncHeader_83 (rg_any v32) (fun g33 H33 k33 eg33 L33 => ?_)
          exact hQ _ _ _ _ _ dX7_syncHeader_86 L33 ⟨(mFr.upE (mFr.upE (mFr.tr (mFr.upE (mFr.upE mFr.rf eg1 rfl) eg6 rfl) hF12 rfl) eg13 rfl) eg33 rfl), (cJ_up (cJ_up hJ12 eg13 rfl) eg33 rfl), trivial⟩
      refine lv_if_eq (tgt := 55) hx hb dX7_syncHeader_48 (by decide) (fun c48_34 => ?_) (fun c48_34 => ?_)
      · skip
        have q35 : rg (0) (0) v10 := (rg_eq c48_34 rv10 kc_0).1
        refine lv_aload_n hx hb dX7_syncHeader_55 rfl (lv_at hl 0 rfl) ?_
        refine c_geti x L6 7 i0 7 231 hal0 rfl rfl (wk_in kf_X7_48) dX7_syncHeader_56 (fun v36 ev36 wv36 => ?_)
        have rv36 : rg (-2147483648) (2147483647) v36 := rg_any v36
        refine lv_aload_n hx hb dX7_syncHeader_59 rfl (lv_at hl 0 rfl) ?_
        refine c_geti x L6 7 i0 8 232 hal0 rfl rfl (wk_in kf_X7_51) dX7_syncHeader_60 (fun v37 ev37 wv37 => ?_)
        have rv37 : rg (-2147483648) (2147483647) v37 := rg_any v37
        refine pf_call (va_runSN (As := [.int v36, .int v37]) (rest := []) ⟨hx, hb, hml, x.2.2.2.2.1, x.2.2.1⟩ (c_wb l v36 v37) ⟨va_cnB 2 x.2.2.1 (goodC us_X11_wrongBit) rfl rfl rfl (x.2.2.2.2.2.2.2.2.2 _ (List.mem_of_getElem? (i := 14) rfl)) (x.2.2.1 _ (wk_in kn_X11)) (by decide +kernel) ⟨Nat.le_of_ble_eq_true rfl, Nat.le_of_ble_eq_true rfl⟩, x.2.2.1 _ (wk_in kt_X11_wrongBit), trivial⟩ ⟨hc_blind, fun U hU hW => ⟨rfl, hc_at x L6 hU hW⟩⟩ rfl rfl hl.1 rfl (lv_room (Nat.le_of_ble_eq_true rfl)) dX7_syncHeader_63 ⟨Nat.zero_le _, Nat.zero_le _⟩) ?_
        refine lv_topi (fun v38 ev38 => ?_)
        have rv38 : rg (-2147483648) (2147483647) v38 := rg_any v38
        exact j66_12 v38 g6 _ _ ls mFr.rf L6 (cJ_up (cJ_up hJ eg1 rfl) eg6 rfl) (rg_w rv38 rfl) (lv_sub hl [0] rfl)
      · skip
        have q39 : rg (1) (1) v10 := rg_neL c48_34 rv10 kc_0
        refine lv_iconst (v := (-1)) hx hb dX7_syncHeader_51 (by decide) ?_
        refine lv_goto (tgt := 66) hx hb dX7_syncHeader_52 (by decide) ?_
        exact j66_12 (-1 : Int32) g6 _ _ ls mFr.rf L6 (cJ_up (cJ_up hJ eg1 rfl) eg6 rfl) (rg_w kc_m1 rfl) (lv_sub hl [0] rfl)
    · skip
      have q40 : rg (7) (2147483647) v5 := (rg_le (rg_nlt c36_8) kc_7 rv5).2
      refine lv_aload_n hx hb dX7_syncHeader_39 rfl (lv_at hl 0 rfl) ?_
      refine c_cv (As := []) (rest := []) x hml L6 7 i0 hal0 rfl (c_khunt l X g6 i0 hX (cJ_up (cJ_up hJ eg1 rfl) eg6 rfl) (show i0 < 2 * Z.n from (by omega))) (wk_V kd_X7_hunt kl_X7_68 ki_X7_hunt ks_X7_X7_hunt kn_X7) rfl ⟨rfl, rfl⟩ hd_khunt ⟨Nat.le_of_ble_eq_true rfl, Nat.le_of_ble_eq_true rfl⟩ rfl hl.1 rfl (lv_room (Nat.le_of_ble_eq_true rfl)) dX7_syncHeader_40 (fun  g41 H41 k41 hp41 L41 => ?_)
      exact hQ _ _ _ _ _ dX7_syncHeader_43 L41 ⟨(mFr.tr (mFr.upE (mFr.upE mFr.rf eg1 rfl) eg6 rfl) hp41.1 rfl), hp41.2.1, trivial⟩
  · skip
    have q42 : rg (1) (1) p1 := rg_neL c6_2 rp1 kc_0
    refine lv_aload_n hx hb dX7_syncHeader_9 rfl (lv_at hl 0 rfl) ?_
    refine lv_iconst (v := 0) hx hb dX7_syncHeader_10 (by decide) ?_
    refine c_puti x L1 7 i0 3 227 hal0 rfl rfl ⟨rfl, by decide +kernel⟩ (wk_in kf_X7_58) dX7_syncHeader_11 (rg_any (0 : Int32)) (fun g43 H43 k43 eg43 L43 => ?_)
    refine lv_aload_n hx hb dX7_syncHeader_14 rfl (lv_at hl 0 rfl) ?_
    refine lv_iconst (v := 0) hx hb dX7_syncHeader_15 (by decide) ?_
    refine c_putz x L43 7 i0 2 226 hal0 rfl rfl ⟨rfl, by decide +kernel⟩ (wk_in kf_X7_71) dX7_syncHeader_16 (rg_w kc_0 rfl) (crj_226 (rg_w kc_0 rfl)) (fun g44 H44 k44 eg44 L44 => ?_)
    exact hQ _ _ _ _ _ dX7_syncHeader_19 L44 ⟨(mFr.upE (mFr.upE (mFr.upE mFr.rf eg1 rfl) eg43 rfl) eg44 rfl), (cJ_up (cJ_up (cJ_up hJ eg1 rfl) eg43 rfl) eg44 rfl), trivial⟩
theorem c_ksyncHeader (l : Launch) {G : cG} {Z : cZ} (X : Int) (g : mSt) (i0 : Nat) (p1 : Int32) (hX : 0 ≤ X ∧ X ≤ 2000000000) (hJ : cJ g) (hi0 : i0 < 2 * Z.n) (rp1 : rg (0) (1) p1) : Met l yX7_syncHeader (wk (Cond.code yX7_syncHeader cX7_syncHeader 3 none)) rm_ksyncHeader (va_Pc [.ref (Z.ad 7 i0), .int p1] (cPre G Z X g)) (cQv G Z X (fun g1 => mFr [225, 226, 227, 229, 230, 231, 233, 234] g g1 ∧ cJ g1 ∧ True)) 0 0 (cAd Z) := by
  refine Met.ofW (cc := cX7_syncHeader) (maxL := 3) (ret := none) (by decide) rfl ?_
  intro p e s m args below meth c s₁ B hml hv
  obtain ⟨rfl, hv⟩ := hv
  have hr := B.returns
  have hlocks := B.notSynchronized
  obtain ⟨x, L⟩ := c_start B rfl (fun w h => wk_in h) hv
  have hl := lv_entry ([.ref (Z.ad 7 i0), .int p1]) (n := 3) (Nat.le_of_ble_eq_true rfl)
  rw [lg_entry_eq]
  generalize (lg_sl ([.ref (Z.ad 7 i0), .int p1]) ++ List.replicate (3 - (lg_sl ([.ref (Z.ad 7 i0), .int p1])).length) Slot.unset).toArray = ls at hl ⊢
  exact w_ksyncHeader x hml L hX i0 p1 hJ hi0 rp1 hl (fun pc' ls' g1 H1 locs1 hdg L hp => c_vret x L hr hlocks (Int.le_refl _) hp hdg)

def rm_kheaderOctet : Room := { frames := 3, cells := 0, slots := 0, locals := 67 }
theorem hd_kheaderOctet : yX7_headerOctet.cls = cRn 7 ∧ yX7_headerOctet.cls ≠ "java/lang/invoke/MethodHandle" ∧ yX7_headerOctet.cls ≠ "java/lang/invoke/VarHandle" ∧ (parseMethodDescriptor yX7_headerOctet.desc).map (fun d => d.parameters.length) = some 1 := by decide +kernel
set_option maxHeartbeats 4000000 in
set_option maxRecDepth 100000 in
theorem w_kheaderOctet {p : Program} {l : Launch} {e : Env} {s : State} {m : MethodId} {args : Array Value} {below : List Frame} {meth : Method} {c : Code} {H : Heap} {locs : List Loc} {Q : State → Prop} {ls : Array Slot} {G : cG} {Z : cZ} {g : mSt} {H0 : Heap} {X : Int} (x : cX p c cX7_headerOctet s args (wk (Cond.code yX7_headerOctet cX7_headerOctet 3 none)) m G Z RX7 H0) (hml : c.maxLocals = 3) (L : cL G Z H0 X g H locs) (hX : 0 ≤ X ∧ X ≤ 2000000000) (i0 : Nat) (p1 : Int32) (hJ : cJ g) (hi0 : i0 < 2 * Z.n) (hpl : (g 225 i0).toInt ≠ 0 → 0 ≤ (g 233 i0).toInt ∧ (g 233 i0).toInt ≤ 4) (hl : lv_has ls 3 [(0, .ref (Z.ad 7 i0)), (1, .int p1)]) (hQ : ∀ (pc' : Nat) (ls' : Array Slot) (g1 : mSt) (H1 : Heap) (locs1 : List Loc), decode cX7_headerOctet pc' = .ok (.return_, 1) → cL G Z H0 X g1 H1 locs1 → (mFr [225, 226, 227, 229, 230, 231, 232, 233, 234] g g1 ∧ cJ g1 ∧ True) → W p l e rm_kheaderOctet s m args below meth c H1 locs1 0 0 Q (F0 m pc' ls' [])) : W p l e rm_kheaderOctet s m args below meth c H locs 0 0 Q (F0 m 0 ls []) := by
  have hx := x.1
  have hb := x.2.1
  have hz := x.2.2.2.2.2.2.2.1
  have hzn := hz.1
  have hal0 : Z.al 7 i0 := hz.2 7 i0 (show i0 < 2 * Z.n from hi0)
  have up1 : (-2147483648 : Int) ≤ p1.toInt ∧ p1.toInt ≤ 2147483647 := (rg_any p1)
  refine lv_aload_n hx hb dX7_headerOctet_0 rfl (lv_at hl 0 rfl) ?_
  refine lv_aload_n hx hb dX7_headerOctet_1 rfl (lv_at hl 0 rfl) ?_
  refine c_geti x L 7 i0 7 231 hal0 rfl rfl (wk_in kf_X7_48) dX7_headerOctet_2 (fun v1 ev1 wv1 => ?_)
  have rv1 : rg (-2147483648) (2147483647) v1 := rg_any v1
  have uv1 : (-2147483648 : Int) ≤ v1.toInt ∧ v1.toInt ≤ 2147483647 := rv1
  have sv1 := congrArg Int32.toInt ev1
  refine lv_bipush (v := 8) hx hb dX7_headerOctet_5 (by decide) ?_
  refine lv_ishl hx hb dX7_headerOctet_7 ?_
  refine lv_topi (fun v2 ev2 => ?_)
  have rv2 : rg (-2147483648) (2147483647) v2 := rg_any v2
  have uv2 : (-2147483648 : Int) ≤ v2.toInt ∧ v2.toInt ≤ 2147483647 := rv2
  refine lv_aload_n hx hb dX7_headerOctet_8 rfl (lv_at hl 0 rfl) ?_
  refine c_geti x L 7 i0 8 232 hal0 rfl rfl (wk_in kf_X7_51) dX7_headerOctet_9 (fun v3 ev3 wv3 => ?_)
  have rv3 : rg (-2147483648) (2147483647) v3 := rg_any v3
  have uv3 : (-2147483648 : Int) ≤ v3.toInt ∧ v3.toInt ≤ 2147483647 := rv3
  have sv3 := congrArg Int32.toInt ev3
  refine lv_ior hx hb dX7_headerOctet_12 ?_
  refine lv_topi (fun v4 ev4 => ?_)
  have rv4 : rg (-2147483648) (2147483647) v4 := rg_any v4
  have uv4 : (-2147483648 : Int) ≤ v4.toInt ∧ v4.toInt ≤ 2147483647 := rv4
  refine c_puti x L 7 i0 7 231 hal0 rfl rfl ⟨rfl, by decide +kernel⟩ (wk_in kf_X7_48) dX7_headerOctet_13 (rg_any v4) (fun g5 H5 k5 eg5 L5 => ?_)
  refine lv_aload_n hx hb dX7_headerOctet_16 rfl (lv_at hl 0 rfl) ?_
  refine lv_iload_n hx hb dX7_headerOctet_17 rfl (lv_at hl 1 rfl) ?_
  refine c_puti x L5 7 i0 8 232 hal0 rfl rfl ⟨rfl, by decide +kernel⟩ (wk_in kf_X7_51) dX7_headerOctet_18 (rg_any p1) (fun g6 H6 k6 eg6 L6 => ?_)
  refine lv_aload_n hx hb dX7_headerOctet_21 rfl (lv_at hl 0 rfl) ?_
  refine lv_dup hx hb dX7_headerOctet_22 rfl ?_
  refine c_geti x L6 7 i0 9 233 hal0 rfl rfl (wk_in kf_X7_23) dX7_headerOctet_23 (fun v7 ev7 wv7 => ?_)
  have rv7 : rg (-2147483648) (2147483647) v7 := rg_any v7
  have uv7 : (-2147483648 : Int) ≤ v7.toInt ∧ v7.toInt ≤ 2147483647 := rv7
  refine lv_iconst (v := 1) hx hb dX7_headerOctet_26 (by decide) ?_
  refine lv_iadd hx hb dX7_headerOctet_27 ?_
  refine lv_topi (fun v8 ev8 => ?_)
  have rv8 : rg (-2147483648) (2147483647) v8 := rg_any v8
  have uv8 : (-2147483648 : Int) ≤ v8.toInt ∧ v8.toInt ≤ 2147483647 := rv8
  refine c_puti x L6 7 i0 9 233 hal0 rfl rfl ⟨rfl, by decide +kernel⟩ (wk_in kf_X7_23) dX7_headerOctet_28 (rg_any v8) (fun g9 H9 k9 eg9 L9 => ?_)
  have hJ10 := cJ_233 (cJ_up (cJ_up hJ eg5 rfl) eg6 rfl) eg9 (fun hz => by have h1 := hpl (fun z => hz (by rw [congrFun ((show mFr [226, 227, 229, 230, 231, 232, 234] g g6 from (mFr.upE (mFr.upE mFr.rf eg5 rfl) eg6 rfl)).at 225 rfl) i0]; exact z)); have h2 : v7.toInt = (g 233 i0).toInt := congrArg Int32.toInt ((ev7).trans (congrFun ((show mFr [226, 227, 229, 230, 231, 232, 234] g g6 from (mFr.upE (mFr.upE mFr.rf eg5 rfl) eg6 rfl)).at 233 rfl) i0)); have k1 : (1 : Int32).toInt = 1 := (by decide); have h3 := ti_add (x := v7) (y := 1) (by omega) (by omega); rw [← ev8] at h3; exact ⟨by omega, by omega⟩)
  refine lv_aload_n hx hb dX7_headerOctet_31 rfl (lv_at hl 0 rfl) ?_
  refine c_geti x L9 7 i0 9 233 hal0 rfl rfl (wk_in kf_X7_23) dX7_headerOctet_32 (fun v11 ev11 wv11 => ?_)
  refine m_top (((mm_st eg9)).trans ev11.symm) ?_
  refine lv_iconst (v := 5) hx hb dX7_headerOctet_35 (by decide) ?_
  refine lv_icmp_ge (tgt := 40) hx hb dX7_headerOctet_36 (by decide) (fun c36_12 => ?_) (fun c36_12 => ?_)
  · skip
    have ic36_12 := Int32.le_iff_toInt_le.mp c36_12
    have q13 : rg (5) (2147483647) v8 := (rg_le c36_12 kc_5 rv8).2
    have uq13 : (5 : Int) ≤ v8.toInt ∧ v8.toInt ≤ 2147483647 := q13
    refine lv_aload_n hx hb dX7_headerOctet_40 rfl (lv_at hl 0 rfl) ?_
    refine c_geti x L9 7 i0 7 231 hal0 rfl rfl (wk_in kf_X7_48) dX7_headerOctet_41 (fun v14 ev14 wv14 => ?_)
    refine m_top (((mm_up (mm_up (mm_st eg5) eg6 rfl) eg9 rfl)).trans ev14.symm) ?_
    refine pf_call (va_runSN (As := [.int v4]) (rest := []) ⟨hx, hb, hml, x.2.2.2.2.1, x.2.2.1⟩ (c_hc l v4) ⟨va_cnB 1 x.2.2.1 (goodC us_X11_hecOf) rfl rfl rfl (x.2.2.2.2.2.2.2.2.2 _ (List.mem_of_getElem? (i := 13) rfl)) (x.2.2.1 _ (wk_in kn_X11)) (by decide +kernel) ⟨Nat.le_of_ble_eq_true rfl, Nat.le_of_ble_eq_true rfl⟩, x.2.2.1 _ (wk_in kt_X11_hecOf), trivial⟩ ⟨hc_blind, fun U hU hW => ⟨rfl, hc_at x L9 hU hW⟩⟩ rfl rfl hl.1 rfl (lv_room (Nat.le_of_ble_eq_true rfl)) dX7_headerOctet_44 ⟨Nat.zero_le _, Nat.zero_le _⟩) ?_
    refine lv_topi (fun v15 ev15 => ?_)
    have rv15 : rg (-2147483648) (2147483647) v15 := rg_any v15
    have uv15 : (-2147483648 : Int) ≤ v15.toInt ∧ v15.toInt ≤ 2147483647 := rv15
    refine lv_aload_n hx hb dX7_headerOctet_47 rfl (lv_at hl 0 rfl) ?_
    refine c_geti x L9 7 i0 8 232 hal0 rfl rfl (wk_in kf_X7_51) dX7_headerOctet_48 (fun v16 ev16 wv16 => ?_)
    refine m_top (((mm_up (mm_st eg6) eg9 rfl)).trans ev16.symm) ?_
    refine lv_icmp_ne (tgt := 58) hx hb dX7_headerOctet_51 (by decide) (fun c51_17 => ?_) (fun c51_17 => ?_)
    · skip
      have ic51_17 : v15.toInt ≠ p1.toInt := fun z => c51_17 (Int32.toInt_inj.mp z)
      refine lv_iconst (v := 0) hx hb dX7_headerOctet_58 (by decide) ?_
      refine lv_istore_n (lv' := [(2, .int (0 : Int32)), (0, .ref (Z.ad 7 i0)), (1, .int p1)]) hx hb dX7_headerOctet_59 rfl hl (by decide) rfl (fun ls hl => ?_)
      refine lv_aload_n hx hb dX7_headerOctet_60 rfl (lv_at hl 1 rfl) ?_
      refine c_geti x L9 7 i0 1 225 hal0 rfl rfl (wk_in kf_X7_15) dX7_headerOctet_61 (fun v18 ev18 wv18 => ?_)
      have rv18 : rg (0) (2) v18 := clj_225 wv18
      have uv18 : (0 : Int) ≤ v18.toInt ∧ v18.toInt ≤ 2 := rv18
      refine lv_if_ne (tgt := 94) hx hb dX7_headerOctet_64 (by decide) (fun c64_19 => ?_) (fun c64_19 => ?_)
      · skip
        have ic64_19 : v18.toInt ≠ (0 : Int32).toInt := fun z => c64_19 (Int32.toInt_inj.mp z)
        have y20 : (0 : Int32).toInt = 0 := by decide
        have q21 : rg (1) (2) v18 := rg_neL c64_19 rv18 kc_0
        have uq21 : (1 : Int) ≤ v18.toInt ∧ v18.toInt ≤ 2 := q21
        refine lv_aload_n hx hb dX7_headerOctet_94 rfl (lv_at hl 1 rfl) ?_
        refine c_geti x L9 7 i0 1 225 hal0 rfl rfl (wk_in kf_X7_15) dX7_headerOctet_95 (fun v22 ev22 wv22 => ?_)
        refine m_top ((ev18).trans ev22.symm) ?_
        refine lv_iconst (v := 1) hx hb dX7_headerOctet_98 (by decide) ?_
        refine lv_icmp_ne (tgt := 110) hx hb dX7_headerOctet_99 (by decide) (fun c99_23 => ?_) (fun c99_23 => ?_)
        · skip
          have ic99_23 : v18.toInt ≠ (1 : Int32).toInt := fun z => c99_23 (Int32.toInt_inj.mp z)
          have y24 : (1 : Int32).toInt = 1 := by decide
          have q25 : rg (2) (2) v18 := rg_neL c99_23 q21 kc_1
          have uq25 : (2 : Int) ≤ v18.toInt ∧ v18.toInt ≤ 2 := q25
          refine lv_aload_n hx hb dX7_headerOctet_110 rfl (lv_at hl 1 rfl) ?_
          refine lv_iload_n hx hb dX7_headerOctet_111 rfl (lv_at hl 0 rfl) ?_
          refine c_cv (As := [.int (0 : Int32)]) (rest := []) x hml L9 7 i0 hal0 rfl (c_ksyncHeader l X g9 i0 (0 : Int32) hX hJ10 (show i0 < 2 * Z.n from (by omega)) (rg_w kc_0 rfl)) (wk_V kd_X7_syncHeader kl_X7_65 ki_X7_syncHeader ks_X7_X7_syncHeader kn_X7) rfl ⟨rfl, rfl⟩ hd_ksyncHeader ⟨Nat.le_of_ble_eq_true rfl, Nat.le_of_ble_eq_true rfl⟩ rfl hl.1 rfl (lv_room (Nat.le_of_ble_eq_true rfl)) dX7_headerOctet_112 (fun  g26 H26 k26 hp26 L26 => ?_)
          exact hQ _ _ _ _ _ dX7_headerOctet_115 L26 ⟨(mFr.tr (mFr.upE (mFr.upE (mFr.upE mFr.rf eg5 rfl) eg6 rfl) eg9 rfl) hp26.1 rfl), hp26.2.1, trivial⟩
        · skip
          have ic99_23 := congrArg Int32.toInt c99_23
          have y27 : (1 : Int32).toInt = 1 := by decide
          have q28 : rg (1) (1) v18 := (rg_eq c99_23 q21 kc_1).1
          have uq28 : (1 : Int) ≤ v18.toInt ∧ v18.toInt ≤ 1 := q28
          refine lv_aload_n hx hb dX7_headerOctet_102 rfl (lv_at hl 1 rfl) ?_
          refine lv_iload_n hx hb dX7_headerOctet_103 rfl (lv_at hl 0 rfl) ?_
          refine c_cv (As := [.int (0 : Int32)]) (rest := []) x hml L9 7 i0 hal0 rfl (c_kpresync l X g9 i0 (0 : Int32) hX hJ10 (show i0 < 2 * Z.n from (by omega)) (rg_w kc_0 rfl) (rg_eqv ev18 (rg_w q28 rfl))) (wk_V kd_X7_presyncHeader kl_X7_61 ki_X7_presyncHeader ks_X7_X7_presyncHeader kn_X7) rfl ⟨rfl, rfl⟩ hd_kpresync ⟨Nat.le_of_ble_eq_true rfl, Nat.le_of_ble_eq_true rfl⟩ rfl hl.1 rfl (lv_room (Nat.le_of_ble_eq_true rfl)) dX7_headerOctet_104 (fun  g29 H29 k29 hp29 L29 => ?_)
          refine lv_goto (tgt := 115) hx hb dX7_headerOctet_107 (by decide) ?_
          exact hQ _ _ _ _ _ dX7_headerOctet_115 L29 ⟨(mFr.tr (mFr.upE (mFr.upE (mFr.upE mFr.rf eg5 rfl) eg6 rfl) eg9 rfl) hp29.1 rfl), hp29.2.1, trivial⟩
      · skip
        have ic64_19 := congrArg Int32.toInt c64_19
        have y30 : (0 : Int32).toInt = 0 := by decide
        have q31 : rg (0) (0) v18 := (rg_eq c64_19 rv18 kc_0).1
        have uq31 : (0 : Int) ≤ v18.toInt ∧ v18.toInt ≤ 0 := q31
        refine lv_iload_n hx hb dX7_headerOctet_67 rfl (lv_at hl 0 rfl) ?_
        refine lv_if_eq (tgt := 115) hx hb dX7_headerOctet_68 (by decide) (fun c68_32 => ?_) (fun c68_32 => ?_)
        · skip
          exact hQ _ _ _ _ _ dX7_headerOctet_115 L9 ⟨(mFr.upE (mFr.upE (mFr.upE mFr.rf eg5 rfl) eg6 rfl) eg9 rfl), hJ10, trivial⟩
        · skip
          exact absurd c68_32 (by decide)
    · skip
      have ic51_17 := congrArg Int32.toInt c51_17
      refine lv_iconst (v := 1) hx hb dX7_headerOctet_54 (by decide) ?_
      refine lv_goto (tgt := 59) hx hb dX7_headerOctet_55 (by decide) ?_
      refine lv_istore_n (lv' := [(2, .int (1 : Int32)), (0, .ref (Z.ad 7 i0)), (1, .int p1)]) hx hb dX7_headerOctet_59 rfl hl (by decide) rfl (fun ls hl => ?_)
      refine lv_aload_n hx hb dX7_headerOctet_60 rfl (lv_at hl 1 rfl) ?_
      refine c_geti x L9 7 i0 1 225 hal0 rfl rfl (wk_in kf_X7_15) dX7_headerOctet_61 (fun v33 ev33 wv33 => ?_)
      have rv33 : rg (0) (2) v33 := clj_225 wv33
      have uv33 : (0 : Int) ≤ v33.toInt ∧ v33.toInt ≤ 2 := rv33
      refine lv_if_ne (tgt := 94) hx hb dX7_headerOctet_64 (by decide) (fun c64_34 => ?_) (fun c64_34 => ?_)
      · skip
        have ic64_34 : v33.toInt ≠ (0 : Int32).toInt := fun z => c64_34 (Int32.toInt_inj.mp z)
        have y35 : (0 : Int32).toInt = 0 := by decide
        have q36 : rg (1) (2) v33 := rg_neL c64_34 rv33 kc_0
        have uq36 : (1 : Int) ≤ v33.toInt ∧ v33.toInt ≤ 2 := q36
        refine lv_aload_n hx hb dX7_headerOctet_94 rfl (lv_at hl 1 rfl) ?_
        refine c_geti x L9 7 i0 1 225 hal0 rfl rfl (wk_in kf_X7_15) dX7_headerOctet_95 (fun v37 ev37 wv37 => ?_)
        refine m_top ((ev33).trans ev37.symm) ?_
        refine lv_iconst (v := 1) hx hb dX7_headerOctet_98 (by decide) ?_
        refine lv_icmp_ne (tgt := 110) hx hb dX7_headerOctet_99 (by decide) (fun c99_38 => ?_) (fun c99_38 => ?_)
        · skip
          have ic99_38 : v33.toInt ≠ (1 : Int32).toInt := fun z => c99_38 (Int32.toInt_inj.mp z)
          have y39 : (1 : Int32).toInt = 1 := by decide
          have q40 : rg (2) (2) v33 := rg_neL c99_38 q36 kc_1
          have uq40 : (2 : Int) ≤ v33.toInt ∧ v33.toInt ≤ 2 := q40
          refine lv_aload_n hx hb dX7_headerOctet_110 rfl (lv_at hl 1 rfl) ?_
          refine lv_iload_n hx hb dX7_headerOctet_111 rfl (lv_at hl 0 rfl) ?_
          refine c_cv (As := [.int (1 : Int32)]) (rest := []) x hml L9 7 i0 hal0 rfl (c_ksyncHeader l X g9 i0 (1 : Int32) hX hJ10 (show i0 < 2 * Z.n from (by omega)) (rg_w kc_1 rfl)) (wk_V kd_X7_syncHeader kl_X7_65 ki_X7_syncHeader ks_X7_X7_syncHeader kn_X7) rfl ⟨rfl, rfl⟩ hd_ksyncHeader ⟨Nat.le_of_ble_eq_true rfl, Nat.le_of_ble_eq_true rfl⟩ rfl hl.1 rfl (lv_room (Nat.le_of_ble_eq_true rfl)) dX7_headerOctet_112 (fun  g41 H41 k41 hp41 L41 => ?_)
          exact hQ _ _ _ _ _ dX7_headerOctet_115 L41 ⟨(mFr.tr (mFr.upE (mFr.upE (mFr.upE mFr.rf eg5 rfl) eg6 rfl) eg9 rfl) hp41.1 rfl), hp41.2.1, trivial⟩
        · skip
          have ic99_38 := congrArg Int32.toInt c99_38
          have y42 : (1 : Int32).toInt = 1 := by decide
          have q43 : rg (1) (1) v33 := (rg_eq c99_38 q36 kc_1).1
          have uq43 : (1 : Int) ≤ v33.toInt ∧ v33.toInt ≤ 1 := q43
          refine lv_aload_n hx hb dX7_headerOctet_102 rfl (lv_at hl 1 rfl) ?_
          refine lv_iload_n hx hb dX7_headerOctet_103 rfl (lv_at hl 0 rfl) ?_
          refine c_cv (As := [.int (1 : Int32)]) (rest := []) x hml L9 7 i0 hal0 rfl (c_kpresync l X g9 i0 (1 : Int32) hX hJ10 (show i0 < 2 * Z.n from (by omega)) (rg_w kc_1 rfl) (rg_eqv ev33 (rg_w q43 rfl))) (wk_V kd_X7_presyncHeader kl_X7_61 ki_X7_presyncHeader ks_X7_X7_presyncHeader kn_X7) rfl ⟨rfl, rfl⟩ hd_kpresync ⟨Nat.le_of_ble_eq_true rfl, Nat.le_of_ble_eq_true rfl⟩ rfl hl.1 rfl (lv_room (Nat.le_of_ble_eq_true rfl)) dX7_headerOctet_104 (fun  g44 H44 k44 hp44 L44 => ?_)
          refine lv_goto (tgt := 115) hx hb dX7_headerOctet_107 (by decide) ?_
          exact hQ _ _ _ _ _ dX7_headerOctet_115 L44 ⟨(mFr.tr (mFr.upE (mFr.upE (mFr.upE mFr.rf eg5 rfl) eg6 rfl) eg9 rfl) hp44.1 rfl), hp44.2.1, trivial⟩
      · skip
        have ic64_34 := congrArg Int32.toInt c64_34
        have y45 : (0 : Int32).toInt = 0 := by decide
        have q46 : rg (0) (0) v33 := (rg_eq c64_34 rv33 kc_0).1
        have uq46 : (0 : Int) ≤ v33.toInt ∧ v33.toInt ≤ 0 := q46
        refine lv_iload_n hx hb dX7_headerOctet_67 rfl (lv_at hl 0 rfl) ?_
        refine lv_if_eq (tgt := 115) hx hb dX7_headerOctet_68 (by decide) (fun c68_47 => ?_) (fun c68_47 => ?_)
        · skip
          exact absurd c68_47 (by decide)
        · skip
          refine lv_aload_n hx hb dX7_headerOctet_71 rfl (lv_at hl 1 rfl) ?_
          refine lv_iconst (v := 1) hx hb dX7_headerOctet_72 (by decide) ?_
          refine c_puti x L9 7 i0 1 225 hal0 rfl rfl ⟨rfl, by decide +kernel⟩ (wk_in kf_X7_15) dX7_headerOctet_73 (crj_225 (rg_w kc_1 rfl)) (fun g48 H48 k48 eg48 L48 => ?_)
          refine lv_aload_n hx hb dX7_headerOctet_76 rfl (lv_at hl 1 rfl) ?_
          refine lv_iconst (v := 1) hx hb dX7_headerOctet_77 (by decide) ?_
          refine c_puti x L48 7 i0 3 227 hal0 rfl rfl ⟨rfl, by decide +kernel⟩ (wk_in kf_X7_58) dX7_headerOctet_78 (rg_any (1 : Int32)) (fun g49 H49 k49 eg49 L49 => ?_)
          refine lv_aload_n hx hb dX7_headerOctet_81 rfl (lv_at hl 1 rfl) ?_
          refine lv_iconst (v := 5) hx hb dX7_headerOctet_82 (by decide) ?_
          refine c_puti x L49 7 i0 9 233 hal0 rfl rfl ⟨rfl, by decide +kernel⟩ (wk_in kf_X7_23) dX7_headerOctet_83 (rg_any (5 : Int32)) (fun g50 H50 k50 eg50 L50 => ?_)
          have hJ51 := cJ_rs hJ10 eg48 eg49 rfl eg50 ⟨by decide, by decide⟩
          refine lv_aload_n hx hb dX7_headerOctet_86 rfl (lv_at hl 1 rfl) ?_
          refine lv_iconst (v := 0) hx hb dX7_headerOctet_87 (by decide) ?_
          refine c_putz x L50 7 i0 10 234 hal0 rfl rfl ⟨rfl, by decide +kernel⟩ (wk_in kf_X7_36) dX7_headerOctet_88 (rg_w kc_0 rfl) (crj_234 (rg_w kc_0 rfl)) (fun g52 H52 k52 eg52 L52 => ?_)
          refine lv_goto (tgt := 115) hx hb dX7_headerOctet_91 (by decide) ?_
          exact hQ _ _ _ _ _ dX7_headerOctet_115 L52 ⟨(mFr.upE (mFr.upE (mFr.upE (mFr.upE (mFr.upE (mFr.upE (mFr.upE mFr.rf eg5 rfl) eg6 rfl) eg9 rfl) eg48 rfl) eg49 rfl) eg50 rfl) eg52 rfl), (cJ_up hJ51 eg52 rfl), trivial⟩
  · skip
    have ic36_12 := Int32.lt_iff_toInt_lt.mp (rg_nle c36_12)
    have q53 : rg (-2147483648) (4) v8 := (rg_lt (rg_nle c36_12) rv8 kc_5).1
    have uq53 : (-2147483648 : Int) ≤ v8.toInt ∧ v8.toInt ≤ 4 := q53
    exact hQ _ _ _ _ _ dX7_headerOctet_39 L9 ⟨(mFr.upE (mFr.upE (mFr.upE mFr.rf eg5 rfl) eg6 rfl) eg9 rfl), hJ10, trivial⟩
theorem c_kheaderOctet (l : Launch) {G : cG} {Z : cZ} (X : Int) (g : mSt) (i0 : Nat) (p1 : Int32) (hX : 0 ≤ X ∧ X ≤ 2000000000) (hJ : cJ g) (hi0 : i0 < 2 * Z.n) (hpl : (g 225 i0).toInt ≠ 0 → 0 ≤ (g 233 i0).toInt ∧ (g 233 i0).toInt ≤ 4) : Met l yX7_headerOctet (wk (Cond.code yX7_headerOctet cX7_headerOctet 3 none)) rm_kheaderOctet (va_Pc [.ref (Z.ad 7 i0), .int p1] (cPre G Z X g)) (cQv G Z X (fun g1 => mFr [225, 226, 227, 229, 230, 231, 232, 233, 234] g g1 ∧ cJ g1 ∧ True)) 0 0 (cAd Z) := by
  refine Met.ofW (cc := cX7_headerOctet) (maxL := 3) (ret := none) (by decide) rfl ?_
  intro p e s m args below meth c s₁ B hml hv
  obtain ⟨rfl, hv⟩ := hv
  have hr := B.returns
  have hlocks := B.notSynchronized
  obtain ⟨x, L⟩ := c_start B rfl (fun w h => wk_in h) hv
  have hl := lv_entry ([.ref (Z.ad 7 i0), .int p1]) (n := 3) (Nat.le_of_ble_eq_true rfl)
  rw [lg_entry_eq]
  generalize (lg_sl ([.ref (Z.ad 7 i0), .int p1]) ++ List.replicate (3 - (lg_sl ([.ref (Z.ad 7 i0), .int p1])).length) Slot.unset).toArray = ls at hl ⊢
  exact w_kheaderOctet x hml L hX i0 p1 hJ hi0 hpl hl (fun pc' ls' g1 H1 locs1 hdg L hp => c_vret x L hr hlocks (Int.le_refl _) hp hdg)

def rm_ktake : Room := { frames := 4, cells := 0, slots := 0, locals := 89 }
theorem hd_ktake : yX7_take.cls = cRn 7 ∧ yX7_take.cls ≠ "java/lang/invoke/MethodHandle" ∧ yX7_take.cls ≠ "java/lang/invoke/VarHandle" ∧ (parseMethodDescriptor yX7_take.desc).map (fun d => d.parameters.length) = some 3 := by decide +kernel
set_option maxHeartbeats 4000000 in
set_option maxRecDepth 100000 in
theorem w_ktake {p : Program} {l : Launch} {e : Env} {s : State} {m : MethodId} {args : Array Value} {below : List Frame} {meth : Method} {c : Code} {H : Heap} {locs : List Loc} {Q : State → Prop} {ls : Array Slot} {G : cG} {Z : cZ} {g : mSt} {H0 : Heap} {X : Int} (x : cX p c cX7_take s args (wk (Cond.code yX7_take cX7_take 5 (some .int))) m G Z RX7 H0) (hml : c.maxLocals = 5) (L : cL G Z H0 X g H locs) (hX : 0 ≤ X ∧ X ≤ 2000000000) (i0 : Nat) (q1 : Nat) (p2 : Int32) (p3 : Int32) (hJ : cJ g) (hi0 : i0 < 2 * Z.n) (hq1 : Z.al 19 q1) (hl : lv_has ls 5 [(0, .ref (Z.ad 7 i0)), (1, .ref (Z.ad 19 q1)), (2, .int p2), (3, .int p3)]) (hQ : ∀ (pc' : Nat) (ls' : Array Slot) (r : Int32) (g1 : mSt) (H1 : Heap) (locs1 : List Loc), decode cX7_take pc' = .ok (.ireturn, 1) → cL G Z H0 X g1 H1 locs1 → (mFr [225, 226, 227, 228, 229, 230, 231, 232, 233, 234, 235, 800] g g1 ∧ rg (-210) (48) r ∧ cJ g1 ∧ True) → W p l e rm_ktake s m args below meth c H1 locs1 0 0 Q (F0 m pc' ls' [.int r])) : W p l e rm_ktake s m args below meth c H locs 0 0 Q (F0 m 0 ls []) := by
  have hx := x.1
  have hb := x.2.1
  have hz := x.2.2.2.2.2.2.2.1
  have hzn := hz.1
  have hal0 : Z.al 7 i0 := hz.2 7 i0 (show i0 < 2 * Z.n from hi0)
  have up2 : (-2147483648 : Int) ≤ p2.toInt ∧ p2.toInt ≤ 2147483647 := (rg_any p2)
  have up3 : (-2147483648 : Int) ≤ p3.toInt ∧ p3.toInt ≤ 2147483647 := (rg_any p3)
  refine lv_aload_n hx hb dX7_take_0 rfl (lv_at hl 0 rfl) ?_
  refine lv_iconst (v := 0) hx hb dX7_take_1 (by decide) ?_
  refine c_putz x L 7 i0 11 235 hal0 rfl rfl ⟨rfl, by decide +kernel⟩ (wk_in kf_X7_19) dX7_take_2 (rg_w kc_0 rfl) (crj_235 (rg_w kc_0 rfl)) (fun g1 H1 k1 eg1 L1 => ?_)
  refine lv_iload_n hx hb dX7_take_5 rfl (lv_at hl 2 rfl) ?_
  refine lv_if_lt (tgt := 20) hx hb dX7_take_6 (by decide) (fun c6_2 => ?_) (fun c6_2 => ?_)
  · skip
    have ic6_2 := Int32.lt_iff_toInt_lt.mp c6_2
    have q3 : rg (-2147483648) (-1) p2 := (rg_lt c6_2 (rg_any p2) kc_0).1
    have uq3 : (-2147483648 : Int) ≤ p2.toInt ∧ p2.toInt ≤ -1 := q3
    refine lv_iconst (v := 1) hx hb dX7_take_20 (by decide) ?_
    exact hQ _ _ (1 : Int32) _ _ _ dX7_take_21 L1 ⟨(mFr.upE mFr.rf eg1 rfl), rg_w kc_1 rfl, (cJ_up hJ eg1 rfl), trivial⟩
  · skip
    have ic6_2 := Int32.le_iff_toInt_le.mp (rg_nlt c6_2)
    have q4 : rg (0) (2147483647) p2 := (rg_le (rg_nlt c6_2) kc_0 (rg_any p2)).2
    have uq4 : (0 : Int) ≤ p2.toInt ∧ p2.toInt ≤ 2147483647 := q4
    refine lv_iload_n hx hb dX7_take_9 rfl (lv_at hl 2 rfl) ?_
    refine lv_iload_n hx hb dX7_take_10 rfl (lv_at hl 3 rfl) ?_
    refine lv_icmp_ge (tgt := 20) hx hb dX7_take_11 (by decide) (fun c11_5 => ?_) (fun c11_5 => ?_)
    · skip
      have ic11_5 := Int32.le_iff_toInt_le.mp c11_5
      refine lv_iconst (v := 1) hx hb dX7_take_20 (by decide) ?_
      exact hQ _ _ (1 : Int32) _ _ _ dX7_take_21 L1 ⟨(mFr.upE mFr.rf eg1 rfl), rg_w kc_1 rfl, (cJ_up hJ eg1 rfl), trivial⟩
    · skip
      have ic11_5 := Int32.lt_iff_toInt_lt.mp (rg_nle c11_5)
      have q6 : rg (0) (2147483646) p2 := (rg_lt (rg_nle c11_5) q4 (rg_any p3)).1
      have uq6 : (0 : Int) ≤ p2.toInt ∧ p2.toInt ≤ 2147483646 := q6
      have q7 : rg (1) (2147483647) p3 := (rg_lt (rg_nle c11_5) q4 (rg_any p3)).2
      have uq7 : (1 : Int) ≤ p3.toInt ∧ p3.toInt ≤ 2147483647 := q7
      refine lv_iload_n hx hb dX7_take_14 rfl (lv_at hl 3 rfl) ?_
      refine lv_aload_n hx hb dX7_take_15 rfl (lv_at hl 1 rfl) ?_
      refine c_len (n := 212) x L1 19 q1 hq1 rfl (by decide) dX7_take_16 ?_
      refine lv_icmp_le (tgt := 22) hx hb dX7_take_17 (by decide) (fun c17_8 => ?_) (fun c17_8 => ?_)
      · skip
        have ic17_8 := Int32.le_iff_toInt_le.mp c17_8
        have q9 : rg (1) (212) p3 := (rg_le c17_8 q7 kc_212).1
        have uq9 : (1 : Int) ≤ p3.toInt ∧ p3.toInt ≤ 212 := q9
        have q10 : rg (0) (211) p2 := ⟨by omega, by omega⟩
        refine lv_aload_n hx hb dX7_take_22 rfl (lv_at hl 0 rfl) ?_
        refine c_geti x L1 7 i0 1 225 hal0 rfl rfl (wk_in kf_X7_15) dX7_take_23 (fun v11 ev11 wv11 => ?_)
        have rv11 : rg (0) (2) v11 := clj_225 wv11
        have uv11 : (0 : Int) ≤ v11.toInt ∧ v11.toInt ≤ 2 := rv11
        refine lv_if_eq (tgt := 37) hx hb dX7_take_26 (by decide) (fun c26_12 => ?_) (fun c26_12 => ?_)
        · skip
          have ic26_12 := congrArg Int32.toInt c26_12
          have y13 : (0 : Int32).toInt = 0 := by decide
          have q14 : rg (0) (0) v11 := (rg_eq c26_12 rv11 kc_0).1
          have uq14 : (0 : Int) ≤ v11.toInt ∧ v11.toInt ≤ 0 := q14
          refine lv_aload_n hx hb dX7_take_37 rfl (lv_at hl 0 rfl) ?_
          refine lv_aload_n hx hb dX7_take_38 rfl (lv_at hl 1 rfl) ?_
          refine lv_iload_n hx hb dX7_take_39 rfl (lv_at hl 2 rfl) ?_
          refine c_ld x L1 19 q1 608 hq1 rfl rfl q10 rfl dX7_take_40 (fun v15 ev15 wv15 => ?_)
          have rv15 : rg (-2147483648) (2147483647) v15 := rg_any v15
          have uv15 : (-2147483648 : Int) ≤ v15.toInt ∧ v15.toInt ≤ 2147483647 := rv15
          have sv15 : v15.toInt = (g 608 (8192 * q1 + p2.toNatClampNeg)).toInt := congrArg Int32.toInt (ev15.trans (congrFun ((show mFr [225, 226, 227, 228, 229, 230, 231, 232, 233, 234, 235, 800] g g1 from (mFr.upE mFr.rf eg1 rfl)).at 608 rfl) _))
          refine c_cv (As := [.int v15]) (rest := []) x hml L1 7 i0 hal0 rfl (c_kheaderOctet l X g1 i0 v15 hX (cJ_up hJ eg1 rfl) (show i0 < 2 * Z.n from (by omega)) (fun z => absurd (by rw [← ev11]; omega) z)) (wk_V kd_X7_headerOctet kl_X7_26 ki_X7_headerOctet ks_X7_X7_headerOctet kn_X7) rfl ⟨rfl, rfl⟩ hd_kheaderOctet ⟨Nat.le_of_ble_eq_true rfl, Nat.le_of_ble_eq_true rfl⟩ rfl hl.1 rfl (lv_room (Nat.le_of_ble_eq_true rfl)) dX7_take_41 (fun  g16 H16 k16 hp16 L16 => ?_)
          refine lv_iconst (v := 1) hx hb dX7_take_44 (by decide) ?_
          exact hQ _ _ (1 : Int32) _ _ _ dX7_take_45 L16 ⟨(mFr.tr (mFr.upE mFr.rf eg1 rfl) hp16.1 rfl), rg_w kc_1 rfl, hp16.2.1, trivial⟩
        · skip
          have ic26_12 : v11.toInt ≠ (0 : Int32).toInt := fun z => c26_12 (Int32.toInt_inj.mp z)
          have y17 : (0 : Int32).toInt = 0 := by decide
          have q18 : rg (1) (2) v11 := rg_neL c26_12 rv11 kc_0
          have uq18 : (1 : Int) ≤ v11.toInt ∧ v11.toInt ≤ 2 := q18
          refine lv_aload_n hx hb dX7_take_29 rfl (lv_at hl 0 rfl) ?_
          refine c_geti x L1 7 i0 9 233 hal0 rfl rfl (wk_in kf_X7_23) dX7_take_30 (fun v19 ev19 wv19 => ?_)
          have rv19 : rg (-2147483648) (2147483647) v19 := rg_any v19
          have rrv19 : rg (0) (52) v19 := cJ_rp (cJ_up hJ eg1 rfl) ev19 ev11 (by omega)
          have uv19 : (0 : Int) ≤ v19.toInt ∧ v19.toInt ≤ 52 := rrv19
          refine lv_iconst (v := 5) hx hb dX7_take_33 (by decide) ?_
          refine lv_icmp_ge (tgt := 46) hx hb dX7_take_34 (by decide) (fun c34_20 => ?_) (fun c34_20 => ?_)
          · skip
            have ic34_20 := Int32.le_iff_toInt_le.mp c34_20
            have q21 : rg (5) (52) v19 := (rg_le c34_20 kc_5 rrv19).2
            have uq21 : (5 : Int) ≤ v19.toInt ∧ v19.toInt ≤ 52 := q21
            refine lv_iload_n hx hb dX7_take_46 rfl (lv_at hl 3 rfl) ?_
            refine lv_iload_n hx hb dX7_take_47 rfl (lv_at hl 2 rfl) ?_
            refine lv_isub hx hb dX7_take_48 ?_
            refine lv_topi (fun v22 ev22 => ?_)
            have rv22 : rg (-210) (212) v22 := (rg_sub ev22 q9 q10 rfl).1
            have tv22 := (rg_sub ev22 q9 q10 rfl).2
            have uv22 : (-210 : Int) ≤ v22.toInt ∧ v22.toInt ≤ 212 := rv22
            refine lv_bipush (v := 53) hx hb dX7_take_49 (by decide) ?_
            refine lv_aload_n hx hb dX7_take_51 rfl (lv_at hl 0 rfl) ?_
            refine c_geti x L1 7 i0 9 233 hal0 rfl rfl (wk_in kf_X7_23) dX7_take_52 (fun v23 ev23 wv23 => ?_)
            refine m_top ((ev19).trans ev23.symm) ?_
            refine lv_isub hx hb dX7_take_55 ?_
            refine lv_topi (fun v24 ev24 => ?_)
            have rv24 : rg (1) (48) v24 := (rg_sub ev24 kc_53 q21 rfl).1
            have tv24 := (rg_sub ev24 kc_53 q21 rfl).2
            have y25 : (53 : Int32).toInt = 53 := by decide
            have uv24 : (1 : Int) ≤ v24.toInt ∧ v24.toInt ≤ 48 := rv24
            refine va_mmin (rest := []) hx hb (hml.trans hl.1.symm) x.2.2.2.2.1 (x.2.2.1 _ (wk_in kl_X7_30)) (x.2.2.1 _ (wk_in kw_min.1)) (x.2.2.1 _ (wk_in kw_min.2.1)) (x.2.2.1 _ (wk_in kw_min.2.2)) (Nat.le_of_ble_eq_true rfl) (Nat.le_of_ble_eq_true rfl) (Nat.zero_le _) (Nat.zero_le _) dX7_take_56 ?_
            refine lv_topi (fun v26 ev26 => ?_)
            have hmv26 := rg_min ev26 rv22 rv24
            have rv26 : rg (-210) (48) v26 := rg_w hmv26.1 rfl
            have tv26 := hmv26.2
            have uv26 : (-210 : Int) ≤ v26.toInt ∧ v26.toInt ≤ 48 := rv26
            refine lv_istore (lv' := [(4, .int v26), (0, .ref (Z.ad 7 i0)), (1, .ref (Z.ad 19 q1)), (2, .int p2), (3, .int p3)]) hx hb dX7_take_59 hl (by decide) rfl (fun ls hl => ?_)
            refine lv_aload_n hx hb dX7_take_61 rfl (lv_at hl 1 rfl) ?_
            refine c_geti x L1 7 i0 10 234 hal0 rfl rfl (wk_in kf_X7_36) dX7_take_62 (fun v27 ev27 wv27 => ?_)
            have rv27 : rg (0) (1) v27 := clj_234 wv27
            have uv27 : (0 : Int) ≤ v27.toInt ∧ v27.toInt ≤ 1 := rv27
            refine lv_if_eq (tgt := 85) hx hb dX7_take_65 (by decide) (fun c65_28 => ?_) (fun c65_28 => ?_)
            · skip
              have ic65_28 := congrArg Int32.toInt c65_28
              have y29 : (0 : Int32).toInt = 0 := by decide
              have q30 : rg (0) (0) v27 := (rg_eq c65_28 rv27 kc_0).1
              have uq30 : (0 : Int) ≤ v27.toInt ∧ v27.toInt ≤ 0 := q30
              refine lv_aload_n hx hb dX7_take_85 rfl (lv_at hl 1 rfl) ?_
              refine lv_dup hx hb dX7_take_86 rfl ?_
              refine c_geti x L1 7 i0 9 233 hal0 rfl rfl (wk_in kf_X7_23) dX7_take_87 (fun v31 ev31 wv31 => ?_)
              refine m_top ((ev19).trans ev31.symm) ?_
              refine lv_iload hx hb dX7_take_90 (lv_at hl 0 rfl) ?_
              refine lv_iadd hx hb dX7_take_92 ?_
              refine lv_topi (fun v32 ev32 => ?_)
              have rv32 : rg (-205) (100) v32 := (rg_add ev32 q21 rv26 rfl).1
              have tv32 := (rg_add ev32 q21 rv26 rfl).2
              have q33 : rg (6) (53) v32 := ⟨by omega, by omega⟩
              have uv32 : (6 : Int) ≤ v32.toInt ∧ v32.toInt ≤ 53 := q33
              refine c_puti x L1 7 i0 9 233 hal0 rfl rfl ⟨rfl, by decide +kernel⟩ (wk_in kf_X7_23) dX7_take_93 (rg_any v32) (fun g34 H34 k34 eg34 L34 => ?_)
              refine lv_aload_n hx hb dX7_take_96 rfl (lv_at hl 1 rfl) ?_
              refine c_geti x L34 7 i0 9 233 hal0 rfl rfl (wk_in kf_X7_23) dX7_take_97 (fun v35 ev35 wv35 => ?_)
              refine m_top (((mm_st eg34)).trans ev35.symm) ?_
              refine lv_bipush (v := 53) hx hb dX7_take_100 (by decide) ?_
              refine lv_icmp_lt (tgt := 139) hx hb dX7_take_102 (by decide) (fun c102_36 => ?_) (fun c102_36 => ?_)
              · skip
                have ic102_36 := Int32.lt_iff_toInt_lt.mp c102_36
                have q37 : rg (6) (52) v32 := (rg_lt c102_36 q33 kc_53).1
                have uq37 : (6 : Int) ≤ v32.toInt ∧ v32.toInt ≤ 52 := q37
                have hJ38 := cJ_233 (cJ_up hJ eg1 rfl) eg34 (fun _ => ⟨by omega, by omega⟩)
                refine lv_iload hx hb dX7_take_139 (lv_at hl 0 rfl) ?_
                exact hQ _ _ v26 _ _ _ dX7_take_141 L34 ⟨(mFr.upE (mFr.upE mFr.rf eg1 rfl) eg34 rfl), rg_w rv26 rfl, hJ38, trivial⟩
              · skip
                have ic102_36 := Int32.le_iff_toInt_le.mp (rg_nlt c102_36)
                have q39 : rg (53) (53) v32 := (rg_le (rg_nlt c102_36) kc_53 q33).2
                have uq39 : (53 : Int) ≤ v32.toInt ∧ v32.toInt ≤ 53 := q39
                refine lv_aload_n hx hb dX7_take_105 rfl (lv_at hl 1 rfl) ?_
                refine lv_iconst (v := 0) hx hb dX7_take_106 (by decide) ?_
                refine c_puti x L34 7 i0 9 233 hal0 rfl rfl ⟨rfl, by decide +kernel⟩ (wk_in kf_X7_23) dX7_take_107 (rg_any (0 : Int32)) (fun g40 H40 k40 eg40 L40 => ?_)
                have hJ41 := cJ_233 (cJ_up hJ eg1 rfl) (up2_up2 eg34 eg40) (fun _ => ⟨by decide, by decide⟩)
                refine lv_aload_n hx hb dX7_take_110 rfl (lv_at hl 1 rfl) ?_
                refine lv_aload_n hx hb dX7_take_111 rfl (lv_at hl 1 rfl) ?_
                refine c_geti x L40 7 i0 10 234 hal0 rfl rfl (wk_in kf_X7_36) dX7_take_112 (fun v42 ev42 wv42 => ?_)
                refine m_top (((mm_up (mm_up ev27 eg34 rfl) eg40 rfl)).trans ev42.symm) ?_
                refine c_putz x L40 7 i0 11 235 hal0 rfl rfl ⟨rfl, by decide +kernel⟩ (wk_in kf_X7_19) dX7_take_115 (rg_w q30 rfl) (crj_235 (rg_w q30 rfl)) (fun g43 H43 k43 eg43 L43 => ?_)
                refine lv_aload_n hx hb dX7_take_118 rfl (lv_at hl 1 rfl) ?_
                refine lv_dup hx hb dX7_take_119 rfl ?_
                refine c_geti x L43 7 i0 4 228 hal0 rfl rfl (wk_in kf_X7_45) dX7_take_120 (fun v44 ev44 wv44 => ?_)
                have rv44 : rg (-2147483648) (2147483647) v44 := rg_any v44
                have uv44 : (-2147483648 : Int) ≤ v44.toInt ∧ v44.toInt ≤ 2147483647 := rv44
                refine lv_aload_n hx hb dX7_take_123 rfl (lv_at hl 1 rfl) ?_
                refine c_geti x L43 7 i0 10 234 hal0 rfl rfl (wk_in kf_X7_36) dX7_take_124 (fun v45 ev45 wv45 => ?_)
                refine m_top (((mm_up (mm_up (mm_up ev27 eg34 rfl) eg40 rfl) eg43 rfl)).trans ev45.symm) ?_
                have j135_47 : ∀ (b135_2_46 : Int32) (g47 : mSt) (H47 : Heap) (k47 : List Loc) (ls : Array Slot), mFr [] g43 g47 → cL G Z H0 X g47 H47 k47 → cJ g47 → rg (0) (1) b135_2_46 → lv_has ls 5 [(0, .ref (Z.ad 7 i0)), (4, .int v26)] → W p l e rm_ktake s m args below meth c H47 k47 0 0 Q (F0 m 135 ls [.int b135_2_46, .int v44, .ref (Z.ad 7 i0)]) := by
                  intro b135_2_46 g47 H47 k47 ls hF47 L47 hJ47 rb135_2_46 hl
                  have ub135_2_46 : (0 : Int) ≤ b135_2_46.toInt ∧ b135_2_46.toInt ≤ 1 := rb135_2_46
                  refine lv_iadd hx hb dX7_take_135 ?_
                  refine lv_topi (fun v48 ev48 => ?_)
                  have rv48 : rg (-2147483648) (2147483647) v48 := rg_any v48
                  have uv48 : (-2147483648 : Int) ≤ v48.toInt ∧ v48.toInt ≤ 2147483647 := rv48
                  refine c_puti x L47 7 i0 4 228 hal0 rfl rfl ⟨rfl, by decide +kernel⟩ (wk_in kf_X7_45) dX7_take_136 (rg_any v48) (fun g49 H49 k49 eg49 L49 => ?_)
                  refine lv_iload hx hb dX7_take_139 (lv_at hl 1 rfl) ?_
                  exact hQ _ _ v26 _ _ _ dX7_take_141 L49 ⟨(mFr.upE (mFr.tr (mFr.upE (mFr.upE (mFr.upE (mFr.upE mFr.rf eg1 rfl) eg34 rfl) eg40 rfl) eg43 rfl) hF47 rfl) eg49 rfl), rg_w rv26 rfl, (cJ_up hJ47 eg49 rfl), trivial⟩
                refine lv_if_eq (tgt := 134) hx hb dX7_take_127 (by decide) (fun c127_50 => ?_) (fun c127_50 => ?_)
                · skip
                  have ic127_50 := congrArg Int32.toInt c127_50
                  have y51 : (0 : Int32).toInt = 0 := by decide
                  refine lv_iconst (v := 0) hx hb dX7_take_134 (by decide) ?_
                  have y52 : (0 : Int32).toInt = 0 := by decide
                  exact j135_47 (0 : Int32) g43 _ _ ls mFr.rf L43 (cJ_up hJ41 eg43 rfl) (rg_w kc_0 rfl) (lv_sub hl [1, 0] rfl)
                · skip
                  have ic127_50 : v27.toInt ≠ (0 : Int32).toInt := fun z => c127_50 (Int32.toInt_inj.mp z)
                  have y53 : (0 : Int32).toInt = 0 := by decide
                  exact absurd (rg_neH c127_50 q30 kc_0 : rg (0) (-1) v27) (fun q => rg_dead q rfl)
            · skip
              have ic65_28 : v27.toInt ≠ (0 : Int32).toInt := fun z => c65_28 (Int32.toInt_inj.mp z)
              have y54 : (0 : Int32).toInt = 0 := by decide
              have q55 : rg (1) (1) v27 := rg_neL c65_28 rv27 kc_0
              have uq55 : (1 : Int) ≤ v27.toInt ∧ v27.toInt ≤ 1 := q55
              refine lv_aload_n hx hb dX7_take_68 rfl (lv_at hl 2 rfl) ?_
              refine lv_iload_n hx hb dX7_take_69 rfl (lv_at hl 3 rfl) ?_
              refine lv_aload_n hx hb dX7_take_70 rfl (lv_at hl 1 rfl) ?_
              have al56 : Z.al 25 i0 := hz.2 25 i0 (show i0 < 2 * Z.n from (by omega))
              refine c_getr (a := Z.ad 25 i0) x L1 7 i0 0 hal0 rfl rfl (wk_in kf_X7_9) dX7_take_71 ?_
              refine lv_aload_n hx hb dX7_take_74 rfl (lv_at hl 1 rfl) ?_
              refine c_geti x L1 7 i0 9 233 hal0 rfl rfl (wk_in kf_X7_23) dX7_take_75 (fun v57 ev57 wv57 => ?_)
              refine m_top ((ev19).trans ev57.symm) ?_
              refine lv_iconst (v := 5) hx hb dX7_take_78 (by decide) ?_
              refine lv_isub hx hb dX7_take_79 ?_
              refine lv_topi (fun v58 ev58 => ?_)
              have rv58 : rg (0) (47) v58 := (rg_sub ev58 q21 kc_5 rfl).1
              have tv58 := (rg_sub ev58 q21 kc_5 rfl).2
              have y59 : (5 : Int32).toInt = 5 := by decide
              have uv58 : (0 : Int) ≤ v58.toInt ∧ v58.toInt ≤ 47 := rv58
              refine lv_iload hx hb dX7_take_80 (lv_at hl 0 rfl) ?_
              refine c_copy (rest := []) x (hml.trans hl.1.symm) L1 19 q1 25 i0 608 800 hq1 al56 rfl rfl rfl rfl ⟨rfl, rfl⟩ kl_X7_39 kw_cp (Int.le_trans (by decide) q10.1) (Int.le_trans (by decide) rv58.1) (by omega) (by show p2.toInt + v26.toInt ≤ 212; omega) (by show v58.toInt + v26.toInt ≤ 48; omega) (Nat.le_of_ble_eq_true rfl) (Nat.le_of_ble_eq_true rfl) dX7_take_82 (fun g60 H60 k60 ec60 L60 => ?_)
              refine lv_aload_n hx hb dX7_take_85 rfl (lv_at hl 1 rfl) ?_
              refine lv_dup hx hb dX7_take_86 rfl ?_
              refine c_geti x L60 7 i0 9 233 hal0 rfl rfl (wk_in kf_X7_23) dX7_take_87 (fun v61 ev61 wv61 => ?_)
              refine m_top (((mm_fr ev19 (cCpy_fr ec60) rfl)).trans ev61.symm) ?_
              refine lv_iload hx hb dX7_take_90 (lv_at hl 0 rfl) ?_
              refine lv_iadd hx hb dX7_take_92 ?_
              refine lv_topi (fun v62 ev62 => ?_)
              have rv62 : rg (-205) (100) v62 := (rg_add ev62 q21 rv26 rfl).1
              have tv62 := (rg_add ev62 q21 rv26 rfl).2
              have q63 : rg (6) (53) v62 := ⟨by omega, by omega⟩
              have uv62 : (6 : Int) ≤ v62.toInt ∧ v62.toInt ≤ 53 := q63
              refine c_puti x L60 7 i0 9 233 hal0 rfl rfl ⟨rfl, by decide +kernel⟩ (wk_in kf_X7_23) dX7_take_93 (rg_any v62) (fun g64 H64 k64 eg64 L64 => ?_)
              refine lv_aload_n hx hb dX7_take_96 rfl (lv_at hl 1 rfl) ?_
              refine c_geti x L64 7 i0 9 233 hal0 rfl rfl (wk_in kf_X7_23) dX7_take_97 (fun v65 ev65 wv65 => ?_)
              refine m_top (((mm_st eg64)).trans ev65.symm) ?_
              refine lv_bipush (v := 53) hx hb dX7_take_100 (by decide) ?_
              refine lv_icmp_lt (tgt := 139) hx hb dX7_take_102 (by decide) (fun c102_66 => ?_) (fun c102_66 => ?_)
              · skip
                have ic102_66 := Int32.lt_iff_toInt_lt.mp c102_66
                have q67 : rg (6) (52) v62 := (rg_lt c102_66 q63 kc_53).1
                have uq67 : (6 : Int) ≤ v62.toInt ∧ v62.toInt ≤ 52 := q67
                have hJ68 := cJ_233 (cJ_fr (cJ_up hJ eg1 rfl) (cCpy_fr ec60) rfl) eg64 (fun _ => ⟨by omega, by omega⟩)
                refine lv_iload hx hb dX7_take_139 (lv_at hl 0 rfl) ?_
                exact hQ _ _ v26 _ _ _ dX7_take_141 L64 ⟨(mFr.upE (mFr.tr (mFr.upE mFr.rf eg1 rfl) (cCpy_fr ec60) rfl) eg64 rfl), rg_w rv26 rfl, hJ68, trivial⟩
              · skip
                have ic102_66 := Int32.le_iff_toInt_le.mp (rg_nlt c102_66)
                have q69 : rg (53) (53) v62 := (rg_le (rg_nlt c102_66) kc_53 q63).2
                have uq69 : (53 : Int) ≤ v62.toInt ∧ v62.toInt ≤ 53 := q69
                refine lv_aload_n hx hb dX7_take_105 rfl (lv_at hl 1 rfl) ?_
                refine lv_iconst (v := 0) hx hb dX7_take_106 (by decide) ?_
                refine c_puti x L64 7 i0 9 233 hal0 rfl rfl ⟨rfl, by decide +kernel⟩ (wk_in kf_X7_23) dX7_take_107 (rg_any (0 : Int32)) (fun g70 H70 k70 eg70 L70 => ?_)
                have hJ71 := cJ_233 (cJ_fr (cJ_up hJ eg1 rfl) (cCpy_fr ec60) rfl) (up2_up2 eg64 eg70) (fun _ => ⟨by decide, by decide⟩)
                refine lv_aload_n hx hb dX7_take_110 rfl (lv_at hl 1 rfl) ?_
                refine lv_aload_n hx hb dX7_take_111 rfl (lv_at hl 1 rfl) ?_
                refine c_geti x L70 7 i0 10 234 hal0 rfl rfl (wk_in kf_X7_36) dX7_take_112 (fun v72 ev72 wv72 => ?_)
                refine m_top (((mm_up (mm_up (mm_fr ev27 (cCpy_fr ec60) rfl) eg64 rfl) eg70 rfl)).trans ev72.symm) ?_
                refine c_putz x L70 7 i0 11 235 hal0 rfl rfl ⟨rfl, by decide +kernel⟩ (wk_in kf_X7_19) dX7_take_115 (rg_w q55 rfl) (crj_235 (rg_w q55 rfl)) (fun g73 H73 k73 eg73 L73 => ?_)
                refine lv_aload_n hx hb dX7_take_118 rfl (lv_at hl 1 rfl) ?_
                refine lv_dup hx hb dX7_take_119 rfl ?_
                refine c_geti x L73 7 i0 4 228 hal0 rfl rfl (wk_in kf_X7_45) dX7_take_120 (fun v74 ev74 wv74 => ?_)
                have rv74 : rg (-2147483648) (2147483647) v74 := rg_any v74
                have uv74 : (-2147483648 : Int) ≤ v74.toInt ∧ v74.toInt ≤ 2147483647 := rv74
                refine lv_aload_n hx hb dX7_take_123 rfl (lv_at hl 1 rfl) ?_
                refine c_geti x L73 7 i0 10 234 hal0 rfl rfl (wk_in kf_X7_36) dX7_take_124 (fun v75 ev75 wv75 => ?_)
                refine m_top (((mm_up (mm_up (mm_up (mm_fr ev27 (cCpy_fr ec60) rfl) eg64 rfl) eg70 rfl) eg73 rfl)).trans ev75.symm) ?_
                have j135_77 : ∀ (b135_2_76 : Int32) (g77 : mSt) (H77 : Heap) (k77 : List Loc) (ls : Array Slot), mFr [] g73 g77 → cL G Z H0 X g77 H77 k77 → cJ g77 → rg (0) (1) b135_2_76 → lv_has ls 5 [(0, .ref (Z.ad 7 i0)), (4, .int v26)] → W p l e rm_ktake s m args below meth c H77 k77 0 0 Q (F0 m 135 ls [.int b135_2_76, .int v74, .ref (Z.ad 7 i0)]) := by
                  intro b135_2_76 g77 H77 k77 ls hF77 L77 hJ77 rb135_2_76 hl
                  have ub135_2_76 : (0 : Int) ≤ b135_2_76.toInt ∧ b135_2_76.toInt ≤ 1 := rb135_2_76
                  refine lv_iadd hx hb dX7_take_135 ?_
                  refine lv_topi (fun v78 ev78 => ?_)
                  have rv78 : rg (-2147483648) (2147483647) v78 := rg_any v78
                  have uv78 : (-2147483648 : Int) ≤ v78.toInt ∧ v78.toInt ≤ 2147483647 := rv78
                  refine c_puti x L77 7 i0 4 228 hal0 rfl rfl ⟨rfl, by decide +kernel⟩ (wk_in kf_X7_45) dX7_take_136 (rg_any v78) (fun g79 H79 k79 eg79 L79 => ?_)
                  refine lv_iload hx hb dX7_take_139 (lv_at hl 1 rfl) ?_
                  exact hQ _ _ v26 _ _ _ dX7_take_141 L79 ⟨(mFr.upE (mFr.tr (mFr.upE (mFr.upE (mFr.upE (mFr.tr (mFr.upE mFr.rf eg1 rfl) (cCpy_fr ec60) rfl) eg64 rfl) eg70 rfl) eg73 rfl) hF77 rfl) eg79 rfl), rg_w rv26 rfl, (cJ_up hJ77 eg79 rfl), trivial⟩
                refine lv_if_eq (tgt := 134) hx hb dX7_take_127 (by decide) (fun c127_80 => ?_) (fun c127_80 => ?_)
                · skip
                  have ic127_80 := congrArg Int32.toInt c127_80
                  have y81 : (0 : Int32).toInt = 0 := by decide
                  exact absurd ((rg_eq c127_80 q55 kc_0).1 : rg (1) (0) v27) (fun q => rg_dead q rfl)
                · skip
                  have ic127_80 : v27.toInt ≠ (0 : Int32).toInt := fun z => c127_80 (Int32.toInt_inj.mp z)
                  have y82 : (0 : Int32).toInt = 0 := by decide
                  refine lv_iconst (v := 1) hx hb dX7_take_130 (by decide) ?_
                  refine lv_goto (tgt := 135) hx hb dX7_take_131 (by decide) ?_
                  have y83 : (1 : Int32).toInt = 1 := by decide
                  exact j135_77 (1 : Int32) g73 _ _ ls mFr.rf L73 (cJ_up hJ71 eg73 rfl) (rg_w kc_1 rfl) (lv_sub hl [1, 0] rfl)
          · skip
            have ic34_20 := Int32.lt_iff_toInt_lt.mp (rg_nle c34_20)
            have q84 : rg (0) (4) v19 := (rg_lt (rg_nle c34_20) rrv19 kc_5).1
            have uq84 : (0 : Int) ≤ v19.toInt ∧ v19.toInt ≤ 4 := q84
            refine lv_aload_n hx hb dX7_take_37 rfl (lv_at hl 0 rfl) ?_
            refine lv_aload_n hx hb dX7_take_38 rfl (lv_at hl 1 rfl) ?_
            refine lv_iload_n hx hb dX7_take_39 rfl (lv_at hl 2 rfl) ?_
            refine c_ld x L1 19 q1 608 hq1 rfl rfl q10 rfl dX7_take_40 (fun v85 ev85 wv85 => ?_)
            have rv85 : rg (-2147483648) (2147483647) v85 := rg_any v85
            have uv85 : (-2147483648 : Int) ≤ v85.toInt ∧ v85.toInt ≤ 2147483647 := rv85
            have sv85 : v85.toInt = (g 608 (8192 * q1 + p2.toNatClampNeg)).toInt := congrArg Int32.toInt (ev85.trans (congrFun ((show mFr [225, 226, 227, 228, 229, 230, 231, 232, 233, 234, 235, 800] g g1 from (mFr.upE mFr.rf eg1 rfl)).at 608 rfl) _))
            refine c_cv (As := [.int v85]) (rest := []) x hml L1 7 i0 hal0 rfl (c_kheaderOctet l X g1 i0 v85 hX (cJ_up hJ eg1 rfl) (show i0 < 2 * Z.n from (by omega)) (fun _ => by rw [← ev19]; omega)) (wk_V kd_X7_headerOctet kl_X7_26 ki_X7_headerOctet ks_X7_X7_headerOctet kn_X7) rfl ⟨rfl, rfl⟩ hd_kheaderOctet ⟨Nat.le_of_ble_eq_true rfl, Nat.le_of_ble_eq_true rfl⟩ rfl hl.1 rfl (lv_room (Nat.le_of_ble_eq_true rfl)) dX7_take_41 (fun  g86 H86 k86 hp86 L86 => ?_)
            refine lv_iconst (v := 1) hx hb dX7_take_44 (by decide) ?_
            exact hQ _ _ (1 : Int32) _ _ _ dX7_take_45 L86 ⟨(mFr.tr (mFr.upE mFr.rf eg1 rfl) hp86.1 rfl), rg_w kc_1 rfl, hp86.2.1, trivial⟩
      · skip
        have ic17_8 := Int32.lt_iff_toInt_lt.mp (rg_nle c17_8)
        have q87 : rg (213) (2147483647) p3 := (rg_lt (rg_nle c17_8) kc_212 q7).2
        have uq87 : (213 : Int) ≤ p3.toInt ∧ p3.toInt ≤ 2147483647 := q87
        refine lv_iconst (v := 1) hx hb dX7_take_20 (by decide) ?_
        exact hQ _ _ (1 : Int32) _ _ _ dX7_take_21 L1 ⟨(mFr.upE mFr.rf eg1 rfl), rg_w kc_1 rfl, (cJ_up hJ eg1 rfl), trivial⟩
theorem c_ktake (l : Launch) {G : cG} {Z : cZ} (X : Int) (g : mSt) (i0 : Nat) (q1 : Nat) (p2 : Int32) (p3 : Int32) (hX : 0 ≤ X ∧ X ≤ 2000000000) (hJ : cJ g) (hi0 : i0 < 2 * Z.n) (hq1 : Z.al 19 q1) : Met l yX7_take (wk (Cond.code yX7_take cX7_take 5 (some .int))) rm_ktake (va_Pc [.ref (Z.ad 7 i0), .ref (Z.ad 19 q1), .int p2, .int p3] (cPre G Z X g)) (cQi G Z X (fun r g1 => mFr [225, 226, 227, 228, 229, 230, 231, 232, 233, 234, 235, 800] g g1 ∧ rg (-210) (48) r ∧ cJ g1 ∧ True)) 0 0 (cAd Z) := by
  refine Met.ofW (cc := cX7_take) (maxL := 5) (ret := (some .int)) (by decide) rfl ?_
  intro p e s m args below meth c s₁ B hml hv
  obtain ⟨rfl, hv⟩ := hv
  have hr := B.returns
  have hlocks := B.notSynchronized
  obtain ⟨x, L⟩ := c_start B rfl (fun w h => wk_in h) hv
  have hl := lv_entry ([.ref (Z.ad 7 i0), .ref (Z.ad 19 q1), .int p2, .int p3]) (n := 5) (Nat.le_of_ble_eq_true rfl)
  rw [lg_entry_eq]
  generalize (lg_sl ([.ref (Z.ad 7 i0), .ref (Z.ad 19 q1), .int p2, .int p3]) ++ List.replicate (5 - (lg_sl ([.ref (Z.ad 7 i0), .ref (Z.ad 19 q1), .int p2, .int p3])).length) Slot.unset).toArray = ls at hl ⊢
  exact w_ktake x hml L hX i0 q1 p2 p3 hJ hi0 hq1 hl (fun pc' ls' r g1 H1 locs1 hdg L hp => c_iret x L hr hlocks (Int.le_refl _) hp hdg)

def rm_kisWhole : Room := { frames := 1, cells := 0, slots := 0, locals := 24 }
theorem hd_kisWhole : yX0_isWhole.cls = cRn 0 ∧ yX0_isWhole.cls ≠ "java/lang/invoke/MethodHandle" ∧ yX0_isWhole.cls ≠ "java/lang/invoke/VarHandle" ∧ (parseMethodDescriptor yX0_isWhole.desc).map (fun d => d.parameters.length) = some 1 := by decide +kernel
set_option maxHeartbeats 4000000 in
set_option maxRecDepth 100000 in
theorem w_kisWhole {p : Program} {l : Launch} {e : Env} {s : State} {m : MethodId} {args : Array Value} {below : List Frame} {meth : Method} {c : Code} {H : Heap} {locs : List Loc} {Q : State → Prop} {ls : Array Slot} {G : cG} {Z : cZ} {g : mSt} {H0 : Heap} {X : Int} (x : cX p c cX0_isWhole s args (wk (Cond.code yX0_isWhole cX0_isWhole 3 (some .boolean))) m G Z RX0 H0) (hml : c.maxLocals = 3) (L : cL G Z H0 X g H locs) (hX : 0 ≤ X ∧ X ≤ 2000000000) (i0 : Nat) (p1 : Int32) (hal0 : Z.al 0 i0) (hal16 : Z.al 16 i0) (rp1 : rg (1) (5) p1) (hl : lv_has ls 3 [(0, .ref (Z.ad 0 i0)), (1, .int p1)]) (hQ : ∀ (pc' : Nat) (ls' : Array Slot) (r : Int32) (g1 : mSt) (H1 : Heap) (locs1 : List Loc), decode cX0_isWhole pc' = .ok (.ireturn, 1) → cL G Z H0 X g1 H1 locs1 → (mFr [2] g g1 ∧ rg (0) (1) r ∧ (r.toInt = 1 → 1 ≤ (g1 2 i0).toInt ∧ (g1 2 i0).toInt ≤ 200)) → W p l e rm_kisWhole s m args below meth c H1 locs1 0 0 Q (F0 m pc' ls' [.int r])) : W p l e rm_kisWhole s m args below meth c H locs 0 0 Q (F0 m 0 ls []) := by
  have hx := x.1
  have hb := x.2.1
  have hz := x.2.2.2.2.2.2.2.1
  have hzn := hz.1
  have up1 : (1 : Int) ≤ p1.toInt ∧ p1.toInt ≤ 5 := rp1
  refine lv_iload_n hx hb dX0_isWhole_0 rfl (lv_at hl 1 rfl) ?_
  refine lv_bipush (v := 48) hx hb dX0_isWhole_1 (by decide) ?_
  refine lv_imul hx hb dX0_isWhole_3 ?_
  refine lv_topi (fun v1 ev1 => ?_)
  have rv1 : rg (48) (240) v1 := (rg_mul ev1 rp1 kc_48 rfl).1
  have tv1 := (rg_mul ev1 rp1 kc_48 rfl).2
  have y2 : (48 : Int32).toInt = 48 := by decide
  have uv1 : (48 : Int) ≤ v1.toInt ∧ v1.toInt ≤ 240 := rv1
  refine lv_istore_n (lv' := [(2, .int v1), (0, .ref (Z.ad 0 i0)), (1, .int p1)]) hx hb dX0_isWhole_4 rfl hl (by decide) rfl (fun ls hl => ?_)
  refine lv_aload_n hx hb dX0_isWhole_5 rfl (lv_at hl 1 rfl) ?_
  refine lv_aload_n hx hb dX0_isWhole_6 rfl (lv_at hl 1 rfl) ?_
  refine c_getr (a := Z.ad 16 i0) x L 0 i0 0 hal0 rfl rfl (wk_in kf_X0_9) dX0_isWhole_7 ?_
  refine lv_iload_n hx hb dX0_isWhole_10 rfl (lv_at hl 0 rfl) ?_
  refine lv_bipush (v := 6) hx hb dX0_isWhole_11 (by decide) ?_
  refine lv_isub hx hb dX0_isWhole_13 ?_
  refine lv_topi (fun v3 ev3 => ?_)
  have rv3 : rg (42) (234) v3 := (rg_sub ev3 rv1 kc_6 rfl).1
  have tv3 := (rg_sub ev3 rv1 kc_6 rfl).2
  have y4 : (6 : Int32).toInt = 6 := by decide
  have uv3 : (42 : Int) ≤ v3.toInt ∧ v3.toInt ≤ 234 := rv3
  refine c_ld x L 16 i0 512 hal16 rfl rfl rv3 rfl dX0_isWhole_14 (fun v5 ev5 wv5 => ?_)
  have rv5 : rg (-2147483648) (2147483647) v5 := rg_any v5
  have uv5 : (-2147483648 : Int) ≤ v5.toInt ∧ v5.toInt ≤ 2147483647 := rv5
  have sv5 : v5.toInt = (g 512 (8192 * i0 + v3.toNatClampNeg)).toInt := congrArg Int32.toInt (ev5.trans (congrFun ((show mFr [2] g g from mFr.rf).at 512 rfl) _))
  refine lv_bipush (v := 8) hx hb dX0_isWhole_15 (by decide) ?_
  refine lv_ishl hx hb dX0_isWhole_17 ?_
  refine lv_topi (fun v6 ev6 => ?_)
  have rv6 : rg (-2147483648) (2147483647) v6 := rg_any v6
  have uv6 : (-2147483648 : Int) ≤ v6.toInt ∧ v6.toInt ≤ 2147483647 := rv6
  refine lv_aload_n hx hb dX0_isWhole_18 rfl (lv_at hl 1 rfl) ?_
  refine c_getr (a := Z.ad 16 i0) x L 0 i0 0 hal0 rfl rfl (wk_in kf_X0_9) dX0_isWhole_19 ?_
  refine lv_iload_n hx hb dX0_isWhole_22 rfl (lv_at hl 0 rfl) ?_
  refine lv_iconst (v := 5) hx hb dX0_isWhole_23 (by decide) ?_
  refine lv_isub hx hb dX0_isWhole_24 ?_
  refine lv_topi (fun v7 ev7 => ?_)
  have rv7 : rg (43) (235) v7 := (rg_sub ev7 rv1 kc_5 rfl).1
  have tv7 := (rg_sub ev7 rv1 kc_5 rfl).2
  have y8 : (5 : Int32).toInt = 5 := by decide
  have uv7 : (43 : Int) ≤ v7.toInt ∧ v7.toInt ≤ 235 := rv7
  refine c_ld x L 16 i0 512 hal16 rfl rfl rv7 rfl dX0_isWhole_25 (fun v9 ev9 wv9 => ?_)
  have rv9 : rg (-2147483648) (2147483647) v9 := rg_any v9
  have uv9 : (-2147483648 : Int) ≤ v9.toInt ∧ v9.toInt ≤ 2147483647 := rv9
  have sv9 : v9.toInt = (g 512 (8192 * i0 + v7.toNatClampNeg)).toInt := congrArg Int32.toInt (ev9.trans (congrFun ((show mFr [2] g g from mFr.rf).at 512 rfl) _))
  refine lv_ior hx hb dX0_isWhole_26 ?_
  refine lv_topi (fun v10 ev10 => ?_)
  have rv10 : rg (-2147483648) (2147483647) v10 := rg_any v10
  have uv10 : (-2147483648 : Int) ≤ v10.toInt ∧ v10.toInt ≤ 2147483647 := rv10
  refine c_puti x L 0 i0 2 2 hal0 rfl rfl ⟨rfl, by decide +kernel⟩ (wk_in kf_X0_29) dX0_isWhole_27 (rg_any v10) (fun g11 H11 k11 eg11 L11 => ?_)
  refine lv_aload_n hx hb dX0_isWhole_30 rfl (lv_at hl 1 rfl) ?_
  refine c_geti x L11 0 i0 2 2 hal0 rfl rfl (wk_in kf_X0_29) dX0_isWhole_31 (fun v12 ev12 wv12 => ?_)
  refine m_top (((mm_st eg11)).trans ev12.symm) ?_
  refine lv_iconst (v := 1) hx hb dX0_isWhole_34 (by decide) ?_
  refine lv_icmp_lt (tgt := 86) hx hb dX0_isWhole_35 (by decide) (fun c35_13 => ?_) (fun c35_13 => ?_)
  · skip
    have ic35_13 := Int32.lt_iff_toInt_lt.mp c35_13
    have q14 : rg (-2147483648) (0) v10 := (rg_lt c35_13 rv10 kc_1).1
    have uq14 : (-2147483648 : Int) ≤ v10.toInt ∧ v10.toInt ≤ 0 := q14
    refine lv_iconst (v := 0) hx hb dX0_isWhole_86 (by decide) ?_
    exact hQ _ _ (0 : Int32) _ _ _ dX0_isWhole_87 L11 ⟨(mFr.upE mFr.rf eg11 rfl), rg_w kc_0 rfl, (fun h => by have : (0 : Int32).toInt = 0 := (by decide); omega)⟩
  · skip
    have ic35_13 := Int32.le_iff_toInt_le.mp (rg_nlt c35_13)
    have q15 : rg (1) (2147483647) v10 := (rg_le (rg_nlt c35_13) kc_1 rv10).2
    have uq15 : (1 : Int) ≤ v10.toInt ∧ v10.toInt ≤ 2147483647 := q15
    refine lv_aload_n hx hb dX0_isWhole_38 rfl (lv_at hl 1 rfl) ?_
    refine c_geti x L11 0 i0 2 2 hal0 rfl rfl (wk_in kf_X0_29) dX0_isWhole_39 (fun v16 ev16 wv16 => ?_)
    refine m_top (((mm_st eg11)).trans ev16.symm) ?_
    refine lv_sipush (v := 200) hx hb dX0_isWhole_42 (by decide) ?_
    refine lv_icmp_gt (tgt := 86) hx hb dX0_isWhole_45 (by decide) (fun c45_17 => ?_) (fun c45_17 => ?_)
    · skip
      have ic45_17 := Int32.lt_iff_toInt_lt.mp c45_17
      have q18 : rg (201) (2147483647) v10 := (rg_lt c45_17 kc_200 q15).2
      have uq18 : (201 : Int) ≤ v10.toInt ∧ v10.toInt ≤ 2147483647 := q18
      refine lv_iconst (v := 0) hx hb dX0_isWhole_86 (by decide) ?_
      exact hQ _ _ (0 : Int32) _ _ _ dX0_isWhole_87 L11 ⟨(mFr.upE mFr.rf eg11 rfl), rg_w kc_0 rfl, (fun h => by have : (0 : Int32).toInt = 0 := (by decide); omega)⟩
    · skip
      have ic45_17 := Int32.le_iff_toInt_le.mp (rg_nlt c45_17)
      have q19 : rg (1) (200) v10 := (rg_le (rg_nlt c45_17) q15 kc_200).1
      have uq19 : (1 : Int) ≤ v10.toInt ∧ v10.toInt ≤ 200 := q19
      refine lv_aload_n hx hb dX0_isWhole_48 rfl (lv_at hl 1 rfl) ?_
      refine c_geti x L11 0 i0 2 2 hal0 rfl rfl (wk_in kf_X0_29) dX0_isWhole_49 (fun v20 ev20 wv20 => ?_)
      refine m_top (((mm_st eg11)).trans ev20.symm) ?_
      refine c_siN (As := [.int v10]) (rest := []) x hml L11 (c_kcellsFor l X g11 v10 hX (rg_w q19 rfl)) (goodC (wk_all kd_X11_cellsFor)) (List.mem_of_getElem? (i := 2) rfl) (wk_in kt_X11_cellsFor) (wk_in kn_X11) rfl ⟨rfl, rfl⟩ hd_kcellsFor ⟨Nat.le_of_ble_eq_true rfl, Nat.le_of_ble_eq_true rfl⟩ rfl hl.1 rfl (lv_room (Nat.le_of_ble_eq_true rfl)) dX0_isWhole_52 (fun v22 g21 H21 k21 hp21 L21 => ?_)
      have rv22 : rg (1) (5) v22 := hp21.2.1
      have uv22 : (1 : Int) ≤ v22.toInt ∧ v22.toInt ≤ 5 := rv22
      have hw23 := hp21.2.2
      refine lv_iload_n hx hb dX0_isWhole_55 rfl (lv_at hl 2 rfl) ?_
      refine lv_icmp_ne (tgt := 86) hx hb dX0_isWhole_56 (by decide) (fun c56_24 => ?_) (fun c56_24 => ?_)
      · skip
        have ic56_24 : v22.toInt ≠ p1.toInt := fun z => c56_24 (Int32.toInt_inj.mp z)
        refine lv_iconst (v := 0) hx hb dX0_isWhole_86 (by decide) ?_
        exact hQ _ _ (0 : Int32) _ _ _ dX0_isWhole_87 L21 ⟨(mFr.tr (mFr.upE mFr.rf eg11 rfl) hp21.1 rfl), rg_w kc_0 rfl, (fun h => by have : (0 : Int32).toInt = 0 := (by decide); omega)⟩
      · skip
        have ic56_24 := congrArg Int32.toInt c56_24
        refine lv_aload_n hx hb dX0_isWhole_59 rfl (lv_at hl 1 rfl) ?_
        refine c_getr (a := Z.ad 16 i0) x L21 0 i0 0 hal0 rfl rfl (wk_in kf_X0_9) dX0_isWhole_60 ?_
        refine lv_iload_n hx hb dX0_isWhole_63 rfl (lv_at hl 0 rfl) ?_
        refine lv_iconst (v := 4) hx hb dX0_isWhole_64 (by decide) ?_
        refine lv_isub hx hb dX0_isWhole_65 ?_
        refine lv_topi (fun v25 ev25 => ?_)
        have rv25 : rg (44) (236) v25 := (rg_sub ev25 rv1 kc_4 rfl).1
        have tv25 := (rg_sub ev25 rv1 kc_4 rfl).2
        have y26 : (4 : Int32).toInt = 4 := by decide
        have uv25 : (44 : Int) ≤ v25.toInt ∧ v25.toInt ≤ 236 := rv25
        refine c_siN (As := [.ref (Z.ad 16 i0), .int v25]) (rest := []) x hml L21 (c_kcrcOf_16 l X g21 i0 v25 hX hal16) (goodC (wk_all kd_X11_crcOf)) (List.mem_of_getElem? (i := 3) rfl) (wk_in kt_X11_crcOf) (wk_in kn_X11) rfl ⟨rfl, rfl⟩ hd_kcrcOf_16 ⟨Nat.le_of_ble_eq_true rfl, Nat.le_of_ble_eq_true rfl⟩ rfl hl.1 rfl (lv_room (Nat.le_of_ble_eq_true rfl)) dX0_isWhole_66 (fun v28 g27 H27 k27 hp27 L27 => ?_)
        have rv28 : rg (-2147483648) (2147483647) v28 := hp27.2.1
        have uv28 : (-2147483648 : Int) ≤ v28.toInt ∧ v28.toInt ≤ 2147483647 := rv28
        refine lv_aload_n hx hb dX0_isWhole_69 rfl (lv_at hl 1 rfl) ?_
        refine c_getr (a := Z.ad 16 i0) x L27 0 i0 0 hal0 rfl rfl (wk_in kf_X0_9) dX0_isWhole_70 ?_
        refine lv_iload_n hx hb dX0_isWhole_73 rfl (lv_at hl 0 rfl) ?_
        refine lv_iconst (v := 4) hx hb dX0_isWhole_74 (by decide) ?_
        refine lv_isub hx hb dX0_isWhole_75 ?_
        refine m_top ev25 ?_
        refine c_siN (As := [.ref (Z.ad 16 i0), .int v25]) (rest := [.int v28]) x hml L27 (c_kwordAt_16 l X g27 i0 v25 hX hal16 (rg_w rv25 rfl)) (goodC (wk_all kd_X11_wordAt)) (List.mem_of_getElem? (i := 4) rfl) (wk_in kt_X11_wordAt) (wk_in kn_X11) rfl ⟨rfl, rfl⟩ hd_kwordAt_16 ⟨Nat.le_of_ble_eq_true rfl, Nat.le_of_ble_eq_true rfl⟩ rfl hl.1 rfl (lv_room (Nat.le_of_ble_eq_true rfl)) dX0_isWhole_76 (fun v30 g29 H29 k29 hp29 L29 => ?_)
        have rv30 : rg (-2147483648) (2147483647) v30 := hp29.2.1
        have uv30 : (-2147483648 : Int) ≤ v30.toInt ∧ v30.toInt ≤ 2147483647 := rv30
        refine lv_icmp_ne (tgt := 86) hx hb dX0_isWhole_79 (by decide) (fun c79_31 => ?_) (fun c79_31 => ?_)
        · skip
          have ic79_31 : v28.toInt ≠ v30.toInt := fun z => c79_31 (Int32.toInt_inj.mp z)
          refine lv_iconst (v := 0) hx hb dX0_isWhole_86 (by decide) ?_
          exact hQ _ _ (0 : Int32) _ _ _ dX0_isWhole_87 L29 ⟨(mFr.tr (mFr.tr (mFr.tr (mFr.upE mFr.rf eg11 rfl) hp21.1 rfl) hp27.1 rfl) hp29.1 rfl), rg_w kc_0 rfl, (fun h => by have : (0 : Int32).toInt = 0 := (by decide); omega)⟩
        · skip
          have ic79_31 := congrArg Int32.toInt c79_31
          refine lv_iconst (v := 1) hx hb dX0_isWhole_82 (by decide) ?_
          refine lv_goto (tgt := 87) hx hb dX0_isWhole_83 (by decide) ?_
          exact hQ _ _ (1 : Int32) _ _ _ dX0_isWhole_87 L29 ⟨(mFr.tr (mFr.tr (mFr.tr (mFr.upE mFr.rf eg11 rfl) hp21.1 rfl) hp27.1 rfl) hp29.1 rfl), rg_w kc_1 rfl, (fun _ => by rw [← (mm_fr (mm_fr (mm_fr (mm_st eg11) hp21.1 rfl) hp27.1 rfl) hp29.1 rfl)]; omega)⟩
theorem c_kisWhole (l : Launch) {G : cG} {Z : cZ} (X : Int) (g : mSt) (i0 : Nat) (p1 : Int32) (hX : 0 ≤ X ∧ X ≤ 2000000000) (hal0 : Z.al 0 i0) (hal16 : Z.al 16 i0) (rp1 : rg (1) (5) p1) : Met l yX0_isWhole (wk (Cond.code yX0_isWhole cX0_isWhole 3 (some .boolean))) rm_kisWhole (va_Pc [.ref (Z.ad 0 i0), .int p1] (cPre G Z X g)) (cQi G Z X (fun r g1 => mFr [2] g g1 ∧ rg (0) (1) r ∧ (r.toInt = 1 → 1 ≤ (g1 2 i0).toInt ∧ (g1 2 i0).toInt ≤ 200))) 0 0 (cAd Z) := by
  refine Met.ofW (cc := cX0_isWhole) (maxL := 3) (ret := (some .boolean)) (by decide) rfl ?_
  intro p e s m args below meth c s₁ B hml hv
  obtain ⟨rfl, hv⟩ := hv
  have hr := B.returns
  have hlocks := B.notSynchronized
  obtain ⟨x, L⟩ := c_start B rfl (fun w h => wk_in h) hv
  have hl := lv_entry ([.ref (Z.ad 0 i0), .int p1]) (n := 3) (Nat.le_of_ble_eq_true rfl)
  rw [lg_entry_eq]
  generalize (lg_sl ([.ref (Z.ad 0 i0), .int p1]) ++ List.replicate (3 - (lg_sl ([.ref (Z.ad 0 i0), .int p1])).length) Slot.unset).toArray = ls at hl ⊢
  exact w_kisWhole x hml L hX i0 p1 hal0 hal16 rp1 hl (fun pc' ls' r g1 H1 locs1 hdg L hp => c_zret x L hr hlocks (nar01 (rg_w hp.2.1 rfl)) (Int.le_refl _) hp hdg)

def rm_kasmAdd : Room := { frames := 2, cells := 0, slots := 0, locals := 48 }
theorem hd_kasmAdd : yX0_add.cls = cRn 0 ∧ yX0_add.cls ≠ "java/lang/invoke/MethodHandle" ∧ yX0_add.cls ≠ "java/lang/invoke/VarHandle" ∧ (parseMethodDescriptor yX0_add.desc).map (fun d => d.parameters.length) = some 2 := by decide +kernel
set_option maxHeartbeats 4000000 in
set_option maxRecDepth 100000 in
theorem w_kasmAdd {p : Program} {l : Launch} {e : Env} {s : State} {m : MethodId} {args : Array Value} {below : List Frame} {meth : Method} {c : Code} {H : Heap} {locs : List Loc} {Q : State → Prop} {ls : Array Slot} {G : cG} {Z : cZ} {g : mSt} {H0 : Heap} {X : Int} (x : cX p c cX0_add s args (wk (Cond.code yX0_add cX0_add 4 (some .int))) m G Z RX0 H0) (hml : c.maxLocals = 4) (L : cL G Z H0 X g H locs) (hX : 0 ≤ X ∧ X ≤ 2000000000) (i0 : Nat) (q1 : Nat) (p2 : Int32) (hal0 : Z.al 0 i0) (hal16 : Z.al 16 i0) (hq1 : Z.al 25 q1) (rp2 : rg (0) (1) p2) (hl : lv_has ls 4 [(0, .ref (Z.ad 0 i0)), (1, .ref (Z.ad 25 q1)), (2, .int p2)]) (hQ : ∀ (pc' : Nat) (ls' : Array Slot) (r : Int32) (g1 : mSt) (H1 : Heap) (locs1 : List Loc), decode cX0_add pc' = .ok (.ireturn, 1) → cL G Z H0 X g1 H1 locs1 → (mFr [1, 2, 512] g g1 ∧ rg (0) (2) r ∧ (r.toInt = 1 → 1 ≤ (g1 2 i0).toInt ∧ (g1 2 i0).toInt ≤ 200)) → W p l e rm_kasmAdd s m args below meth c H1 locs1 0 0 Q (F0 m pc' ls' [.int r])) : W p l e rm_kasmAdd s m args below meth c H locs 0 0 Q (F0 m 0 ls []) := by
  have hx := x.1
  have hb := x.2.1
  have hz := x.2.2.2.2.2.2.2.1
  have hzn := hz.1
  have up2 : (0 : Int) ≤ p2.toInt ∧ p2.toInt ≤ 1 := rp2
  refine lv_aload_n hx hb dX0_add_0 rfl (lv_at hl 0 rfl) ?_
  refine c_geti x L 0 i0 1 1 hal0 rfl rfl (wk_in kf_X0_15) dX0_add_1 (fun v1 ev1 wv1 => ?_)
  have rv1 : rg (0) (5) v1 := clj_1 wv1
  have uv1 : (0 : Int) ≤ v1.toInt ∧ v1.toInt ≤ 5 := rv1
  have sv1 := congrArg Int32.toInt ev1
  refine lv_iconst (v := 5) hx hb dX0_add_4 (by decide) ?_
  refine lv_icmp_ge (tgt := 15) hx hb dX0_add_5 (by decide) (fun c5_2 => ?_) (fun c5_2 => ?_)
  · skip
    have ic5_2 := Int32.le_iff_toInt_le.mp c5_2
    have q3 : rg (5) (5) v1 := (rg_le c5_2 kc_5 rv1).2
    have uq3 : (5 : Int) ≤ v1.toInt ∧ v1.toInt ≤ 5 := q3
    refine lv_iconst (v := 0) hx hb dX0_add_15 (by decide) ?_
    exact hQ _ _ (0 : Int32) _ _ _ dX0_add_16 L ⟨mFr.rf, rg_w kc_0 rfl, (fun h => by have : (0 : Int32).toInt = 0 := (by decide); omega)⟩
  · skip
    have ic5_2 := Int32.lt_iff_toInt_lt.mp (rg_nle c5_2)
    have q4 : rg (0) (4) v1 := (rg_lt (rg_nle c5_2) rv1 kc_5).1
    have uq4 : (0 : Int) ≤ v1.toInt ∧ v1.toInt ≤ 4 := q4
    refine lv_aload_n hx hb dX0_add_8 rfl (lv_at hl 1 rfl) ?_
    refine c_len (n := 48) x L 25 q1 hq1 rfl (by decide) dX0_add_9 ?_
    refine lv_bipush (v := 48) hx hb dX0_add_10 (by decide) ?_
    refine lv_icmp_ge (tgt := 17) hx hb dX0_add_12 (by decide) (fun c12_5 => ?_) (fun c12_5 => ?_)
    · skip
      refine lv_aload_n hx hb dX0_add_17 rfl (lv_at hl 1 rfl) ?_
      refine lv_iconst (v := 0) hx hb dX0_add_18 (by decide) ?_
      refine lv_aload_n hx hb dX0_add_19 rfl (lv_at hl 0 rfl) ?_
      refine c_getr (a := Z.ad 16 i0) x L 0 i0 0 hal0 rfl rfl (wk_in kf_X0_9) dX0_add_20 ?_
      refine lv_aload_n hx hb dX0_add_23 rfl (lv_at hl 0 rfl) ?_
      refine c_geti x L 0 i0 1 1 hal0 rfl rfl (wk_in kf_X0_15) dX0_add_24 (fun v6 ev6 wv6 => ?_)
      refine m_top ((ev1).trans ev6.symm) ?_
      refine lv_bipush (v := 48) hx hb dX0_add_27 (by decide) ?_
      refine lv_imul hx hb dX0_add_29 ?_
      refine lv_topi (fun v7 ev7 => ?_)
      have rv7 : rg (0) (192) v7 := (rg_mul ev7 q4 kc_48 rfl).1
      have tv7 := (rg_mul ev7 q4 kc_48 rfl).2
      have y8 : (48 : Int32).toInt = 48 := by decide
      have uv7 : (0 : Int) ≤ v7.toInt ∧ v7.toInt ≤ 192 := rv7
      refine lv_bipush (v := 48) hx hb dX0_add_30 (by decide) ?_
      refine c_copy (rest := []) x (hml.trans hl.1.symm) L 25 q1 16 i0 800 512 hq1 hal16 rfl rfl rfl rfl ⟨rfl, rfl⟩ kl_X0_19 kw_cp (Int.le_trans (by decide) kc_0.1) (Int.le_trans (by decide) rv7.1) (Int.le_trans (by decide) kc_48.1) (Int.le_trans (Int.add_le_add kc_0.2 kc_48.2) (by decide)) (Int.le_trans (Int.add_le_add rv7.2 kc_48.2) (by decide)) (Nat.le_of_ble_eq_true rfl) (Nat.le_of_ble_eq_true rfl) dX0_add_32 (fun g9 H9 k9 ec9 L9 => ?_)
      refine lv_aload_n hx hb dX0_add_35 rfl (lv_at hl 0 rfl) ?_
      refine lv_dup hx hb dX0_add_36 rfl ?_
      refine c_geti x L9 0 i0 1 1 hal0 rfl rfl (wk_in kf_X0_15) dX0_add_37 (fun v10 ev10 wv10 => ?_)
      refine m_top (((mm_fr ev1 (cCpy_fr ec9) rfl)).trans ev10.symm) ?_
      refine lv_iconst (v := 1) hx hb dX0_add_40 (by decide) ?_
      refine lv_iadd hx hb dX0_add_41 ?_
      refine lv_topi (fun v11 ev11 => ?_)
      have rv11 : rg (1) (5) v11 := (rg_add ev11 q4 kc_1 rfl).1
      have tv11 := (rg_add ev11 q4 kc_1 rfl).2
      have y12 : (1 : Int32).toInt = 1 := by decide
      have uv11 : (1 : Int) ≤ v11.toInt ∧ v11.toInt ≤ 5 := rv11
      refine c_puti x L9 0 i0 1 1 hal0 rfl rfl ⟨rfl, by decide +kernel⟩ (wk_in kf_X0_15) dX0_add_42 (crj_1 (rg_w rv11 rfl)) (fun g13 H13 k13 eg13 L13 => ?_)
      refine lv_iload_n hx hb dX0_add_45 rfl (lv_at hl 2 rfl) ?_
      refine lv_if_ne (tgt := 59) hx hb dX0_add_46 (by decide) (fun c46_14 => ?_) (fun c46_14 => ?_)
      · skip
        have ic46_14 : p2.toInt ≠ (0 : Int32).toInt := fun z => c46_14 (Int32.toInt_inj.mp z)
        have y15 : (0 : Int32).toInt = 0 := by decide
        have q16 : rg (1) (1) p2 := rg_neL c46_14 rp2 kc_0
        have uq16 : (1 : Int) ≤ p2.toInt ∧ p2.toInt ≤ 1 := q16
        refine lv_aload_n hx hb dX0_add_59 rfl (lv_at hl 0 rfl) ?_
        refine c_geti x L13 0 i0 1 1 hal0 rfl rfl (wk_in kf_X0_15) dX0_add_60 (fun v17 ev17 wv17 => ?_)
        refine m_top (((mm_st eg13)).trans ev17.symm) ?_
        refine lv_istore_n (lv' := [(3, .int v11), (0, .ref (Z.ad 0 i0)), (1, .ref (Z.ad 25 q1)), (2, .int p2)]) hx hb dX0_add_63 rfl hl (by decide) rfl (fun ls hl => ?_)
        refine lv_aload_n hx hb dX0_add_64 rfl (lv_at hl 1 rfl) ?_
        refine lv_iconst (v := 0) hx hb dX0_add_65 (by decide) ?_
        refine c_puti x L13 0 i0 1 1 hal0 rfl rfl ⟨rfl, by decide +kernel⟩ (wk_in kf_X0_15) dX0_add_66 (crj_1 (rg_w kc_0 rfl)) (fun g18 H18 k18 eg18 L18 => ?_)
        refine lv_iload_n hx hb dX0_add_69 rfl (lv_at hl 3 rfl) ?_
        refine lv_if_eq (tgt := 85) hx hb dX0_add_70 (by decide) (fun c70_19 => ?_) (fun c70_19 => ?_)
        · skip
          have ic70_19 := congrArg Int32.toInt c70_19
          have y20 : (0 : Int32).toInt = 0 := by decide
          exact absurd ((rg_eq c70_19 q16 kc_0).1 : rg (1) (0) p2) (fun q => rg_dead q rfl)
        · skip
          have ic70_19 : p2.toInt ≠ (0 : Int32).toInt := fun z => c70_19 (Int32.toInt_inj.mp z)
          have y21 : (0 : Int32).toInt = 0 := by decide
          refine lv_aload_n hx hb dX0_add_73 rfl (lv_at hl 1 rfl) ?_
          refine lv_iload_n hx hb dX0_add_74 rfl (lv_at hl 0 rfl) ?_
          refine c_ci (As := [.int v11]) (rest := []) x hml L18 0 i0 hal0 rfl (c_kisWhole l X g18 i0 v11 hX hal0 hal16 (rg_w rv11 rfl)) (wk_V kd_X0_isWhole kl_X0_25 ki_X0_isWhole ks_X0_X0_isWhole kn_X0) rfl ⟨rfl, rfl⟩ hd_kisWhole ⟨Nat.le_of_ble_eq_true rfl, Nat.le_of_ble_eq_true rfl⟩ rfl hl.1 rfl (lv_room (Nat.le_of_ble_eq_true rfl)) dX0_add_75 (fun v23 g22 H22 k22 hp22 L22 => ?_)
          have rv23 : rg (0) (1) v23 := hp22.2.1
          have uv23 : (0 : Int) ≤ v23.toInt ∧ v23.toInt ≤ 1 := rv23
          have hw24 := hp22.2.2
          refine lv_if_eq (tgt := 85) hx hb dX0_add_78 (by decide) (fun c78_25 => ?_) (fun c78_25 => ?_)
          · skip
            have ic78_25 := congrArg Int32.toInt c78_25
            have y26 : (0 : Int32).toInt = 0 := by decide
            have q27 : rg (0) (0) v23 := (rg_eq c78_25 rv23 kc_0).1
            have uq27 : (0 : Int) ≤ v23.toInt ∧ v23.toInt ≤ 0 := q27
            refine lv_iconst (v := 2) hx hb dX0_add_85 (by decide) ?_
            exact hQ _ _ (2 : Int32) _ _ _ dX0_add_86 L22 ⟨(mFr.tr (mFr.upE (mFr.upE (mFr.tr mFr.rf (cCpy_fr ec9) rfl) eg13 rfl) eg18 rfl) hp22.1 rfl), rg_w kc_2 rfl, (fun h => by have : (2 : Int32).toInt = 2 := (by decide); omega)⟩
          · skip
            have ic78_25 : v23.toInt ≠ (0 : Int32).toInt := fun z => c78_25 (Int32.toInt_inj.mp z)
            have y28 : (0 : Int32).toInt = 0 := by decide
            have q29 : rg (1) (1) v23 := rg_neL c78_25 rv23 kc_0
            have uq29 : (1 : Int) ≤ v23.toInt ∧ v23.toInt ≤ 1 := q29
            refine lv_iconst (v := 1) hx hb dX0_add_81 (by decide) ?_
            refine lv_goto (tgt := 86) hx hb dX0_add_82 (by decide) ?_
            exact hQ _ _ (1 : Int32) _ _ _ dX0_add_86 L22 ⟨(mFr.tr (mFr.upE (mFr.upE (mFr.tr mFr.rf (cCpy_fr ec9) rfl) eg13 rfl) eg18 rfl) hp22.1 rfl), rg_w kc_1 rfl, (fun _ => hw24 (by omega))⟩
      · skip
        have ic46_14 := congrArg Int32.toInt c46_14
        have y30 : (0 : Int32).toInt = 0 := by decide
        have q31 : rg (0) (0) p2 := (rg_eq c46_14 rp2 kc_0).1
        have uq31 : (0 : Int) ≤ p2.toInt ∧ p2.toInt ≤ 0 := q31
        refine lv_aload_n hx hb dX0_add_49 rfl (lv_at hl 0 rfl) ?_
        refine c_geti x L13 0 i0 1 1 hal0 rfl rfl (wk_in kf_X0_15) dX0_add_50 (fun v32 ev32 wv32 => ?_)
        refine m_top (((mm_st eg13)).trans ev32.symm) ?_
        refine lv_iconst (v := 5) hx hb dX0_add_53 (by decide) ?_
        refine lv_icmp_ge (tgt := 59) hx hb dX0_add_54 (by decide) (fun c54_33 => ?_) (fun c54_33 => ?_)
        · skip
          have ic54_33 := Int32.le_iff_toInt_le.mp c54_33
          have q34 : rg (5) (5) v11 := (rg_le c54_33 kc_5 rv11).2
          have uq34 : (5 : Int) ≤ v11.toInt ∧ v11.toInt ≤ 5 := q34
          refine lv_aload_n hx hb dX0_add_59 rfl (lv_at hl 0 rfl) ?_
          refine c_geti x L13 0 i0 1 1 hal0 rfl rfl (wk_in kf_X0_15) dX0_add_60 (fun v35 ev35 wv35 => ?_)
          refine m_top (((mm_st eg13)).trans ev35.symm) ?_
          refine lv_istore_n (lv' := [(3, .int v11), (0, .ref (Z.ad 0 i0)), (1, .ref (Z.ad 25 q1)), (2, .int p2)]) hx hb dX0_add_63 rfl hl (by decide) rfl (fun ls hl => ?_)
          refine lv_aload_n hx hb dX0_add_64 rfl (lv_at hl 1 rfl) ?_
          refine lv_iconst (v := 0) hx hb dX0_add_65 (by decide) ?_
          refine c_puti x L13 0 i0 1 1 hal0 rfl rfl ⟨rfl, by decide +kernel⟩ (wk_in kf_X0_15) dX0_add_66 (crj_1 (rg_w kc_0 rfl)) (fun g36 H36 k36 eg36 L36 => ?_)
          refine lv_iload_n hx hb dX0_add_69 rfl (lv_at hl 3 rfl) ?_
          refine lv_if_eq (tgt := 85) hx hb dX0_add_70 (by decide) (fun c70_37 => ?_) (fun c70_37 => ?_)
          · skip
            have ic70_37 := congrArg Int32.toInt c70_37
            have y38 : (0 : Int32).toInt = 0 := by decide
            refine lv_iconst (v := 2) hx hb dX0_add_85 (by decide) ?_
            exact hQ _ _ (2 : Int32) _ _ _ dX0_add_86 L36 ⟨(mFr.upE (mFr.upE (mFr.tr mFr.rf (cCpy_fr ec9) rfl) eg13 rfl) eg36 rfl), rg_w kc_2 rfl, (fun h => by have : (2 : Int32).toInt = 2 := (by decide); omega)⟩
          · skip
            have ic70_37 : p2.toInt ≠ (0 : Int32).toInt := fun z => c70_37 (Int32.toInt_inj.mp z)
            have y39 : (0 : Int32).toInt = 0 := by decide
            exact absurd (rg_neH c70_37 q31 kc_0 : rg (0) (-1) p2) (fun q => rg_dead q rfl)
        · skip
          have ic54_33 := Int32.lt_iff_toInt_lt.mp (rg_nle c54_33)
          have q40 : rg (1) (4) v11 := (rg_lt (rg_nle c54_33) rv11 kc_5).1
          have uq40 : (1 : Int) ≤ v11.toInt ∧ v11.toInt ≤ 4 := q40
          refine lv_iconst (v := 0) hx hb dX0_add_57 (by decide) ?_
          exact hQ _ _ (0 : Int32) _ _ _ dX0_add_58 L13 ⟨(mFr.upE (mFr.tr mFr.rf (cCpy_fr ec9) rfl) eg13 rfl), rg_w kc_0 rfl, (fun h => by have : (0 : Int32).toInt = 0 := (by decide); omega)⟩
    · skip
      exact absurd c12_5 (by decide)
theorem c_kasmAdd (l : Launch) {G : cG} {Z : cZ} (X : Int) (g : mSt) (i0 : Nat) (q1 : Nat) (p2 : Int32) (hX : 0 ≤ X ∧ X ≤ 2000000000) (hal0 : Z.al 0 i0) (hal16 : Z.al 16 i0) (hq1 : Z.al 25 q1) (rp2 : rg (0) (1) p2) : Met l yX0_add (wk (Cond.code yX0_add cX0_add 4 (some .int))) rm_kasmAdd (va_Pc [.ref (Z.ad 0 i0), .ref (Z.ad 25 q1), .int p2] (cPre G Z X g)) (cQi G Z X (fun r g1 => mFr [1, 2, 512] g g1 ∧ rg (0) (2) r ∧ (r.toInt = 1 → 1 ≤ (g1 2 i0).toInt ∧ (g1 2 i0).toInt ≤ 200))) 0 0 (cAd Z) := by
  refine Met.ofW (cc := cX0_add) (maxL := 4) (ret := (some .int)) (by decide) rfl ?_
  intro p e s m args below meth c s₁ B hml hv
  obtain ⟨rfl, hv⟩ := hv
  have hr := B.returns
  have hlocks := B.notSynchronized
  obtain ⟨x, L⟩ := c_start B rfl (fun w h => wk_in h) hv
  have hl := lv_entry ([.ref (Z.ad 0 i0), .ref (Z.ad 25 q1), .int p2]) (n := 4) (Nat.le_of_ble_eq_true rfl)
  rw [lg_entry_eq]
  generalize (lg_sl ([.ref (Z.ad 0 i0), .ref (Z.ad 25 q1), .int p2]) ++ List.replicate (4 - (lg_sl ([.ref (Z.ad 0 i0), .ref (Z.ad 25 q1), .int p2])).length) Slot.unset).toArray = ls at hl ⊢
  exact w_kasmAdd x hml L hX i0 q1 p2 hal0 hal16 hq1 rp2 hl (fun pc' ls' r g1 H1 locs1 hdg L hp => c_iret x L hr hlocks (Int.le_refl _) hp hdg)

def rm_kcameAhead : Room := { frames := 0, cells := 0, slots := 0, locals := 0 }
theorem hd_kcameAhead : yX5_cameAhead.cls = cRn 5 ∧ yX5_cameAhead.cls ≠ "java/lang/invoke/MethodHandle" ∧ yX5_cameAhead.cls ≠ "java/lang/invoke/VarHandle" ∧ (parseMethodDescriptor yX5_cameAhead.desc).map (fun d => d.parameters.length) = some 0 := by decide +kernel
set_option maxHeartbeats 4000000 in
set_option maxRecDepth 100000 in
theorem w_kcameAhead {p : Program} {l : Launch} {e : Env} {s : State} {m : MethodId} {args : Array Value} {below : List Frame} {meth : Method} {c : Code} {H : Heap} {locs : List Loc} {Q : State → Prop} {ls : Array Slot} {G : cG} {Z : cZ} {g : mSt} {H0 : Heap} {X : Int} (x : cX p c cX5_cameAhead s args (wk (Cond.code yX5_cameAhead cX5_cameAhead 3 (some .int))) m G Z RX5 H0) (hml : c.maxLocals = 3) (L : cL G Z H0 X g H locs) (hX : 0 ≤ X ∧ X ≤ 2000000000) (i0 : Nat) (hi0 : i0 < 2 * Z.n) (hl : lv_has ls 3 [(0, .ref (Z.ad 5 i0))]) (hQ : ∀ (pc' : Nat) (ls' : Array Slot) (r : Int32) (g1 : mSt) (H1 : Heap) (locs1 : List Loc), decode cX5_cameAhead pc' = .ok (.ireturn, 1) → cL G Z H0 X g1 H1 locs1 → (mFr [] g g1 ∧ rg (-2147483648) (2147483647) r ∧ True) → W p l e rm_kcameAhead s m args below meth c H1 locs1 0 0 Q (F0 m pc' ls' [.int r])) : W p l e rm_kcameAhead s m args below meth c H locs 0 0 Q (F0 m 0 ls []) := by
  have hx := x.1
  have hb := x.2.1
  have hz := x.2.2.2.2.2.2.2.1
  have hzn := hz.1
  have hal0 : Z.al 5 i0 := hz.2 5 i0 (show i0 < 2 * Z.n from hi0)
  refine lv_iconst (v := 0) hx hb dX5_cameAhead_0 (by decide) ?_
  refine lv_istore_n (lv' := [(1, .int (0 : Int32)), (0, .ref (Z.ad 5 i0))]) hx hb dX5_cameAhead_1 rfl hl (by decide) rfl (fun ls hl => ?_)
  refine lv_iconst (v := 0) hx hb dX5_cameAhead_2 (by decide) ?_
  refine lv_istore_n (lv' := [(2, .int (0 : Int32)), (1, .int (0 : Int32)), (0, .ref (Z.ad 5 i0))]) hx hb dX5_cameAhead_3 rfl hl (by decide) rfl (fun ls hl => ?_)
  have j4_3 : ∀ (n : Nat) (a4_1_1 a4_2_2 : Int32) (g3 : mSt) (H3 : Heap) (k3 : List Loc) (ls : Array Slot), mFr [] g g3 → cL G Z H0 X g3 H3 k3 → rg (-2147483648) (2147483647) a4_1_1 → rg (0) (8) a4_2_2 → lv_has ls 3 [(0, .ref (Z.ad 5 i0)), (1, .int a4_1_1), (2, .int a4_2_2)] → ((8 : Int) - a4_2_2.toInt).toNat = n → W p l e rm_kcameAhead s m args below meth c H3 k3 0 0 Q (F0 m 4 ls []) := by
    intro n
    induction n using Nat.strongRecOn with
    | _ n ih3 =>
      intro a4_1_1 a4_2_2 g3 H3 k3 ls hF3 L3 ra4_1_1 ra4_2_2 hl hn3
      subst hn3
      refine lv_iload_n hx hb dX5_cameAhead_4 rfl (lv_at hl 2 rfl) ?_
      refine lv_bipush (v := 8) hx hb dX5_cameAhead_5 (by decide) ?_
      refine lv_icmp_ge (tgt := 36) hx hb dX5_cameAhead_7 (by decide) (fun c7_4 => ?_) (fun c7_4 => ?_)
      · skip
        have q5 : rg (8) (8) a4_2_2 := (rg_le c7_4 kc_8 ra4_2_2).2
        refine lv_iload_n hx hb dX5_cameAhead_36 rfl (lv_at hl 1 rfl) ?_
        exact hQ _ _ a4_1_1 _ _ _ dX5_cameAhead_37 L3 ⟨(mFr.tr mFr.rf hF3 rfl), rg_w ra4_1_1 rfl, trivial⟩
      · skip
        have q6 : rg (0) (7) a4_2_2 := (rg_lt (rg_nle c7_4) ra4_2_2 kc_8).1
        refine lv_iload_n hx hb dX5_cameAhead_10 rfl (lv_at hl 1 rfl) ?_
        refine lv_aload_n hx hb dX5_cameAhead_11 rfl (lv_at hl 0 rfl) ?_
        have al7 : Z.al 13 (2 * i0 + 1) := hz.2 13 (2 * i0 + 1) (show (2 * i0 + 1) < 4 * Z.n from (by omega))
        refine c_getr (a := Z.ad 13 (2 * i0 + 1)) x L3 5 i0 3 hal0 rfl rfl (wk_in kf_X5_23) dX5_cameAhead_12 ?_
        have al8 : Z.al 40 (2 * i0 + 1) := hz.2 40 (2 * i0 + 1) (show (2 * i0 + 1) < 4 * Z.n from (by omega))
        refine c_getr (a := Z.ad 40 (2 * i0 + 1)) x L3 13 (2 * i0 + 1) 2 al7 rfl rfl (wk_in kf_X5_65) dX5_cameAhead_15 ?_
        refine lv_iload_n hx hb dX5_cameAhead_18 rfl (lv_at hl 2 rfl) ?_
        refine c_ld x L3 40 (2 * i0 + 1) 1280 al8 rfl rfl q6 rfl dX5_cameAhead_19 (fun v9 ev9 wv9 => ?_)
        have rv9 : rg (0) (60) v9 := clj_1280 wv9
        have j28_11 : ∀ (b28_1_10 : Int32) (g11 : mSt) (H11 : Heap) (k11 : List Loc) (ls : Array Slot), mFr [] g3 g11 → cL G Z H0 X g11 H11 k11 → rg (0) (1) b28_1_10 → lv_has ls 3 [(0, .ref (Z.ad 5 i0)), (2, .int a4_2_2)] → W p l e rm_kcameAhead s m args below meth c H11 k11 0 0 Q (F0 m 28 ls [.int b28_1_10, .int a4_1_1]) := by
          intro b28_1_10 g11 H11 k11 ls hF11 L11 rb28_1_10 hl
          refine lv_iadd hx hb dX5_cameAhead_28 ?_
          refine lv_topi (fun v12 ev12 => ?_)
          have rv12 : rg (-2147483648) (2147483647) v12 := rg_any v12
          refine lv_istore_n (lv' := [(1, .int v12), (0, .ref (Z.ad 5 i0)), (2, .int a4_2_2)]) hx hb dX5_cameAhead_29 rfl hl (by decide) rfl (fun ls hl => ?_)
          obtain ⟨v13, ev13, fv13⟩ := inc_ex a4_2_2 (1) (1 : Int32) (by decide)
          have rv13 : rg (1) (8) v13 := (rg_add ev13 q6 kc_1 rfl).1
          have tv13 := (rg_add ev13 q6 kc_1 rfl).2
          refine lv_iinc (v := v13) (lv' := [(2, .int v13), (1, .int v12), (0, .ref (Z.ad 5 i0))]) hx hb dX5_cameAhead_30 hl (k := 2) rfl fv13 (by decide) rfl (fun ls hl => ?_)
          refine lv_goto (tgt := 4) hx hb dX5_cameAhead_33 (by decide) ?_
          exact ih3 _ (ms_up tv13 kc_1 q6 rfl rfl) v12 v13 g11 _ _ ls (mFr.tr hF3 hF11 rfl) L11 (rg_w rv12 rfl) (rg_w rv13 rfl) (lv_sub hl [2, 1, 0] rfl) rfl
        refine lv_if_le (tgt := 27) hx hb dX5_cameAhead_20 (by decide) (fun c20_14 => ?_) (fun c20_14 => ?_)
        · skip
          have q15 : rg (0) (0) v9 := (rg_le c20_14 rv9 kc_0).1
          refine lv_iconst (v := 0) hx hb dX5_cameAhead_27 (by decide) ?_
          exact j28_11 (0 : Int32) g3 _ _ ls mFr.rf L3 (rg_w kc_0 rfl) (lv_sub hl [0, 2] rfl)
        · skip
          have q16 : rg (1) (60) v9 := (rg_lt (rg_nle c20_14) kc_0 rv9).2
          refine lv_iconst (v := 1) hx hb dX5_cameAhead_23 (by decide) ?_
          refine lv_goto (tgt := 28) hx hb dX5_cameAhead_24 (by decide) ?_
          exact j28_11 (1 : Int32) g3 _ _ ls mFr.rf L3 (rg_w kc_1 rfl) (lv_sub hl [0, 2] rfl)
  exact j4_3 _ (0 : Int32) (0 : Int32) g _ _ ls mFr.rf L (rg_w kc_0 rfl) (rg_w kc_0 rfl) (lv_sub hl [2, 1, 0] rfl) rfl
theorem c_kcameAhead (l : Launch) {G : cG} {Z : cZ} (X : Int) (g : mSt) (i0 : Nat) (hX : 0 ≤ X ∧ X ≤ 2000000000) (hi0 : i0 < 2 * Z.n) : Met l yX5_cameAhead (wk (Cond.code yX5_cameAhead cX5_cameAhead 3 (some .int))) rm_kcameAhead (va_Pc [.ref (Z.ad 5 i0)] (cPre G Z X g)) (cQi G Z X (fun r g1 => mFr [] g g1 ∧ rg (-2147483648) (2147483647) r ∧ True)) 0 0 (cAd Z) := by
  refine Met.ofW (cc := cX5_cameAhead) (maxL := 3) (ret := (some .int)) (by decide) rfl ?_
  intro p e s m args below meth c s₁ B hml hv
  obtain ⟨rfl, hv⟩ := hv
  have hr := B.returns
  have hlocks := B.notSynchronized
  obtain ⟨x, L⟩ := c_start B rfl (fun w h => wk_in h) hv
  have hl := lv_entry ([.ref (Z.ad 5 i0)]) (n := 3) (Nat.le_of_ble_eq_true rfl)
  rw [lg_entry_eq]
  generalize (lg_sl ([.ref (Z.ad 5 i0)]) ++ List.replicate (3 - (lg_sl ([.ref (Z.ad 5 i0)])).length) Slot.unset).toArray = ls at hl ⊢
  exact w_kcameAhead x hml L hX i0 hi0 hl (fun pc' ls' r g1 H1 locs1 hdg L hp => c_iret x L hr hlocks (Int.le_refl _) hp hdg)
