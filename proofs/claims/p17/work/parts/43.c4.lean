def rm_kisEnd : Room := { frames := 0, cells := 0, slots := 0, locals := 0 }
theorem hd_kisEnd : yX11_isEnd.cls = cRn 11 ∧ yX11_isEnd.cls ≠ "java/lang/invoke/MethodHandle" ∧ yX11_isEnd.cls ≠ "java/lang/invoke/VarHandle" ∧ (parseMethodDescriptor yX11_isEnd.desc).map (fun d => d.parameters.length) = some 1 := by decide +kernel
set_option maxHeartbeats 4000000 in
set_option maxRecDepth 100000 in
theorem w_kisEnd {p : Program} {l : Launch} {e : Env} {s : State} {m : MethodId} {args : Array Value} {below : List Frame} {meth : Method} {c : Code} {H : Heap} {locs : List Loc} {Q : State → Prop} {ls : Array Slot} {G : cG} {Z : cZ} {A : Nat → Prop} {g : mSt} {H0 : Heap} {X : Int} (x : cX p c cX11_isEnd s args (wk (Cond.code yX11_isEnd cX11_isEnd 2 (some .boolean))) m G Z A RX11 H0) (hml : c.maxLocals = 2) (L : cL G Z A H0 X g H locs) (hX : 0 ≤ X ∧ X ≤ 2000000000) (i0 : Nat) (p1 : Int32) (hal0 : Z.al 11 i0) (hl : lv_has ls 2 [(0, .ref (Z.ad 11 i0)), (1, .int p1)]) (hQ : ∀ (pc' : Nat) (ls' : Array Slot) (r : Int32) (g1 : mSt) (H1 : Heap) (locs1 : List Loc), decode cX11_isEnd pc' = .ok (.ireturn, 1) → cL G Z A H0 X g1 H1 locs1 → (mFr [] g g1 ∧ rg (0) (1) r ∧ (r.toInt ≠ 0 → 0 ≤ p1.toInt ∧ p1.toInt < (Z.n : Int))) → W p l e rm_kisEnd s m args below meth c H1 locs1 0 0 Q (F0 m pc' ls' [.int r])) : W p l e rm_kisEnd s m args below meth c H locs 0 0 Q (F0 m 0 ls []) := by
  have hx := x.1
  have hb := x.2.1
  have hz := x.2.2.2.2.2.2.2.1
  have hzn := hz.1
  have up1 : (-2147483648 : Int) ≤ p1.toInt ∧ p1.toInt ≤ 2147483647 := (rg_any p1)
  refine lv_iload_n hx hb dX11_isEnd_0 rfl (lv_at hl 1 rfl) ?_
  refine lv_if_lt (tgt := 16) hx hb dX11_isEnd_1 (by decide) (fun c1_1 => ?_) (fun c1_1 => ?_)
  · skip
    have ic1_1 := Int32.lt_iff_toInt_lt.mp c1_1
    have q2 : rg (-2147483648) (-1) p1 := (rg_lt c1_1 (rg_any p1) kc_0).1
    have uq2 : (-2147483648 : Int) ≤ p1.toInt ∧ p1.toInt ≤ -1 := q2
    refine lv_iconst (v := 0) hx hb dX11_isEnd_16 (by decide) ?_
    exact hQ _ _ (0 : Int32) _ _ _ dX11_isEnd_17 L ⟨mFr.rf, rg_w kc_0 rfl, (by have : (0 : Int32).toInt = 0 := (by decide); omega)⟩
  · skip
    have ic1_1 := Int32.le_iff_toInt_le.mp (rg_nlt c1_1)
    have q3 : rg (0) (2147483647) p1 := (rg_le (rg_nlt c1_1) kc_0 (rg_any p1)).2
    have uq3 : (0 : Int) ≤ p1.toInt ∧ p1.toInt ≤ 2147483647 := q3
    refine lv_iload_n hx hb dX11_isEnd_4 rfl (lv_at hl 1 rfl) ?_
    refine lv_aload_n hx hb dX11_isEnd_5 rfl (lv_at hl 0 rfl) ?_
    refine c_getc x L 11 i0 0 hal0 rfl (wk_in kf_X11_55) dX11_isEnd_6 (fun v4 ev4 => ?_)
    have tv4 : v4.toInt = (Z.n : Int) := cCv_11 ev4 hzn
    have rv4 : rg (2) (4) v4 := ⟨by omega, by omega⟩
    refine lv_icmp_ge (tgt := 16) hx hb dX11_isEnd_9 (by decide) (fun c9_5 => ?_) (fun c9_5 => ?_)
    · skip
      have ic9_5 := Int32.le_iff_toInt_le.mp c9_5
      have q6 : rg (2) (2147483647) p1 := (rg_le c9_5 rv4 q3).2
      have uq6 : (2 : Int) ≤ p1.toInt ∧ p1.toInt ≤ 2147483647 := q6
      refine lv_iconst (v := 0) hx hb dX11_isEnd_16 (by decide) ?_
      exact hQ _ _ (0 : Int32) _ _ _ dX11_isEnd_17 L ⟨mFr.rf, rg_w kc_0 rfl, (by have : (0 : Int32).toInt = 0 := (by decide); omega)⟩
    · skip
      have ic9_5 := Int32.lt_iff_toInt_lt.mp (rg_nle c9_5)
      have q7 : rg (0) (3) p1 := (rg_lt (rg_nle c9_5) q3 rv4).1
      have uq7 : (0 : Int) ≤ p1.toInt ∧ p1.toInt ≤ 3 := q7
      refine lv_iconst (v := 1) hx hb dX11_isEnd_12 (by decide) ?_
      refine lv_goto (tgt := 17) hx hb dX11_isEnd_13 (by decide) ?_
      exact hQ _ _ (1 : Int32) _ _ _ dX11_isEnd_17 L ⟨mFr.rf, rg_w kc_1 rfl, (by have : (1 : Int32).toInt = 1 := (by decide); omega)⟩
theorem c_kisEnd (l : Launch) {G : cG} {Z : cZ} (X : Int) (g : mSt) (i0 : Nat) (p1 : Int32) (hX : 0 ≤ X ∧ X ≤ 2000000000) (hal0 : Z.al 11 i0) : Met l yX11_isEnd (wk (Cond.code yX11_isEnd cX11_isEnd 2 (some .boolean))) rm_kisEnd (va_Pc [.ref (Z.ad 11 i0), .int p1] (cPre G Z X g)) (cQi G Z X (fun r g1 => mFr [] g g1 ∧ rg (0) (1) r ∧ (r.toInt ≠ 0 → 0 ≤ p1.toInt ∧ p1.toInt < (Z.n : Int)))) 0 0 (cAd Z) := by
  refine Met.ofW (cc := cX11_isEnd) (maxL := 2) (ret := (some .boolean)) (by decide) rfl ?_
  intro p e s m args below meth c s₁ B hml hv
  obtain ⟨rfl, hv⟩ := hv
  have hr := B.returns
  have hlocks := B.notSynchronized
  obtain ⟨x, L⟩ := c_start B rfl (fun w h => wk_in h) hv
  have hl := lv_entry ([.ref (Z.ad 11 i0), .int p1]) (n := 2) (Nat.le_of_ble_eq_true rfl)
  rw [lg_entry_eq]
  generalize (lg_sl ([.ref (Z.ad 11 i0), .int p1]) ++ List.replicate (2 - (lg_sl ([.ref (Z.ad 11 i0), .int p1])).length) Slot.unset).toArray = ls at hl ⊢
  exact w_kisEnd x hml L hX i0 p1 hal0 hl (fun pc' ls' r g1 H1 locs1 hdg L hp => c_zret x L hr hlocks (nar01 (rg_w hp.2.1 rfl)) (Int.le_refl _) hp hdg)

def rm_kisSide : Room := { frames := 0, cells := 0, slots := 0, locals := 0 }
theorem hd_kisSide : yX11_isSide.cls = cRn 11 ∧ yX11_isSide.cls ≠ "java/lang/invoke/MethodHandle" ∧ yX11_isSide.cls ≠ "java/lang/invoke/VarHandle" ∧ (parseMethodDescriptor yX11_isSide.desc).map (fun d => d.parameters.length) = some 1 := by decide +kernel
set_option maxHeartbeats 4000000 in
set_option maxRecDepth 100000 in
theorem w_kisSide {p : Program} {l : Launch} {e : Env} {s : State} {m : MethodId} {args : Array Value} {below : List Frame} {meth : Method} {c : Code} {H : Heap} {locs : List Loc} {Q : State → Prop} {ls : Array Slot} {G : cG} {Z : cZ} {A : Nat → Prop} {g : mSt} {H0 : Heap} {X : Int} (x : cX p c cX11_isSide s args (wk (Cond.code yX11_isSide cX11_isSide 2 (some .boolean))) m G Z A RX11 H0) (hml : c.maxLocals = 2) (L : cL G Z A H0 X g H locs) (hX : 0 ≤ X ∧ X ≤ 2000000000) (i0 : Nat) (p1 : Int32) (hal0 : Z.al 11 i0) (hl : lv_has ls 2 [(0, .ref (Z.ad 11 i0)), (1, .int p1)]) (hQ : ∀ (pc' : Nat) (ls' : Array Slot) (r : Int32) (g1 : mSt) (H1 : Heap) (locs1 : List Loc), decode cX11_isSide pc' = .ok (.ireturn, 1) → cL G Z A H0 X g1 H1 locs1 → (mFr [] g g1 ∧ rg (0) (1) r ∧ (r.toInt ≠ 0 → 0 ≤ p1.toInt ∧ p1.toInt < 2 * (Z.n : Int))) → W p l e rm_kisSide s m args below meth c H1 locs1 0 0 Q (F0 m pc' ls' [.int r])) : W p l e rm_kisSide s m args below meth c H locs 0 0 Q (F0 m 0 ls []) := by
  have hx := x.1
  have hb := x.2.1
  have hz := x.2.2.2.2.2.2.2.1
  have hzn := hz.1
  have up1 : (-2147483648 : Int) ≤ p1.toInt ∧ p1.toInt ≤ 2147483647 := (rg_any p1)
  refine lv_iload_n hx hb dX11_isSide_0 rfl (lv_at hl 1 rfl) ?_
  refine lv_if_lt (tgt := 17) hx hb dX11_isSide_1 (by decide) (fun c1_1 => ?_) (fun c1_1 => ?_)
  · skip
    have ic1_1 := Int32.lt_iff_toInt_lt.mp c1_1
    have q2 : rg (-2147483648) (-1) p1 := (rg_lt c1_1 (rg_any p1) kc_0).1
    have uq2 : (-2147483648 : Int) ≤ p1.toInt ∧ p1.toInt ≤ -1 := q2
    refine lv_iconst (v := 0) hx hb dX11_isSide_17 (by decide) ?_
    exact hQ _ _ (0 : Int32) _ _ _ dX11_isSide_18 L ⟨mFr.rf, rg_w kc_0 rfl, (by have : (0 : Int32).toInt = 0 := (by decide); omega)⟩
  · skip
    have ic1_1 := Int32.le_iff_toInt_le.mp (rg_nlt c1_1)
    have q3 : rg (0) (2147483647) p1 := (rg_le (rg_nlt c1_1) kc_0 (rg_any p1)).2
    have uq3 : (0 : Int) ≤ p1.toInt ∧ p1.toInt ≤ 2147483647 := q3
    refine lv_iload_n hx hb dX11_isSide_4 rfl (lv_at hl 1 rfl) ?_
    refine lv_aload_n hx hb dX11_isSide_5 rfl (lv_at hl 0 rfl) ?_
    have al4 : Z.al 52 0 := hz.2 52 0 (show 0 < 1 from (by omega))
    refine c_getr (a := Z.ad 52 0) x L 11 i0 4 hal0 rfl rfl (wk_in kf_X11_71) dX11_isSide_6 ?_
    refine c_lenr x L 52 0 al4 rfl (show (2 * Z.n) ≤ 2147483647 from (by omega)) dX11_isSide_9 (fun v5 ev5 => ?_)
    have tv5 : v5.toInt = (((2 * Z.n) : Nat) : Int) := ev5
    have rv5 : rg (4) (8) v5 := ⟨by omega, by omega⟩
    refine lv_icmp_ge (tgt := 17) hx hb dX11_isSide_10 (by decide) (fun c10_6 => ?_) (fun c10_6 => ?_)
    · skip
      have ic10_6 := Int32.le_iff_toInt_le.mp c10_6
      have q7 : rg (4) (2147483647) p1 := (rg_le c10_6 rv5 q3).2
      have uq7 : (4 : Int) ≤ p1.toInt ∧ p1.toInt ≤ 2147483647 := q7
      refine lv_iconst (v := 0) hx hb dX11_isSide_17 (by decide) ?_
      exact hQ _ _ (0 : Int32) _ _ _ dX11_isSide_18 L ⟨mFr.rf, rg_w kc_0 rfl, (by have : (0 : Int32).toInt = 0 := (by decide); omega)⟩
    · skip
      have ic10_6 := Int32.lt_iff_toInt_lt.mp (rg_nle c10_6)
      have q8 : rg (0) (7) p1 := (rg_lt (rg_nle c10_6) q3 rv5).1
      have uq8 : (0 : Int) ≤ p1.toInt ∧ p1.toInt ≤ 7 := q8
      refine lv_iconst (v := 1) hx hb dX11_isSide_13 (by decide) ?_
      refine lv_goto (tgt := 18) hx hb dX11_isSide_14 (by decide) ?_
      exact hQ _ _ (1 : Int32) _ _ _ dX11_isSide_18 L ⟨mFr.rf, rg_w kc_1 rfl, (by have : (1 : Int32).toInt = 1 := (by decide); omega)⟩
theorem c_kisSide (l : Launch) {G : cG} {Z : cZ} (X : Int) (g : mSt) (i0 : Nat) (p1 : Int32) (hX : 0 ≤ X ∧ X ≤ 2000000000) (hal0 : Z.al 11 i0) : Met l yX11_isSide (wk (Cond.code yX11_isSide cX11_isSide 2 (some .boolean))) rm_kisSide (va_Pc [.ref (Z.ad 11 i0), .int p1] (cPre G Z X g)) (cQi G Z X (fun r g1 => mFr [] g g1 ∧ rg (0) (1) r ∧ (r.toInt ≠ 0 → 0 ≤ p1.toInt ∧ p1.toInt < 2 * (Z.n : Int)))) 0 0 (cAd Z) := by
  refine Met.ofW (cc := cX11_isSide) (maxL := 2) (ret := (some .boolean)) (by decide) rfl ?_
  intro p e s m args below meth c s₁ B hml hv
  obtain ⟨rfl, hv⟩ := hv
  have hr := B.returns
  have hlocks := B.notSynchronized
  obtain ⟨x, L⟩ := c_start B rfl (fun w h => wk_in h) hv
  have hl := lv_entry ([.ref (Z.ad 11 i0), .int p1]) (n := 2) (Nat.le_of_ble_eq_true rfl)
  rw [lg_entry_eq]
  generalize (lg_sl ([.ref (Z.ad 11 i0), .int p1]) ++ List.replicate (2 - (lg_sl ([.ref (Z.ad 11 i0), .int p1])).length) Slot.unset).toArray = ls at hl ⊢
  exact w_kisSide x hml L hX i0 p1 hal0 hl (fun pc' ls' r g1 H1 locs1 hdg L hp => c_zret x L hr hlocks (nar01 (rg_w hp.2.1 rfl)) (Int.le_refl _) hp hdg)

def rm_kisDirection : Room := { frames := 0, cells := 0, slots := 0, locals := 0 }
theorem hd_kisDirection : yX11_isDirection.cls = cRn 11 ∧ yX11_isDirection.cls ≠ "java/lang/invoke/MethodHandle" ∧ yX11_isDirection.cls ≠ "java/lang/invoke/VarHandle" ∧ (parseMethodDescriptor yX11_isDirection.desc).map (fun d => d.parameters.length) = some 1 := by decide +kernel
set_option maxHeartbeats 4000000 in
set_option maxRecDepth 100000 in
theorem w_kisDirection {p : Program} {l : Launch} {e : Env} {s : State} {m : MethodId} {args : Array Value} {below : List Frame} {meth : Method} {c : Code} {H : Heap} {locs : List Loc} {Q : State → Prop} {ls : Array Slot} {G : cG} {Z : cZ} {A : Nat → Prop} {g : mSt} {H0 : Heap} {X : Int} (x : cX p c cX11_isDirection s args (wk (Cond.code yX11_isDirection cX11_isDirection 2 (some .boolean))) m G Z A RX11 H0) (hml : c.maxLocals = 2) (L : cL G Z A H0 X g H locs) (hX : 0 ≤ X ∧ X ≤ 2000000000) (i0 : Nat) (p1 : Int32) (hal0 : Z.al 11 i0) (hl : lv_has ls 2 [(0, .ref (Z.ad 11 i0)), (1, .int p1)]) (hQ : ∀ (pc' : Nat) (ls' : Array Slot) (r : Int32) (g1 : mSt) (H1 : Heap) (locs1 : List Loc), decode cX11_isDirection pc' = .ok (.ireturn, 1) → cL G Z A H0 X g1 H1 locs1 → (mFr [] g g1 ∧ rg (0) (1) r ∧ (r.toInt ≠ 0 → 0 ≤ p1.toInt ∧ p1.toInt < 2 * (Z.n : Int))) → W p l e rm_kisDirection s m args below meth c H1 locs1 0 0 Q (F0 m pc' ls' [.int r])) : W p l e rm_kisDirection s m args below meth c H locs 0 0 Q (F0 m 0 ls []) := by
  have hx := x.1
  have hb := x.2.1
  have hz := x.2.2.2.2.2.2.2.1
  have hzn := hz.1
  have up1 : (-2147483648 : Int) ≤ p1.toInt ∧ p1.toInt ≤ 2147483647 := (rg_any p1)
  refine lv_iload_n hx hb dX11_isDirection_0 rfl (lv_at hl 1 rfl) ?_
  refine lv_if_lt (tgt := 17) hx hb dX11_isDirection_1 (by decide) (fun c1_1 => ?_) (fun c1_1 => ?_)
  · skip
    have ic1_1 := Int32.lt_iff_toInt_lt.mp c1_1
    have q2 : rg (-2147483648) (-1) p1 := (rg_lt c1_1 (rg_any p1) kc_0).1
    have uq2 : (-2147483648 : Int) ≤ p1.toInt ∧ p1.toInt ≤ -1 := q2
    refine lv_iconst (v := 0) hx hb dX11_isDirection_17 (by decide) ?_
    exact hQ _ _ (0 : Int32) _ _ _ dX11_isDirection_18 L ⟨mFr.rf, rg_w kc_0 rfl, (by have : (0 : Int32).toInt = 0 := (by decide); omega)⟩
  · skip
    have ic1_1 := Int32.le_iff_toInt_le.mp (rg_nlt c1_1)
    have q3 : rg (0) (2147483647) p1 := (rg_le (rg_nlt c1_1) kc_0 (rg_any p1)).2
    have uq3 : (0 : Int) ≤ p1.toInt ∧ p1.toInt ≤ 2147483647 := q3
    refine lv_iload_n hx hb dX11_isDirection_4 rfl (lv_at hl 1 rfl) ?_
    refine lv_aload_n hx hb dX11_isDirection_5 rfl (lv_at hl 0 rfl) ?_
    have al4 : Z.al 50 0 := hz.2 50 0 (show 0 < 1 from (by omega))
    refine c_getr (a := Z.ad 50 0) x L 11 i0 1 hal0 rfl rfl (wk_in kf_X11_59) dX11_isDirection_6 ?_
    refine c_lenr x L 50 0 al4 rfl (show (2 * Z.n) ≤ 2147483647 from (by omega)) dX11_isDirection_9 (fun v5 ev5 => ?_)
    have tv5 : v5.toInt = (((2 * Z.n) : Nat) : Int) := ev5
    have rv5 : rg (4) (8) v5 := ⟨by omega, by omega⟩
    refine lv_icmp_ge (tgt := 17) hx hb dX11_isDirection_10 (by decide) (fun c10_6 => ?_) (fun c10_6 => ?_)
    · skip
      have ic10_6 := Int32.le_iff_toInt_le.mp c10_6
      have q7 : rg (4) (2147483647) p1 := (rg_le c10_6 rv5 q3).2
      have uq7 : (4 : Int) ≤ p1.toInt ∧ p1.toInt ≤ 2147483647 := q7
      refine lv_iconst (v := 0) hx hb dX11_isDirection_17 (by decide) ?_
      exact hQ _ _ (0 : Int32) _ _ _ dX11_isDirection_18 L ⟨mFr.rf, rg_w kc_0 rfl, (by have : (0 : Int32).toInt = 0 := (by decide); omega)⟩
    · skip
      have ic10_6 := Int32.lt_iff_toInt_lt.mp (rg_nle c10_6)
      have q8 : rg (0) (7) p1 := (rg_lt (rg_nle c10_6) q3 rv5).1
      have uq8 : (0 : Int) ≤ p1.toInt ∧ p1.toInt ≤ 7 := q8
      refine lv_iconst (v := 1) hx hb dX11_isDirection_13 (by decide) ?_
      refine lv_goto (tgt := 18) hx hb dX11_isDirection_14 (by decide) ?_
      exact hQ _ _ (1 : Int32) _ _ _ dX11_isDirection_18 L ⟨mFr.rf, rg_w kc_1 rfl, (by have : (1 : Int32).toInt = 1 := (by decide); omega)⟩
theorem c_kisDirection (l : Launch) {G : cG} {Z : cZ} (X : Int) (g : mSt) (i0 : Nat) (p1 : Int32) (hX : 0 ≤ X ∧ X ≤ 2000000000) (hal0 : Z.al 11 i0) : Met l yX11_isDirection (wk (Cond.code yX11_isDirection cX11_isDirection 2 (some .boolean))) rm_kisDirection (va_Pc [.ref (Z.ad 11 i0), .int p1] (cPre G Z X g)) (cQi G Z X (fun r g1 => mFr [] g g1 ∧ rg (0) (1) r ∧ (r.toInt ≠ 0 → 0 ≤ p1.toInt ∧ p1.toInt < 2 * (Z.n : Int)))) 0 0 (cAd Z) := by
  refine Met.ofW (cc := cX11_isDirection) (maxL := 2) (ret := (some .boolean)) (by decide) rfl ?_
  intro p e s m args below meth c s₁ B hml hv
  obtain ⟨rfl, hv⟩ := hv
  have hr := B.returns
  have hlocks := B.notSynchronized
  obtain ⟨x, L⟩ := c_start B rfl (fun w h => wk_in h) hv
  have hl := lv_entry ([.ref (Z.ad 11 i0), .int p1]) (n := 2) (Nat.le_of_ble_eq_true rfl)
  rw [lg_entry_eq]
  generalize (lg_sl ([.ref (Z.ad 11 i0), .int p1]) ++ List.replicate (2 - (lg_sl ([.ref (Z.ad 11 i0), .int p1])).length) Slot.unset).toArray = ls at hl ⊢
  exact w_kisDirection x hml L hX i0 p1 hal0 hl (fun pc' ls' r g1 H1 locs1 hdg L hp => c_zret x L hr hlocks (nar01 (rg_w hp.2.1 rfl)) (Int.le_refl _) hp hdg)

def rm_kdamage : Room := { frames := 1, cells := 0, slots := 0, locals := 24 }
theorem hd_kdamage : yX11_damage.cls = cRn 11 ∧ yX11_damage.cls ≠ "java/lang/invoke/MethodHandle" ∧ yX11_damage.cls ≠ "java/lang/invoke/VarHandle" ∧ (parseMethodDescriptor yX11_damage.desc).map (fun d => d.parameters.length) = some 5 := by decide +kernel
set_option maxHeartbeats 4000000 in
set_option maxRecDepth 100000 in
theorem w_kdamage {p : Program} {l : Launch} {e : Env} {s : State} {m : MethodId} {args : Array Value} {below : List Frame} {meth : Method} {c : Code} {H : Heap} {locs : List Loc} {Q : State → Prop} {ls : Array Slot} {G : cG} {Z : cZ} {A : Nat → Prop} {g : mSt} {H0 : Heap} {X : Int} (x : cX p c cX11_damage s args (wk (Cond.code yX11_damage cX11_damage 6 (some .int))) m G Z A RX11 H0) (hml : c.maxLocals = 6) (L : cL G Z A H0 X g H locs) (hX : 0 ≤ X ∧ X ≤ 2000000000) (i0 : Nat) (p1 : Int32) (p2 : Int32) (p3 : Int32) (p4 : Int32) (p5 : Int32) (hJ : cJ Z g) (hal0 : Z.al 11 i0) (hl : lv_has ls 6 [(0, .ref (Z.ad 11 i0)), (1, .int p1), (2, .int p2), (3, .int p3), (4, .int p4), (5, .int p5)]) (hQ : ∀ (pc' : Nat) (ls' : Array Slot) (r : Int32) (g1 : mSt) (H1 : Heap) (locs1 : List Loc), decode cX11_damage pc' = .ok (.ireturn, 1) → cL G Z A H0 X g1 H1 locs1 → (mFr [106, 640, 672, 704, 736] g g1 ∧ rg (-3) (8) r ∧ cJ Z g1 ∧ True) → W p l e rm_kdamage s m args below meth c H1 locs1 0 0 Q (F0 m pc' ls' [.int r])) : W p l e rm_kdamage s m args below meth c H locs 0 0 Q (F0 m 0 ls []) := by
  have hx := x.1
  have hb := x.2.1
  have hz := x.2.2.2.2.2.2.2.1
  have hzn := hz.1
  have up1 : (-2147483648 : Int) ≤ p1.toInt ∧ p1.toInt ≤ 2147483647 := (rg_any p1)
  have up2 : (-2147483648 : Int) ≤ p2.toInt ∧ p2.toInt ≤ 2147483647 := (rg_any p2)
  have up3 : (-2147483648 : Int) ≤ p3.toInt ∧ p3.toInt ≤ 2147483647 := (rg_any p3)
  have up4 : (-2147483648 : Int) ≤ p4.toInt ∧ p4.toInt ≤ 2147483647 := (rg_any p4)
  have up5 : (-2147483648 : Int) ≤ p5.toInt ∧ p5.toInt ≤ 2147483647 := (rg_any p5)
  refine lv_aload_n hx hb dX11_damage_0 rfl (lv_at hl 0 rfl) ?_
  refine lv_iload_n hx hb dX11_damage_1 rfl (lv_at hl 1 rfl) ?_
  refine c_ci (As := [.int p1]) (rest := []) x hml L 11 i0 hal0 rfl (c_kisDirection l X g i0 p1 hX hal0) (wk_V kd_X11_isDirection kl_X11_322 ki_X11_isDirection ks_X11_X11_isDirection kn_X11) rfl ⟨rfl, rfl⟩ hd_kisDirection ⟨Nat.le_of_ble_eq_true rfl, Nat.le_of_ble_eq_true rfl⟩ rfl hl.1 rfl (lv_room (Nat.le_of_ble_eq_true rfl)) dX11_damage_2 (fun v2 g1 H1 k1 hp1 L1 => ?_)
  have rv2 : rg (0) (1) v2 := hp1.2.1
  have uv2 : (0 : Int) ≤ v2.toInt ∧ v2.toInt ≤ 1 := rv2
  have hw3 := hp1.2.2
  refine lv_if_eq (tgt := 28) hx hb dX11_damage_5 (by decide) (fun c5_4 => ?_) (fun c5_4 => ?_)
  · skip
    have ic5_4 := congrArg Int32.toInt c5_4
    have y5 : (0 : Int32).toInt = 0 := by decide
    have q6 : rg (0) (0) v2 := (rg_eq c5_4 rv2 kc_0).1
    have uq6 : (0 : Int) ≤ v2.toInt ∧ v2.toInt ≤ 0 := q6
    refine lv_iconst (v := (-1)) hx hb dX11_damage_28 (by decide) ?_
    exact hQ _ _ (-1 : Int32) _ _ _ dX11_damage_29 L1 ⟨(mFr.tr mFr.rf hp1.1 rfl), rg_w kc_m1 rfl, (cJ_fr hJ hp1.1 rfl), trivial⟩
  · skip
    have ic5_4 : v2.toInt ≠ (0 : Int32).toInt := fun z => c5_4 (Int32.toInt_inj.mp z)
    have y7 : (0 : Int32).toInt = 0 := by decide
    have q8 : rg (1) (1) v2 := rg_neL c5_4 rv2 kc_0
    have uq8 : (1 : Int) ≤ v2.toInt ∧ v2.toInt ≤ 1 := q8
    refine lv_iload_n hx hb dX11_damage_8 rfl (lv_at hl 2 rfl) ?_
    refine lv_if_lt (tgt := 28) hx hb dX11_damage_9 (by decide) (fun c9_9 => ?_) (fun c9_9 => ?_)
    · skip
      have ic9_9 := Int32.lt_iff_toInt_lt.mp c9_9
      have q10 : rg (-2147483648) (-1) p2 := (rg_lt c9_9 (rg_any p2) kc_0).1
      have uq10 : (-2147483648 : Int) ≤ p2.toInt ∧ p2.toInt ≤ -1 := q10
      refine lv_iconst (v := (-1)) hx hb dX11_damage_28 (by decide) ?_
      exact hQ _ _ (-1 : Int32) _ _ _ dX11_damage_29 L1 ⟨(mFr.tr mFr.rf hp1.1 rfl), rg_w kc_m1 rfl, (cJ_fr hJ hp1.1 rfl), trivial⟩
    · skip
      have ic9_9 := Int32.le_iff_toInt_le.mp (rg_nlt c9_9)
      have q11 : rg (0) (2147483647) p2 := (rg_le (rg_nlt c9_9) kc_0 (rg_any p2)).2
      have uq11 : (0 : Int) ≤ p2.toInt ∧ p2.toInt ≤ 2147483647 := q11
      refine lv_iload_n hx hb dX11_damage_12 rfl (lv_at hl 2 rfl) ?_
      refine lv_iconst (v := 2) hx hb dX11_damage_13 (by decide) ?_
      refine lv_icmp_gt (tgt := 28) hx hb dX11_damage_14 (by decide) (fun c14_12 => ?_) (fun c14_12 => ?_)
      · skip
        have ic14_12 := Int32.lt_iff_toInt_lt.mp c14_12
        have q13 : rg (3) (2147483647) p2 := (rg_lt c14_12 kc_2 q11).2
        have uq13 : (3 : Int) ≤ p2.toInt ∧ p2.toInt ≤ 2147483647 := q13
        refine lv_iconst (v := (-1)) hx hb dX11_damage_28 (by decide) ?_
        exact hQ _ _ (-1 : Int32) _ _ _ dX11_damage_29 L1 ⟨(mFr.tr mFr.rf hp1.1 rfl), rg_w kc_m1 rfl, (cJ_fr hJ hp1.1 rfl), trivial⟩
      · skip
        have ic14_12 := Int32.le_iff_toInt_le.mp (rg_nlt c14_12)
        have q14 : rg (0) (2) p2 := (rg_le (rg_nlt c14_12) q11 kc_2).1
        have uq14 : (0 : Int) ≤ p2.toInt ∧ p2.toInt ≤ 2 := q14
        refine lv_iload_n hx hb dX11_damage_17 rfl (lv_at hl 3 rfl) ?_
        refine lv_if_lt (tgt := 28) hx hb dX11_damage_18 (by decide) (fun c18_15 => ?_) (fun c18_15 => ?_)
        · skip
          have ic18_15 := Int32.lt_iff_toInt_lt.mp c18_15
          have q16 : rg (-2147483648) (-1) p3 := (rg_lt c18_15 (rg_any p3) kc_0).1
          have uq16 : (-2147483648 : Int) ≤ p3.toInt ∧ p3.toInt ≤ -1 := q16
          refine lv_iconst (v := (-1)) hx hb dX11_damage_28 (by decide) ?_
          exact hQ _ _ (-1 : Int32) _ _ _ dX11_damage_29 L1 ⟨(mFr.tr mFr.rf hp1.1 rfl), rg_w kc_m1 rfl, (cJ_fr hJ hp1.1 rfl), trivial⟩
        · skip
          have ic18_15 := Int32.le_iff_toInt_le.mp (rg_nlt c18_15)
          have q17 : rg (0) (2147483647) p3 := (rg_le (rg_nlt c18_15) kc_0 (rg_any p3)).2
          have uq17 : (0 : Int) ≤ p3.toInt ∧ p3.toInt ≤ 2147483647 := q17
          refine lv_iload_n hx hb dX11_damage_21 rfl (lv_at hl 3 rfl) ?_
          refine lv_sipush (v := 999) hx hb dX11_damage_22 (by decide) ?_
          refine lv_icmp_le (tgt := 30) hx hb dX11_damage_25 (by decide) (fun c25_18 => ?_) (fun c25_18 => ?_)
          · skip
            have ic25_18 := Int32.le_iff_toInt_le.mp c25_18
            have q19 : rg (0) (999) p3 := (rg_le c25_18 q17 kc_999).1
            have uq19 : (0 : Int) ≤ p3.toInt ∧ p3.toInt ≤ 999 := q19
            refine lv_iload_n hx hb dX11_damage_30 rfl (lv_at hl 2 rfl) ?_
            refine lv_iconst (v := 1) hx hb dX11_damage_31 (by decide) ?_
            refine lv_icmp_ne (tgt := 63) hx hb dX11_damage_32 (by decide) (fun c32_20 => ?_) (fun c32_20 => ?_)
            · skip
              have ic32_20 : p2.toInt ≠ (1 : Int32).toInt := fun z => c32_20 (Int32.toInt_inj.mp z)
              have y21 : (1 : Int32).toInt = 1 := by decide
              refine lv_aload_n hx hb dX11_damage_63 rfl (lv_at hl 0 rfl) ?_
              have al22 : Z.al 50 0 := hz.2 50 0 (show 0 < 1 from (by omega))
              refine c_getr (a := Z.ad 50 0) x L1 11 i0 1 hal0 rfl rfl (wk_in kf_X11_59) dX11_damage_64 ?_
              refine lv_iload_n hx hb dX11_damage_67 rfl (lv_at hl 1 rfl) ?_
              refine c_ldr (a := Z.ad 3 p1.toInt.toNat) x L1 50 0 al22 rfl (by omega) (show p1.toInt < (((2 * Z.n) : Nat) : Int) from (by omega)) rfl dX11_damage_68 ?_
              have al23 : Z.al 3 p1.toInt.toNat := hz.2 3 p1.toInt.toNat (show p1.toInt.toNat < 2 * Z.n from (by omega))
              refine lv_iload_n hx hb dX11_damage_69 rfl (lv_at hl 2 rfl) ?_
              refine lv_iload_n hx hb dX11_damage_70 rfl (lv_at hl 3 rfl) ?_
              refine lv_iload hx hb dX11_damage_71 (lv_at hl 4 rfl) ?_
              refine lv_iload hx hb dX11_damage_73 (lv_at hl 5 rfl) ?_
              refine c_ci (As := [.int p2, .int p3, .int p4, .int p5]) (rest := []) x hml L1 3 p1.toInt.toNat al23 rfl (c_kaddDamage l X g1 p1.toInt.toNat p2 p3 p4 p5 hX (cJ_fr hJ hp1.1 rfl) (show p1.toInt.toNat < 2 * Z.n from (by omega)) (by omega)) (wk_V kd_X3_addDamage kl_X11_325 ki_X3_addDamage ks_X3_X3_addDamage kn_X3) rfl ⟨rfl, rfl⟩ hd_kaddDamage ⟨Nat.le_of_ble_eq_true rfl, Nat.le_of_ble_eq_true rfl⟩ rfl hl.1 rfl (lv_room (Nat.le_of_ble_eq_true rfl)) dX11_damage_75 (fun v25 g24 H24 k24 hp24 L24 => ?_)
              have rv25 : rg (-3) (8) v25 := hp24.2.1
              have uv25 : (-3 : Int) ≤ v25.toInt ∧ v25.toInt ≤ 8 := rv25
              exact hQ _ _ v25 _ _ _ dX11_damage_78 L24 ⟨(mFr.tr (mFr.tr mFr.rf hp1.1 rfl) hp24.1 rfl), rg_w rv25 rfl, hp24.2.2.1, trivial⟩
            · skip
              have ic32_20 := congrArg Int32.toInt c32_20
              have y26 : (1 : Int32).toInt = 1 := by decide
              have q27 : rg (1) (1) p2 := (rg_eq c32_20 q14 kc_1).1
              have uq27 : (1 : Int) ≤ p2.toInt ∧ p2.toInt ≤ 1 := q27
              refine lv_iload hx hb dX11_damage_35 (lv_at hl 4 rfl) ?_
              refine lv_if_lt (tgt := 61) hx hb dX11_damage_37 (by decide) (fun c37_28 => ?_) (fun c37_28 => ?_)
              · skip
                have ic37_28 := Int32.lt_iff_toInt_lt.mp c37_28
                have q29 : rg (-2147483648) (-1) p4 := (rg_lt c37_28 (rg_any p4) kc_0).1
                have uq29 : (-2147483648 : Int) ≤ p4.toInt ∧ p4.toInt ≤ -1 := q29
                refine lv_iconst (v := (-1)) hx hb dX11_damage_61 (by decide) ?_
                exact hQ _ _ (-1 : Int32) _ _ _ dX11_damage_62 L1 ⟨(mFr.tr mFr.rf hp1.1 rfl), rg_w kc_m1 rfl, (cJ_fr hJ hp1.1 rfl), trivial⟩
              · skip
                have ic37_28 := Int32.le_iff_toInt_le.mp (rg_nlt c37_28)
                have q30 : rg (0) (2147483647) p4 := (rg_le (rg_nlt c37_28) kc_0 (rg_any p4)).2
                have uq30 : (0 : Int) ≤ p4.toInt ∧ p4.toInt ≤ 2147483647 := q30
                refine lv_iload hx hb dX11_damage_40 (lv_at hl 4 rfl) ?_
                refine lv_bipush (v := 53) hx hb dX11_damage_42 (by decide) ?_
                refine lv_icmp_ge (tgt := 61) hx hb dX11_damage_44 (by decide) (fun c44_31 => ?_) (fun c44_31 => ?_)
                · skip
                  have ic44_31 := Int32.le_iff_toInt_le.mp c44_31
                  have q32 : rg (53) (2147483647) p4 := (rg_le c44_31 kc_53 q30).2
                  have uq32 : (53 : Int) ≤ p4.toInt ∧ p4.toInt ≤ 2147483647 := q32
                  refine lv_iconst (v := (-1)) hx hb dX11_damage_61 (by decide) ?_
                  exact hQ _ _ (-1 : Int32) _ _ _ dX11_damage_62 L1 ⟨(mFr.tr mFr.rf hp1.1 rfl), rg_w kc_m1 rfl, (cJ_fr hJ hp1.1 rfl), trivial⟩
                · skip
                  have ic44_31 := Int32.lt_iff_toInt_lt.mp (rg_nle c44_31)
                  have q33 : rg (0) (52) p4 := (rg_lt (rg_nle c44_31) q30 kc_53).1
                  have uq33 : (0 : Int) ≤ p4.toInt ∧ p4.toInt ≤ 52 := q33
                  refine lv_iload hx hb dX11_damage_47 (lv_at hl 5 rfl) ?_
                  refine lv_iconst (v := 1) hx hb dX11_damage_49 (by decide) ?_
                  refine lv_icmp_lt (tgt := 61) hx hb dX11_damage_50 (by decide) (fun c50_34 => ?_) (fun c50_34 => ?_)
                  · skip
                    have ic50_34 := Int32.lt_iff_toInt_lt.mp c50_34
                    have q35 : rg (-2147483648) (0) p5 := (rg_lt c50_34 (rg_any p5) kc_1).1
                    have uq35 : (-2147483648 : Int) ≤ p5.toInt ∧ p5.toInt ≤ 0 := q35
                    refine lv_iconst (v := (-1)) hx hb dX11_damage_61 (by decide) ?_
                    exact hQ _ _ (-1 : Int32) _ _ _ dX11_damage_62 L1 ⟨(mFr.tr mFr.rf hp1.1 rfl), rg_w kc_m1 rfl, (cJ_fr hJ hp1.1 rfl), trivial⟩
                  · skip
                    have ic50_34 := Int32.le_iff_toInt_le.mp (rg_nlt c50_34)
                    have q36 : rg (1) (2147483647) p5 := (rg_le (rg_nlt c50_34) kc_1 (rg_any p5)).2
                    have uq36 : (1 : Int) ≤ p5.toInt ∧ p5.toInt ≤ 2147483647 := q36
                    refine lv_iload hx hb dX11_damage_53 (lv_at hl 5 rfl) ?_
                    refine lv_sipush (v := 255) hx hb dX11_damage_55 (by decide) ?_
                    refine lv_icmp_le (tgt := 63) hx hb dX11_damage_58 (by decide) (fun c58_37 => ?_) (fun c58_37 => ?_)
                    · skip
                      have ic58_37 := Int32.le_iff_toInt_le.mp c58_37
                      have q38 : rg (1) (255) p5 := (rg_le c58_37 q36 kc_255).1
                      have uq38 : (1 : Int) ≤ p5.toInt ∧ p5.toInt ≤ 255 := q38
                      refine lv_aload_n hx hb dX11_damage_63 rfl (lv_at hl 0 rfl) ?_
                      have al39 : Z.al 50 0 := hz.2 50 0 (show 0 < 1 from (by omega))
                      refine c_getr (a := Z.ad 50 0) x L1 11 i0 1 hal0 rfl rfl (wk_in kf_X11_59) dX11_damage_64 ?_
                      refine lv_iload_n hx hb dX11_damage_67 rfl (lv_at hl 1 rfl) ?_
                      refine c_ldr (a := Z.ad 3 p1.toInt.toNat) x L1 50 0 al39 rfl (by omega) (show p1.toInt < (((2 * Z.n) : Nat) : Int) from (by omega)) rfl dX11_damage_68 ?_
                      have al40 : Z.al 3 p1.toInt.toNat := hz.2 3 p1.toInt.toNat (show p1.toInt.toNat < 2 * Z.n from (by omega))
                      refine lv_iload_n hx hb dX11_damage_69 rfl (lv_at hl 2 rfl) ?_
                      refine lv_iload_n hx hb dX11_damage_70 rfl (lv_at hl 3 rfl) ?_
                      refine lv_iload hx hb dX11_damage_71 (lv_at hl 4 rfl) ?_
                      refine lv_iload hx hb dX11_damage_73 (lv_at hl 5 rfl) ?_
                      refine c_ci (As := [.int p2, .int p3, .int p4, .int p5]) (rest := []) x hml L1 3 p1.toInt.toNat al40 rfl (c_kaddDamage l X g1 p1.toInt.toNat p2 p3 p4 p5 hX (cJ_fr hJ hp1.1 rfl) (show p1.toInt.toNat < 2 * Z.n from (by omega)) (by omega)) (wk_V kd_X3_addDamage kl_X11_325 ki_X3_addDamage ks_X3_X3_addDamage kn_X3) rfl ⟨rfl, rfl⟩ hd_kaddDamage ⟨Nat.le_of_ble_eq_true rfl, Nat.le_of_ble_eq_true rfl⟩ rfl hl.1 rfl (lv_room (Nat.le_of_ble_eq_true rfl)) dX11_damage_75 (fun v42 g41 H41 k41 hp41 L41 => ?_)
                      have rv42 : rg (-3) (8) v42 := hp41.2.1
                      have uv42 : (-3 : Int) ≤ v42.toInt ∧ v42.toInt ≤ 8 := rv42
                      exact hQ _ _ v42 _ _ _ dX11_damage_78 L41 ⟨(mFr.tr (mFr.tr mFr.rf hp1.1 rfl) hp41.1 rfl), rg_w rv42 rfl, hp41.2.2.1, trivial⟩
                    · skip
                      have ic58_37 := Int32.lt_iff_toInt_lt.mp (rg_nle c58_37)
                      have q43 : rg (256) (2147483647) p5 := (rg_lt (rg_nle c58_37) kc_255 q36).2
                      have uq43 : (256 : Int) ≤ p5.toInt ∧ p5.toInt ≤ 2147483647 := q43
                      refine lv_iconst (v := (-1)) hx hb dX11_damage_61 (by decide) ?_
                      exact hQ _ _ (-1 : Int32) _ _ _ dX11_damage_62 L1 ⟨(mFr.tr mFr.rf hp1.1 rfl), rg_w kc_m1 rfl, (cJ_fr hJ hp1.1 rfl), trivial⟩
          · skip
            have ic25_18 := Int32.lt_iff_toInt_lt.mp (rg_nle c25_18)
            have q44 : rg (1000) (2147483647) p3 := (rg_lt (rg_nle c25_18) kc_999 q17).2
            have uq44 : (1000 : Int) ≤ p3.toInt ∧ p3.toInt ≤ 2147483647 := q44
            refine lv_iconst (v := (-1)) hx hb dX11_damage_28 (by decide) ?_
            exact hQ _ _ (-1 : Int32) _ _ _ dX11_damage_29 L1 ⟨(mFr.tr mFr.rf hp1.1 rfl), rg_w kc_m1 rfl, (cJ_fr hJ hp1.1 rfl), trivial⟩
theorem c_kdamage (l : Launch) {G : cG} {Z : cZ} (X : Int) (g : mSt) (i0 : Nat) (p1 : Int32) (p2 : Int32) (p3 : Int32) (p4 : Int32) (p5 : Int32) (hX : 0 ≤ X ∧ X ≤ 2000000000) (hJ : cJ Z g) (hal0 : Z.al 11 i0) : Met l yX11_damage (wk (Cond.code yX11_damage cX11_damage 6 (some .int))) rm_kdamage (va_Pc [.ref (Z.ad 11 i0), .int p1, .int p2, .int p3, .int p4, .int p5] (cPre G Z X g)) (cQi G Z X (fun r g1 => mFr [106, 640, 672, 704, 736] g g1 ∧ rg (-3) (8) r ∧ cJ Z g1 ∧ True)) 0 0 (cAd Z) := by
  refine Met.ofW (cc := cX11_damage) (maxL := 6) (ret := (some .int)) (by decide) rfl ?_
  intro p e s m args below meth c s₁ B hml hv
  obtain ⟨rfl, hv⟩ := hv
  have hr := B.returns
  have hlocks := B.notSynchronized
  obtain ⟨x, L⟩ := c_start B rfl (fun w h => wk_in h) hv
  have hl := lv_entry ([.ref (Z.ad 11 i0), .int p1, .int p2, .int p3, .int p4, .int p5]) (n := 6) (Nat.le_of_ble_eq_true rfl)
  rw [lg_entry_eq]
  generalize (lg_sl ([.ref (Z.ad 11 i0), .int p1, .int p2, .int p3, .int p4, .int p5]) ++ List.replicate (6 - (lg_sl ([.ref (Z.ad 11 i0), .int p1, .int p2, .int p3, .int p4, .int p5])).length) Slot.unset).toArray = ls at hl ⊢
  exact w_kdamage x hml L hX i0 p1 p2 p3 p4 p5 hJ hal0 hl (fun pc' ls' r g1 H1 locs1 hdg L hp => c_iret x L hr hlocks (Int.le_refl _) hp hdg)

def rm_kdirection : Room := { frames := 1, cells := 0, slots := 0, locals := 21 }
theorem hd_kdirection : yX11_direction.cls = cRn 11 ∧ yX11_direction.cls ≠ "java/lang/invoke/MethodHandle" ∧ yX11_direction.cls ≠ "java/lang/invoke/VarHandle" ∧ (parseMethodDescriptor yX11_direction.desc).map (fun d => d.parameters.length) = some 2 := by decide +kernel
set_option maxHeartbeats 4000000 in
set_option maxRecDepth 100000 in
theorem w_kdirection {p : Program} {l : Launch} {e : Env} {s : State} {m : MethodId} {args : Array Value} {below : List Frame} {meth : Method} {c : Code} {H : Heap} {locs : List Loc} {Q : State → Prop} {ls : Array Slot} {G : cG} {Z : cZ} {A : Nat → Prop} {g : mSt} {H0 : Heap} {X : Int} (x : cX p c cX11_direction s args (wk (Cond.code yX11_direction cX11_direction 3 (some .int))) m G Z A RX11 H0) (hml : c.maxLocals = 3) (L : cL G Z A H0 X g H locs) (hX : 0 ≤ X ∧ X ≤ 2000000000) (i0 : Nat) (p1 : Int32) (p2 : Int32) (hal0 : Z.al 11 i0) (hl : lv_has ls 3 [(0, .ref (Z.ad 11 i0)), (1, .int p1), (2, .int p2)]) (hQ : ∀ (pc' : Nat) (ls' : Array Slot) (r : Int32) (g1 : mSt) (H1 : Heap) (locs1 : List Loc), decode cX11_direction pc' = .ok (.ireturn, 1) → cL G Z A H0 X g1 H1 locs1 → (mFr [] g g1 ∧ rg (-2147483648) (2147483647) r ∧ True) → W p l e rm_kdirection s m args below meth c H1 locs1 0 0 Q (F0 m pc' ls' [.int r])) : W p l e rm_kdirection s m args below meth c H locs 0 0 Q (F0 m 0 ls []) := by
  have hx := x.1
  have hb := x.2.1
  have hz := x.2.2.2.2.2.2.2.1
  have hzn := hz.1
  have up1 : (-2147483648 : Int) ≤ p1.toInt ∧ p1.toInt ≤ 2147483647 := (rg_any p1)
  have up2 : (-2147483648 : Int) ≤ p2.toInt ∧ p2.toInt ≤ 2147483647 := (rg_any p2)
  refine lv_aload_n hx hb dX11_direction_0 rfl (lv_at hl 0 rfl) ?_
  refine lv_iload_n hx hb dX11_direction_1 rfl (lv_at hl 1 rfl) ?_
  refine c_ci (As := [.int p1]) (rest := []) x hml L 11 i0 hal0 rfl (c_kisDirection l X g i0 p1 hX hal0) (wk_V kd_X11_isDirection kl_X11_322 ki_X11_isDirection ks_X11_X11_isDirection kn_X11) rfl ⟨rfl, rfl⟩ hd_kisDirection ⟨Nat.le_of_ble_eq_true rfl, Nat.le_of_ble_eq_true rfl⟩ rfl hl.1 rfl (lv_room (Nat.le_of_ble_eq_true rfl)) dX11_direction_2 (fun v2 g1 H1 k1 hp1 L1 => ?_)
  have rv2 : rg (0) (1) v2 := hp1.2.1
  have uv2 : (0 : Int) ≤ v2.toInt ∧ v2.toInt ≤ 1 := rv2
  have hw3 := hp1.2.2
  refine lv_if_eq (tgt := 21) hx hb dX11_direction_5 (by decide) (fun c5_4 => ?_) (fun c5_4 => ?_)
  · skip
    have ic5_4 := congrArg Int32.toInt c5_4
    have y5 : (0 : Int32).toInt = 0 := by decide
    have q6 : rg (0) (0) v2 := (rg_eq c5_4 rv2 kc_0).1
    have uq6 : (0 : Int) ≤ v2.toInt ∧ v2.toInt ≤ 0 := q6
    refine lv_iconst (v := (-1)) hx hb dX11_direction_21 (by decide) ?_
    exact hQ _ _ (-1 : Int32) _ _ _ dX11_direction_22 L1 ⟨(mFr.tr mFr.rf hp1.1 rfl), rg_w kc_m1 rfl, trivial⟩
  · skip
    have ic5_4 : v2.toInt ≠ (0 : Int32).toInt := fun z => c5_4 (Int32.toInt_inj.mp z)
    have y7 : (0 : Int32).toInt = 0 := by decide
    have q8 : rg (1) (1) v2 := rg_neL c5_4 rv2 kc_0
    have uq8 : (1 : Int) ≤ v2.toInt ∧ v2.toInt ≤ 1 := q8
    refine lv_aload_n hx hb dX11_direction_8 rfl (lv_at hl 0 rfl) ?_
    have al9 : Z.al 50 0 := hz.2 50 0 (show 0 < 1 from (by omega))
    refine c_getr (a := Z.ad 50 0) x L1 11 i0 1 hal0 rfl rfl (wk_in kf_X11_59) dX11_direction_9 ?_
    refine lv_iload_n hx hb dX11_direction_12 rfl (lv_at hl 1 rfl) ?_
    refine c_ldr (a := Z.ad 3 p1.toInt.toNat) x L1 50 0 al9 rfl (by omega) (show p1.toInt < (((2 * Z.n) : Nat) : Int) from (by omega)) rfl dX11_direction_13 ?_
    have al10 : Z.al 3 p1.toInt.toNat := hz.2 3 p1.toInt.toNat (show p1.toInt.toNat < 2 * Z.n from (by omega))
    refine lv_iload_n hx hb dX11_direction_14 rfl (lv_at hl 2 rfl) ?_
    refine c_ci (As := [.int p2]) (rest := []) x hml L1 3 p1.toInt.toNat al10 rfl (c_kdtell l X g1 p1.toInt.toNat p2 hX (show p1.toInt.toNat < 2 * Z.n from (by omega))) (wk_V kd_X3_tell kl_X11_329 ki_X3_tell ks_X3_X3_tell kn_X3) rfl ⟨rfl, rfl⟩ hd_kdtell ⟨Nat.le_of_ble_eq_true rfl, Nat.le_of_ble_eq_true rfl⟩ rfl hl.1 rfl (lv_room (Nat.le_of_ble_eq_true rfl)) dX11_direction_15 (fun v12 g11 H11 k11 hp11 L11 => ?_)
    have rv12 : rg (-2147483648) (2147483647) v12 := hp11.2.1
    have uv12 : (-2147483648 : Int) ≤ v12.toInt ∧ v12.toInt ≤ 2147483647 := rv12
    refine lv_goto (tgt := 22) hx hb dX11_direction_18 (by decide) ?_
    exact hQ _ _ v12 _ _ _ dX11_direction_22 L11 ⟨(mFr.tr (mFr.tr mFr.rf hp1.1 rfl) hp11.1 rfl), rg_w rv12 rfl, trivial⟩
theorem c_kdirection (l : Launch) {G : cG} {Z : cZ} (X : Int) (g : mSt) (i0 : Nat) (p1 : Int32) (p2 : Int32) (hX : 0 ≤ X ∧ X ≤ 2000000000) (hal0 : Z.al 11 i0) : Met l yX11_direction (wk (Cond.code yX11_direction cX11_direction 3 (some .int))) rm_kdirection (va_Pc [.ref (Z.ad 11 i0), .int p1, .int p2] (cPre G Z X g)) (cQi G Z X (fun r g1 => mFr [] g g1 ∧ rg (-2147483648) (2147483647) r ∧ True)) 0 0 (cAd Z) := by
  refine Met.ofW (cc := cX11_direction) (maxL := 3) (ret := (some .int)) (by decide) rfl ?_
  intro p e s m args below meth c s₁ B hml hv
  obtain ⟨rfl, hv⟩ := hv
  have hr := B.returns
  have hlocks := B.notSynchronized
  obtain ⟨x, L⟩ := c_start B rfl (fun w h => wk_in h) hv
  have hl := lv_entry ([.ref (Z.ad 11 i0), .int p1, .int p2]) (n := 3) (Nat.le_of_ble_eq_true rfl)
  rw [lg_entry_eq]
  generalize (lg_sl ([.ref (Z.ad 11 i0), .int p1, .int p2]) ++ List.replicate (3 - (lg_sl ([.ref (Z.ad 11 i0), .int p1, .int p2])).length) Slot.unset).toArray = ls at hl ⊢
  exact w_kdirection x hml L hX i0 p1 p2 hal0 hl (fun pc' ls' r g1 H1 locs1 hdg L hp => c_iret x L hr hlocks (Int.le_refl _) hp hdg)

def rm_kcalls : Room := { frames := 1, cells := 0, slots := 0, locals := 21 }
theorem hd_kcalls : yX11_calls.cls = cRn 11 ∧ yX11_calls.cls ≠ "java/lang/invoke/MethodHandle" ∧ yX11_calls.cls ≠ "java/lang/invoke/VarHandle" ∧ (parseMethodDescriptor yX11_calls.desc).map (fun d => d.parameters.length) = some 1 := by decide +kernel
set_option maxHeartbeats 4000000 in
set_option maxRecDepth 100000 in
theorem w_kcalls {p : Program} {l : Launch} {e : Env} {s : State} {m : MethodId} {args : Array Value} {below : List Frame} {meth : Method} {c : Code} {H : Heap} {locs : List Loc} {Q : State → Prop} {ls : Array Slot} {G : cG} {Z : cZ} {A : Nat → Prop} {g : mSt} {H0 : Heap} {X : Int} (x : cX p c cX11_calls s args (wk (Cond.code yX11_calls cX11_calls 2 (some .int))) m G Z A RX11 H0) (hml : c.maxLocals = 2) (L : cL G Z A H0 X g H locs) (hX : 0 ≤ X ∧ X ≤ 2000000000) (i0 : Nat) (p1 : Int32) (hal0 : Z.al 11 i0) (hl : lv_has ls 2 [(0, .ref (Z.ad 11 i0)), (1, .int p1)]) (hQ : ∀ (pc' : Nat) (ls' : Array Slot) (r : Int32) (g1 : mSt) (H1 : Heap) (locs1 : List Loc), decode cX11_calls pc' = .ok (.ireturn, 1) → cL G Z A H0 X g1 H1 locs1 → (mFr [] g g1 ∧ rg (-1) (40) r ∧ True) → W p l e rm_kcalls s m args below meth c H1 locs1 0 0 Q (F0 m pc' ls' [.int r])) : W p l e rm_kcalls s m args below meth c H locs 0 0 Q (F0 m 0 ls []) := by
  have hx := x.1
  have hb := x.2.1
  have hz := x.2.2.2.2.2.2.2.1
  have hzn := hz.1
  have up1 : (-2147483648 : Int) ≤ p1.toInt ∧ p1.toInt ≤ 2147483647 := (rg_any p1)
  refine lv_aload_n hx hb dX11_calls_0 rfl (lv_at hl 0 rfl) ?_
  refine lv_iload_n hx hb dX11_calls_1 rfl (lv_at hl 1 rfl) ?_
  refine c_ci (As := [.int p1]) (rest := []) x hml L 11 i0 hal0 rfl (c_kisEnd l X g i0 p1 hX hal0) (wk_V kd_X11_isEnd kl_X11_223 ki_X11_isEnd ks_X11_X11_isEnd kn_X11) rfl ⟨rfl, rfl⟩ hd_kisEnd ⟨Nat.le_of_ble_eq_true rfl, Nat.le_of_ble_eq_true rfl⟩ rfl hl.1 rfl (lv_room (Nat.le_of_ble_eq_true rfl)) dX11_calls_2 (fun v2 g1 H1 k1 hp1 L1 => ?_)
  have rv2 : rg (0) (1) v2 := hp1.2.1
  have uv2 : (0 : Int) ≤ v2.toInt ∧ v2.toInt ≤ 1 := rv2
  have hw3 := hp1.2.2
  refine lv_if_eq (tgt := 20) hx hb dX11_calls_5 (by decide) (fun c5_4 => ?_) (fun c5_4 => ?_)
  · skip
    have ic5_4 := congrArg Int32.toInt c5_4
    have y5 : (0 : Int32).toInt = 0 := by decide
    have q6 : rg (0) (0) v2 := (rg_eq c5_4 rv2 kc_0).1
    have uq6 : (0 : Int) ≤ v2.toInt ∧ v2.toInt ≤ 0 := q6
    refine lv_iconst (v := (-1)) hx hb dX11_calls_20 (by decide) ?_
    exact hQ _ _ (-1 : Int32) _ _ _ dX11_calls_21 L1 ⟨(mFr.tr mFr.rf hp1.1 rfl), rg_w kc_m1 rfl, trivial⟩
  · skip
    have ic5_4 : v2.toInt ≠ (0 : Int32).toInt := fun z => c5_4 (Int32.toInt_inj.mp z)
    have y7 : (0 : Int32).toInt = 0 := by decide
    have q8 : rg (1) (1) v2 := rg_neL c5_4 rv2 kc_0
    have uq8 : (1 : Int) ≤ v2.toInt ∧ v2.toInt ≤ 1 := q8
    refine lv_aload_n hx hb dX11_calls_8 rfl (lv_at hl 0 rfl) ?_
    have al9 : Z.al 51 0 := hz.2 51 0 (show 0 < 1 from (by omega))
    refine c_getr (a := Z.ad 51 0) x L1 11 i0 2 hal0 rfl rfl (wk_in kf_X11_63) dX11_calls_9 ?_
    refine lv_iload_n hx hb dX11_calls_12 rfl (lv_at hl 1 rfl) ?_
    refine c_ldr (a := Z.ad 4 p1.toInt.toNat) x L1 51 0 al9 rfl (by omega) (show p1.toInt < ((Z.n : Nat) : Int) from (by omega)) rfl dX11_calls_13 ?_
    have al10 : Z.al 4 p1.toInt.toNat := hz.2 4 p1.toInt.toNat (show p1.toInt.toNat < Z.n from (by omega))
    refine c_geti x L1 4 p1.toInt.toNat 7 135 al10 rfl rfl (wk_in kf_X11_268) dX11_calls_14 (fun v11 ev11 wv11 => ?_)
    have rv11 : rg (0) (40) v11 := clj_135 wv11
    have uv11 : (0 : Int) ≤ v11.toInt ∧ v11.toInt ≤ 40 := rv11
    have sv11 : v11.toInt = (g 135 p1.toInt.toNat).toInt := congrArg Int32.toInt (ev11.trans (congrFun ((show mFr [] g g1 from (mFr.tr mFr.rf hp1.1 rfl)).at 135 rfl) _))
    refine lv_goto (tgt := 21) hx hb dX11_calls_17 (by decide) ?_
    exact hQ _ _ v11 _ _ _ dX11_calls_21 L1 ⟨(mFr.tr mFr.rf hp1.1 rfl), rg_w rv11 rfl, trivial⟩
theorem c_kcalls (l : Launch) {G : cG} {Z : cZ} (X : Int) (g : mSt) (i0 : Nat) (p1 : Int32) (hX : 0 ≤ X ∧ X ≤ 2000000000) (hal0 : Z.al 11 i0) : Met l yX11_calls (wk (Cond.code yX11_calls cX11_calls 2 (some .int))) rm_kcalls (va_Pc [.ref (Z.ad 11 i0), .int p1] (cPre G Z X g)) (cQi G Z X (fun r g1 => mFr [] g g1 ∧ rg (-1) (40) r ∧ True)) 0 0 (cAd Z) := by
  refine Met.ofW (cc := cX11_calls) (maxL := 2) (ret := (some .int)) (by decide) rfl ?_
  intro p e s m args below meth c s₁ B hml hv
  obtain ⟨rfl, hv⟩ := hv
  have hr := B.returns
  have hlocks := B.notSynchronized
  obtain ⟨x, L⟩ := c_start B rfl (fun w h => wk_in h) hv
  have hl := lv_entry ([.ref (Z.ad 11 i0), .int p1]) (n := 2) (Nat.le_of_ble_eq_true rfl)
  rw [lg_entry_eq]
  generalize (lg_sl ([.ref (Z.ad 11 i0), .int p1]) ++ List.replicate (2 - (lg_sl ([.ref (Z.ad 11 i0), .int p1])).length) Slot.unset).toArray = ls at hl ⊢
  exact w_kcalls x hml L hX i0 p1 hal0 hl (fun pc' ls' r g1 H1 locs1 hdg L hp => c_iret x L hr hlocks (Int.le_refl _) hp hdg)

def rm_kpolicy : Room := { frames := 1, cells := 0, slots := 0, locals := 21 }
theorem hd_kpolicy : yX11_policy.cls = cRn 11 ∧ yX11_policy.cls ≠ "java/lang/invoke/MethodHandle" ∧ yX11_policy.cls ≠ "java/lang/invoke/VarHandle" ∧ (parseMethodDescriptor yX11_policy.desc).map (fun d => d.parameters.length) = some 3 := by decide +kernel
set_option maxHeartbeats 4000000 in
set_option maxRecDepth 100000 in
theorem w_kpolicy {p : Program} {l : Launch} {e : Env} {s : State} {m : MethodId} {args : Array Value} {below : List Frame} {meth : Method} {c : Code} {H : Heap} {locs : List Loc} {Q : State → Prop} {ls : Array Slot} {G : cG} {Z : cZ} {A : Nat → Prop} {g : mSt} {H0 : Heap} {X : Int} (x : cX p c cX11_policy s args (wk (Cond.code yX11_policy cX11_policy 4 (some .int))) m G Z A RX11 H0) (hml : c.maxLocals = 4) (L : cL G Z A H0 X g H locs) (hX : 0 ≤ X ∧ X ≤ 2000000000) (i0 : Nat) (p1 : Int32) (p2 : Int32) (p3 : Int32) (hal0 : Z.al 11 i0) (hl : lv_has ls 4 [(0, .ref (Z.ad 11 i0)), (1, .int p1), (2, .int p2), (3, .int p3)]) (hQ : ∀ (pc' : Nat) (ls' : Array Slot) (r : Int32) (g1 : mSt) (H1 : Heap) (locs1 : List Loc), decode cX11_policy pc' = .ok (.ireturn, 1) → cL G Z A H0 X g1 H1 locs1 → (mFr [132, 133] g g1 ∧ rg (-1) (1) r ∧ True) → W p l e rm_kpolicy s m args below meth c H1 locs1 0 0 Q (F0 m pc' ls' [.int r])) : W p l e rm_kpolicy s m args below meth c H locs 0 0 Q (F0 m 0 ls []) := by
  have hx := x.1
  have hb := x.2.1
  have hz := x.2.2.2.2.2.2.2.1
  have hzn := hz.1
  have up1 : (-2147483648 : Int) ≤ p1.toInt ∧ p1.toInt ≤ 2147483647 := (rg_any p1)
  have up2 : (-2147483648 : Int) ≤ p2.toInt ∧ p2.toInt ≤ 2147483647 := (rg_any p2)
  have up3 : (-2147483648 : Int) ≤ p3.toInt ∧ p3.toInt ≤ 2147483647 := (rg_any p3)
  refine lv_aload_n hx hb dX11_policy_0 rfl (lv_at hl 0 rfl) ?_
  refine lv_iload_n hx hb dX11_policy_1 rfl (lv_at hl 1 rfl) ?_
  refine c_ci (As := [.int p1]) (rest := []) x hml L 11 i0 hal0 rfl (c_kisEnd l X g i0 p1 hX hal0) (wk_V kd_X11_isEnd kl_X11_223 ki_X11_isEnd ks_X11_X11_isEnd kn_X11) rfl ⟨rfl, rfl⟩ hd_kisEnd ⟨Nat.le_of_ble_eq_true rfl, Nat.le_of_ble_eq_true rfl⟩ rfl hl.1 rfl (lv_room (Nat.le_of_ble_eq_true rfl)) dX11_policy_2 (fun v2 g1 H1 k1 hp1 L1 => ?_)
  have rv2 : rg (0) (1) v2 := hp1.2.1
  have uv2 : (0 : Int) ≤ v2.toInt ∧ v2.toInt ≤ 1 := rv2
  have hw3 := hp1.2.2
  refine lv_if_eq (tgt := 17) hx hb dX11_policy_5 (by decide) (fun c5_4 => ?_) (fun c5_4 => ?_)
  · skip
    have ic5_4 := congrArg Int32.toInt c5_4
    have y5 : (0 : Int32).toInt = 0 := by decide
    have q6 : rg (0) (0) v2 := (rg_eq c5_4 rv2 kc_0).1
    have uq6 : (0 : Int) ≤ v2.toInt ∧ v2.toInt ≤ 0 := q6
    refine lv_iconst (v := (-1)) hx hb dX11_policy_17 (by decide) ?_
    exact hQ _ _ (-1 : Int32) _ _ _ dX11_policy_18 L1 ⟨(mFr.tr mFr.rf hp1.1 rfl), rg_w kc_m1 rfl, trivial⟩
  · skip
    have ic5_4 : v2.toInt ≠ (0 : Int32).toInt := fun z => c5_4 (Int32.toInt_inj.mp z)
    have y7 : (0 : Int32).toInt = 0 := by decide
    have q8 : rg (1) (1) v2 := rg_neL c5_4 rv2 kc_0
    have uq8 : (1 : Int) ≤ v2.toInt ∧ v2.toInt ≤ 1 := q8
    refine lv_iload_n hx hb dX11_policy_8 rfl (lv_at hl 2 rfl) ?_
    refine lv_if_lt (tgt := 17) hx hb dX11_policy_9 (by decide) (fun c9_9 => ?_) (fun c9_9 => ?_)
    · skip
      have ic9_9 := Int32.lt_iff_toInt_lt.mp c9_9
      have q10 : rg (-2147483648) (-1) p2 := (rg_lt c9_9 (rg_any p2) kc_0).1
      have uq10 : (-2147483648 : Int) ≤ p2.toInt ∧ p2.toInt ≤ -1 := q10
      refine lv_iconst (v := (-1)) hx hb dX11_policy_17 (by decide) ?_
      exact hQ _ _ (-1 : Int32) _ _ _ dX11_policy_18 L1 ⟨(mFr.tr mFr.rf hp1.1 rfl), rg_w kc_m1 rfl, trivial⟩
    · skip
      have ic9_9 := Int32.le_iff_toInt_le.mp (rg_nlt c9_9)
      have q11 : rg (0) (2147483647) p2 := (rg_le (rg_nlt c9_9) kc_0 (rg_any p2)).2
      have uq11 : (0 : Int) ≤ p2.toInt ∧ p2.toInt ≤ 2147483647 := q11
      refine lv_iload_n hx hb dX11_policy_12 rfl (lv_at hl 2 rfl) ?_
      refine lv_iconst (v := 2) hx hb dX11_policy_13 (by decide) ?_
      refine lv_icmp_le (tgt := 19) hx hb dX11_policy_14 (by decide) (fun c14_12 => ?_) (fun c14_12 => ?_)
      · skip
        have ic14_12 := Int32.le_iff_toInt_le.mp c14_12
        have q13 : rg (0) (2) p2 := (rg_le c14_12 q11 kc_2).1
        have uq13 : (0 : Int) ≤ p2.toInt ∧ p2.toInt ≤ 2 := q13
        refine lv_iload_n hx hb dX11_policy_19 rfl (lv_at hl 2 rfl) ?_
        refine lv_iconst (v := 1) hx hb dX11_policy_20 (by decide) ?_
        refine lv_icmp_ne (tgt := 37) hx hb dX11_policy_21 (by decide) (fun c21_14 => ?_) (fun c21_14 => ?_)
        · skip
          have ic21_14 : p2.toInt ≠ (1 : Int32).toInt := fun z => c21_14 (Int32.toInt_inj.mp z)
          have y15 : (1 : Int32).toInt = 1 := by decide
          refine lv_aload_n hx hb dX11_policy_37 rfl (lv_at hl 0 rfl) ?_
          have al16 : Z.al 51 0 := hz.2 51 0 (show 0 < 1 from (by omega))
          refine c_getr (a := Z.ad 51 0) x L1 11 i0 2 hal0 rfl rfl (wk_in kf_X11_63) dX11_policy_38 ?_
          refine lv_iload_n hx hb dX11_policy_41 rfl (lv_at hl 1 rfl) ?_
          refine c_ldr (a := Z.ad 4 p1.toInt.toNat) x L1 51 0 al16 rfl (by omega) (show p1.toInt < ((Z.n : Nat) : Int) from (by omega)) rfl dX11_policy_42 ?_
          have al17 : Z.al 4 p1.toInt.toNat := hz.2 4 p1.toInt.toNat (show p1.toInt.toNat < Z.n from (by omega))
          refine lv_iload_n hx hb dX11_policy_43 rfl (lv_at hl 2 rfl) ?_
          refine c_puti x L1 4 p1.toInt.toNat 4 132 al17 rfl rfl ⟨rfl, by decide +kernel⟩ (wk_in kf_X11_240) dX11_policy_44 (rg_any p2) (fun g18 H18 k18 eg18 L18 => ?_)
          refine lv_aload_n hx hb dX11_policy_47 rfl (lv_at hl 0 rfl) ?_
          refine c_getr (a := Z.ad 51 0) x L18 11 i0 2 hal0 rfl rfl (wk_in kf_X11_63) dX11_policy_48 ?_
          refine lv_iload_n hx hb dX11_policy_51 rfl (lv_at hl 1 rfl) ?_
          refine c_ldr (a := Z.ad 4 p1.toInt.toNat) x L18 51 0 al16 rfl (by omega) (show p1.toInt < ((Z.n : Nat) : Int) from (by omega)) rfl dX11_policy_52 ?_
          refine lv_iload_n hx hb dX11_policy_53 rfl (lv_at hl 3 rfl) ?_
          refine c_puti x L18 4 p1.toInt.toNat 5 133 al17 rfl rfl ⟨rfl, by decide +kernel⟩ (wk_in kf_X11_243) dX11_policy_54 (rg_any p3) (fun g19 H19 k19 eg19 L19 => ?_)
          refine lv_iconst (v := 1) hx hb dX11_policy_57 (by decide) ?_
          exact hQ _ _ (1 : Int32) _ _ _ dX11_policy_58 L19 ⟨(mFr.upE (mFr.upE (mFr.tr mFr.rf hp1.1 rfl) eg18 rfl) eg19 rfl), rg_w kc_1 rfl, trivial⟩
        · skip
          have ic21_14 := congrArg Int32.toInt c21_14
          have y20 : (1 : Int32).toInt = 1 := by decide
          have q21 : rg (1) (1) p2 := (rg_eq c21_14 q13 kc_1).1
          have uq21 : (1 : Int) ≤ p2.toInt ∧ p2.toInt ≤ 1 := q21
          refine lv_iload_n hx hb dX11_policy_24 rfl (lv_at hl 3 rfl) ?_
          refine lv_iconst (v := 1) hx hb dX11_policy_25 (by decide) ?_
          refine lv_icmp_lt (tgt := 35) hx hb dX11_policy_26 (by decide) (fun c26_22 => ?_) (fun c26_22 => ?_)
          · skip
            have ic26_22 := Int32.lt_iff_toInt_lt.mp c26_22
            have q23 : rg (-2147483648) (0) p3 := (rg_lt c26_22 (rg_any p3) kc_1).1
            have uq23 : (-2147483648 : Int) ≤ p3.toInt ∧ p3.toInt ≤ 0 := q23
            refine lv_iconst (v := (-1)) hx hb dX11_policy_35 (by decide) ?_
            exact hQ _ _ (-1 : Int32) _ _ _ dX11_policy_36 L1 ⟨(mFr.tr mFr.rf hp1.1 rfl), rg_w kc_m1 rfl, trivial⟩
          · skip
            have ic26_22 := Int32.le_iff_toInt_le.mp (rg_nlt c26_22)
            have q24 : rg (1) (2147483647) p3 := (rg_le (rg_nlt c26_22) kc_1 (rg_any p3)).2
            have uq24 : (1 : Int) ≤ p3.toInt ∧ p3.toInt ≤ 2147483647 := q24
            refine lv_iload_n hx hb dX11_policy_29 rfl (lv_at hl 3 rfl) ?_
            refine lv_bipush (v := 30) hx hb dX11_policy_30 (by decide) ?_
            refine lv_icmp_le (tgt := 37) hx hb dX11_policy_32 (by decide) (fun c32_25 => ?_) (fun c32_25 => ?_)
            · skip
              have ic32_25 := Int32.le_iff_toInt_le.mp c32_25
              have q26 : rg (1) (30) p3 := (rg_le c32_25 q24 kc_30).1
              have uq26 : (1 : Int) ≤ p3.toInt ∧ p3.toInt ≤ 30 := q26
              refine lv_aload_n hx hb dX11_policy_37 rfl (lv_at hl 0 rfl) ?_
              have al27 : Z.al 51 0 := hz.2 51 0 (show 0 < 1 from (by omega))
              refine c_getr (a := Z.ad 51 0) x L1 11 i0 2 hal0 rfl rfl (wk_in kf_X11_63) dX11_policy_38 ?_
              refine lv_iload_n hx hb dX11_policy_41 rfl (lv_at hl 1 rfl) ?_
              refine c_ldr (a := Z.ad 4 p1.toInt.toNat) x L1 51 0 al27 rfl (by omega) (show p1.toInt < ((Z.n : Nat) : Int) from (by omega)) rfl dX11_policy_42 ?_
              have al28 : Z.al 4 p1.toInt.toNat := hz.2 4 p1.toInt.toNat (show p1.toInt.toNat < Z.n from (by omega))
              refine lv_iload_n hx hb dX11_policy_43 rfl (lv_at hl 2 rfl) ?_
              refine c_puti x L1 4 p1.toInt.toNat 4 132 al28 rfl rfl ⟨rfl, by decide +kernel⟩ (wk_in kf_X11_240) dX11_policy_44 (rg_any p2) (fun g29 H29 k29 eg29 L29 => ?_)
              refine lv_aload_n hx hb dX11_policy_47 rfl (lv_at hl 0 rfl) ?_
              refine c_getr (a := Z.ad 51 0) x L29 11 i0 2 hal0 rfl rfl (wk_in kf_X11_63) dX11_policy_48 ?_
              refine lv_iload_n hx hb dX11_policy_51 rfl (lv_at hl 1 rfl) ?_
              refine c_ldr (a := Z.ad 4 p1.toInt.toNat) x L29 51 0 al27 rfl (by omega) (show p1.toInt < ((Z.n : Nat) : Int) from (by omega)) rfl dX11_policy_52 ?_
              refine lv_iload_n hx hb dX11_policy_53 rfl (lv_at hl 3 rfl) ?_
              refine c_puti x L29 4 p1.toInt.toNat 5 133 al28 rfl rfl ⟨rfl, by decide +kernel⟩ (wk_in kf_X11_243) dX11_policy_54 (rg_any p3) (fun g30 H30 k30 eg30 L30 => ?_)
              refine lv_iconst (v := 1) hx hb dX11_policy_57 (by decide) ?_
              exact hQ _ _ (1 : Int32) _ _ _ dX11_policy_58 L30 ⟨(mFr.upE (mFr.upE (mFr.tr mFr.rf hp1.1 rfl) eg29 rfl) eg30 rfl), rg_w kc_1 rfl, trivial⟩
            · skip
              have ic32_25 := Int32.lt_iff_toInt_lt.mp (rg_nle c32_25)
              have q31 : rg (31) (2147483647) p3 := (rg_lt (rg_nle c32_25) kc_30 q24).2
              have uq31 : (31 : Int) ≤ p3.toInt ∧ p3.toInt ≤ 2147483647 := q31
              refine lv_iconst (v := (-1)) hx hb dX11_policy_35 (by decide) ?_
              exact hQ _ _ (-1 : Int32) _ _ _ dX11_policy_36 L1 ⟨(mFr.tr mFr.rf hp1.1 rfl), rg_w kc_m1 rfl, trivial⟩
      · skip
        have ic14_12 := Int32.lt_iff_toInt_lt.mp (rg_nle c14_12)
        have q32 : rg (3) (2147483647) p2 := (rg_lt (rg_nle c14_12) kc_2 q11).2
        have uq32 : (3 : Int) ≤ p2.toInt ∧ p2.toInt ≤ 2147483647 := q32
        refine lv_iconst (v := (-1)) hx hb dX11_policy_17 (by decide) ?_
        exact hQ _ _ (-1 : Int32) _ _ _ dX11_policy_18 L1 ⟨(mFr.tr mFr.rf hp1.1 rfl), rg_w kc_m1 rfl, trivial⟩
theorem c_kpolicy (l : Launch) {G : cG} {Z : cZ} (X : Int) (g : mSt) (i0 : Nat) (p1 : Int32) (p2 : Int32) (p3 : Int32) (hX : 0 ≤ X ∧ X ≤ 2000000000) (hal0 : Z.al 11 i0) : Met l yX11_policy (wk (Cond.code yX11_policy cX11_policy 4 (some .int))) rm_kpolicy (va_Pc [.ref (Z.ad 11 i0), .int p1, .int p2, .int p3] (cPre G Z X g)) (cQi G Z X (fun r g1 => mFr [132, 133] g g1 ∧ rg (-1) (1) r ∧ True)) 0 0 (cAd Z) := by
  refine Met.ofW (cc := cX11_policy) (maxL := 4) (ret := (some .int)) (by decide) rfl ?_
  intro p e s m args below meth c s₁ B hml hv
  obtain ⟨rfl, hv⟩ := hv
  have hr := B.returns
  have hlocks := B.notSynchronized
  obtain ⟨x, L⟩ := c_start B rfl (fun w h => wk_in h) hv
  have hl := lv_entry ([.ref (Z.ad 11 i0), .int p1, .int p2, .int p3]) (n := 4) (Nat.le_of_ble_eq_true rfl)
  rw [lg_entry_eq]
  generalize (lg_sl ([.ref (Z.ad 11 i0), .int p1, .int p2, .int p3]) ++ List.replicate (4 - (lg_sl ([.ref (Z.ad 11 i0), .int p1, .int p2, .int p3])).length) Slot.unset).toArray = ls at hl ⊢
  exact w_kpolicy x hml L hX i0 p1 p2 p3 hal0 hl (fun pc' ls' r g1 H1 locs1 hdg L hp => c_iret x L hr hlocks (Int.le_refl _) hp hdg)

def rm_kplaceOfFrame : Room := { frames := 0, cells := 0, slots := 0, locals := 0 }
theorem hd_kplaceOfFrame : yX4_placeOfFrame.cls = cRn 4 ∧ yX4_placeOfFrame.cls ≠ "java/lang/invoke/MethodHandle" ∧ yX4_placeOfFrame.cls ≠ "java/lang/invoke/VarHandle" ∧ (parseMethodDescriptor yX4_placeOfFrame.desc).map (fun d => d.parameters.length) = some 1 := by decide +kernel
set_option maxHeartbeats 4000000 in
set_option maxRecDepth 100000 in
theorem w_kplaceOfFrame {p : Program} {l : Launch} {e : Env} {s : State} {m : MethodId} {args : Array Value} {below : List Frame} {meth : Method} {c : Code} {H : Heap} {locs : List Loc} {Q : State → Prop} {ls : Array Slot} {G : cG} {Z : cZ} {A : Nat → Prop} {g : mSt} {H0 : Heap} {X : Int} (x : cX p c cX4_placeOfFrame s args (wk (Cond.code yX4_placeOfFrame cX4_placeOfFrame 2 (some .int))) m G Z A RX4 H0) (hml : c.maxLocals = 2) (L : cL G Z A H0 X g H locs) (hX : 0 ≤ X ∧ X ≤ 2000000000) (i0 : Nat) (p1 : Int32) (hi0 : i0 < Z.n) (hl : lv_has ls 2 [(0, .ref (Z.ad 4 i0)), (1, .int p1)]) (hQ : ∀ (pc' : Nat) (ls' : Array Slot) (r : Int32) (g1 : mSt) (H1 : Heap) (locs1 : List Loc), decode cX4_placeOfFrame pc' = .ok (.ireturn, 1) → cL G Z A H0 X g1 H1 locs1 → (mFr [] g g1 ∧ rg (-1) (19) r ∧ True) → W p l e rm_kplaceOfFrame s m args below meth c H1 locs1 0 0 Q (F0 m pc' ls' [.int r])) : W p l e rm_kplaceOfFrame s m args below meth c H locs 0 0 Q (F0 m 0 ls []) := by
  have hx := x.1
  have hb := x.2.1
  have hz := x.2.2.2.2.2.2.2.1
  have hzn := hz.1
  have hal0 : Z.al 4 i0 := hz.2 4 i0 (show i0 < Z.n from hi0)
  have up1 : (-2147483648 : Int) ≤ p1.toInt ∧ p1.toInt ≤ 2147483647 := (rg_any p1)
  refine lv_iload_n hx hb dX4_placeOfFrame_0 rfl (lv_at hl 1 rfl) ?_
  refine lv_if_lt (tgt := 18) hx hb dX4_placeOfFrame_1 (by decide) (fun c1_1 => ?_) (fun c1_1 => ?_)
  · skip
    have ic1_1 := Int32.lt_iff_toInt_lt.mp c1_1
    have q2 : rg (-2147483648) (-1) p1 := (rg_lt c1_1 (rg_any p1) kc_0).1
    have uq2 : (-2147483648 : Int) ≤ p1.toInt ∧ p1.toInt ≤ -1 := q2
    refine lv_iconst (v := (-1)) hx hb dX4_placeOfFrame_18 (by decide) ?_
    exact hQ _ _ (-1 : Int32) _ _ _ dX4_placeOfFrame_19 L ⟨mFr.rf, rg_w kc_m1 rfl, trivial⟩
  · skip
    have ic1_1 := Int32.le_iff_toInt_le.mp (rg_nlt c1_1)
    have q3 : rg (0) (2147483647) p1 := (rg_le (rg_nlt c1_1) kc_0 (rg_any p1)).2
    have uq3 : (0 : Int) ≤ p1.toInt ∧ p1.toInt ≤ 2147483647 := q3
    refine lv_iload_n hx hb dX4_placeOfFrame_4 rfl (lv_at hl 1 rfl) ?_
    refine lv_bipush (v := 20) hx hb dX4_placeOfFrame_5 (by decide) ?_
    refine lv_icmp_ge (tgt := 18) hx hb dX4_placeOfFrame_7 (by decide) (fun c7_4 => ?_) (fun c7_4 => ?_)
    · skip
      have ic7_4 := Int32.le_iff_toInt_le.mp c7_4
      have q5 : rg (20) (2147483647) p1 := (rg_le c7_4 kc_20 q3).2
      have uq5 : (20 : Int) ≤ p1.toInt ∧ p1.toInt ≤ 2147483647 := q5
      refine lv_iconst (v := (-1)) hx hb dX4_placeOfFrame_18 (by decide) ?_
      exact hQ _ _ (-1 : Int32) _ _ _ dX4_placeOfFrame_19 L ⟨mFr.rf, rg_w kc_m1 rfl, trivial⟩
    · skip
      have ic7_4 := Int32.lt_iff_toInt_lt.mp (rg_nle c7_4)
      have q6 : rg (0) (19) p1 := (rg_lt (rg_nle c7_4) q3 kc_20).1
      have uq6 : (0 : Int) ≤ p1.toInt ∧ p1.toInt ≤ 19 := q6
      refine lv_iload_n hx hb dX4_placeOfFrame_10 rfl (lv_at hl 1 rfl) ?_
      refine lv_aload_n hx hb dX4_placeOfFrame_11 rfl (lv_at hl 0 rfl) ?_
      refine c_geti x L 4 i0 8 136 hal0 rfl rfl (wk_in kf_X4_165) dX4_placeOfFrame_12 (fun v7 ev7 wv7 => ?_)
      have rv7 : rg 0 2000000000 v7 := rg_X hX (clj_136 wv7)
      have uv7 : (0 : Int) ≤ v7.toInt ∧ v7.toInt ≤ 2000000000 := rv7
      have sv7 : v7.toInt = (g 136 i0).toInt := congrArg Int32.toInt (ev7.trans (congrFun ((show mFr [] g g from mFr.rf).at 136 rfl) _))
      refine lv_icmp_lt (tgt := 20) hx hb dX4_placeOfFrame_15 (by decide) (fun c15_8 => ?_) (fun c15_8 => ?_)
      · skip
        have ic15_8 := Int32.lt_iff_toInt_lt.mp c15_8
        have q9 : rg (1) (2000000000) v7 := (rg_lt c15_8 q6 rv7).2
        have uq9 : (1 : Int) ≤ v7.toInt ∧ v7.toInt ≤ 2000000000 := q9
        refine lv_aload_n hx hb dX4_placeOfFrame_20 rfl (lv_at hl 0 rfl) ?_
        refine c_geti x L 4 i0 8 136 hal0 rfl rfl (wk_in kf_X4_165) dX4_placeOfFrame_21 (fun v10 ev10 wv10 => ?_)
        refine m_top ((ev7).trans ev10.symm) ?_
        refine lv_iconst (v := 1) hx hb dX4_placeOfFrame_24 (by decide) ?_
        refine lv_isub hx hb dX4_placeOfFrame_25 ?_
        refine lv_topi (fun v11 ev11 => ?_)
        have rv11 : rg (0) (1999999999) v11 := (rg_sub ev11 q9 kc_1 rfl).1
        have tv11 := (rg_sub ev11 q9 kc_1 rfl).2
        have y12 : (1 : Int32).toInt = 1 := by decide
        have uv11 : (0 : Int) ≤ v11.toInt ∧ v11.toInt ≤ 1999999999 := rv11
        refine lv_iload_n hx hb dX4_placeOfFrame_26 rfl (lv_at hl 1 rfl) ?_
        refine lv_isub hx hb dX4_placeOfFrame_27 ?_
        refine lv_topi (fun v13 ev13 => ?_)
        have rv13 : rg (-19) (1999999999) v13 := (rg_sub ev13 rv11 q6 rfl).1
        have tv13 := (rg_sub ev13 rv11 q6 rfl).2
        have q14 : rg (0) (2000000000) v13 := ⟨by omega, by omega⟩
        have uv13 : (0 : Int) ≤ v13.toInt ∧ v13.toInt ≤ 2000000000 := q14
        refine lv_bipush (v := 20) hx hb dX4_placeOfFrame_28 (by decide) ?_
        refine lv_irem hx hb dX4_placeOfFrame_30 (by decide) ?_
        refine lv_topi (fun v15 ev15 => ?_)
        have rv15 : rg (0) (19) v15 := (rg_rem ev15 q14 kc_20 rfl).1
        have tv15 := (rg_rem ev15 q14 kc_20 rfl).2
        have y16 : (20 : Int32).toInt = 20 := by decide
        have uv15 : (0 : Int) ≤ v15.toInt ∧ v15.toInt ≤ 19 := rv15
        exact hQ _ _ v15 _ _ _ dX4_placeOfFrame_31 L ⟨mFr.rf, rg_w rv15 rfl, trivial⟩
      · skip
        have ic15_8 := Int32.le_iff_toInt_le.mp (rg_nlt c15_8)
        have q17 : rg (0) (19) v7 := (rg_le (rg_nlt c15_8) rv7 q6).1
        have uq17 : (0 : Int) ≤ v7.toInt ∧ v7.toInt ≤ 19 := q17
        refine lv_iconst (v := (-1)) hx hb dX4_placeOfFrame_18 (by decide) ?_
        exact hQ _ _ (-1 : Int32) _ _ _ dX4_placeOfFrame_19 L ⟨mFr.rf, rg_w kc_m1 rfl, trivial⟩
theorem c_kplaceOfFrame (l : Launch) {G : cG} {Z : cZ} (X : Int) (g : mSt) (i0 : Nat) (p1 : Int32) (hX : 0 ≤ X ∧ X ≤ 2000000000) (hi0 : i0 < Z.n) : Met l yX4_placeOfFrame (wk (Cond.code yX4_placeOfFrame cX4_placeOfFrame 2 (some .int))) rm_kplaceOfFrame (va_Pc [.ref (Z.ad 4 i0), .int p1] (cPre G Z X g)) (cQi G Z X (fun r g1 => mFr [] g g1 ∧ rg (-1) (19) r ∧ True)) 0 0 (cAd Z) := by
  refine Met.ofW (cc := cX4_placeOfFrame) (maxL := 2) (ret := (some .int)) (by decide) rfl ?_
  intro p e s m args below meth c s₁ B hml hv
  obtain ⟨rfl, hv⟩ := hv
  have hr := B.returns
  have hlocks := B.notSynchronized
  obtain ⟨x, L⟩ := c_start B rfl (fun w h => wk_in h) hv
  have hl := lv_entry ([.ref (Z.ad 4 i0), .int p1]) (n := 2) (Nat.le_of_ble_eq_true rfl)
  rw [lg_entry_eq]
  generalize (lg_sl ([.ref (Z.ad 4 i0), .int p1]) ++ List.replicate (2 - (lg_sl ([.ref (Z.ad 4 i0), .int p1])).length) Slot.unset).toArray = ls at hl ⊢
  exact w_kplaceOfFrame x hml L hX i0 p1 hi0 hl (fun pc' ls' r g1 H1 locs1 hdg L hp => c_iret x L hr hlocks (Int.le_refl _) hp hdg)

def rm_kreceived : Room := { frames := 1, cells := 0, slots := 0, locals := 21 }
theorem hd_kreceived : yX11_received.cls = cRn 11 ∧ yX11_received.cls ≠ "java/lang/invoke/MethodHandle" ∧ yX11_received.cls ≠ "java/lang/invoke/VarHandle" ∧ (parseMethodDescriptor yX11_received.desc).map (fun d => d.parameters.length) = some 3 := by decide +kernel
set_option maxHeartbeats 4000000 in
set_option maxRecDepth 100000 in
theorem w_kreceived {p : Program} {l : Launch} {e : Env} {s : State} {m : MethodId} {args : Array Value} {below : List Frame} {meth : Method} {c : Code} {H : Heap} {locs : List Loc} {Q : State → Prop} {ls : Array Slot} {G : cG} {Z : cZ} {A : Nat → Prop} {g : mSt} {H0 : Heap} {X : Int} (x : cX p c cX11_received s args (wk (Cond.code yX11_received cX11_received 6 (some .int))) m G Z A RX11 H0) (hml : c.maxLocals = 6) (L : cL G Z A H0 X g H locs) (hX : 0 ≤ X ∧ X ≤ 2000000000) (i0 : Nat) (p1 : Int32) (p2 : Int32) (p3 : Int32) (hal0 : Z.al 11 i0) (hl : lv_has ls 6 [(0, .ref (Z.ad 11 i0)), (1, .int p1), (2, .int p2), (3, .int p3)]) (hQ : ∀ (pc' : Nat) (ls' : Array Slot) (r : Int32) (g1 : mSt) (H1 : Heap) (locs1 : List Loc), decode cX11_received pc' = .ok (.ireturn, 1) → cL G Z A H0 X g1 H1 locs1 → (mFr [] g g1 ∧ rg (-2147483648) (2147483647) r ∧ True) → W p l e rm_kreceived s m args below meth c H1 locs1 0 0 Q (F0 m pc' ls' [.int r])) : W p l e rm_kreceived s m args below meth c H locs 0 0 Q (F0 m 0 ls []) := by
  have hx := x.1
  have hb := x.2.1
  have hz := x.2.2.2.2.2.2.2.1
  have hzn := hz.1
  have up1 : (-2147483648 : Int) ≤ p1.toInt ∧ p1.toInt ≤ 2147483647 := (rg_any p1)
  have up2 : (-2147483648 : Int) ≤ p2.toInt ∧ p2.toInt ≤ 2147483647 := (rg_any p2)
  have up3 : (-2147483648 : Int) ≤ p3.toInt ∧ p3.toInt ≤ 2147483647 := (rg_any p3)
  refine lv_aload_n hx hb dX11_received_0 rfl (lv_at hl 0 rfl) ?_
  refine lv_iload_n hx hb dX11_received_1 rfl (lv_at hl 1 rfl) ?_
  refine c_ci (As := [.int p1]) (rest := []) x hml L 11 i0 hal0 rfl (c_kisEnd l X g i0 p1 hX hal0) (wk_V kd_X11_isEnd kl_X11_223 ki_X11_isEnd ks_X11_X11_isEnd kn_X11) rfl ⟨rfl, rfl⟩ hd_kisEnd ⟨Nat.le_of_ble_eq_true rfl, Nat.le_of_ble_eq_true rfl⟩ rfl hl.1 rfl (lv_room (Nat.le_of_ble_eq_true rfl)) dX11_received_2 (fun v2 g1 H1 k1 hp1 L1 => ?_)
  have rv2 : rg (0) (1) v2 := hp1.2.1
  have uv2 : (0 : Int) ≤ v2.toInt ∧ v2.toInt ≤ 1 := rv2
  have hw3 := hp1.2.2
  refine lv_if_ne (tgt := 10) hx hb dX11_received_5 (by decide) (fun c5_4 => ?_) (fun c5_4 => ?_)
  · skip
    have ic5_4 : v2.toInt ≠ (0 : Int32).toInt := fun z => c5_4 (Int32.toInt_inj.mp z)
    have y5 : (0 : Int32).toInt = 0 := by decide
    have q6 : rg (1) (1) v2 := rg_neL c5_4 rv2 kc_0
    have uq6 : (1 : Int) ≤ v2.toInt ∧ v2.toInt ≤ 1 := q6
    refine lv_aload_n hx hb dX11_received_10 rfl (lv_at hl 0 rfl) ?_
    have al7 : Z.al 51 0 := hz.2 51 0 (show 0 < 1 from (by omega))
    refine c_getr (a := Z.ad 51 0) x L1 11 i0 2 hal0 rfl rfl (wk_in kf_X11_63) dX11_received_11 ?_
    refine lv_iload_n hx hb dX11_received_14 rfl (lv_at hl 1 rfl) ?_
    refine c_ldr (a := Z.ad 4 p1.toInt.toNat) x L1 51 0 al7 rfl (by omega) (show p1.toInt < ((Z.n : Nat) : Int) from (by omega)) rfl dX11_received_15 ?_
    have al8 : Z.al 4 p1.toInt.toNat := hz.2 4 p1.toInt.toNat (show p1.toInt.toNat < Z.n from (by omega))
    refine lv_astore (lv' := [(4, .ref (Z.ad 4 p1.toInt.toNat)), (0, .ref (Z.ad 11 i0)), (1, .int p1), (2, .int p2), (3, .int p3)]) hx hb dX11_received_16 hl (by decide) rfl (fun ls hl => ?_)
    refine lv_iload_n hx hb dX11_received_18 rfl (lv_at hl 3 rfl) ?_
    refine lv_iconst (v := (-1)) hx hb dX11_received_19 (by decide) ?_
    refine lv_icmp_ne (tgt := 37) hx hb dX11_received_20 (by decide) (fun c20_9 => ?_) (fun c20_9 => ?_)
    · skip
      have ic20_9 : p2.toInt ≠ (-1 : Int32).toInt := fun z => c20_9 (Int32.toInt_inj.mp z)
      have y10 : (-1 : Int32).toInt = -1 := by decide
      refine lv_aload hx hb dX11_received_37 (lv_at hl 0 rfl) ?_
      refine lv_iload_n hx hb dX11_received_39 rfl (lv_at hl 3 rfl) ?_
      refine c_ci (As := [.int p2]) (rest := []) x hml L1 4 p1.toInt.toNat al8 rfl (c_kplaceOfFrame l X g1 p1.toInt.toNat p2 hX (show p1.toInt.toNat < Z.n from (by omega))) (wk_V kd_X4_placeOfFrame kl_X11_274 ki_X4_placeOfFrame ks_X4_X4_placeOfFrame kn_X4) rfl ⟨rfl, rfl⟩ hd_kplaceOfFrame ⟨Nat.le_of_ble_eq_true rfl, Nat.le_of_ble_eq_true rfl⟩ rfl hl.1 rfl (lv_room (Nat.le_of_ble_eq_true rfl)) dX11_received_40 (fun v12 g11 H11 k11 hp11 L11 => ?_)
      have rv12 : rg (-1) (19) v12 := hp11.2.1
      have uv12 : (-1 : Int) ≤ v12.toInt ∧ v12.toInt ≤ 19 := rv12
      refine lv_istore (lv' := [(5, .int v12), (4, .ref (Z.ad 4 p1.toInt.toNat)), (0, .ref (Z.ad 11 i0)), (1, .int p1), (2, .int p2), (3, .int p3)]) hx hb dX11_received_43 hl (by decide) rfl (fun ls hl => ?_)
      refine lv_iload hx hb dX11_received_45 (lv_at hl 0 rfl) ?_
      refine lv_if_ge (tgt := 52) hx hb dX11_received_47 (by decide) (fun c47_13 => ?_) (fun c47_13 => ?_)
      · skip
        have ic47_13 := Int32.le_iff_toInt_le.mp c47_13
        have q14 : rg (0) (19) v12 := (rg_le c47_13 kc_0 rv12).2
        have uq14 : (0 : Int) ≤ v12.toInt ∧ v12.toInt ≤ 19 := q14
        refine lv_iload_n hx hb dX11_received_52 rfl (lv_at hl 5 rfl) ?_
        rcases (show p3.toInt < 0 ∨ 2 < p3.toInt ∨ p3.toInt = 0 ∨ p3.toInt = 1 ∨ p3.toInt = 2 by omega) with c53_15 | c53_15 | c53_15 | c53_15 | c53_15
        · skip
          refine lv_tableOut (tgt := 107) hx hb dX11_received_53 (Or.inl c53_15) (by decide) ?_
          refine lv_iconst (v := (-1)) hx hb dX11_received_107 (by decide) ?_
          exact hQ _ _ (-1 : Int32) _ _ _ dX11_received_108 L11 ⟨(mFr.tr (mFr.tr mFr.rf hp1.1 rfl) hp11.1 rfl), rg_w kc_m1 rfl, trivial⟩
        · skip
          refine lv_tableOut (tgt := 107) hx hb dX11_received_53 (Or.inr c53_15) (by decide) ?_
          refine lv_iconst (v := (-1)) hx hb dX11_received_107 (by decide) ?_
          exact hQ _ _ (-1 : Int32) _ _ _ dX11_received_108 L11 ⟨(mFr.tr (mFr.tr mFr.rf hp1.1 rfl) hp11.1 rfl), rg_w kc_m1 rfl, trivial⟩
        · skip
          have q16 : rg (0) (0) p3 := ⟨by omega, by omega⟩
          refine lv_tableIn (off := 27) (tgt := 80) hx hb dX11_received_53 (by omega) (by omega) (by rw [c53_15]; rfl) (by decide) ?_
          refine lv_aload hx hb dX11_received_80 (lv_at hl 1 rfl) ?_
          have al17 : Z.al 32 p1.toInt.toNat := hz.2 32 p1.toInt.toNat (show p1.toInt.toNat < Z.n from (by omega))
          refine c_getr (a := Z.ad 32 p1.toInt.toNat) x L11 4 p1.toInt.toNat 11 al8 rfl rfl (wk_in kf_X11_278) dX11_received_82 ?_
          refine lv_iload hx hb dX11_received_85 (lv_at hl 0 rfl) ?_
          refine c_ld x L11 32 p1.toInt.toNat 1024 al17 rfl rfl q14 rfl dX11_received_87 (fun v18 ev18 wv18 => ?_)
          have rv18 : rg (-2147483648) (2147483647) v18 := rg_any v18
          have uv18 : (-2147483648 : Int) ≤ v18.toInt ∧ v18.toInt ≤ 2147483647 := rv18
          have sv18 : v18.toInt = (g 1024 (8192 * p1.toInt.toNat + v12.toNatClampNeg)).toInt := congrArg Int32.toInt (ev18.trans (congrFun ((show mFr [] g g11 from (mFr.tr (mFr.tr mFr.rf hp1.1 rfl) hp11.1 rfl)).at 1024 rfl) _))
          exact hQ _ _ v18 _ _ _ dX11_received_88 L11 ⟨(mFr.tr (mFr.tr mFr.rf hp1.1 rfl) hp11.1 rfl), rg_w rv18 rfl, trivial⟩
        · skip
          have q19 : rg (1) (1) p3 := ⟨by omega, by omega⟩
          refine lv_tableIn (off := 36) (tgt := 89) hx hb dX11_received_53 (by omega) (by omega) (by rw [c53_15]; rfl) (by decide) ?_
          refine lv_aload hx hb dX11_received_89 (lv_at hl 1 rfl) ?_
          have al20 : Z.al 31 p1.toInt.toNat := hz.2 31 p1.toInt.toNat (show p1.toInt.toNat < Z.n from (by omega))
          refine c_getr (a := Z.ad 31 p1.toInt.toNat) x L11 4 p1.toInt.toNat 10 al8 rfl rfl (wk_in kf_X11_281) dX11_received_91 ?_
          refine lv_iload hx hb dX11_received_94 (lv_at hl 0 rfl) ?_
          refine c_ld x L11 31 p1.toInt.toNat 992 al20 rfl rfl q14 rfl dX11_received_96 (fun v21 ev21 wv21 => ?_)
          have rv21 : rg (0) (200) v21 := clj_992 wv21
          have uv21 : (0 : Int) ≤ v21.toInt ∧ v21.toInt ≤ 200 := rv21
          have sv21 : v21.toInt = (g 992 (8192 * p1.toInt.toNat + v12.toNatClampNeg)).toInt := congrArg Int32.toInt (ev21.trans (congrFun ((show mFr [] g g11 from (mFr.tr (mFr.tr mFr.rf hp1.1 rfl) hp11.1 rfl)).at 992 rfl) _))
          exact hQ _ _ v21 _ _ _ dX11_received_97 L11 ⟨(mFr.tr (mFr.tr mFr.rf hp1.1 rfl) hp11.1 rfl), rg_w rv21 rfl, trivial⟩
        · skip
          have q22 : rg (2) (2) p3 := ⟨by omega, by omega⟩
          refine lv_tableIn (off := 45) (tgt := 98) hx hb dX11_received_53 (by omega) (by omega) (by rw [c53_15]; rfl) (by decide) ?_
          refine lv_aload hx hb dX11_received_98 (lv_at hl 1 rfl) ?_
          have al23 : Z.al 33 p1.toInt.toNat := hz.2 33 p1.toInt.toNat (show p1.toInt.toNat < Z.n from (by omega))
          refine c_getr (a := Z.ad 33 p1.toInt.toNat) x L11 4 p1.toInt.toNat 12 al8 rfl rfl (wk_in kf_X11_284) dX11_received_100 ?_
          refine lv_iload hx hb dX11_received_103 (lv_at hl 0 rfl) ?_
          refine c_ld x L11 33 p1.toInt.toNat 1056 al23 rfl rfl q14 rfl dX11_received_105 (fun v24 ev24 wv24 => ?_)
          have rv24 : rg (-2147483648) (2147483647) v24 := rg_any v24
          have uv24 : (-2147483648 : Int) ≤ v24.toInt ∧ v24.toInt ≤ 2147483647 := rv24
          have sv24 : v24.toInt = (g 1056 (8192 * p1.toInt.toNat + v12.toNatClampNeg)).toInt := congrArg Int32.toInt (ev24.trans (congrFun ((show mFr [] g g11 from (mFr.tr (mFr.tr mFr.rf hp1.1 rfl) hp11.1 rfl)).at 1056 rfl) _))
          exact hQ _ _ v24 _ _ _ dX11_received_106 L11 ⟨(mFr.tr (mFr.tr mFr.rf hp1.1 rfl) hp11.1 rfl), rg_w rv24 rfl, trivial⟩
      · skip
        have ic47_13 := Int32.lt_iff_toInt_lt.mp (rg_nle c47_13)
        have q25 : rg (-1) (-1) v12 := (rg_lt (rg_nle c47_13) rv12 kc_0).1
        have uq25 : (-1 : Int) ≤ v12.toInt ∧ v12.toInt ≤ -1 := q25
        refine lv_iconst (v := (-1)) hx hb dX11_received_50 (by decide) ?_
        exact hQ _ _ (-1 : Int32) _ _ _ dX11_received_51 L11 ⟨(mFr.tr (mFr.tr mFr.rf hp1.1 rfl) hp11.1 rfl), rg_w kc_m1 rfl, trivial⟩
    · skip
      have ic20_9 := congrArg Int32.toInt c20_9
      have y26 : (-1 : Int32).toInt = -1 := by decide
      have q27 : rg (-1) (-1) p2 := (rg_eq c20_9 (rg_any p2) kc_m1).1
      have uq27 : (-1 : Int) ≤ p2.toInt ∧ p2.toInt ≤ -1 := q27
      refine lv_iload_n hx hb dX11_received_23 rfl (lv_at hl 4 rfl) ?_
      refine lv_if_ne (tgt := 35) hx hb dX11_received_24 (by decide) (fun c24_28 => ?_) (fun c24_28 => ?_)
      · skip
        have ic24_28 : p3.toInt ≠ (0 : Int32).toInt := fun z => c24_28 (Int32.toInt_inj.mp z)
        have y29 : (0 : Int32).toInt = 0 := by decide
        refine lv_iconst (v := (-1)) hx hb dX11_received_35 (by decide) ?_
        exact hQ _ _ (-1 : Int32) _ _ _ dX11_received_36 L1 ⟨(mFr.tr mFr.rf hp1.1 rfl), rg_w kc_m1 rfl, trivial⟩
      · skip
        have ic24_28 := congrArg Int32.toInt c24_28
        have y30 : (0 : Int32).toInt = 0 := by decide
        have q31 : rg (0) (0) p3 := (rg_eq c24_28 (rg_any p3) kc_0).1
        have uq31 : (0 : Int) ≤ p3.toInt ∧ p3.toInt ≤ 0 := q31
        refine lv_aload hx hb dX11_received_27 (lv_at hl 0 rfl) ?_
        refine c_geti x L1 4 p1.toInt.toNat 8 136 al8 rfl rfl (wk_in kf_X11_271) dX11_received_29 (fun v32 ev32 wv32 => ?_)
        have rv32 : rg 0 2000000000 v32 := rg_X hX (clj_136 wv32)
        have uv32 : (0 : Int) ≤ v32.toInt ∧ v32.toInt ≤ 2000000000 := rv32
        have sv32 : v32.toInt = (g 136 p1.toInt.toNat).toInt := congrArg Int32.toInt (ev32.trans (congrFun ((show mFr [] g g1 from (mFr.tr mFr.rf hp1.1 rfl)).at 136 rfl) _))
        refine lv_goto (tgt := 36) hx hb dX11_received_32 (by decide) ?_
        exact hQ _ _ v32 _ _ _ dX11_received_36 L1 ⟨(mFr.tr mFr.rf hp1.1 rfl), rg_w rv32 rfl, trivial⟩
  · skip
    have ic5_4 := congrArg Int32.toInt c5_4
    have y33 : (0 : Int32).toInt = 0 := by decide
    have q34 : rg (0) (0) v2 := (rg_eq c5_4 rv2 kc_0).1
    have uq34 : (0 : Int) ≤ v2.toInt ∧ v2.toInt ≤ 0 := q34
    refine lv_iconst (v := (-1)) hx hb dX11_received_8 (by decide) ?_
    exact hQ _ _ (-1 : Int32) _ _ _ dX11_received_9 L1 ⟨(mFr.tr mFr.rf hp1.1 rfl), rg_w kc_m1 rfl, trivial⟩
theorem c_kreceived (l : Launch) {G : cG} {Z : cZ} (X : Int) (g : mSt) (i0 : Nat) (p1 : Int32) (p2 : Int32) (p3 : Int32) (hX : 0 ≤ X ∧ X ≤ 2000000000) (hal0 : Z.al 11 i0) : Met l yX11_received (wk (Cond.code yX11_received cX11_received 6 (some .int))) rm_kreceived (va_Pc [.ref (Z.ad 11 i0), .int p1, .int p2, .int p3] (cPre G Z X g)) (cQi G Z X (fun r g1 => mFr [] g g1 ∧ rg (-2147483648) (2147483647) r ∧ True)) 0 0 (cAd Z) := by
  refine Met.ofW (cc := cX11_received) (maxL := 6) (ret := (some .int)) (by decide) rfl ?_
  intro p e s m args below meth c s₁ B hml hv
  obtain ⟨rfl, hv⟩ := hv
  have hr := B.returns
  have hlocks := B.notSynchronized
  obtain ⟨x, L⟩ := c_start B rfl (fun w h => wk_in h) hv
  have hl := lv_entry ([.ref (Z.ad 11 i0), .int p1, .int p2, .int p3]) (n := 6) (Nat.le_of_ble_eq_true rfl)
  rw [lg_entry_eq]
  generalize (lg_sl ([.ref (Z.ad 11 i0), .int p1, .int p2, .int p3]) ++ List.replicate (6 - (lg_sl ([.ref (Z.ad 11 i0), .int p1, .int p2, .int p3])).length) Slot.unset).toArray = ls at hl ⊢
  exact w_kreceived x hml L hX i0 p1 p2 p3 hal0 hl (fun pc' ls' r g1 H1 locs1 hdg L hp => c_iret x L hr hlocks (Int.le_refl _) hp hdg)

def rm_kbyteOf : Room := { frames := 1, cells := 0, slots := 0, locals := 21 }
theorem hd_kbyteOf : yX11_byteOf.cls = cRn 11 ∧ yX11_byteOf.cls ≠ "java/lang/invoke/MethodHandle" ∧ yX11_byteOf.cls ≠ "java/lang/invoke/VarHandle" ∧ (parseMethodDescriptor yX11_byteOf.desc).map (fun d => d.parameters.length) = some 3 := by decide +kernel
set_option maxHeartbeats 4000000 in
set_option maxRecDepth 100000 in
theorem w_kbyteOf {p : Program} {l : Launch} {e : Env} {s : State} {m : MethodId} {args : Array Value} {below : List Frame} {meth : Method} {c : Code} {H : Heap} {locs : List Loc} {Q : State → Prop} {ls : Array Slot} {G : cG} {Z : cZ} {A : Nat → Prop} {g : mSt} {H0 : Heap} {X : Int} (x : cX p c cX11_byteOf s args (wk (Cond.code yX11_byteOf cX11_byteOf 6 (some .int))) m G Z A RX11 H0) (hml : c.maxLocals = 6) (L : cL G Z A H0 X g H locs) (hX : 0 ≤ X ∧ X ≤ 2000000000) (i0 : Nat) (p1 : Int32) (p2 : Int32) (p3 : Int32) (hal0 : Z.al 11 i0) (hl : lv_has ls 6 [(0, .ref (Z.ad 11 i0)), (1, .int p1), (2, .int p2), (3, .int p3)]) (hQ : ∀ (pc' : Nat) (ls' : Array Slot) (r : Int32) (g1 : mSt) (H1 : Heap) (locs1 : List Loc), decode cX11_byteOf pc' = .ok (.ireturn, 1) → cL G Z A H0 X g1 H1 locs1 → (mFr [] g g1 ∧ rg (-2147483648) (2147483647) r ∧ True) → W p l e rm_kbyteOf s m args below meth c H1 locs1 0 0 Q (F0 m pc' ls' [.int r])) : W p l e rm_kbyteOf s m args below meth c H locs 0 0 Q (F0 m 0 ls []) := by
  have hx := x.1
  have hb := x.2.1
  have hz := x.2.2.2.2.2.2.2.1
  have hzn := hz.1
  have up1 : (-2147483648 : Int) ≤ p1.toInt ∧ p1.toInt ≤ 2147483647 := (rg_any p1)
  have up2 : (-2147483648 : Int) ≤ p2.toInt ∧ p2.toInt ≤ 2147483647 := (rg_any p2)
  have up3 : (-2147483648 : Int) ≤ p3.toInt ∧ p3.toInt ≤ 2147483647 := (rg_any p3)
  refine lv_aload_n hx hb dX11_byteOf_0 rfl (lv_at hl 0 rfl) ?_
  refine lv_iload_n hx hb dX11_byteOf_1 rfl (lv_at hl 1 rfl) ?_
  refine c_ci (As := [.int p1]) (rest := []) x hml L 11 i0 hal0 rfl (c_kisEnd l X g i0 p1 hX hal0) (wk_V kd_X11_isEnd kl_X11_223 ki_X11_isEnd ks_X11_X11_isEnd kn_X11) rfl ⟨rfl, rfl⟩ hd_kisEnd ⟨Nat.le_of_ble_eq_true rfl, Nat.le_of_ble_eq_true rfl⟩ rfl hl.1 rfl (lv_room (Nat.le_of_ble_eq_true rfl)) dX11_byteOf_2 (fun v2 g1 H1 k1 hp1 L1 => ?_)
  have rv2 : rg (0) (1) v2 := hp1.2.1
  have uv2 : (0 : Int) ≤ v2.toInt ∧ v2.toInt ≤ 1 := rv2
  have hw3 := hp1.2.2
  refine lv_if_ne (tgt := 10) hx hb dX11_byteOf_5 (by decide) (fun c5_4 => ?_) (fun c5_4 => ?_)
  · skip
    have ic5_4 : v2.toInt ≠ (0 : Int32).toInt := fun z => c5_4 (Int32.toInt_inj.mp z)
    have y5 : (0 : Int32).toInt = 0 := by decide
    have q6 : rg (1) (1) v2 := rg_neL c5_4 rv2 kc_0
    have uq6 : (1 : Int) ≤ v2.toInt ∧ v2.toInt ≤ 1 := q6
    refine lv_aload_n hx hb dX11_byteOf_10 rfl (lv_at hl 0 rfl) ?_
    have al7 : Z.al 51 0 := hz.2 51 0 (show 0 < 1 from (by omega))
    refine c_getr (a := Z.ad 51 0) x L1 11 i0 2 hal0 rfl rfl (wk_in kf_X11_63) dX11_byteOf_11 ?_
    refine lv_iload_n hx hb dX11_byteOf_14 rfl (lv_at hl 1 rfl) ?_
    refine c_ldr (a := Z.ad 4 p1.toInt.toNat) x L1 51 0 al7 rfl (by omega) (show p1.toInt < ((Z.n : Nat) : Int) from (by omega)) rfl dX11_byteOf_15 ?_
    have al8 : Z.al 4 p1.toInt.toNat := hz.2 4 p1.toInt.toNat (show p1.toInt.toNat < Z.n from (by omega))
    refine lv_astore (lv' := [(4, .ref (Z.ad 4 p1.toInt.toNat)), (0, .ref (Z.ad 11 i0)), (1, .int p1), (2, .int p2), (3, .int p3)]) hx hb dX11_byteOf_16 hl (by decide) rfl (fun ls hl => ?_)
    refine lv_aload hx hb dX11_byteOf_18 (lv_at hl 0 rfl) ?_
    refine lv_iload_n hx hb dX11_byteOf_20 rfl (lv_at hl 3 rfl) ?_
    refine c_ci (As := [.int p2]) (rest := []) x hml L1 4 p1.toInt.toNat al8 rfl (c_kplaceOfFrame l X g1 p1.toInt.toNat p2 hX (show p1.toInt.toNat < Z.n from (by omega))) (wk_V kd_X4_placeOfFrame kl_X11_274 ki_X4_placeOfFrame ks_X4_X4_placeOfFrame kn_X4) rfl ⟨rfl, rfl⟩ hd_kplaceOfFrame ⟨Nat.le_of_ble_eq_true rfl, Nat.le_of_ble_eq_true rfl⟩ rfl hl.1 rfl (lv_room (Nat.le_of_ble_eq_true rfl)) dX11_byteOf_21 (fun v10 g9 H9 k9 hp9 L9 => ?_)
    have rv10 : rg (-1) (19) v10 := hp9.2.1
    have uv10 : (-1 : Int) ≤ v10.toInt ∧ v10.toInt ≤ 19 := rv10
    refine lv_istore (lv' := [(5, .int v10), (4, .ref (Z.ad 4 p1.toInt.toNat)), (0, .ref (Z.ad 11 i0)), (1, .int p1), (2, .int p2), (3, .int p3)]) hx hb dX11_byteOf_24 hl (by decide) rfl (fun ls hl => ?_)
    refine lv_iload hx hb dX11_byteOf_26 (lv_at hl 0 rfl) ?_
    refine lv_if_lt (tgt := 47) hx hb dX11_byteOf_28 (by decide) (fun c28_11 => ?_) (fun c28_11 => ?_)
    · skip
      have ic28_11 := Int32.lt_iff_toInt_lt.mp c28_11
      have q12 : rg (-1) (-1) v10 := (rg_lt c28_11 rv10 kc_0).1
      have uq12 : (-1 : Int) ≤ v10.toInt ∧ v10.toInt ≤ -1 := q12
      refine lv_iconst (v := (-1)) hx hb dX11_byteOf_47 (by decide) ?_
      exact hQ _ _ (-1 : Int32) _ _ _ dX11_byteOf_48 L9 ⟨(mFr.tr (mFr.tr mFr.rf hp1.1 rfl) hp9.1 rfl), rg_w kc_m1 rfl, trivial⟩
    · skip
      have ic28_11 := Int32.le_iff_toInt_le.mp (rg_nlt c28_11)
      have q13 : rg (0) (19) v10 := (rg_le (rg_nlt c28_11) kc_0 rv10).2
      have uq13 : (0 : Int) ≤ v10.toInt ∧ v10.toInt ≤ 19 := q13
      refine lv_iload_n hx hb dX11_byteOf_31 rfl (lv_at hl 5 rfl) ?_
      refine lv_if_lt (tgt := 47) hx hb dX11_byteOf_32 (by decide) (fun c32_14 => ?_) (fun c32_14 => ?_)
      · skip
        have ic32_14 := Int32.lt_iff_toInt_lt.mp c32_14
        have q15 : rg (-2147483648) (-1) p3 := (rg_lt c32_14 (rg_any p3) kc_0).1
        have uq15 : (-2147483648 : Int) ≤ p3.toInt ∧ p3.toInt ≤ -1 := q15
        refine lv_iconst (v := (-1)) hx hb dX11_byteOf_47 (by decide) ?_
        exact hQ _ _ (-1 : Int32) _ _ _ dX11_byteOf_48 L9 ⟨(mFr.tr (mFr.tr mFr.rf hp1.1 rfl) hp9.1 rfl), rg_w kc_m1 rfl, trivial⟩
      · skip
        have ic32_14 := Int32.le_iff_toInt_le.mp (rg_nlt c32_14)
        have q16 : rg (0) (2147483647) p3 := (rg_le (rg_nlt c32_14) kc_0 (rg_any p3)).2
        have uq16 : (0 : Int) ≤ p3.toInt ∧ p3.toInt ≤ 2147483647 := q16
        refine lv_iload_n hx hb dX11_byteOf_35 rfl (lv_at hl 5 rfl) ?_
        refine lv_aload hx hb dX11_byteOf_36 (lv_at hl 1 rfl) ?_
        have al17 : Z.al 31 p1.toInt.toNat := hz.2 31 p1.toInt.toNat (show p1.toInt.toNat < Z.n from (by omega))
        refine c_getr (a := Z.ad 31 p1.toInt.toNat) x L9 4 p1.toInt.toNat 10 al8 rfl rfl (wk_in kf_X11_281) dX11_byteOf_38 ?_
        refine lv_iload hx hb dX11_byteOf_41 (lv_at hl 0 rfl) ?_
        refine c_ld x L9 31 p1.toInt.toNat 992 al17 rfl rfl q13 rfl dX11_byteOf_43 (fun v18 ev18 wv18 => ?_)
        have rv18 : rg (0) (200) v18 := clj_992 wv18
        have uv18 : (0 : Int) ≤ v18.toInt ∧ v18.toInt ≤ 200 := rv18
        have sv18 : v18.toInt = (g 992 (8192 * p1.toInt.toNat + v10.toNatClampNeg)).toInt := congrArg Int32.toInt (ev18.trans (congrFun ((show mFr [] g g9 from (mFr.tr (mFr.tr mFr.rf hp1.1 rfl) hp9.1 rfl)).at 992 rfl) _))
        refine lv_icmp_lt (tgt := 49) hx hb dX11_byteOf_44 (by decide) (fun c44_19 => ?_) (fun c44_19 => ?_)
        · skip
          have ic44_19 := Int32.lt_iff_toInt_lt.mp c44_19
          have q20 : rg (0) (199) p3 := (rg_lt c44_19 q16 rv18).1
          have uq20 : (0 : Int) ≤ p3.toInt ∧ p3.toInt ≤ 199 := q20
          have q21 : rg (1) (200) v18 := (rg_lt c44_19 q16 rv18).2
          have uq21 : (1 : Int) ≤ v18.toInt ∧ v18.toInt ≤ 200 := q21
          refine lv_aload hx hb dX11_byteOf_49 (lv_at hl 1 rfl) ?_
          have al22 : Z.al 30 p1.toInt.toNat := hz.2 30 p1.toInt.toNat (show p1.toInt.toNat < Z.n from (by omega))
          refine c_getr (a := Z.ad 30 p1.toInt.toNat) x L9 4 p1.toInt.toNat 9 al8 rfl rfl (wk_in kf_X11_287) dX11_byteOf_51 ?_
          refine lv_iload hx hb dX11_byteOf_54 (lv_at hl 0 rfl) ?_
          refine lv_sipush (v := 200) hx hb dX11_byteOf_56 (by decide) ?_
          refine lv_imul hx hb dX11_byteOf_59 ?_
          refine lv_topi (fun v23 ev23 => ?_)
          have rv23 : rg (0) (3800) v23 := (rg_mul ev23 q13 kc_200 rfl).1
          have tv23 := (rg_mul ev23 q13 kc_200 rfl).2
          have y24 : (200 : Int32).toInt = 200 := by decide
          have uv23 : (0 : Int) ≤ v23.toInt ∧ v23.toInt ≤ 3800 := rv23
          refine lv_iload_n hx hb dX11_byteOf_60 rfl (lv_at hl 5 rfl) ?_
          refine lv_iadd hx hb dX11_byteOf_61 ?_
          refine lv_topi (fun v25 ev25 => ?_)
          have rv25 : rg (0) (3999) v25 := (rg_add ev25 rv23 q20 rfl).1
          have tv25 := (rg_add ev25 rv23 q20 rfl).2
          have uv25 : (0 : Int) ≤ v25.toInt ∧ v25.toInt ≤ 3999 := rv25
          refine c_ld x L9 30 p1.toInt.toNat 960 al22 rfl rfl rv25 rfl dX11_byteOf_62 (fun v26 ev26 wv26 => ?_)
          have rv26 : rg (-2147483648) (2147483647) v26 := rg_any v26
          have uv26 : (-2147483648 : Int) ≤ v26.toInt ∧ v26.toInt ≤ 2147483647 := rv26
          have sv26 : v26.toInt = (g 960 (8192 * p1.toInt.toNat + v25.toNatClampNeg)).toInt := congrArg Int32.toInt (ev26.trans (congrFun ((show mFr [] g g9 from (mFr.tr (mFr.tr mFr.rf hp1.1 rfl) hp9.1 rfl)).at 960 rfl) _))
          exact hQ _ _ v26 _ _ _ dX11_byteOf_63 L9 ⟨(mFr.tr (mFr.tr mFr.rf hp1.1 rfl) hp9.1 rfl), rg_w rv26 rfl, trivial⟩
        · skip
          have ic44_19 := Int32.le_iff_toInt_le.mp (rg_nlt c44_19)
          refine lv_iconst (v := (-1)) hx hb dX11_byteOf_47 (by decide) ?_
          exact hQ _ _ (-1 : Int32) _ _ _ dX11_byteOf_48 L9 ⟨(mFr.tr (mFr.tr mFr.rf hp1.1 rfl) hp9.1 rfl), rg_w kc_m1 rfl, trivial⟩
  · skip
    have ic5_4 := congrArg Int32.toInt c5_4
    have y27 : (0 : Int32).toInt = 0 := by decide
    have q28 : rg (0) (0) v2 := (rg_eq c5_4 rv2 kc_0).1
    have uq28 : (0 : Int) ≤ v2.toInt ∧ v2.toInt ≤ 0 := q28
    refine lv_iconst (v := (-1)) hx hb dX11_byteOf_8 (by decide) ?_
    exact hQ _ _ (-1 : Int32) _ _ _ dX11_byteOf_9 L1 ⟨(mFr.tr mFr.rf hp1.1 rfl), rg_w kc_m1 rfl, trivial⟩
theorem c_kbyteOf (l : Launch) {G : cG} {Z : cZ} (X : Int) (g : mSt) (i0 : Nat) (p1 : Int32) (p2 : Int32) (p3 : Int32) (hX : 0 ≤ X ∧ X ≤ 2000000000) (hal0 : Z.al 11 i0) : Met l yX11_byteOf (wk (Cond.code yX11_byteOf cX11_byteOf 6 (some .int))) rm_kbyteOf (va_Pc [.ref (Z.ad 11 i0), .int p1, .int p2, .int p3] (cPre G Z X g)) (cQi G Z X (fun r g1 => mFr [] g g1 ∧ rg (-2147483648) (2147483647) r ∧ True)) 0 0 (cAd Z) := by
  refine Met.ofW (cc := cX11_byteOf) (maxL := 6) (ret := (some .int)) (by decide) rfl ?_
  intro p e s m args below meth c s₁ B hml hv
  obtain ⟨rfl, hv⟩ := hv
  have hr := B.returns
  have hlocks := B.notSynchronized
  obtain ⟨x, L⟩ := c_start B rfl (fun w h => wk_in h) hv
  have hl := lv_entry ([.ref (Z.ad 11 i0), .int p1, .int p2, .int p3]) (n := 6) (Nat.le_of_ble_eq_true rfl)
  rw [lg_entry_eq]
  generalize (lg_sl ([.ref (Z.ad 11 i0), .int p1, .int p2, .int p3]) ++ List.replicate (6 - (lg_sl ([.ref (Z.ad 11 i0), .int p1, .int p2, .int p3])).length) Slot.unset).toArray = ls at hl ⊢
  exact w_kbyteOf x hml L hX i0 p1 p2 p3 hal0 hl (fun pc' ls' r g1 H1 locs1 hdg L hp => c_iret x L hr hlocks (Int.le_refl _) hp hdg)

def rm_knewLength : Room := { frames := 1, cells := 0, slots := 0, locals := 21 }
theorem hd_knewLength : yJ8_newLength_cabcc.cls ≠ "java/lang/invoke/MethodHandle" ∧ yJ8_newLength_cabcc.cls ≠ "java/lang/invoke/VarHandle" ∧ (parseMethodDescriptor yJ8_newLength_cabcc.desc).map (fun d => d.parameters.length) = some 3 := by decide +kernel
set_option maxHeartbeats 4000000 in
set_option maxRecDepth 100000 in
theorem w_knewLength {p : Program} {l : Launch} {e : Env} {s : State} {m : MethodId} {args : Array Value} {below : List Frame} {meth : Method} {c : Code} {H : Heap} {locs : List Loc} {Q : State → Prop} {ls : Array Slot} {G : cG} {Z : cZ} {A : Nat → Prop} {g : mSt} {H0 : Heap} {X : Int} (x : cX p c cJ8_newLength_cabcc s args (wk (Cond.code yJ8_newLength_cabcc cJ8_newLength_cabcc 4 (some .int))) m G Z A RJ8 H0) (hml : c.maxLocals = 4) (L : cL G Z A H0 X g H locs) (hX : 0 ≤ X ∧ X ≤ 2000000000) (p1 : Int32) (p2 : Int32) (p3 : Int32) (rp1 : rg (10) (10000000) p1) (rp2 : rg (1) (1) p2) (rp3 : rg (5) (5000000) p3) (hl : lv_has ls 4 [(0, .int p1), (1, .int p2), (2, .int p3)]) (hQ : ∀ (pc' : Nat) (ls' : Array Slot) (r : Int32) (g1 : mSt) (H1 : Heap) (locs1 : List Loc), decode cJ8_newLength_cabcc pc' = .ok (.ireturn, 1) → cL G Z A H0 X g1 H1 locs1 → (mFr [] g g1 ∧ rg (15) (15000000) r ∧ (r.toInt = p1.toInt + p3.toInt)) → W p l e rm_knewLength s m args below meth c H1 locs1 0 0 Q (F0 m pc' ls' [.int r])) : W p l e rm_knewLength s m args below meth c H locs 0 0 Q (F0 m 0 ls []) := by
  have hx := x.1
  have hb := x.2.1
  have hz := x.2.2.2.2.2.2.2.1
  have hzn := hz.1
  have up1 : (10 : Int) ≤ p1.toInt ∧ p1.toInt ≤ 10000000 := rp1
  have up2 : (1 : Int) ≤ p2.toInt ∧ p2.toInt ≤ 1 := rp2
  have up3 : (5 : Int) ≤ p3.toInt ∧ p3.toInt ≤ 5000000 := rp3
  refine lv_iload_n hx hb dJ8_newLength_cabcc_0 rfl (lv_at hl 0 rfl) ?_
  refine lv_iload_n hx hb dJ8_newLength_cabcc_1 rfl (lv_at hl 1 rfl) ?_
  refine lv_iload_n hx hb dJ8_newLength_cabcc_2 rfl (lv_at hl 2 rfl) ?_
  refine va_mmax (rest := [.int p1]) hx hb (hml.trans hl.1.symm) x.2.2.2.2.1 (x.2.2.1 _ (wk_in kl_J8_194)) (x.2.2.1 _ (wk_in kw_max.1)) (x.2.2.1 _ (wk_in kw_max.2.1)) (x.2.2.1 _ (wk_in kw_max.2.2)) (Nat.le_of_ble_eq_true rfl) (Nat.le_of_ble_eq_true rfl) (Nat.zero_le _) (Nat.zero_le _) dJ8_newLength_cabcc_3 ?_
  refine lv_topi (fun v1 ev1 => ?_)
  have hmv1 := rg_max ev1 rp2 rp3
  have rv1 : rg (5) (5000000) v1 := rg_w hmv1.1 rfl
  have tv1 := hmv1.2
  have uv1 : (5 : Int) ≤ v1.toInt ∧ v1.toInt ≤ 5000000 := rv1
  refine lv_iadd hx hb dJ8_newLength_cabcc_6 ?_
  refine lv_topi (fun v2 ev2 => ?_)
  have rv2 : rg (15) (15000000) v2 := (rg_add ev2 rp1 rv1 rfl).1
  have tv2 := (rg_add ev2 rp1 rv1 rfl).2
  have uv2 : (15 : Int) ≤ v2.toInt ∧ v2.toInt ≤ 15000000 := rv2
  refine lv_istore_n (lv' := [(3, .int v2), (0, .int p1), (1, .int p2), (2, .int p3)]) hx hb dJ8_newLength_cabcc_7 rfl hl (by decide) rfl (fun ls hl => ?_)
  refine lv_iconst (v := 0) hx hb dJ8_newLength_cabcc_8 (by decide) ?_
  refine lv_iload_n hx hb dJ8_newLength_cabcc_9 rfl (lv_at hl 0 rfl) ?_
  refine lv_icmp_ge (tgt := 21) hx hb dJ8_newLength_cabcc_10 (by decide) (fun c10_3 => ?_) (fun c10_3 => ?_)
  · skip
    have ic10_3 := Int32.le_iff_toInt_le.mp c10_3
    exact absurd ((rg_le c10_3 rv2 kc_0).1 : rg (15) (0) v2) (fun q => rg_dead q rfl)
  · skip
    have ic10_3 := Int32.lt_iff_toInt_lt.mp (rg_nle c10_3)
    refine lv_iload_n hx hb dJ8_newLength_cabcc_13 rfl (lv_at hl 0 rfl) ?_
    refine lv_ldc (own := RJ8) (v := 2147483639) hx hb x.2.2.2.2.1 (x.2.2.1 _ (wk_in kk_J8_200)) dJ8_newLength_cabcc_14 ?_
    refine lv_icmp_gt (tgt := 21) hx hb dJ8_newLength_cabcc_16 (by decide) (fun c16_4 => ?_) (fun c16_4 => ?_)
    · skip
      have ic16_4 := Int32.lt_iff_toInt_lt.mp c16_4
      exact absurd ((rg_lt c16_4 kc_2147483639 rv2).1 : rg (2147483639) (14999999) (2147483639 : Int32)) (fun q => rg_dead q rfl)
    · skip
      have ic16_4 := Int32.le_iff_toInt_le.mp (rg_nlt c16_4)
      refine lv_iload_n hx hb dJ8_newLength_cabcc_19 rfl (lv_at hl 0 rfl) ?_
      exact hQ _ _ v2 _ _ _ dJ8_newLength_cabcc_20 L ⟨mFr.rf, rg_w rv2 rfl, (by omega)⟩
theorem c_knewLength (l : Launch) {G : cG} {Z : cZ} (X : Int) (g : mSt) (p1 : Int32) (p2 : Int32) (p3 : Int32) (hX : 0 ≤ X ∧ X ≤ 2000000000) (rp1 : rg (10) (10000000) p1) (rp2 : rg (1) (1) p2) (rp3 : rg (5) (5000000) p3) : Met l yJ8_newLength_cabcc (wk (Cond.code yJ8_newLength_cabcc cJ8_newLength_cabcc 4 (some .int))) rm_knewLength (va_Pc [.int p1, .int p2, .int p3] (cPre G Z X g)) (cQi G Z X (fun r g1 => mFr [] g g1 ∧ rg (15) (15000000) r ∧ (r.toInt = p1.toInt + p3.toInt))) 0 0 (cAd Z) := by
  refine Met.ofW (cc := cJ8_newLength_cabcc) (maxL := 4) (ret := (some .int)) (by decide) rfl ?_
  intro p e s m args below meth c s₁ B hml hv
  obtain ⟨rfl, hv⟩ := hv
  have hr := B.returns
  have hlocks := B.notSynchronized
  obtain ⟨x, L⟩ := c_start B rfl (fun w h => wk_in h) hv
  have hl := lv_entry ([.int p1, .int p2, .int p3]) (n := 4) (Nat.le_of_ble_eq_true rfl)
  rw [lg_entry_eq]
  generalize (lg_sl ([.int p1, .int p2, .int p3]) ++ List.replicate (4 - (lg_sl ([.int p1, .int p2, .int p3])).length) Slot.unset).toArray = ls at hl ⊢
  exact w_knewLength x hml L hX p1 p2 p3 rp1 rp2 rp3 hl (fun pc' ls' r g1 H1 locs1 hdg L hp => c_iret x L hr hlocks (Int.le_refl _) hp hdg)

def rm_klsize : Room := { frames := 0, cells := 0, slots := 0, locals := 0 }
theorem hd_klsize : yJx4a65c_size_8abf5.cls = cRn 12 ∧ yJx4a65c_size_8abf5.cls ≠ "java/lang/invoke/MethodHandle" ∧ yJx4a65c_size_8abf5.cls ≠ "java/lang/invoke/VarHandle" ∧ (parseMethodDescriptor yJx4a65c_size_8abf5.desc).map (fun d => d.parameters.length) = some 0 := by decide +kernel
set_option maxHeartbeats 4000000 in
set_option maxRecDepth 100000 in
theorem w_klsize {p : Program} {l : Launch} {e : Env} {s : State} {m : MethodId} {args : Array Value} {below : List Frame} {meth : Method} {c : Code} {H : Heap} {locs : List Loc} {Q : State → Prop} {ls : Array Slot} {G : cG} {Z : cZ} {A : Nat → Prop} {g : mSt} {H0 : Heap} {X : Int} (x : cX p c cJx4a65c_size_8abf5 s args (wk (Cond.code yJx4a65c_size_8abf5 cJx4a65c_size_8abf5 1 (some .int))) m G Z A RJx4a65c H0) (hml : c.maxLocals = 1) (L : cL G Z A H0 X g H locs) (hX : 0 ≤ X ∧ X ≤ 2000000000) (i0 : Nat) (hi0 : i0 < 2 * Z.n) (hl : lv_has ls 1 [(0, .ref (Z.ad 12 i0))]) (hQ : ∀ (pc' : Nat) (ls' : Array Slot) (r : Int32) (g1 : mSt) (H1 : Heap) (locs1 : List Loc), decode cJx4a65c_size_8abf5 pc' = .ok (.ireturn, 1) → cL G Z A H0 X g1 H1 locs1 → (mFr [] g g1 ∧ rg (-2147483648) (2147483647) r ∧ r = g1 386 i0) → W p l e rm_klsize s m args below meth c H1 locs1 0 0 Q (F0 m pc' ls' [.int r])) : W p l e rm_klsize s m args below meth c H locs 0 0 Q (F0 m 0 ls []) := by
  have hx := x.1
  have hb := x.2.1
  have hz := x.2.2.2.2.2.2.2.1
  have hzn := hz.1
  have hal0 : Z.al 12 i0 := hz.2 12 i0 (show i0 < 2 * Z.n from hi0)
  refine lv_aload_n hx hb dJx4a65c_size_8abf5_0 rfl (lv_at hl 0 rfl) ?_
  refine c_geti x L 12 i0 2 386 hal0 rfl rfl (wk_in kf_Jx4a65c_48) dJx4a65c_size_8abf5_1 (fun v1 ev1 wv1 => ?_)
  have rv1 : rg (-2147483648) (2147483647) v1 := rg_any v1
  have uv1 : (-2147483648 : Int) ≤ v1.toInt ∧ v1.toInt ≤ 2147483647 := rv1
  have sv1 : v1.toInt = (g 386 i0).toInt := congrArg Int32.toInt (ev1.trans (congrFun ((show mFr [] g g from mFr.rf).at 386 rfl) _))
  exact hQ _ _ v1 _ _ _ dJx4a65c_size_8abf5_4 L ⟨mFr.rf, rg_w rv1 rfl, ev1⟩
theorem c_klsize (l : Launch) {G : cG} {Z : cZ} (X : Int) (g : mSt) (i0 : Nat) (hX : 0 ≤ X ∧ X ≤ 2000000000) (hi0 : i0 < 2 * Z.n) : Met l yJx4a65c_size_8abf5 (wk (Cond.code yJx4a65c_size_8abf5 cJx4a65c_size_8abf5 1 (some .int))) rm_klsize (va_Pc [.ref (Z.ad 12 i0)] (cPre G Z X g)) (cQi G Z X (fun r g1 => mFr [] g g1 ∧ rg (-2147483648) (2147483647) r ∧ r = g1 386 i0)) 0 0 (cAd Z) := by
  refine Met.ofW (cc := cJx4a65c_size_8abf5) (maxL := 1) (ret := (some .int)) (by decide) rfl ?_
  intro p e s m args below meth c s₁ B hml hv
  obtain ⟨rfl, hv⟩ := hv
  have hr := B.returns
  have hlocks := B.notSynchronized
  obtain ⟨x, L⟩ := c_start B rfl (fun w h => wk_in h) hv
  have hl := lv_entry ([.ref (Z.ad 12 i0)]) (n := 1) (Nat.le_of_ble_eq_true rfl)
  rw [lg_entry_eq]
  generalize (lg_sl ([.ref (Z.ad 12 i0)]) ++ List.replicate (1 - (lg_sl ([.ref (Z.ad 12 i0)])).length) Slot.unset).toArray = ls at hl ⊢
  exact w_klsize x hml L hX i0 hi0 hl (fun pc' ls' r g1 H1 locs1 hdg L hp => c_iret x L hr hlocks (Int.le_refl _) hp hdg)

def rm_kcheckIndex0 : Room := { frames := 0, cells := 0, slots := 0, locals := 0 }
theorem hd_kcheckIndex0 : yJ3_checkIndex_8e157.cls ≠ "java/lang/invoke/MethodHandle" ∧ yJ3_checkIndex_8e157.cls ≠ "java/lang/invoke/VarHandle" ∧ (parseMethodDescriptor yJ3_checkIndex_8e157.desc).map (fun d => d.parameters.length) = some 3 := by decide +kernel
set_option maxHeartbeats 4000000 in
set_option maxRecDepth 100000 in
theorem w_kcheckIndex0 {p : Program} {l : Launch} {e : Env} {s : State} {m : MethodId} {args : Array Value} {below : List Frame} {meth : Method} {c : Code} {H : Heap} {locs : List Loc} {Q : State → Prop} {ls : Array Slot} {G : cG} {Z : cZ} {A : Nat → Prop} {g : mSt} {H0 : Heap} {X : Int} (x : cX p c cJ3_checkIndex_8e157 s args (wk (Cond.code yJ3_checkIndex_8e157 cJ3_checkIndex_8e157 3 (some .int))) m G Z A RJ3 H0) (hml : c.maxLocals = 3) (L : cL G Z A H0 X g H locs) (hX : 0 ≤ X ∧ X ≤ 2000000000) (p1 : Int32) (p2 : Int32) (h1 : 0 ≤ p1.toInt ∧ p1.toInt < p2.toInt) (hl : lv_has ls 3 [(0, .int p1), (1, .int p2), (2, .null)]) (hQ : ∀ (pc' : Nat) (ls' : Array Slot) (r : Int32) (g1 : mSt) (H1 : Heap) (locs1 : List Loc), decode cJ3_checkIndex_8e157 pc' = .ok (.ireturn, 1) → cL G Z A H0 X g1 H1 locs1 → (mFr [] g g1 ∧ rg (0) (2147483646) r ∧ True) → W p l e rm_kcheckIndex0 s m args below meth c H1 locs1 0 0 Q (F0 m pc' ls' [.int r])) : W p l e rm_kcheckIndex0 s m args below meth c H locs 0 0 Q (F0 m 0 ls []) := by
  have hx := x.1
  have hb := x.2.1
  have hz := x.2.2.2.2.2.2.2.1
  have hzn := hz.1
  have up1 : (-2147483648 : Int) ≤ p1.toInt ∧ p1.toInt ≤ 2147483647 := (rg_any p1)
  have up2 : (-2147483648 : Int) ≤ p2.toInt ∧ p2.toInt ≤ 2147483647 := (rg_any p2)
  refine lv_iload_n hx hb dJ3_checkIndex_8e157_0 rfl (lv_at hl 0 rfl) ?_
  refine lv_if_lt (tgt := 9) hx hb dJ3_checkIndex_8e157_1 (by decide) (fun c1_1 => ?_) (fun c1_1 => ?_)
  · skip
    have ic1_1 := Int32.lt_iff_toInt_lt.mp c1_1
    have q2 : rg (-2147483648) (-1) p1 := (rg_lt c1_1 (rg_any p1) kc_0).1
    have uq2 : (-2147483648 : Int) ≤ p1.toInt ∧ p1.toInt ≤ -1 := q2
    exfalso; omega
  · skip
    have ic1_1 := Int32.le_iff_toInt_le.mp (rg_nlt c1_1)
    have q3 : rg (0) (2147483647) p1 := (rg_le (rg_nlt c1_1) kc_0 (rg_any p1)).2
    have uq3 : (0 : Int) ≤ p1.toInt ∧ p1.toInt ≤ 2147483647 := q3
    refine lv_iload_n hx hb dJ3_checkIndex_8e157_4 rfl (lv_at hl 0 rfl) ?_
    refine lv_iload_n hx hb dJ3_checkIndex_8e157_5 rfl (lv_at hl 1 rfl) ?_
    refine lv_icmp_lt (tgt := 16) hx hb dJ3_checkIndex_8e157_6 (by decide) (fun c6_4 => ?_) (fun c6_4 => ?_)
    · skip
      have ic6_4 := Int32.lt_iff_toInt_lt.mp c6_4
      have q5 : rg (0) (2147483646) p1 := (rg_lt c6_4 q3 (rg_any p2)).1
      have uq5 : (0 : Int) ≤ p1.toInt ∧ p1.toInt ≤ 2147483646 := q5
      have q6 : rg (1) (2147483647) p2 := (rg_lt c6_4 q3 (rg_any p2)).2
      have uq6 : (1 : Int) ≤ p2.toInt ∧ p2.toInt ≤ 2147483647 := q6
      refine lv_iload_n hx hb dJ3_checkIndex_8e157_16 rfl (lv_at hl 0 rfl) ?_
      exact hQ _ _ p1 _ _ _ dJ3_checkIndex_8e157_17 L ⟨mFr.rf, rg_w q5 rfl, trivial⟩
    · skip
      have ic6_4 := Int32.le_iff_toInt_le.mp (rg_nlt c6_4)
      exfalso; omega
theorem c_kcheckIndex0 (l : Launch) {G : cG} {Z : cZ} (X : Int) (g : mSt) (p1 : Int32) (p2 : Int32) (hX : 0 ≤ X ∧ X ≤ 2000000000) (h1 : 0 ≤ p1.toInt ∧ p1.toInt < p2.toInt) : Met l yJ3_checkIndex_8e157 (wk (Cond.code yJ3_checkIndex_8e157 cJ3_checkIndex_8e157 3 (some .int))) rm_kcheckIndex0 (va_Pc [.int p1, .int p2, .null] (cPre G Z X g)) (cQi G Z X (fun r g1 => mFr [] g g1 ∧ rg (0) (2147483646) r ∧ True)) 0 0 (cAd Z) := by
  refine Met.ofW (cc := cJ3_checkIndex_8e157) (maxL := 3) (ret := (some .int)) (by decide) rfl ?_
  intro p e s m args below meth c s₁ B hml hv
  obtain ⟨rfl, hv⟩ := hv
  have hr := B.returns
  have hlocks := B.notSynchronized
  obtain ⟨x, L⟩ := c_start B rfl (fun w h => wk_in h) hv
  have hl := lv_entry ([.int p1, .int p2, .null]) (n := 3) (Nat.le_of_ble_eq_true rfl)
  rw [lg_entry_eq]
  generalize (lg_sl ([.int p1, .int p2, .null]) ++ List.replicate (3 - (lg_sl ([.int p1, .int p2, .null])).length) Slot.unset).toArray = ls at hl ⊢
  exact w_kcheckIndex0 x hml L hX p1 p2 h1 hl (fun pc' ls' r g1 H1 locs1 hdg L hp => c_iret x L hr hlocks (Int.le_refl _) hp hdg)

def rm_kcheckIndex : Room := { frames := 1, cells := 0, slots := 0, locals := 22 }
theorem hd_kcheckIndex : yJ15_checkIndex_7cf53.cls ≠ "java/lang/invoke/MethodHandle" ∧ yJ15_checkIndex_7cf53.cls ≠ "java/lang/invoke/VarHandle" ∧ (parseMethodDescriptor yJ15_checkIndex_7cf53.desc).map (fun d => d.parameters.length) = some 2 := by decide +kernel
set_option maxHeartbeats 4000000 in
set_option maxRecDepth 100000 in
theorem w_kcheckIndex {p : Program} {l : Launch} {e : Env} {s : State} {m : MethodId} {args : Array Value} {below : List Frame} {meth : Method} {c : Code} {H : Heap} {locs : List Loc} {Q : State → Prop} {ls : Array Slot} {G : cG} {Z : cZ} {A : Nat → Prop} {g : mSt} {H0 : Heap} {X : Int} (x : cX p c cJ15_checkIndex_7cf53 s args (wk (Cond.code yJ15_checkIndex_7cf53 cJ15_checkIndex_7cf53 2 (some .int))) m G Z A RJ15 H0) (hml : c.maxLocals = 2) (L : cL G Z A H0 X g H locs) (hX : 0 ≤ X ∧ X ≤ 2000000000) (p1 : Int32) (p2 : Int32) (h1 : 0 ≤ p1.toInt ∧ p1.toInt < p2.toInt) (hl : lv_has ls 2 [(0, .int p1), (1, .int p2)]) (hQ : ∀ (pc' : Nat) (ls' : Array Slot) (r : Int32) (g1 : mSt) (H1 : Heap) (locs1 : List Loc), decode cJ15_checkIndex_7cf53 pc' = .ok (.ireturn, 1) → cL G Z A H0 X g1 H1 locs1 → (mFr [] g g1 ∧ rg (0) (2147483646) r ∧ True) → W p l e rm_kcheckIndex s m args below meth c H1 locs1 0 0 Q (F0 m pc' ls' [.int r])) : W p l e rm_kcheckIndex s m args below meth c H locs 0 0 Q (F0 m 0 ls []) := by
  have hx := x.1
  have hb := x.2.1
  have hz := x.2.2.2.2.2.2.2.1
  have hzn := hz.1
  have up1 : (-2147483648 : Int) ≤ p1.toInt ∧ p1.toInt ≤ 2147483647 := (rg_any p1)
  have up2 : (-2147483648 : Int) ≤ p2.toInt ∧ p2.toInt ≤ 2147483647 := (rg_any p2)
  refine lv_iload_n hx hb dJ15_checkIndex_7cf53_0 rfl (lv_at hl 0 rfl) ?_
  refine lv_iload_n hx hb dJ15_checkIndex_7cf53_1 rfl (lv_at hl 1 rfl) ?_
  refine lv_null hx hb dJ15_checkIndex_7cf53_2 ?_
  refine c_si (As := [.int p1, .int p2, .null]) (rest := []) x hml L (c_kcheckIndex0 l X g p1 p2 hX (by omega)) (wk_T kt_J3_checkIndex_8e157 kl_J15_105 kn_J3 (wk_all kd_J3_checkIndex_8e157)) rfl ⟨rfl, rfl⟩ hd_kcheckIndex0 ⟨Nat.le_of_ble_eq_true rfl, Nat.le_of_ble_eq_true rfl⟩ rfl hl.1 rfl (lv_room (Nat.le_of_ble_eq_true rfl)) dJ15_checkIndex_7cf53_3 (fun v2 g1 H1 k1 hp1 L1 => ?_)
  have rv2 : rg (0) (2147483646) v2 := hp1.2.1
  have uv2 : (0 : Int) ≤ v2.toInt ∧ v2.toInt ≤ 2147483646 := rv2
  exact hQ _ _ v2 _ _ _ dJ15_checkIndex_7cf53_6 L1 ⟨(mFr.tr mFr.rf hp1.1 rfl), rg_w rv2 rfl, trivial⟩
theorem c_kcheckIndex (l : Launch) {G : cG} {Z : cZ} (X : Int) (g : mSt) (p1 : Int32) (p2 : Int32) (hX : 0 ≤ X ∧ X ≤ 2000000000) (h1 : 0 ≤ p1.toInt ∧ p1.toInt < p2.toInt) : Met l yJ15_checkIndex_7cf53 (wk (Cond.code yJ15_checkIndex_7cf53 cJ15_checkIndex_7cf53 2 (some .int))) rm_kcheckIndex (va_Pc [.int p1, .int p2] (cPre G Z X g)) (cQi G Z X (fun r g1 => mFr [] g g1 ∧ rg (0) (2147483646) r ∧ True)) 0 0 (cAd Z) := by
  refine Met.ofW (cc := cJ15_checkIndex_7cf53) (maxL := 2) (ret := (some .int)) (by decide) rfl ?_
  intro p e s m args below meth c s₁ B hml hv
  obtain ⟨rfl, hv⟩ := hv
  have hr := B.returns
  have hlocks := B.notSynchronized
  obtain ⟨x, L⟩ := c_start B rfl (fun w h => wk_in h) hv
  have hl := lv_entry ([.int p1, .int p2]) (n := 2) (Nat.le_of_ble_eq_true rfl)
  rw [lg_entry_eq]
  generalize (lg_sl ([.int p1, .int p2]) ++ List.replicate (2 - (lg_sl ([.int p1, .int p2])).length) Slot.unset).toArray = ls at hl ⊢
  exact w_kcheckIndex x hml L hX p1 p2 h1 hl (fun pc' ls' r g1 H1 locs1 hdg L hp => c_iret x L hr hlocks (Int.le_refl _) hp hdg)

def rm_kelementData : Room := { frames := 0, cells := 0, slots := 0, locals := 0 }
theorem hd_kelementData : yJx4a65c_elementData_915e3.cls = cRn 12 ∧ yJx4a65c_elementData_915e3.cls ≠ "java/lang/invoke/MethodHandle" ∧ yJx4a65c_elementData_915e3.cls ≠ "java/lang/invoke/VarHandle" ∧ (parseMethodDescriptor yJx4a65c_elementData_915e3.desc).map (fun d => d.parameters.length) = some 1 := by decide +kernel
set_option maxHeartbeats 4000000 in
set_option maxRecDepth 100000 in
theorem w_kelementData {p : Program} {l : Launch} {e : Env} {s : State} {m : MethodId} {args : Array Value} {below : List Frame} {meth : Method} {c : Code} {H : Heap} {locs : List Loc} {Q : State → Prop} {ls : Array Slot} {G : cG} {Z : cZ} {A : Nat → Prop} {g : mSt} {H0 : Heap} {X : Int} (x : cX p c cJx4a65c_elementData_915e3 s args (wk (Cond.code yJx4a65c_elementData_915e3 cJx4a65c_elementData_915e3 2 (some (.object "java/lang/Object")))) m G Z A RJx4a65c H0) (hml : c.maxLocals = 2) (L : cL G Z A H0 X g H locs) (hX : 0 ≤ X ∧ X ≤ 2000000000) (i0 : Nat) (p1 : Int32) (hJ : cJ Z g) (hi0 : i0 < 2 * Z.n) (hlt : 0 ≤ p1.toInt ∧ p1.toInt < (g 386 i0).toInt) (hl : lv_has ls 2 [(0, .ref (Z.ad 12 i0)), (1, .int p1)]) (hQ : ∀ (pc' : Nat) (ls' : Array Slot) (r : Int32) (a : Nat) (g1 : mSt) (H1 : Heap) (locs1 : List Loc), decode cJx4a65c_elementData_915e3 pc' = .ok (.areturn, 1) → cOpt Z 1 r = some a → cL G Z A H0 X g1 H1 locs1 → (mFr [] g g1 ∧ cJ Z g1 ∧ (0 ≤ r.toInt ∧ Z.al 1 r.toInt.toNat ∧ (g 32 r.toInt.toNat).toInt = (i0 : Int))) → W p l e rm_kelementData s m args below meth c H1 locs1 0 0 Q (F0 m pc' ls' [.ref a])) : W p l e rm_kelementData s m args below meth c H locs 0 0 Q (F0 m 0 ls []) := by
  have hx := x.1
  have hb := x.2.1
  have hz := x.2.2.2.2.2.2.2.1
  have hzn := hz.1
  have hal0 : Z.al 12 i0 := hz.2 12 i0 (show i0 < 2 * Z.n from hi0)
  have up1 : (-2147483648 : Int) ≤ p1.toInt ∧ p1.toInt ≤ 2147483647 := (rg_any p1)
  refine lv_aload_n hx hb dJx4a65c_elementData_915e3_0 rfl (lv_at hl 0 rfl) ?_
  have ho1 := cJ_own hJ (s := i0) (by omega) (by omega)
  refine c_geto (w := .ref (Z.ad 54 i0)) x L 12 i0 1 385 hal0 rfl rfl (by rw [cTo_own ho1.1]; rfl) (wk_in kf_Jx4a65c_9) dJx4a65c_elementData_915e3_1 ?_
  refine lv_iload_n hx hb dJx4a65c_elementData_915e3_4 rfl (lv_at hl 1 rfl) ?_
  obtain ⟨v2, ev2⟩ : ∃ y : Int32, y = g 1728 (16777216 * i0 + p1.toNatClampNeg) := ⟨_, rfl⟩
  have hn4 : ((p1.toInt.toNat : Nat) : Int) = p1.toInt := Int.toNat_of_nonneg (by omega)
  have hd3 := hJ.2.2.1 i0 (by omega)
  have hd3c := hd3.2.2 p1.toInt.toNat (by rw [hn4]; omega)
  have hd3e : v2 = g 1728 (16777216 * i0 + p1.toInt.toNat) := ev2
  rw [← hd3e] at hd3c
  refine c_ldr (a := Z.ad 1 v2.toInt.toNat) x L 54 i0 ho1.2 rfl (by omega) (show p1.toInt < ((((g 1729 i0).toInt.toNat : Nat)) : Int) from (by have := hd3.2.1; have : p1.toInt < (g 386 i0).toInt := (by omega); omega)) (by show cOpt Z 1 (g 1728 (16777216 * i0 + p1.toNatClampNeg)) = _; rw [← ev2]; exact cOpt_some hd3c.1) dJx4a65c_elementData_915e3_5 ?_
  exact hQ _ _ v2 _ _ _ _ dJx4a65c_elementData_915e3_6 (cOpt_some hd3c.1) L ⟨mFr.rf, hJ, ⟨hd3c.1, hd3c.2.1, hd3c.2.2⟩⟩
theorem c_kelementData (l : Launch) {G : cG} {Z : cZ} (X : Int) (g : mSt) (i0 : Nat) (p1 : Int32) (hX : 0 ≤ X ∧ X ≤ 2000000000) (hJ : cJ Z g) (hi0 : i0 < 2 * Z.n) (hlt : 0 ≤ p1.toInt ∧ p1.toInt < (g 386 i0).toInt) : Met l yJx4a65c_elementData_915e3 (wk (Cond.code yJx4a65c_elementData_915e3 cJx4a65c_elementData_915e3 2 (some (.object "java/lang/Object")))) rm_kelementData (va_Pc [.ref (Z.ad 12 i0), .int p1] (cPre G Z X g)) (cQr G Z X 1 (fun r g1 => mFr [] g g1 ∧ cJ Z g1 ∧ (0 ≤ r.toInt ∧ Z.al 1 r.toInt.toNat ∧ (g 32 r.toInt.toNat).toInt = (i0 : Int)))) 0 0 (cAd Z) := by
  refine Met.ofW (cc := cJx4a65c_elementData_915e3) (maxL := 2) (ret := (some (.object "java/lang/Object"))) (by decide) rfl ?_
  intro p e s m args below meth c s₁ B hml hv
  obtain ⟨rfl, hv⟩ := hv
  have hr := B.returns
  have hlocks := B.notSynchronized
  obtain ⟨x, L⟩ := c_start B rfl (fun w h => wk_in h) hv
  have hl := lv_entry ([.ref (Z.ad 12 i0), .int p1]) (n := 2) (Nat.le_of_ble_eq_true rfl)
  rw [lg_entry_eq]
  generalize (lg_sl ([.ref (Z.ad 12 i0), .int p1]) ++ List.replicate (2 - (lg_sl ([.ref (Z.ad 12 i0), .int p1])).length) Slot.unset).toArray = ls at hl ⊢
  exact w_kelementData x hml L hX i0 p1 hJ hi0 hlt hl (fun pc' ls' r a g1 H1 locs1 hdg ha L hp => c_aret x L hr (Or.inl ⟨_, rfl⟩) hlocks (Int.le_refl _) ha hp hdg)

def rm_klget : Room := { frames := 2, cells := 0, slots := 0, locals := 43 }
theorem hd_klget : yJx4a65c_get_915e3.cls = cRn 12 ∧ yJx4a65c_get_915e3.cls ≠ "java/lang/invoke/MethodHandle" ∧ yJx4a65c_get_915e3.cls ≠ "java/lang/invoke/VarHandle" ∧ (parseMethodDescriptor yJx4a65c_get_915e3.desc).map (fun d => d.parameters.length) = some 1 := by decide +kernel
set_option maxHeartbeats 4000000 in
set_option maxRecDepth 100000 in
theorem w_klget {p : Program} {l : Launch} {e : Env} {s : State} {m : MethodId} {args : Array Value} {below : List Frame} {meth : Method} {c : Code} {H : Heap} {locs : List Loc} {Q : State → Prop} {ls : Array Slot} {G : cG} {Z : cZ} {A : Nat → Prop} {g : mSt} {H0 : Heap} {X : Int} (x : cX p c cJx4a65c_get_915e3 s args (wk (Cond.code yJx4a65c_get_915e3 cJx4a65c_get_915e3 2 (some (.object "java/lang/Object")))) m G Z A RJx4a65c H0) (hml : c.maxLocals = 2) (L : cL G Z A H0 X g H locs) (hX : 0 ≤ X ∧ X ≤ 2000000000) (i0 : Nat) (p1 : Int32) (hJ : cJ Z g) (hi0 : i0 < 2 * Z.n) (hlt : 0 ≤ p1.toInt ∧ p1.toInt < (g 386 i0).toInt) (hl : lv_has ls 2 [(0, .ref (Z.ad 12 i0)), (1, .int p1)]) (hQ : ∀ (pc' : Nat) (ls' : Array Slot) (r : Int32) (a : Nat) (g1 : mSt) (H1 : Heap) (locs1 : List Loc), decode cJx4a65c_get_915e3 pc' = .ok (.areturn, 1) → cOpt Z 1 r = some a → cL G Z A H0 X g1 H1 locs1 → (mFr [] g g1 ∧ cJ Z g1 ∧ (0 ≤ r.toInt ∧ Z.al 1 r.toInt.toNat ∧ (g 32 r.toInt.toNat).toInt = (i0 : Int))) → W p l e rm_klget s m args below meth c H1 locs1 0 0 Q (F0 m pc' ls' [.ref a])) : W p l e rm_klget s m args below meth c H locs 0 0 Q (F0 m 0 ls []) := by
  have hx := x.1
  have hb := x.2.1
  have hz := x.2.2.2.2.2.2.2.1
  have hzn := hz.1
  have hal0 : Z.al 12 i0 := hz.2 12 i0 (show i0 < 2 * Z.n from hi0)
  have up1 : (-2147483648 : Int) ≤ p1.toInt ∧ p1.toInt ≤ 2147483647 := (rg_any p1)
  refine lv_iload_n hx hb dJx4a65c_get_915e3_0 rfl (lv_at hl 1 rfl) ?_
  refine lv_aload_n hx hb dJx4a65c_get_915e3_1 rfl (lv_at hl 0 rfl) ?_
  refine c_geti x L 12 i0 2 386 hal0 rfl rfl (wk_in kf_Jx4a65c_48) dJx4a65c_get_915e3_2 (fun v1 ev1 wv1 => ?_)
  have rv1 : rg (-2147483648) (2147483647) v1 := rg_any v1
  have uv1 : (-2147483648 : Int) ≤ v1.toInt ∧ v1.toInt ≤ 2147483647 := rv1
  have sv1 : v1.toInt = (g 386 i0).toInt := congrArg Int32.toInt (ev1.trans (congrFun ((show mFr [] g g from mFr.rf).at 386 rfl) _))
  refine c_si (As := [.int p1, .int v1]) (rest := []) x hml L (c_kcheckIndex l X g p1 v1 hX (by omega)) (wk_T kt_J15_checkIndex_7cf53 kl_Jx4a65c_118 kn_J15 (wk_all kd_J15_checkIndex_7cf53)) rfl ⟨rfl, rfl⟩ hd_kcheckIndex ⟨Nat.le_of_ble_eq_true rfl, Nat.le_of_ble_eq_true rfl⟩ rfl hl.1 rfl (lv_room (Nat.le_of_ble_eq_true rfl)) dJx4a65c_get_915e3_5 (fun v3 g2 H2 k2 hp2 L2 => ?_)
  have rv3 : rg (0) (2147483646) v3 := hp2.2.1
  have uv3 : (0 : Int) ≤ v3.toInt ∧ v3.toInt ≤ 2147483646 := rv3
  refine lv_pop hx hb dJx4a65c_get_915e3_8 rfl ?_
  refine lv_aload_n hx hb dJx4a65c_get_915e3_9 rfl (lv_at hl 0 rfl) ?_
  refine lv_iload_n hx hb dJx4a65c_get_915e3_10 rfl (lv_at hl 1 rfl) ?_
  have y4 := congrArg Int32.toInt (mm_fr ev1 hp2.1 rfl)
  refine c_cr (As := [.int p1]) (rest := []) x hml L2 12 i0 hal0 rfl (c_kelementData l X g2 i0 p1 hX (cJ_fr hJ hp2.1 rfl) (show i0 < 2 * Z.n from (by omega)) (by omega)) (wk_V kd_Jx4a65c_elementData_915e3 kl_Jx4a65c_123 ki_Jx4a65c_elementData_915e3 ks_Jx4a65c_Jx4a65c_elementData_915e3 kn_Jx4a65c) rfl ⟨rfl, rfl⟩ hd_kelementData ⟨Nat.le_of_ble_eq_true rfl, Nat.le_of_ble_eq_true rfl⟩ rfl hl.1 rfl (lv_room (Nat.le_of_ble_eq_true rfl)) dJx4a65c_get_915e3_11 (fun v6 g5 H5 k5 hp5 L5 => ?_)
  have hvv6 := hp5.2.2
  rw [(show mFr [] g g2 from (mFr.tr mFr.rf hp2.1 rfl)).at 32 rfl] at hvv6
  refine c_top (show Value.ref (Z.ad 1 v6.toInt.toNat) = va_rf (cOpt Z 1 v6) from (by rw [cOpt_some hvv6.1]; rfl)) ?_
  exact hQ _ _ v6 _ _ _ _ dJx4a65c_get_915e3_14 (cOpt_some hvv6.1) L5 ⟨(mFr.tr (mFr.tr mFr.rf hp2.1 rfl) hp5.1 rfl), hp5.2.1, ⟨hvv6.1, hvv6.2.1, hvv6.2.2⟩⟩
theorem c_klget (l : Launch) {G : cG} {Z : cZ} (X : Int) (g : mSt) (i0 : Nat) (p1 : Int32) (hX : 0 ≤ X ∧ X ≤ 2000000000) (hJ : cJ Z g) (hi0 : i0 < 2 * Z.n) (hlt : 0 ≤ p1.toInt ∧ p1.toInt < (g 386 i0).toInt) : Met l yJx4a65c_get_915e3 (wk (Cond.code yJx4a65c_get_915e3 cJx4a65c_get_915e3 2 (some (.object "java/lang/Object")))) rm_klget (va_Pc [.ref (Z.ad 12 i0), .int p1] (cPre G Z X g)) (cQr G Z X 1 (fun r g1 => mFr [] g g1 ∧ cJ Z g1 ∧ (0 ≤ r.toInt ∧ Z.al 1 r.toInt.toNat ∧ (g 32 r.toInt.toNat).toInt = (i0 : Int)))) 0 0 (cAd Z) := by
  refine Met.ofW (cc := cJx4a65c_get_915e3) (maxL := 2) (ret := (some (.object "java/lang/Object"))) (by decide) rfl ?_
  intro p e s m args below meth c s₁ B hml hv
  obtain ⟨rfl, hv⟩ := hv
  have hr := B.returns
  have hlocks := B.notSynchronized
  obtain ⟨x, L⟩ := c_start B rfl (fun w h => wk_in h) hv
  have hl := lv_entry ([.ref (Z.ad 12 i0), .int p1]) (n := 2) (Nat.le_of_ble_eq_true rfl)
  rw [lg_entry_eq]
  generalize (lg_sl ([.ref (Z.ad 12 i0), .int p1]) ++ List.replicate (2 - (lg_sl ([.ref (Z.ad 12 i0), .int p1])).length) Slot.unset).toArray = ls at hl ⊢
  exact w_klget x hml L hX i0 p1 hJ hi0 hlt hl (fun pc' ls' r a g1 H1 locs1 hdg ha L hp => c_aret x L hr (Or.inl ⟨_, rfl⟩) hlocks (Int.le_refl _) ha hp hdg)

def rm_kisOpen : Room := { frames := 0, cells := 0, slots := 0, locals := 0 }
theorem hd_kisOpen : yX1_isOpen.cls = cRn 1 ∧ yX1_isOpen.cls ≠ "java/lang/invoke/MethodHandle" ∧ yX1_isOpen.cls ≠ "java/lang/invoke/VarHandle" ∧ (parseMethodDescriptor yX1_isOpen.desc).map (fun d => d.parameters.length) = some 0 := by decide +kernel
set_option maxHeartbeats 4000000 in
set_option maxRecDepth 100000 in
theorem w_kisOpen {p : Program} {l : Launch} {e : Env} {s : State} {m : MethodId} {args : Array Value} {below : List Frame} {meth : Method} {c : Code} {H : Heap} {locs : List Loc} {Q : State → Prop} {ls : Array Slot} {G : cG} {Z : cZ} {A : Nat → Prop} {g : mSt} {H0 : Heap} {X : Int} (x : cX p c cX1_isOpen s args (wk (Cond.code yX1_isOpen cX1_isOpen 1 (some .boolean))) m G Z A RX1 H0) (hml : c.maxLocals = 1) (L : cL G Z A H0 X g H locs) (hX : 0 ≤ X ∧ X ≤ 2000000000) (i0 : Nat) (hal0 : Z.al 1 i0) (hl : lv_has ls 1 [(0, .ref (Z.ad 1 i0))]) (hQ : ∀ (pc' : Nat) (ls' : Array Slot) (r : Int32) (g1 : mSt) (H1 : Heap) (locs1 : List Loc), decode cX1_isOpen pc' = .ok (.ireturn, 1) → cL G Z A H0 X g1 H1 locs1 → (mFr [] g g1 ∧ rg (0) (1) r ∧ True) → W p l e rm_kisOpen s m args below meth c H1 locs1 0 0 Q (F0 m pc' ls' [.int r])) : W p l e rm_kisOpen s m args below meth c H locs 0 0 Q (F0 m 0 ls []) := by
  have hx := x.1
  have hb := x.2.1
  have hz := x.2.2.2.2.2.2.2.1
  have hzn := hz.1
  refine lv_aload_n hx hb dX1_isOpen_0 rfl (lv_at hl 0 rfl) ?_
  refine c_geti x L 1 i0 4 36 hal0 rfl rfl (wk_in kf_X1_29) dX1_isOpen_1 (fun v1 ev1 wv1 => ?_)
  have rv1 : rg (-2147483648) (2147483647) v1 := rg_any v1
  refine lv_if_eq (tgt := 11) hx hb dX1_isOpen_4 (by decide) (fun c4_2 => ?_) (fun c4_2 => ?_)
  · skip
    have q3 : rg (0) (0) v1 := (rg_eq c4_2 rv1 kc_0).1
    refine lv_iconst (v := 0) hx hb dX1_isOpen_11 (by decide) ?_
    exact hQ _ _ (0 : Int32) _ _ _ dX1_isOpen_12 L ⟨mFr.rf, rg_w kc_0 rfl, trivial⟩
  · skip
    refine lv_iconst (v := 1) hx hb dX1_isOpen_7 (by decide) ?_
    refine lv_goto (tgt := 12) hx hb dX1_isOpen_8 (by decide) ?_
    exact hQ _ _ (1 : Int32) _ _ _ dX1_isOpen_12 L ⟨mFr.rf, rg_w kc_1 rfl, trivial⟩
theorem c_kisOpen (l : Launch) {G : cG} {Z : cZ} (X : Int) (g : mSt) (i0 : Nat) (hX : 0 ≤ X ∧ X ≤ 2000000000) (hal0 : Z.al 1 i0) : Met l yX1_isOpen (wk (Cond.code yX1_isOpen cX1_isOpen 1 (some .boolean))) rm_kisOpen (va_Pc [.ref (Z.ad 1 i0)] (cPre G Z X g)) (cQi G Z X (fun r g1 => mFr [] g g1 ∧ rg (0) (1) r ∧ True)) 0 0 (cAd Z) := by
  refine Met.ofW (cc := cX1_isOpen) (maxL := 1) (ret := (some .boolean)) (by decide) rfl ?_
  intro p e s m args below meth c s₁ B hml hv
  obtain ⟨rfl, hv⟩ := hv
  have hr := B.returns
  have hlocks := B.notSynchronized
  obtain ⟨x, L⟩ := c_start B rfl (fun w h => wk_in h) hv
  have hl := lv_entry ([.ref (Z.ad 1 i0)]) (n := 1) (Nat.le_of_ble_eq_true rfl)
  rw [lg_entry_eq]
  generalize (lg_sl ([.ref (Z.ad 1 i0)]) ++ List.replicate (1 - (lg_sl ([.ref (Z.ad 1 i0)])).length) Slot.unset).toArray = ls at hl ⊢
  exact w_kisOpen x hml L hX i0 hal0 hl (fun pc' ls' r g1 H1 locs1 hdg L hp => c_zret x L hr hlocks (nar01 (rg_w hp.2.1 rfl)) (Int.le_refl _) hp hdg)

def rm_krepeat : Room := { frames := 0, cells := 0, slots := 0, locals := 0 }
theorem hd_krepeat : yX1_repeat.cls = cRn 1 ∧ yX1_repeat.cls ≠ "java/lang/invoke/MethodHandle" ∧ yX1_repeat.cls ≠ "java/lang/invoke/VarHandle" ∧ (parseMethodDescriptor yX1_repeat.desc).map (fun d => d.parameters.length) = some 1 := by decide +kernel
set_option maxHeartbeats 4000000 in
set_option maxRecDepth 100000 in
theorem w_krepeat {p : Program} {l : Launch} {e : Env} {s : State} {m : MethodId} {args : Array Value} {below : List Frame} {meth : Method} {c : Code} {H : Heap} {locs : List Loc} {Q : State → Prop} {ls : Array Slot} {G : cG} {Z : cZ} {A : Nat → Prop} {g : mSt} {H0 : Heap} {X : Int} (x : cX p c cX1_repeat s args (wk (Cond.code yX1_repeat cX1_repeat 2 none)) m G Z A RX1 H0) (hml : c.maxLocals = 2) (L : cL G Z A H0 X g H locs) (hX : 0 ≤ X ∧ X ≤ 2000000000) (i0 : Nat) (p1 : Int32) (hal0 : Z.al 1 i0) (hl : lv_has ls 2 [(0, .ref (Z.ad 1 i0)), (1, .int p1)]) (hQ : ∀ (pc' : Nat) (ls' : Array Slot) (g1 : mSt) (H1 : Heap) (locs1 : List Loc), decode cX1_repeat pc' = .ok (.return_, 1) → cL G Z A H0 X g1 H1 locs1 → (mFr [41, 42] g g1 ∧ True) → W p l e rm_krepeat s m args below meth c H1 locs1 0 0 Q (F0 m pc' ls' [])) : W p l e rm_krepeat s m args below meth c H locs 0 0 Q (F0 m 0 ls []) := by
  have hx := x.1
  have hb := x.2.1
  have hz := x.2.2.2.2.2.2.2.1
  have hzn := hz.1
  refine lv_aload_n hx hb dX1_repeat_0 rfl (lv_at hl 0 rfl) ?_
  refine lv_iload_n hx hb dX1_repeat_1 rfl (lv_at hl 1 rfl) ?_
  refine c_puti x L 1 i0 9 41 hal0 rfl rfl ⟨rfl, by decide +kernel⟩ (wk_in kf_X1_32) dX1_repeat_2 (rg_any p1) (fun g1 H1 k1 eg1 L1 => ?_)
  refine lv_aload_n hx hb dX1_repeat_5 rfl (lv_at hl 0 rfl) ?_
  refine lv_iconst (v := 1) hx hb dX1_repeat_6 (by decide) ?_
  refine c_putz x L1 1 i0 10 42 hal0 rfl rfl ⟨rfl, by decide +kernel⟩ (wk_in kf_X1_35) dX1_repeat_7 (rg_w kc_1 rfl) (crj_42 (rg_w kc_1 rfl)) (fun g2 H2 k2 eg2 L2 => ?_)
  exact hQ _ _ _ _ _ dX1_repeat_10 L2 ⟨(mFr.upE (mFr.upE mFr.rf eg1 rfl) eg2 rfl), trivial⟩
theorem c_krepeat (l : Launch) {G : cG} {Z : cZ} (X : Int) (g : mSt) (i0 : Nat) (p1 : Int32) (hX : 0 ≤ X ∧ X ≤ 2000000000) (hal0 : Z.al 1 i0) : Met l yX1_repeat (wk (Cond.code yX1_repeat cX1_repeat 2 none)) rm_krepeat (va_Pc [.ref (Z.ad 1 i0), .int p1] (cPre G Z X g)) (cQv G Z X (fun g1 => mFr [41, 42] g g1 ∧ True)) 0 0 (cAd Z) := by
  refine Met.ofW (cc := cX1_repeat) (maxL := 2) (ret := none) (by decide) rfl ?_
  intro p e s m args below meth c s₁ B hml hv
  obtain ⟨rfl, hv⟩ := hv
  have hr := B.returns
  have hlocks := B.notSynchronized
  obtain ⟨x, L⟩ := c_start B rfl (fun w h => wk_in h) hv
  have hl := lv_entry ([.ref (Z.ad 1 i0), .int p1]) (n := 2) (Nat.le_of_ble_eq_true rfl)
  rw [lg_entry_eq]
  generalize (lg_sl ([.ref (Z.ad 1 i0), .int p1]) ++ List.replicate (2 - (lg_sl ([.ref (Z.ad 1 i0), .int p1])).length) Slot.unset).toArray = ls at hl ⊢
  exact w_krepeat x hml L hX i0 p1 hal0 hl (fun pc' ls' g1 H1 locs1 hdg L hp => c_vret x L hr hlocks (Int.le_refl _) hp hdg)

def rm_kenter : Room := { frames := 0, cells := 0, slots := 0, locals := 0 }
theorem hd_kenter : yX1_enter.cls = cRn 1 ∧ yX1_enter.cls ≠ "java/lang/invoke/MethodHandle" ∧ yX1_enter.cls ≠ "java/lang/invoke/VarHandle" ∧ (parseMethodDescriptor yX1_enter.desc).map (fun d => d.parameters.length) = some 2 := by decide +kernel
set_option maxHeartbeats 4000000 in
set_option maxRecDepth 100000 in
theorem w_kenter {p : Program} {l : Launch} {e : Env} {s : State} {m : MethodId} {args : Array Value} {below : List Frame} {meth : Method} {c : Code} {H : Heap} {locs : List Loc} {Q : State → Prop} {ls : Array Slot} {G : cG} {Z : cZ} {A : Nat → Prop} {g : mSt} {H0 : Heap} {X : Int} (x : cX p c cX1_enter s args (wk (Cond.code yX1_enter cX1_enter 3 none)) m G Z A RX1 H0) (hml : c.maxLocals = 3) (L : cL G Z A H0 X g H locs) (hX : 0 ≤ X ∧ X ≤ 2000000000) (i0 : Nat) (p1 : Int32) (p2 : Int32) (hJ : cJ Z g) (hal0 : Z.al 1 i0) (hl : lv_has ls 3 [(0, .ref (Z.ad 1 i0)), (1, .int p1), (2, .int p2)]) (hQ : ∀ (pc' : Nat) (ls' : Array Slot) (g1 : mSt) (H1 : Heap) (locs1 : List Loc), decode cX1_enter pc' = .ok (.return_, 1) → cL G Z A H0 X g1 H1 locs1 → (mFr [36, 41, 42, 44, 45, 46, 48] g g1 ∧ cJ Z g1 ∧ True) → W p l e rm_kenter s m args below meth c H1 locs1 0 0 Q (F0 m pc' ls' [])) : W p l e rm_kenter s m args below meth c H locs 0 0 Q (F0 m 0 ls []) := by
  have hx := x.1
  have hb := x.2.1
  have hz := x.2.2.2.2.2.2.2.1
  have hzn := hz.1
  refine lv_aload_n hx hb dX1_enter_0 rfl (lv_at hl 0 rfl) ?_
  refine lv_iload_n hx hb dX1_enter_1 rfl (lv_at hl 1 rfl) ?_
  refine c_puti x L 1 i0 4 36 hal0 rfl rfl ⟨rfl, by decide +kernel⟩ (wk_in kf_X1_29) dX1_enter_2 (rg_any p1) (fun g1 H1 k1 eg1 L1 => ?_)
  refine lv_aload_n hx hb dX1_enter_5 rfl (lv_at hl 0 rfl) ?_
  refine lv_iload_n hx hb dX1_enter_6 rfl (lv_at hl 2 rfl) ?_
  refine c_puti x L1 1 i0 9 41 hal0 rfl rfl ⟨rfl, by decide +kernel⟩ (wk_in kf_X1_32) dX1_enter_7 (rg_any p2) (fun g2 H2 k2 eg2 L2 => ?_)
  refine lv_aload_n hx hb dX1_enter_10 rfl (lv_at hl 0 rfl) ?_
  refine lv_iconst (v := 0) hx hb dX1_enter_11 (by decide) ?_
  refine c_putz x L2 1 i0 10 42 hal0 rfl rfl ⟨rfl, by decide +kernel⟩ (wk_in kf_X1_35) dX1_enter_12 (rg_w kc_0 rfl) (crj_42 (rg_w kc_0 rfl)) (fun g3 H3 k3 eg3 L3 => ?_)
  refine lv_iload_n hx hb dX1_enter_15 rfl (lv_at hl 1 rfl) ?_
  refine lv_bipush (v := 10) hx hb dX1_enter_16 (by decide) ?_
  refine lv_icmp_eq (tgt := 41) hx hb dX1_enter_18 (by decide) (fun c18_4 => ?_) (fun c18_4 => ?_)
  · skip
    have q5 : rg (10) (10) p1 := (rg_eq c18_4 (rg_any p1) kc_10).1
    exact hQ _ _ _ _ _ dX1_enter_41 L3 ⟨(mFr.upE (mFr.upE (mFr.upE mFr.rf eg1 rfl) eg2 rfl) eg3 rfl), (cJ_up (cJ_up (cJ_up hJ eg1 rfl) eg2 rfl) eg3 rfl), trivial⟩
  · skip
    refine lv_aload_n hx hb dX1_enter_21 rfl (lv_at hl 0 rfl) ?_
    refine lv_null hx hb dX1_enter_22 ?_
    refine c_putr (ty := tyX1 12) (v := -1) (w := .null) x L3 1 i0 12 44 hal0 rfl rfl rfl (tyX1_ok 12 (by decide)) (by rw [show cTo Z (-1) 1 i0 12 = none from cOpt_none (by decide)]; rfl) rfl rfl (wk_in kf_X1_38) dX1_enter_23 (rg_any _) (fun g6 H6 k6 eg6 L6 => ?_)
    have hJ7 := cJ_n44 (cJ_up (cJ_up (cJ_up hJ eg1 rfl) eg2 rfl) eg3 rfl) eg6 (by decide)
    refine lv_aload_n hx hb dX1_enter_26 rfl (lv_at hl 0 rfl) ?_
    refine lv_null hx hb dX1_enter_27 ?_
    refine c_putr (ty := tyX1 13) (v := -1) (w := .null) x L6 1 i0 13 45 hal0 rfl rfl rfl (tyX1_ok 13 (by decide)) (by rw [show cTo Z (-1) 1 i0 13 = none from cOpt_none (by decide)]; rfl) rfl rfl (wk_in kf_X1_42) dX1_enter_28 (rg_any _) (fun g8 H8 k8 eg8 L8 => ?_)
    have hJ9 := cJ_n45 hJ7 eg8 (by decide)
    refine lv_aload_n hx hb dX1_enter_31 rfl (lv_at hl 0 rfl) ?_
    refine lv_null hx hb dX1_enter_32 ?_
    refine c_putr (ty := tyX1 14) (v := -1) (w := .null) x L8 1 i0 14 46 hal0 rfl rfl rfl (tyX1_ok 14 (by decide)) (by rw [show cTo Z (-1) 1 i0 14 = none from cOpt_none (by decide)]; rfl) rfl rfl (wk_in kf_X1_46) dX1_enter_33 (rg_any _) (fun g10 H10 k10 eg10 L10 => ?_)
    have hJ11 := cJ_n46 hJ9 eg10 (by decide)
    refine lv_aload_n hx hb dX1_enter_36 rfl (lv_at hl 0 rfl) ?_
    refine lv_iconst (v := 0) hx hb dX1_enter_37 (by decide) ?_
    refine c_puti x L10 1 i0 16 48 hal0 rfl rfl ⟨rfl, by decide +kernel⟩ (wk_in kf_X1_50) dX1_enter_38 (crj_48 (rg_w kc_0 rfl)) (fun g12 H12 k12 eg12 L12 => ?_)
    exact hQ _ _ _ _ _ dX1_enter_41 L12 ⟨(mFr.upE (mFr.upE (mFr.upE (mFr.upE (mFr.upE (mFr.upE (mFr.upE mFr.rf eg1 rfl) eg2 rfl) eg3 rfl) eg6 rfl) eg8 rfl) eg10 rfl) eg12 rfl), (cJ_up hJ11 eg12 rfl), trivial⟩
theorem c_kenter (l : Launch) {G : cG} {Z : cZ} (X : Int) (g : mSt) (i0 : Nat) (p1 : Int32) (p2 : Int32) (hX : 0 ≤ X ∧ X ≤ 2000000000) (hJ : cJ Z g) (hal0 : Z.al 1 i0) : Met l yX1_enter (wk (Cond.code yX1_enter cX1_enter 3 none)) rm_kenter (va_Pc [.ref (Z.ad 1 i0), .int p1, .int p2] (cPre G Z X g)) (cQv G Z X (fun g1 => mFr [36, 41, 42, 44, 45, 46, 48] g g1 ∧ cJ Z g1 ∧ True)) 0 0 (cAd Z) := by
  refine Met.ofW (cc := cX1_enter) (maxL := 3) (ret := none) (by decide) rfl ?_
  intro p e s m args below meth c s₁ B hml hv
  obtain ⟨rfl, hv⟩ := hv
  have hr := B.returns
  have hlocks := B.notSynchronized
  obtain ⟨x, L⟩ := c_start B rfl (fun w h => wk_in h) hv
  have hl := lv_entry ([.ref (Z.ad 1 i0), .int p1, .int p2]) (n := 3) (Nat.le_of_ble_eq_true rfl)
  rw [lg_entry_eq]
  generalize (lg_sl ([.ref (Z.ad 1 i0), .int p1, .int p2]) ++ List.replicate (3 - (lg_sl ([.ref (Z.ad 1 i0), .int p1, .int p2])).length) Slot.unset).toArray = ls at hl ⊢
  exact w_kenter x hml L hX i0 p1 p2 hJ hal0 hl (fun pc' ls' g1 H1 locs1 hdg L hp => c_vret x L hr hlocks (Int.le_refl _) hp hdg)

def rm_kfinish : Room := { frames := 1, cells := 0, slots := 0, locals := 22 }
theorem hd_kfinish : yX1_finish.cls = cRn 1 ∧ yX1_finish.cls ≠ "java/lang/invoke/MethodHandle" ∧ yX1_finish.cls ≠ "java/lang/invoke/VarHandle" ∧ (parseMethodDescriptor yX1_finish.desc).map (fun d => d.parameters.length) = some 1 := by decide +kernel
set_option maxHeartbeats 4000000 in
set_option maxRecDepth 100000 in
theorem w_kfinish {p : Program} {l : Launch} {e : Env} {s : State} {m : MethodId} {args : Array Value} {below : List Frame} {meth : Method} {c : Code} {H : Heap} {locs : List Loc} {Q : State → Prop} {ls : Array Slot} {G : cG} {Z : cZ} {A : Nat → Prop} {g : mSt} {H0 : Heap} {X : Int} (x : cX p c cX1_finish s args (wk (Cond.code yX1_finish cX1_finish 2 none)) m G Z A RX1 H0) (hml : c.maxLocals = 2) (L : cL G Z A H0 X g H locs) (hX : 0 ≤ X ∧ X ≤ 2000000000) (i0 : Nat) (p1 : Int32) (hJ : cJ Z g) (hal0 : Z.al 1 i0) (hl : lv_has ls 2 [(0, .ref (Z.ad 1 i0)), (1, .int p1)]) (hQ : ∀ (pc' : Nat) (ls' : Array Slot) (g1 : mSt) (H1 : Heap) (locs1 : List Loc), decode cX1_finish pc' = .ok (.return_, 1) → cL G Z A H0 X g1 H1 locs1 → (mFr [36, 40, 41, 42, 44, 45, 46, 48] g g1 ∧ cJ Z g1 ∧ True) → W p l e rm_kfinish s m args below meth c H1 locs1 0 0 Q (F0 m pc' ls' [])) : W p l e rm_kfinish s m args below meth c H locs 0 0 Q (F0 m 0 ls []) := by
  have hx := x.1
  have hb := x.2.1
  have hz := x.2.2.2.2.2.2.2.1
  have hzn := hz.1
  refine lv_aload_n hx hb dX1_finish_0 rfl (lv_at hl 0 rfl) ?_
  refine lv_iload_n hx hb dX1_finish_1 rfl (lv_at hl 1 rfl) ?_
  refine c_puti x L 1 i0 8 40 hal0 rfl rfl ⟨rfl, by decide +kernel⟩ (wk_in kf_X1_53) dX1_finish_2 (rg_any p1) (fun g1 H1 k1 eg1 L1 => ?_)
  refine lv_aload_n hx hb dX1_finish_5 rfl (lv_at hl 0 rfl) ?_
  refine lv_iconst (v := 0) hx hb dX1_finish_6 (by decide) ?_
  refine lv_iconst (v := 0) hx hb dX1_finish_7 (by decide) ?_
  refine c_cv (As := [.int (0 : Int32), .int (0 : Int32)]) (rest := []) x hml L1 1 i0 hal0 rfl (c_kenter l X g1 i0 (0 : Int32) (0 : Int32) hX (cJ_up hJ eg1 rfl) hal0) (wk_V kd_X1_enter kl_X1_58 ki_X1_enter ks_X1_X1_enter kn_X1) rfl ⟨rfl, rfl⟩ hd_kenter ⟨Nat.le_of_ble_eq_true rfl, Nat.le_of_ble_eq_true rfl⟩ rfl hl.1 rfl (lv_room (Nat.le_of_ble_eq_true rfl)) dX1_finish_8 (fun  g2 H2 k2 hp2 L2 => ?_)
  exact hQ _ _ _ _ _ dX1_finish_11 L2 ⟨(mFr.tr (mFr.upE mFr.rf eg1 rfl) hp2.1 rfl), hp2.2.1, trivial⟩
theorem c_kfinish (l : Launch) {G : cG} {Z : cZ} (X : Int) (g : mSt) (i0 : Nat) (p1 : Int32) (hX : 0 ≤ X ∧ X ≤ 2000000000) (hJ : cJ Z g) (hal0 : Z.al 1 i0) : Met l yX1_finish (wk (Cond.code yX1_finish cX1_finish 2 none)) rm_kfinish (va_Pc [.ref (Z.ad 1 i0), .int p1] (cPre G Z X g)) (cQv G Z X (fun g1 => mFr [36, 40, 41, 42, 44, 45, 46, 48] g g1 ∧ cJ Z g1 ∧ True)) 0 0 (cAd Z) := by
  refine Met.ofW (cc := cX1_finish) (maxL := 2) (ret := none) (by decide) rfl ?_
  intro p e s m args below meth c s₁ B hml hv
  obtain ⟨rfl, hv⟩ := hv
  have hr := B.returns
  have hlocks := B.notSynchronized
  obtain ⟨x, L⟩ := c_start B rfl (fun w h => wk_in h) hv
  have hl := lv_entry ([.ref (Z.ad 1 i0), .int p1]) (n := 2) (Nat.le_of_ble_eq_true rfl)
  rw [lg_entry_eq]
  generalize (lg_sl ([.ref (Z.ad 1 i0), .int p1]) ++ List.replicate (2 - (lg_sl ([.ref (Z.ad 1 i0), .int p1])).length) Slot.unset).toArray = ls at hl ⊢
  exact w_kfinish x hml L hX i0 p1 hJ hal0 hl (fun pc' ls' g1 H1 locs1 hdg L hp => c_vret x L hr hlocks (Int.le_refl _) hp hdg)

def rm_ksayCause_4 : Room := { frames := 2, cells := 0, slots := 0, locals := 48 }
theorem hd_ksayCause_4 : yX8_sayCause.cls ≠ "java/lang/invoke/MethodHandle" ∧ yX8_sayCause.cls ≠ "java/lang/invoke/VarHandle" ∧ (parseMethodDescriptor yX8_sayCause.desc).map (fun d => d.parameters.length) = some 4 := by decide +kernel
set_option maxHeartbeats 4000000 in
set_option maxRecDepth 100000 in
theorem w_ksayCause_4 {p : Program} {l : Launch} {e : Env} {s : State} {m : MethodId} {args : Array Value} {below : List Frame} {meth : Method} {c : Code} {H : Heap} {locs : List Loc} {Q : State → Prop} {ls : Array Slot} {G : cG} {Z : cZ} {A : Nat → Prop} {g : mSt} {H0 : Heap} {X : Int} (x : cX p c cX8_sayCause s args (wk (Cond.code yX8_sayCause cX8_sayCause 5 none)) m G Z A RX8 H0) (hml : c.maxLocals = 5) (L : cL G Z A H0 X g H locs) (hX : 0 ≤ X ∧ X ≤ 2000000000) (i0 : Nat) (p1 : Int32) (p2 : Int32) (p3 : Int32) (p4 : Int32) (hi0 : i0 < Z.n) (rp3 : rg (0) (1) p3) (hl : lv_has ls 5 [(0, .ref (Z.ad 4 i0)), (1, .int p1), (2, .int p2), (3, .int p3), (4, .int p4)]) (hQ : ∀ (pc' : Nat) (ls' : Array Slot) (g1 : mSt) (H1 : Heap) (locs1 : List Loc), decode cX8_sayCause pc' = .ok (.return_, 1) → cL G Z A H0 X g1 H1 locs1 → (mFr [198, 832, 864] g g1 ∧ True) → W p l e rm_ksayCause_4 s m args below meth c H1 locs1 0 0 Q (F0 m pc' ls' [])) : W p l e rm_ksayCause_4 s m args below meth c H locs 0 0 Q (F0 m 0 ls []) := by
  have hx := x.1
  have hb := x.2.1
  have hz := x.2.2.2.2.2.2.2.1
  have hzn := hz.1
  have hal0 : Z.al 4 i0 := hz.2 4 i0 (show i0 < Z.n from hi0)
  refine lv_aload_n hx hb dX8_sayCause_0 rfl (lv_at hl 0 rfl) ?_
  have al1 : Z.al 5 i0 := hz.2 5 i0 (show i0 < 2 * Z.n from (by omega))
  refine c_getr (a := Z.ad 5 i0) x L 4 i0 1 hal0 rfl rfl (wk_in kf_X8_20) dX8_sayCause_1 ?_
  have al2 : Z.al 6 i0 := hz.2 6 i0 (show i0 < 2 * Z.n from (by omega))
  refine c_getr (a := Z.ad 6 i0) x L 5 i0 1 al1 rfl rfl (wk_in kf_X8_113) dX8_sayCause_4 ?_
  refine lv_iload_n hx hb dX8_sayCause_7 rfl (lv_at hl 1 rfl) ?_
  refine lv_iload_n hx hb dX8_sayCause_8 rfl (lv_at hl 2 rfl) ?_
  refine lv_iload_n hx hb dX8_sayCause_9 rfl (lv_at hl 3 rfl) ?_
  refine lv_iconst (v := 5) hx hb dX8_sayCause_10 (by decide) ?_
  refine c_ci (As := [.int p1, .int p2, .int p3, .int (5 : Int32)]) (rest := []) x hml L 6 i0 al2 rfl (c_kbegin l X g i0 p1 p2 p3 (5 : Int32) hX (show i0 < 2 * Z.n from (by omega)) (rg_w rp3 rfl)) (wk_V kd_X6_begin kl_X8_119 ki_X6_begin ks_X6_X6_begin kn_X6) rfl ⟨rfl, rfl⟩ hd_kbegin ⟨Nat.le_of_ble_eq_true rfl, Nat.le_of_ble_eq_true rfl⟩ rfl hl.1 rfl (lv_room (Nat.le_of_ble_eq_true rfl)) dX8_sayCause_11 (fun v4 g3 H3 k3 hp3 L3 => ?_)
  have rv4 : rg (0) (1) v4 := hp3.2.1
  have j32_5 : ∀ (g5 : mSt) (H5 : Heap) (k5 : List Loc) (ls : Array Slot), mFr [832, 864] g3 g5 → cL G Z A H0 X g5 H5 k5 → lv_has ls 5 [(0, .ref (Z.ad 4 i0))] → W p l e rm_ksayCause_4 s m args below meth c H5 k5 0 0 Q (F0 m 32 ls []) := by
    intro  g5 H5 k5 ls hF5 L5  hl
    exact hQ _ _ _ _ _ dX8_sayCause_32 L5 ⟨(mFr.tr (mFr.tr mFr.rf hp3.1 rfl) hF5 rfl), trivial⟩
  refine lv_if_eq (tgt := 32) hx hb dX8_sayCause_14 (by decide) (fun c14_6 => ?_) (fun c14_6 => ?_)
  · skip
    have q7 : rg (0) (0) v4 := (rg_eq c14_6 rv4 kc_0).1
    exact j32_5  g3 _ _ ls mFr.rf L3  (lv_sub hl [0] rfl)
  · skip
    have q8 : rg (1) (1) v4 := rg_neL c14_6 rv4 kc_0
    refine lv_aload_n hx hb dX8_sayCause_17 rfl (lv_at hl 0 rfl) ?_
    refine c_getr (a := Z.ad 5 i0) x L3 4 i0 1 hal0 rfl rfl (wk_in kf_X8_20) dX8_sayCause_18 ?_
    refine c_getr (a := Z.ad 6 i0) x L3 5 i0 1 al1 rfl rfl (wk_in kf_X8_113) dX8_sayCause_21 ?_
    refine lv_bipush (v := 8) hx hb dX8_sayCause_24 (by decide) ?_
    refine lv_iconst (v := 1) hx hb dX8_sayCause_26 (by decide) ?_
    refine lv_iload hx hb dX8_sayCause_27 (lv_at hl 4 rfl) ?_
    refine c_cv (As := [.int (8 : Int32), .int (1 : Int32), .int p4]) (rest := []) x hml L3 6 i0 al2 rfl (c_kmelement l X g3 i0 (8 : Int32) (1 : Int32) p4 hX (show i0 < 2 * Z.n from (by omega)) (rg_w kc_1 rfl)) (wk_V kd_X6_element kl_X8_125 ki_X6_element ks_X6_X6_element kn_X6) rfl ⟨rfl, rfl⟩ hd_kmelement ⟨Nat.le_of_ble_eq_true rfl, Nat.le_of_ble_eq_true rfl⟩ rfl hl.1 rfl (lv_room (Nat.le_of_ble_eq_true rfl)) dX8_sayCause_29 (fun  g9 H9 k9 hp9 L9 => ?_)
    exact j32_5  g9 _ _ ls (mFr.tr mFr.rf hp9.1 rfl) L9  (lv_sub hl [0] rfl)
theorem c_ksayCause_4 (l : Launch) {G : cG} {Z : cZ} (X : Int) (g : mSt) (i0 : Nat) (p1 : Int32) (p2 : Int32) (p3 : Int32) (p4 : Int32) (hX : 0 ≤ X ∧ X ≤ 2000000000) (hi0 : i0 < Z.n) (rp3 : rg (0) (1) p3) : Met l yX8_sayCause (wk (Cond.code yX8_sayCause cX8_sayCause 5 none)) rm_ksayCause_4 (va_Pc [.ref (Z.ad 4 i0), .int p1, .int p2, .int p3, .int p4] (cPre G Z X g)) (cQv G Z X (fun g1 => mFr [198, 832, 864] g g1 ∧ True)) 0 0 (cAd Z) := by
  refine Met.ofW (cc := cX8_sayCause) (maxL := 5) (ret := none) (by decide) rfl ?_
  intro p e s m args below meth c s₁ B hml hv
  obtain ⟨rfl, hv⟩ := hv
  have hr := B.returns
  have hlocks := B.notSynchronized
  obtain ⟨x, L⟩ := c_start B rfl (fun w h => wk_in h) hv
  have hl := lv_entry ([.ref (Z.ad 4 i0), .int p1, .int p2, .int p3, .int p4]) (n := 5) (Nat.le_of_ble_eq_true rfl)
  rw [lg_entry_eq]
  generalize (lg_sl ([.ref (Z.ad 4 i0), .int p1, .int p2, .int p3, .int p4]) ++ List.replicate (5 - (lg_sl ([.ref (Z.ad 4 i0), .int p1, .int p2, .int p3, .int p4])).length) Slot.unset).toArray = ls at hl ⊢
  exact w_ksayCause_4 x hml L hX i0 p1 p2 p3 p4 hi0 rp3 hl (fun pc' ls' g1 H1 locs1 hdg L hp => c_vret x L hr hlocks (Int.le_refl _) hp hdg)

def rm_ksayCause_10 : Room := { frames := 2, cells := 0, slots := 0, locals := 48 }
theorem hd_ksayCause_10 : yX8_sayCause.cls ≠ "java/lang/invoke/MethodHandle" ∧ yX8_sayCause.cls ≠ "java/lang/invoke/VarHandle" ∧ (parseMethodDescriptor yX8_sayCause.desc).map (fun d => d.parameters.length) = some 4 := by decide +kernel
set_option maxHeartbeats 4000000 in
set_option maxRecDepth 100000 in
theorem w_ksayCause_10 {p : Program} {l : Launch} {e : Env} {s : State} {m : MethodId} {args : Array Value} {below : List Frame} {meth : Method} {c : Code} {H : Heap} {locs : List Loc} {Q : State → Prop} {ls : Array Slot} {G : cG} {Z : cZ} {A : Nat → Prop} {g : mSt} {H0 : Heap} {X : Int} (x : cX p c cX8_sayCause s args (wk (Cond.code yX8_sayCause cX8_sayCause 5 none)) m G Z A RX8 H0) (hml : c.maxLocals = 5) (L : cL G Z A H0 X g H locs) (hX : 0 ≤ X ∧ X ≤ 2000000000) (i0 : Nat) (p1 : Int32) (p2 : Int32) (p3 : Int32) (p4 : Int32) (hi0 : i0 < Z.n) (rp3 : rg (0) (1) p3) (hl : lv_has ls 5 [(0, .ref (Z.ad 10 i0)), (1, .int p1), (2, .int p2), (3, .int p3), (4, .int p4)]) (hQ : ∀ (pc' : Nat) (ls' : Array Slot) (g1 : mSt) (H1 : Heap) (locs1 : List Loc), decode cX8_sayCause pc' = .ok (.return_, 1) → cL G Z A H0 X g1 H1 locs1 → (mFr [198, 832, 864] g g1 ∧ True) → W p l e rm_ksayCause_10 s m args below meth c H1 locs1 0 0 Q (F0 m pc' ls' [])) : W p l e rm_ksayCause_10 s m args below meth c H locs 0 0 Q (F0 m 0 ls []) := by
  have hx := x.1
  have hb := x.2.1
  have hz := x.2.2.2.2.2.2.2.1
  have hzn := hz.1
  have hal0 : Z.al 10 i0 := hz.2 10 i0 (show i0 < Z.n from hi0)
  refine lv_aload_n hx hb dX8_sayCause_0 rfl (lv_at hl 0 rfl) ?_
  have al1 : Z.al 5 (Z.n + i0) := hz.2 5 (Z.n + i0) (show (Z.n + i0) < 2 * Z.n from (by omega))
  refine c_getr (a := Z.ad 5 (Z.n + i0)) x L 10 i0 1 hal0 rfl rfl (wk_in kf_X8_20) dX8_sayCause_1 ?_
  have al2 : Z.al 6 (Z.n + i0) := hz.2 6 (Z.n + i0) (show (Z.n + i0) < 2 * Z.n from (by omega))
  refine c_getr (a := Z.ad 6 (Z.n + i0)) x L 5 (Z.n + i0) 1 al1 rfl rfl (wk_in kf_X8_113) dX8_sayCause_4 ?_
  refine lv_iload_n hx hb dX8_sayCause_7 rfl (lv_at hl 1 rfl) ?_
  refine lv_iload_n hx hb dX8_sayCause_8 rfl (lv_at hl 2 rfl) ?_
  refine lv_iload_n hx hb dX8_sayCause_9 rfl (lv_at hl 3 rfl) ?_
  refine lv_iconst (v := 5) hx hb dX8_sayCause_10 (by decide) ?_
  refine c_ci (As := [.int p1, .int p2, .int p3, .int (5 : Int32)]) (rest := []) x hml L 6 (Z.n + i0) al2 rfl (c_kbegin l X g (Z.n + i0) p1 p2 p3 (5 : Int32) hX (show (Z.n + i0) < 2 * Z.n from (by omega)) (rg_w rp3 rfl)) (wk_V kd_X6_begin kl_X8_119 ki_X6_begin ks_X6_X6_begin kn_X6) rfl ⟨rfl, rfl⟩ hd_kbegin ⟨Nat.le_of_ble_eq_true rfl, Nat.le_of_ble_eq_true rfl⟩ rfl hl.1 rfl (lv_room (Nat.le_of_ble_eq_true rfl)) dX8_sayCause_11 (fun v4 g3 H3 k3 hp3 L3 => ?_)
  have rv4 : rg (0) (1) v4 := hp3.2.1
  have j32_5 : ∀ (g5 : mSt) (H5 : Heap) (k5 : List Loc) (ls : Array Slot), mFr [832, 864] g3 g5 → cL G Z A H0 X g5 H5 k5 → lv_has ls 5 [(0, .ref (Z.ad 10 i0))] → W p l e rm_ksayCause_10 s m args below meth c H5 k5 0 0 Q (F0 m 32 ls []) := by
    intro  g5 H5 k5 ls hF5 L5  hl
    exact hQ _ _ _ _ _ dX8_sayCause_32 L5 ⟨(mFr.tr (mFr.tr mFr.rf hp3.1 rfl) hF5 rfl), trivial⟩
  refine lv_if_eq (tgt := 32) hx hb dX8_sayCause_14 (by decide) (fun c14_6 => ?_) (fun c14_6 => ?_)
  · skip
    have q7 : rg (0) (0) v4 := (rg_eq c14_6 rv4 kc_0).1
    exact j32_5  g3 _ _ ls mFr.rf L3  (lv_sub hl [0] rfl)
  · skip
    have q8 : rg (1) (1) v4 := rg_neL c14_6 rv4 kc_0
    refine lv_aload_n hx hb dX8_sayCause_17 rfl (lv_at hl 0 rfl) ?_
    refine c_getr (a := Z.ad 5 (Z.n + i0)) x L3 10 i0 1 hal0 rfl rfl (wk_in kf_X8_20) dX8_sayCause_18 ?_
    refine c_getr (a := Z.ad 6 (Z.n + i0)) x L3 5 (Z.n + i0) 1 al1 rfl rfl (wk_in kf_X8_113) dX8_sayCause_21 ?_
    refine lv_bipush (v := 8) hx hb dX8_sayCause_24 (by decide) ?_
    refine lv_iconst (v := 1) hx hb dX8_sayCause_26 (by decide) ?_
    refine lv_iload hx hb dX8_sayCause_27 (lv_at hl 4 rfl) ?_
    refine c_cv (As := [.int (8 : Int32), .int (1 : Int32), .int p4]) (rest := []) x hml L3 6 (Z.n + i0) al2 rfl (c_kmelement l X g3 (Z.n + i0) (8 : Int32) (1 : Int32) p4 hX (show (Z.n + i0) < 2 * Z.n from (by omega)) (rg_w kc_1 rfl)) (wk_V kd_X6_element kl_X8_125 ki_X6_element ks_X6_X6_element kn_X6) rfl ⟨rfl, rfl⟩ hd_kmelement ⟨Nat.le_of_ble_eq_true rfl, Nat.le_of_ble_eq_true rfl⟩ rfl hl.1 rfl (lv_room (Nat.le_of_ble_eq_true rfl)) dX8_sayCause_29 (fun  g9 H9 k9 hp9 L9 => ?_)
    exact j32_5  g9 _ _ ls (mFr.tr mFr.rf hp9.1 rfl) L9  (lv_sub hl [0] rfl)
theorem c_ksayCause_10 (l : Launch) {G : cG} {Z : cZ} (X : Int) (g : mSt) (i0 : Nat) (p1 : Int32) (p2 : Int32) (p3 : Int32) (p4 : Int32) (hX : 0 ≤ X ∧ X ≤ 2000000000) (hi0 : i0 < Z.n) (rp3 : rg (0) (1) p3) : Met l yX8_sayCause (wk (Cond.code yX8_sayCause cX8_sayCause 5 none)) rm_ksayCause_10 (va_Pc [.ref (Z.ad 10 i0), .int p1, .int p2, .int p3, .int p4] (cPre G Z X g)) (cQv G Z X (fun g1 => mFr [198, 832, 864] g g1 ∧ True)) 0 0 (cAd Z) := by
  refine Met.ofW (cc := cX8_sayCause) (maxL := 5) (ret := none) (by decide) rfl ?_
  intro p e s m args below meth c s₁ B hml hv
  obtain ⟨rfl, hv⟩ := hv
  have hr := B.returns
  have hlocks := B.notSynchronized
  obtain ⟨x, L⟩ := c_start B rfl (fun w h => wk_in h) hv
  have hl := lv_entry ([.ref (Z.ad 10 i0), .int p1, .int p2, .int p3, .int p4]) (n := 5) (Nat.le_of_ble_eq_true rfl)
  rw [lg_entry_eq]
  generalize (lg_sl ([.ref (Z.ad 10 i0), .int p1, .int p2, .int p3, .int p4]) ++ List.replicate (5 - (lg_sl ([.ref (Z.ad 10 i0), .int p1, .int p2, .int p3, .int p4])).length) Slot.unset).toArray = ls at hl ⊢
  exact w_ksayCause_10 x hml L hX i0 p1 p2 p3 p4 hi0 rp3 hl (fun pc' ls' g1 H1 locs1 hdg L hp => c_vret x L hr hlocks (Int.le_refl _) hp hdg)

def rm_ksayPlain_4 : Room := { frames := 1, cells := 0, slots := 0, locals := 26 }
theorem hd_ksayPlain_4 : yX8_sayPlain.cls ≠ "java/lang/invoke/MethodHandle" ∧ yX8_sayPlain.cls ≠ "java/lang/invoke/VarHandle" ∧ (parseMethodDescriptor yX8_sayPlain.desc).map (fun d => d.parameters.length) = some 2 := by decide +kernel
set_option maxHeartbeats 4000000 in
set_option maxRecDepth 100000 in
theorem w_ksayPlain_4 {p : Program} {l : Launch} {e : Env} {s : State} {m : MethodId} {args : Array Value} {below : List Frame} {meth : Method} {c : Code} {H : Heap} {locs : List Loc} {Q : State → Prop} {ls : Array Slot} {G : cG} {Z : cZ} {A : Nat → Prop} {g : mSt} {H0 : Heap} {X : Int} (x : cX p c cX8_sayPlain s args (wk (Cond.code yX8_sayPlain cX8_sayPlain 3 none)) m G Z A RX8 H0) (hml : c.maxLocals = 3) (L : cL G Z A H0 X g H locs) (hX : 0 ≤ X ∧ X ≤ 2000000000) (i0 : Nat) (p1 : Int32) (q2 : Nat) (hi0 : i0 < Z.n) (hq2 : Z.al 1 q2) (hl : lv_has ls 3 [(0, .ref (Z.ad 4 i0)), (1, .int p1), (2, .ref (Z.ad 1 q2))]) (hQ : ∀ (pc' : Nat) (ls' : Array Slot) (g1 : mSt) (H1 : Heap) (locs1 : List Loc), decode cX8_sayPlain pc' = .ok (.return_, 1) → cL G Z A H0 X g1 H1 locs1 → (mFr [198, 832, 864] g g1 ∧ True) → W p l e rm_ksayPlain_4 s m args below meth c H1 locs1 0 0 Q (F0 m pc' ls' [])) : W p l e rm_ksayPlain_4 s m args below meth c H locs 0 0 Q (F0 m 0 ls []) := by
  have hx := x.1
  have hb := x.2.1
  have hz := x.2.2.2.2.2.2.2.1
  have hzn := hz.1
  have hal0 : Z.al 4 i0 := hz.2 4 i0 (show i0 < Z.n from hi0)
  refine lv_aload_n hx hb dX8_sayPlain_0 rfl (lv_at hl 0 rfl) ?_
  have al1 : Z.al 5 i0 := hz.2 5 i0 (show i0 < 2 * Z.n from (by omega))
  refine c_getr (a := Z.ad 5 i0) x L 4 i0 1 hal0 rfl rfl (wk_in kf_X8_20) dX8_sayPlain_1 ?_
  have al2 : Z.al 6 i0 := hz.2 6 i0 (show i0 < 2 * Z.n from (by omega))
  refine c_getr (a := Z.ad 6 i0) x L 5 i0 1 al1 rfl rfl (wk_in kf_X8_113) dX8_sayPlain_4 ?_
  refine lv_iload_n hx hb dX8_sayPlain_7 rfl (lv_at hl 1 rfl) ?_
  refine lv_aload_n hx hb dX8_sayPlain_8 rfl (lv_at hl 2 rfl) ?_
  refine c_geti x L 1 q2 1 33 hq2 rfl rfl (wk_in kf_X8_38) dX8_sayPlain_9 (fun v3 ev3 wv3 => ?_)
  have rv3 : rg (-2147483648) (2147483647) v3 := rg_any v3
  refine lv_aload_n hx hb dX8_sayPlain_12 rfl (lv_at hl 2 rfl) ?_
  refine c_geti x L 1 q2 2 34 hq2 rfl rfl (wk_in kf_X8_41) dX8_sayPlain_13 (fun v4 ev4 wv4 => ?_)
  have rv4 : rg (0) (1) v4 := clj_34 wv4
  refine lv_iconst (v := 0) hx hb dX8_sayPlain_16 (by decide) ?_
  refine c_ci (As := [.int p1, .int v3, .int v4, .int (0 : Int32)]) (rest := []) x hml L 6 i0 al2 rfl (c_kbegin l X g i0 p1 v3 v4 (0 : Int32) hX (show i0 < 2 * Z.n from (by omega)) (rg_w rv4 rfl)) (wk_V kd_X6_begin kl_X8_119 ki_X6_begin ks_X6_X6_begin kn_X6) rfl ⟨rfl, rfl⟩ hd_kbegin ⟨Nat.le_of_ble_eq_true rfl, Nat.le_of_ble_eq_true rfl⟩ rfl hl.1 rfl (lv_room (Nat.le_of_ble_eq_true rfl)) dX8_sayPlain_17 (fun v6 g5 H5 k5 hp5 L5 => ?_)
  have rv6 : rg (0) (1) v6 := hp5.2.1
  refine lv_pop hx hb dX8_sayPlain_20 rfl ?_
  exact hQ _ _ _ _ _ dX8_sayPlain_21 L5 ⟨(mFr.tr mFr.rf hp5.1 rfl), trivial⟩
theorem c_ksayPlain_4 (l : Launch) {G : cG} {Z : cZ} (X : Int) (g : mSt) (i0 : Nat) (p1 : Int32) (q2 : Nat) (hX : 0 ≤ X ∧ X ≤ 2000000000) (hi0 : i0 < Z.n) (hq2 : Z.al 1 q2) : Met l yX8_sayPlain (wk (Cond.code yX8_sayPlain cX8_sayPlain 3 none)) rm_ksayPlain_4 (va_Pc [.ref (Z.ad 4 i0), .int p1, .ref (Z.ad 1 q2)] (cPre G Z X g)) (cQv G Z X (fun g1 => mFr [198, 832, 864] g g1 ∧ True)) 0 0 (cAd Z) := by
  refine Met.ofW (cc := cX8_sayPlain) (maxL := 3) (ret := none) (by decide) rfl ?_
  intro p e s m args below meth c s₁ B hml hv
  obtain ⟨rfl, hv⟩ := hv
  have hr := B.returns
  have hlocks := B.notSynchronized
  obtain ⟨x, L⟩ := c_start B rfl (fun w h => wk_in h) hv
  have hl := lv_entry ([.ref (Z.ad 4 i0), .int p1, .ref (Z.ad 1 q2)]) (n := 3) (Nat.le_of_ble_eq_true rfl)
  rw [lg_entry_eq]
  generalize (lg_sl ([.ref (Z.ad 4 i0), .int p1, .ref (Z.ad 1 q2)]) ++ List.replicate (3 - (lg_sl ([.ref (Z.ad 4 i0), .int p1, .ref (Z.ad 1 q2)])).length) Slot.unset).toArray = ls at hl ⊢
  exact w_ksayPlain_4 x hml L hX i0 p1 q2 hi0 hq2 hl (fun pc' ls' g1 H1 locs1 hdg L hp => c_vret x L hr hlocks (Int.le_refl _) hp hdg)

def rm_ksayPlain_10 : Room := { frames := 1, cells := 0, slots := 0, locals := 26 }
theorem hd_ksayPlain_10 : yX8_sayPlain.cls ≠ "java/lang/invoke/MethodHandle" ∧ yX8_sayPlain.cls ≠ "java/lang/invoke/VarHandle" ∧ (parseMethodDescriptor yX8_sayPlain.desc).map (fun d => d.parameters.length) = some 2 := by decide +kernel
set_option maxHeartbeats 4000000 in
set_option maxRecDepth 100000 in
theorem w_ksayPlain_10 {p : Program} {l : Launch} {e : Env} {s : State} {m : MethodId} {args : Array Value} {below : List Frame} {meth : Method} {c : Code} {H : Heap} {locs : List Loc} {Q : State → Prop} {ls : Array Slot} {G : cG} {Z : cZ} {A : Nat → Prop} {g : mSt} {H0 : Heap} {X : Int} (x : cX p c cX8_sayPlain s args (wk (Cond.code yX8_sayPlain cX8_sayPlain 3 none)) m G Z A RX8 H0) (hml : c.maxLocals = 3) (L : cL G Z A H0 X g H locs) (hX : 0 ≤ X ∧ X ≤ 2000000000) (i0 : Nat) (p1 : Int32) (q2 : Nat) (hi0 : i0 < Z.n) (hq2 : Z.al 1 q2) (hl : lv_has ls 3 [(0, .ref (Z.ad 10 i0)), (1, .int p1), (2, .ref (Z.ad 1 q2))]) (hQ : ∀ (pc' : Nat) (ls' : Array Slot) (g1 : mSt) (H1 : Heap) (locs1 : List Loc), decode cX8_sayPlain pc' = .ok (.return_, 1) → cL G Z A H0 X g1 H1 locs1 → (mFr [198, 832, 864] g g1 ∧ True) → W p l e rm_ksayPlain_10 s m args below meth c H1 locs1 0 0 Q (F0 m pc' ls' [])) : W p l e rm_ksayPlain_10 s m args below meth c H locs 0 0 Q (F0 m 0 ls []) := by
  have hx := x.1
  have hb := x.2.1
  have hz := x.2.2.2.2.2.2.2.1
  have hzn := hz.1
  have hal0 : Z.al 10 i0 := hz.2 10 i0 (show i0 < Z.n from hi0)
  refine lv_aload_n hx hb dX8_sayPlain_0 rfl (lv_at hl 0 rfl) ?_
  have al1 : Z.al 5 (Z.n + i0) := hz.2 5 (Z.n + i0) (show (Z.n + i0) < 2 * Z.n from (by omega))
  refine c_getr (a := Z.ad 5 (Z.n + i0)) x L 10 i0 1 hal0 rfl rfl (wk_in kf_X8_20) dX8_sayPlain_1 ?_
  have al2 : Z.al 6 (Z.n + i0) := hz.2 6 (Z.n + i0) (show (Z.n + i0) < 2 * Z.n from (by omega))
  refine c_getr (a := Z.ad 6 (Z.n + i0)) x L 5 (Z.n + i0) 1 al1 rfl rfl (wk_in kf_X8_113) dX8_sayPlain_4 ?_
  refine lv_iload_n hx hb dX8_sayPlain_7 rfl (lv_at hl 1 rfl) ?_
  refine lv_aload_n hx hb dX8_sayPlain_8 rfl (lv_at hl 2 rfl) ?_
  refine c_geti x L 1 q2 1 33 hq2 rfl rfl (wk_in kf_X8_38) dX8_sayPlain_9 (fun v3 ev3 wv3 => ?_)
  have rv3 : rg (-2147483648) (2147483647) v3 := rg_any v3
  refine lv_aload_n hx hb dX8_sayPlain_12 rfl (lv_at hl 2 rfl) ?_
  refine c_geti x L 1 q2 2 34 hq2 rfl rfl (wk_in kf_X8_41) dX8_sayPlain_13 (fun v4 ev4 wv4 => ?_)
  have rv4 : rg (0) (1) v4 := clj_34 wv4
  refine lv_iconst (v := 0) hx hb dX8_sayPlain_16 (by decide) ?_
  refine c_ci (As := [.int p1, .int v3, .int v4, .int (0 : Int32)]) (rest := []) x hml L 6 (Z.n + i0) al2 rfl (c_kbegin l X g (Z.n + i0) p1 v3 v4 (0 : Int32) hX (show (Z.n + i0) < 2 * Z.n from (by omega)) (rg_w rv4 rfl)) (wk_V kd_X6_begin kl_X8_119 ki_X6_begin ks_X6_X6_begin kn_X6) rfl ⟨rfl, rfl⟩ hd_kbegin ⟨Nat.le_of_ble_eq_true rfl, Nat.le_of_ble_eq_true rfl⟩ rfl hl.1 rfl (lv_room (Nat.le_of_ble_eq_true rfl)) dX8_sayPlain_17 (fun v6 g5 H5 k5 hp5 L5 => ?_)
  have rv6 : rg (0) (1) v6 := hp5.2.1
  refine lv_pop hx hb dX8_sayPlain_20 rfl ?_
  exact hQ _ _ _ _ _ dX8_sayPlain_21 L5 ⟨(mFr.tr mFr.rf hp5.1 rfl), trivial⟩
theorem c_ksayPlain_10 (l : Launch) {G : cG} {Z : cZ} (X : Int) (g : mSt) (i0 : Nat) (p1 : Int32) (q2 : Nat) (hX : 0 ≤ X ∧ X ≤ 2000000000) (hi0 : i0 < Z.n) (hq2 : Z.al 1 q2) : Met l yX8_sayPlain (wk (Cond.code yX8_sayPlain cX8_sayPlain 3 none)) rm_ksayPlain_10 (va_Pc [.ref (Z.ad 10 i0), .int p1, .ref (Z.ad 1 q2)] (cPre G Z X g)) (cQv G Z X (fun g1 => mFr [198, 832, 864] g g1 ∧ True)) 0 0 (cAd Z) := by
  refine Met.ofW (cc := cX8_sayPlain) (maxL := 3) (ret := none) (by decide) rfl ?_
  intro p e s m args below meth c s₁ B hml hv
  obtain ⟨rfl, hv⟩ := hv
  have hr := B.returns
  have hlocks := B.notSynchronized
  obtain ⟨x, L⟩ := c_start B rfl (fun w h => wk_in h) hv
  have hl := lv_entry ([.ref (Z.ad 10 i0), .int p1, .ref (Z.ad 1 q2)]) (n := 3) (Nat.le_of_ble_eq_true rfl)
  rw [lg_entry_eq]
  generalize (lg_sl ([.ref (Z.ad 10 i0), .int p1, .ref (Z.ad 1 q2)]) ++ List.replicate (3 - (lg_sl ([.ref (Z.ad 10 i0), .int p1, .ref (Z.ad 1 q2)])).length) Slot.unset).toArray = ls at hl ⊢
  exact w_ksayPlain_10 x hml L hX i0 p1 q2 hi0 hq2 hl (fun pc' ls' g1 H1 locs1 hdg L hp => c_vret x L hr hlocks (Int.le_refl _) hp hdg)
