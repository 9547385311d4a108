def rm_kputHeader : Room := { frames := 1, cells := 0, slots := 0, locals := 23 }
theorem hd_kputHeader : yX3_putHeader.cls = cRn 3 ∧ yX3_putHeader.cls ≠ "java/lang/invoke/MethodHandle" ∧ yX3_putHeader.cls ≠ "java/lang/invoke/VarHandle" ∧ (parseMethodDescriptor yX3_putHeader.desc).map (fun d => d.parameters.length) = some 1 := by decide +kernel
set_option maxHeartbeats 4000000 in
set_option maxRecDepth 100000 in
theorem w_kputHeader {p : Program} {l : Launch} {e : Env} {s : State} {m : MethodId} {args : Array Value} {below : List Frame} {meth : Method} {c : Code} {H : Heap} {locs : List Loc} {Q : State → Prop} {ls : Array Slot} {G : cG} {Z : cZ} {A : Nat → Prop} {g : mSt} {H0 : Heap} {X : Int} (x : cX p c cX3_putHeader s args (wk (Cond.code yX3_putHeader cX3_putHeader 2 none)) m G Z A RX3 H0) (hml : c.maxLocals = 2) (L : cL G Z A H0 X g H locs) (hX : 0 ≤ X ∧ X ≤ 2000000000) (i0 : Nat) (p1 : Int32) (hi0 : i0 < 2 * Z.n) (hpre0 : rg (0) (159) (g 101 i0)) (hl : lv_has ls 2 [(0, .ref (Z.ad 3 i0)), (1, .int p1)]) (hQ : ∀ (pc' : Nat) (ls' : Array Slot) (g1 : mSt) (H1 : Heap) (locs1 : List Loc), decode cX3_putHeader pc' = .ok (.return_, 1) → cL G Z A H0 X g1 H1 locs1 → (mFr [608] g g1 ∧ True) → W p l e rm_kputHeader s m args below meth c H1 locs1 0 0 Q (F0 m pc' ls' [])) : W p l e rm_kputHeader s m args below meth c H locs 0 0 Q (F0 m 0 ls []) := by
  have hx := x.1
  have hb := x.2.1
  have hz := x.2.2.2.2.2.2.2.1
  have hzn := hz.1
  have hal0 : Z.al 3 i0 := hz.2 3 i0 (show i0 < 2 * Z.n from hi0)
  obtain ⟨z0, ez0⟩ : ∃ y : Int32, y = g 101 i0 := ⟨_, rfl⟩
  have rz0 : rg (0) (159) z0 := rg_eqv ez0.symm hpre0
  refine lv_aload_n hx hb dX3_putHeader_0 rfl (lv_at hl 0 rfl) ?_
  have al1 : Z.al 19 i0 := hz.2 19 i0 (show i0 < 2 * Z.n from (by omega))
  refine c_getr (a := Z.ad 19 i0) x L 3 i0 4 hal0 rfl rfl (wk_in kf_X3_35) dX3_putHeader_1 ?_
  refine lv_aload_n hx hb dX3_putHeader_4 rfl (lv_at hl 0 rfl) ?_
  refine c_geti x L 3 i0 5 101 hal0 rfl rfl (wk_in kf_X3_61) dX3_putHeader_5 (fun v2 ev2 wv2 => ?_)
  refine m_top ((ez0).trans ev2.symm) ?_
  refine lv_iload_n hx hb dX3_putHeader_8 rfl (lv_at hl 1 rfl) ?_
  refine lv_bipush (v := 24) hx hb dX3_putHeader_9 (by decide) ?_
  refine lv_iushr hx hb dX3_putHeader_11 rfl ?_
  refine lv_topi (fun v3 ev3 => ?_)
  have rv3 : rg (0) (255) v3 := rg_ush ev3 24 rfl
  refine c_st x L 19 i0 608 al1 rfl rfl rz0 rfl (rg_any v3) dX3_putHeader_12 (fun g4 H4 k4 eg4 L4 => ?_)
  refine lv_aload_n hx hb dX3_putHeader_13 rfl (lv_at hl 0 rfl) ?_
  refine c_getr (a := Z.ad 19 i0) x L4 3 i0 4 hal0 rfl rfl (wk_in kf_X3_35) dX3_putHeader_14 ?_
  refine lv_aload_n hx hb dX3_putHeader_17 rfl (lv_at hl 0 rfl) ?_
  refine c_geti x L4 3 i0 5 101 hal0 rfl rfl (wk_in kf_X3_61) dX3_putHeader_18 (fun v5 ev5 wv5 => ?_)
  refine m_top (((mm_up ez0 eg4 rfl)).trans ev5.symm) ?_
  refine lv_iconst (v := 1) hx hb dX3_putHeader_21 (by decide) ?_
  refine lv_iadd hx hb dX3_putHeader_22 ?_
  refine lv_topi (fun v6 ev6 => ?_)
  have rv6 : rg (1) (160) v6 := (rg_add ev6 rz0 kc_1 rfl).1
  refine lv_iload_n hx hb dX3_putHeader_23 rfl (lv_at hl 1 rfl) ?_
  refine lv_bipush (v := 16) hx hb dX3_putHeader_24 (by decide) ?_
  refine lv_iushr hx hb dX3_putHeader_26 rfl ?_
  refine lv_topi (fun v7 ev7 => ?_)
  have rv7 : rg (0) (65535) v7 := rg_ush ev7 16 rfl
  refine lv_sipush (v := 255) hx hb dX3_putHeader_27 (by decide) ?_
  refine lv_iand hx hb dX3_putHeader_30 ?_
  refine lv_topi (fun v8 ev8 => ?_)
  have rv8 : rg (0) (255) v8 := rg_and ev8 8 255 (by decide) rfl
  refine c_st x L4 19 i0 608 al1 rfl rfl rv6 rfl (rg_any v8) dX3_putHeader_31 (fun g9 H9 k9 eg9 L9 => ?_)
  refine lv_aload_n hx hb dX3_putHeader_32 rfl (lv_at hl 0 rfl) ?_
  refine c_getr (a := Z.ad 19 i0) x L9 3 i0 4 hal0 rfl rfl (wk_in kf_X3_35) dX3_putHeader_33 ?_
  refine lv_aload_n hx hb dX3_putHeader_36 rfl (lv_at hl 0 rfl) ?_
  refine c_geti x L9 3 i0 5 101 hal0 rfl rfl (wk_in kf_X3_61) dX3_putHeader_37 (fun v10 ev10 wv10 => ?_)
  refine m_top (((mm_up (mm_up ez0 eg4 rfl) eg9 rfl)).trans ev10.symm) ?_
  refine lv_iconst (v := 2) hx hb dX3_putHeader_40 (by decide) ?_
  refine lv_iadd hx hb dX3_putHeader_41 ?_
  refine lv_topi (fun v11 ev11 => ?_)
  have rv11 : rg (2) (161) v11 := (rg_add ev11 rz0 kc_2 rfl).1
  refine lv_iload_n hx hb dX3_putHeader_42 rfl (lv_at hl 1 rfl) ?_
  refine lv_bipush (v := 8) hx hb dX3_putHeader_43 (by decide) ?_
  refine lv_iushr hx hb dX3_putHeader_45 rfl ?_
  refine lv_topi (fun v12 ev12 => ?_)
  have rv12 : rg (0) (16777215) v12 := rg_ush ev12 8 rfl
  refine lv_sipush (v := 255) hx hb dX3_putHeader_46 (by decide) ?_
  refine lv_iand hx hb dX3_putHeader_49 ?_
  refine lv_topi (fun v13 ev13 => ?_)
  have rv13 : rg (0) (255) v13 := rg_and ev13 8 255 (by decide) rfl
  refine c_st x L9 19 i0 608 al1 rfl rfl rv11 rfl (rg_any v13) dX3_putHeader_50 (fun g14 H14 k14 eg14 L14 => ?_)
  refine lv_aload_n hx hb dX3_putHeader_51 rfl (lv_at hl 0 rfl) ?_
  refine c_getr (a := Z.ad 19 i0) x L14 3 i0 4 hal0 rfl rfl (wk_in kf_X3_35) dX3_putHeader_52 ?_
  refine lv_aload_n hx hb dX3_putHeader_55 rfl (lv_at hl 0 rfl) ?_
  refine c_geti x L14 3 i0 5 101 hal0 rfl rfl (wk_in kf_X3_61) dX3_putHeader_56 (fun v15 ev15 wv15 => ?_)
  refine m_top (((mm_up (mm_up (mm_up ez0 eg4 rfl) eg9 rfl) eg14 rfl)).trans ev15.symm) ?_
  refine lv_iconst (v := 3) hx hb dX3_putHeader_59 (by decide) ?_
  refine lv_iadd hx hb dX3_putHeader_60 ?_
  refine lv_topi (fun v16 ev16 => ?_)
  have rv16 : rg (3) (162) v16 := (rg_add ev16 rz0 kc_3 rfl).1
  refine lv_iload_n hx hb dX3_putHeader_61 rfl (lv_at hl 1 rfl) ?_
  refine lv_sipush (v := 255) hx hb dX3_putHeader_62 (by decide) ?_
  refine lv_iand hx hb dX3_putHeader_65 ?_
  refine lv_topi (fun v17 ev17 => ?_)
  have rv17 : rg (0) (255) v17 := rg_and ev17 8 255 (by decide) rfl
  refine c_st x L14 19 i0 608 al1 rfl rfl rv16 rfl (rg_any v17) dX3_putHeader_66 (fun g18 H18 k18 eg18 L18 => ?_)
  refine lv_aload_n hx hb dX3_putHeader_67 rfl (lv_at hl 0 rfl) ?_
  refine c_getr (a := Z.ad 19 i0) x L18 3 i0 4 hal0 rfl rfl (wk_in kf_X3_35) dX3_putHeader_68 ?_
  refine lv_aload_n hx hb dX3_putHeader_71 rfl (lv_at hl 0 rfl) ?_
  refine c_geti x L18 3 i0 5 101 hal0 rfl rfl (wk_in kf_X3_61) dX3_putHeader_72 (fun v19 ev19 wv19 => ?_)
  refine m_top (((mm_up (mm_up (mm_up (mm_up ez0 eg4 rfl) eg9 rfl) eg14 rfl) eg18 rfl)).trans ev19.symm) ?_
  refine lv_iconst (v := 4) hx hb dX3_putHeader_75 (by decide) ?_
  refine lv_iadd hx hb dX3_putHeader_76 ?_
  refine lv_topi (fun v20 ev20 => ?_)
  have rv20 : rg (4) (163) v20 := (rg_add ev20 rz0 kc_4 rfl).1
  refine lv_iload_n hx hb dX3_putHeader_77 rfl (lv_at hl 1 rfl) ?_
  refine pf_call (va_runSN (As := [.int p1]) (rest := [.int v20, .ref (Z.ad 19 i0)]) ⟨hx, hb, hml, x.2.2.2.2.1, x.2.2.1⟩ (c_hc l p1) ⟨va_cnB 1 x.2.2.1 (goodC us_X11_hecOf) rfl rfl rfl (x.2.2.2.2.2.2.2.2.2.1.1 _ (List.mem_of_getElem? (i := 11) rfl)) (x.2.2.1 _ (wk_in kn_X11)) (by decide +kernel) ⟨Nat.le_of_ble_eq_true rfl, Nat.le_of_ble_eq_true rfl⟩, x.2.2.1 _ (wk_in kt_X11_hecOf), trivial⟩ ⟨hc_blind, fun U hU hW => ⟨rfl, hc_at x L18 hU hW⟩⟩ rfl rfl hl.1 rfl (lv_room (Nat.le_of_ble_eq_true rfl)) dX3_putHeader_78 ⟨Nat.zero_le _, Nat.zero_le _⟩) ?_
  refine lv_topi (fun v21 ev21 => ?_)
  have rv21 : rg (-2147483648) (2147483647) v21 := rg_any v21
  refine c_st x L18 19 i0 608 al1 rfl rfl rv20 rfl (rg_any v21) dX3_putHeader_81 (fun g22 H22 k22 eg22 L22 => ?_)
  exact hQ _ _ _ _ _ dX3_putHeader_82 L22 ⟨(mFr.upE (mFr.upE (mFr.upE (mFr.upE (mFr.upE mFr.rf eg4 rfl) eg9 rfl) eg14 rfl) eg18 rfl) eg22 rfl), trivial⟩
theorem c_kputHeader (l : Launch) {G : cG} {Z : cZ} (X : Int) (g : mSt) (i0 : Nat) (p1 : Int32) (hX : 0 ≤ X ∧ X ≤ 2000000000) (hi0 : i0 < 2 * Z.n) (hpre0 : rg (0) (159) (g 101 i0)) : Met l yX3_putHeader (wk (Cond.code yX3_putHeader cX3_putHeader 2 none)) rm_kputHeader (va_Pc [.ref (Z.ad 3 i0), .int p1] (cPre G Z X g)) (cQv G Z X (fun g1 => mFr [608] g g1 ∧ True)) 0 0 (cAd Z) := by
  refine Met.ofW (cc := cX3_putHeader) (maxL := 2) (ret := none) (by decide) rfl ?_
  intro p e s m args below meth c s₁ B hml hv
  obtain ⟨rfl, hv⟩ := hv
  have hr := B.returns
  have hlocks := B.notSynchronized
  obtain ⟨x, L⟩ := c_start B rfl (fun w h => wk_in h) hv
  have hl := lv_entry ([.ref (Z.ad 3 i0), .int p1]) (n := 2) (Nat.le_of_ble_eq_true rfl)
  rw [lg_entry_eq]
  generalize (lg_sl ([.ref (Z.ad 3 i0), .int p1]) ++ List.replicate (2 - (lg_sl ([.ref (Z.ad 3 i0), .int p1])).length) Slot.unset).toArray = ls at hl ⊢
  exact w_kputHeader x hml L hX i0 p1 hi0 hpre0 hl (fun pc' ls' g1 H1 locs1 hdg L hp => c_vret x L hr hlocks (Int.le_refl _) hp hdg)

def rm_kword : Room := { frames := 0, cells := 0, slots := 0, locals := 0 }
theorem hd_kword : yX3_word.cls = cRn 3 ∧ yX3_word.cls ≠ "java/lang/invoke/MethodHandle" ∧ yX3_word.cls ≠ "java/lang/invoke/VarHandle" ∧ (parseMethodDescriptor yX3_word.desc).map (fun d => d.parameters.length) = some 1 := by decide +kernel
set_option maxHeartbeats 4000000 in
set_option maxRecDepth 100000 in
theorem w_kword {p : Program} {l : Launch} {e : Env} {s : State} {m : MethodId} {args : Array Value} {below : List Frame} {meth : Method} {c : Code} {H : Heap} {locs : List Loc} {Q : State → Prop} {ls : Array Slot} {G : cG} {Z : cZ} {A : Nat → Prop} {g : mSt} {H0 : Heap} {X : Int} (x : cX p c cX3_word s args (wk (Cond.code yX3_word cX3_word 3 none)) m G Z A RX3 H0) (hml : c.maxLocals = 3) (L : cL G Z A H0 X g H locs) (hX : 0 ≤ X ∧ X ≤ 2000000000) (i0 : Nat) (p1 : Int32) (hi0 : i0 < 2 * Z.n) (hl : lv_has ls 3 [(0, .ref (Z.ad 3 i0)), (1, .int p1)]) (hQ : ∀ (pc' : Nat) (ls' : Array Slot) (g1 : mSt) (H1 : Heap) (locs1 : List Loc), decode cX3_word pc' = .ok (.return_, 1) → cL G Z A H0 X g1 H1 locs1 → (mFr [111, 768] g g1 ∧ True) → W p l e rm_kword s m args below meth c H1 locs1 0 0 Q (F0 m pc' ls' [])) : W p l e rm_kword s m args below meth c H locs 0 0 Q (F0 m 0 ls []) := by
  have hx := x.1
  have hb := x.2.1
  have hz := x.2.2.2.2.2.2.2.1
  have hzn := hz.1
  have hal0 : Z.al 3 i0 := hz.2 3 i0 (show i0 < 2 * Z.n from hi0)
  refine lv_bipush (v := 24) hx hb dX3_word_0 (by decide) ?_
  refine lv_istore_n (lv' := [(2, .int (24 : Int32)), (0, .ref (Z.ad 3 i0)), (1, .int p1)]) hx hb dX3_word_2 rfl hl (by decide) rfl (fun ls hl => ?_)
  have j3_2 : ∀ (n : Nat) (a3_2_1 : Int32) (g2 : mSt) (H2 : Heap) (k2 : List Loc) (ls : Array Slot), mFr [111, 768] g g2 → cL G Z A H0 X g2 H2 k2 → rg (-8) (24) a3_2_1 → rg (0) (200) (g2 111 i0) → lv_has ls 3 [(0, .ref (Z.ad 3 i0)), (1, .int p1), (2, .int a3_2_1)] → (a3_2_1.toInt - (-8 : Int)).toNat = n → W p l e rm_kword s m args below meth c H2 k2 0 0 Q (F0 m 3 ls []) := by
    intro n
    induction n using Nat.strongRecOn with
    | _ n ih2 =>
      intro a3_2_1 g2 H2 k2 ls hF2 L2 ra3_2_1 hm2_0 hl hn2
      subst hn2
      obtain ⟨z2_0, ez2_0⟩ : ∃ y : Int32, y = g2 111 i0 := ⟨_, rfl⟩
      have rz2_0 : rg (0) (200) z2_0 := rg_eqv ez2_0.symm hm2_0
      refine lv_iload_n hx hb dX3_word_3 rfl (lv_at hl 2 rfl) ?_
      have j49_3 : ∀ (g3 : mSt) (H3 : Heap) (k3 : List Loc) (ls : Array Slot), mFr [] g2 g3 → cL G Z A H0 X g3 H3 k3 → lv_has ls 3 [(0, .ref (Z.ad 3 i0))] → W p l e rm_kword s m args below meth c H3 k3 0 0 Q (F0 m 49 ls []) := by
        intro  g3 H3 k3 ls hF3 L3  hl
        exact hQ _ _ _ _ _ dX3_word_49 L3 ⟨(mFr.tr (mFr.tr mFr.rf hF2 rfl) hF3 rfl), trivial⟩
      refine lv_if_lt (tgt := 49) hx hb dX3_word_4 (by decide) (fun c4_4 => ?_) (fun c4_4 => ?_)
      · skip
        have q5 : rg (-8) (-1) a3_2_1 := (rg_lt c4_4 ra3_2_1 kc_0).1
        exact j49_3  g2 _ _ ls mFr.rf L2  (lv_sub hl [0] rfl)
      · skip
        have q6 : rg (0) (24) a3_2_1 := (rg_le (rg_nlt c4_4) kc_0 ra3_2_1).2
        refine lv_aload_n hx hb dX3_word_7 rfl (lv_at hl 0 rfl) ?_
        refine c_geti x L2 3 i0 15 111 hal0 rfl rfl (wk_in kf_X3_102) dX3_word_8 (fun v7 ev7 wv7 => ?_)
        refine m_top ((ez2_0).trans ev7.symm) ?_
        refine lv_sipush (v := 200) hx hb dX3_word_11 (by decide) ?_
        refine lv_icmp_ge (tgt := 49) hx hb dX3_word_14 (by decide) (fun c14_8 => ?_) (fun c14_8 => ?_)
        · skip
          have q9 : rg (200) (200) z2_0 := (rg_le c14_8 kc_200 rz2_0).2
          exact j49_3  g2 _ _ ls mFr.rf L2  (lv_sub hl [0] rfl)
        · skip
          have q10 : rg (0) (199) z2_0 := (rg_lt (rg_nle c14_8) rz2_0 kc_200).1
          refine lv_aload_n hx hb dX3_word_17 rfl (lv_at hl 0 rfl) ?_
          have al11 : Z.al 24 i0 := hz.2 24 i0 (show i0 < 2 * Z.n from (by omega))
          refine c_getr (a := Z.ad 24 i0) x L2 3 i0 14 hal0 rfl rfl (wk_in kf_X3_51) dX3_word_18 ?_
          refine lv_aload_n hx hb dX3_word_21 rfl (lv_at hl 0 rfl) ?_
          refine c_geti x L2 3 i0 15 111 hal0 rfl rfl (wk_in kf_X3_102) dX3_word_22 (fun v12 ev12 wv12 => ?_)
          refine m_top ((ez2_0).trans ev12.symm) ?_
          refine lv_iload_n hx hb dX3_word_25 rfl (lv_at hl 1 rfl) ?_
          refine lv_iload_n hx hb dX3_word_26 rfl (lv_at hl 2 rfl) ?_
          refine lv_iushr hx hb dX3_word_27 rfl ?_
          refine lv_topi (fun v13 ev13 => ?_)
          have rv13 : rg (-2147483648) (2147483647) v13 := rg_any v13
          refine lv_sipush (v := 255) hx hb dX3_word_28 (by decide) ?_
          refine lv_iand hx hb dX3_word_31 ?_
          refine lv_topi (fun v14 ev14 => ?_)
          have rv14 : rg (0) (255) v14 := rg_and ev14 8 255 (by decide) rfl
          refine c_st x L2 24 i0 768 al11 rfl rfl q10 rfl (rg_any v14) dX3_word_32 (fun g15 H15 k15 eg15 L15 => ?_)
          refine lv_aload_n hx hb dX3_word_33 rfl (lv_at hl 0 rfl) ?_
          refine lv_dup hx hb dX3_word_34 rfl ?_
          refine c_geti x L15 3 i0 15 111 hal0 rfl rfl (wk_in kf_X3_102) dX3_word_35 (fun v16 ev16 wv16 => ?_)
          refine m_top (((mm_up ez2_0 eg15 rfl)).trans ev16.symm) ?_
          refine lv_iconst (v := 1) hx hb dX3_word_38 (by decide) ?_
          refine lv_iadd hx hb dX3_word_39 ?_
          refine lv_topi (fun v17 ev17 => ?_)
          have rv17 : rg (1) (200) v17 := (rg_add ev17 q10 kc_1 rfl).1
          refine c_puti x L15 3 i0 15 111 hal0 rfl rfl ⟨rfl, by decide +kernel⟩ (wk_in kf_X3_102) dX3_word_40 (crj_111 (rg_w rv17 rfl)) (fun g18 H18 k18 eg18 L18 => ?_)
          obtain ⟨v19, ev19, fv19⟩ := inc_ex a3_2_1 (-8) (-8 : Int32) (by decide)
          have rv19 : rg (-8) (16) v19 := (rg_add ev19 q6 kc_m8 rfl).1
          have tv19 := (rg_add ev19 q6 kc_m8 rfl).2
          refine lv_iinc (v := v19) (lv' := [(2, .int v19), (0, .ref (Z.ad 3 i0)), (1, .int p1)]) hx hb dX3_word_43 hl (k := 2) rfl fv19 (by decide) rfl (fun ls hl => ?_)
          refine lv_goto (tgt := 3) hx hb dX3_word_46 (by decide) ?_
          exact ih2 _ (ms_dn tv19 kc_m8 q6 rfl rfl) v19 g18 _ _ ls (mFr.upE (mFr.upE hF2 eg15 rfl) eg18 rfl) L18 (rg_w rv19 rfl) (rg_eqv (mm_st eg18) (rg_w rv17 rfl)) (lv_sub hl [1, 2, 0] rfl) rfl
  exact j3_2 _ (24 : Int32) g _ _ ls mFr.rf L (rg_w kc_24 rfl) (rg_w (clj_111 (L.2.2 111 i0)) rfl) (lv_sub hl [1, 2, 0] rfl) rfl
theorem c_kword (l : Launch) {G : cG} {Z : cZ} (X : Int) (g : mSt) (i0 : Nat) (p1 : Int32) (hX : 0 ≤ X ∧ X ≤ 2000000000) (hi0 : i0 < 2 * Z.n) : Met l yX3_word (wk (Cond.code yX3_word cX3_word 3 none)) rm_kword (va_Pc [.ref (Z.ad 3 i0), .int p1] (cPre G Z X g)) (cQv G Z X (fun g1 => mFr [111, 768] g g1 ∧ True)) 0 0 (cAd Z) := by
  refine Met.ofW (cc := cX3_word) (maxL := 3) (ret := none) (by decide) rfl ?_
  intro p e s m args below meth c s₁ B hml hv
  obtain ⟨rfl, hv⟩ := hv
  have hr := B.returns
  have hlocks := B.notSynchronized
  obtain ⟨x, L⟩ := c_start B rfl (fun w h => wk_in h) hv
  have hl := lv_entry ([.ref (Z.ad 3 i0), .int p1]) (n := 3) (Nat.le_of_ble_eq_true rfl)
  rw [lg_entry_eq]
  generalize (lg_sl ([.ref (Z.ad 3 i0), .int p1]) ++ List.replicate (3 - (lg_sl ([.ref (Z.ad 3 i0), .int p1])).length) Slot.unset).toArray = ls at hl ⊢
  exact w_kword x hml L hX i0 p1 hi0 hl (fun pc' ls' g1 H1 locs1 hdg L hp => c_vret x L hr hlocks (Int.le_refl _) hp hdg)

def rm_krow_39 : Room := { frames := 1, cells := 0, slots := 0, locals := 48 }
theorem hd_krow_39 : yX3_row.cls = cRn 3 ∧ yX3_row.cls ≠ "java/lang/invoke/MethodHandle" ∧ yX3_row.cls ≠ "java/lang/invoke/VarHandle" ∧ (parseMethodDescriptor yX3_row.desc).map (fun d => d.parameters.length) = some 3 := by decide +kernel
set_option maxHeartbeats 4000000 in
set_option maxRecDepth 100000 in
theorem w_krow_39 {p : Program} {l : Launch} {e : Env} {s : State} {m : MethodId} {args : Array Value} {below : List Frame} {meth : Method} {c : Code} {H : Heap} {locs : List Loc} {Q : State → Prop} {ls : Array Slot} {G : cG} {Z : cZ} {A : Nat → Prop} {g : mSt} {H0 : Heap} {X : Int} (x : cX p c cX3_row s args (wk (Cond.code yX3_row cX3_row 4 none)) m G Z A RX3 H0) (hml : c.maxLocals = 4) (L : cL G Z A H0 X g H locs) (hX : 0 ≤ X ∧ X ≤ 2000000000) (i0 : Nat) (q1 : Nat) (p2 : Int32) (p3 : Int32) (hi0 : i0 < 2 * Z.n) (hq1 : Z.al 39 q1) (rp2 : rg (0) (10000) p2) (rp3 : rg (0) (60) p3) (hl : lv_has ls 4 [(0, .ref (Z.ad 3 i0)), (1, .ref (Z.ad 39 q1)), (2, .int p2), (3, .int p3)]) (hQ : ∀ (pc' : Nat) (ls' : Array Slot) (g1 : mSt) (H1 : Heap) (locs1 : List Loc), decode cX3_row pc' = .ok (.return_, 1) → cL G Z A H0 X g1 H1 locs1 → (mFr [111, 768] g g1 ∧ True) → W p l e rm_krow_39 s m args below meth c H1 locs1 0 0 Q (F0 m pc' ls' [])) : W p l e rm_krow_39 s m args below meth c H locs 0 0 Q (F0 m 0 ls []) := by
  have hx := x.1
  have hb := x.2.1
  have hz := x.2.2.2.2.2.2.2.1
  have hzn := hz.1
  have hal0 : Z.al 3 i0 := hz.2 3 i0 (show i0 < 2 * Z.n from hi0)
  have up2 : (0 : Int) ≤ p2.toInt ∧ p2.toInt ≤ 10000 := rp2
  have up3 : (0 : Int) ≤ p3.toInt ∧ p3.toInt ≤ 60 := rp3
  refine lv_iload_n hx hb dX3_row_0 rfl (lv_at hl 2 rfl) ?_
  refine lv_if_lt (tgt := 28) hx hb dX3_row_1 (by decide) (fun c1_1 => ?_) (fun c1_1 => ?_)
  · skip
    have ic1_1 := Int32.lt_iff_toInt_lt.mp c1_1
    exact absurd ((rg_lt c1_1 rp2 kc_0).1 : rg (0) (-1) p2) (fun q => rg_dead q rfl)
  · skip
    have ic1_1 := Int32.le_iff_toInt_le.mp (rg_nlt c1_1)
    refine lv_iload_n hx hb dX3_row_4 rfl (lv_at hl 3 rfl) ?_
    refine lv_if_lt (tgt := 28) hx hb dX3_row_5 (by decide) (fun c5_2 => ?_) (fun c5_2 => ?_)
    · skip
      have ic5_2 := Int32.lt_iff_toInt_lt.mp c5_2
      exact absurd ((rg_lt c5_2 rp3 kc_0).1 : rg (0) (-1) p3) (fun q => rg_dead q rfl)
    · skip
      have ic5_2 := Int32.le_iff_toInt_le.mp (rg_nlt c5_2)
      refine lv_iload_n hx hb dX3_row_8 rfl (lv_at hl 2 rfl) ?_
      refine lv_iload_n hx hb dX3_row_9 rfl (lv_at hl 3 rfl) ?_
      refine lv_iadd hx hb dX3_row_10 ?_
      refine lv_topi (fun v3 ev3 => ?_)
      have rv3 : rg (0) (10060) v3 := (rg_add ev3 rp2 rp3 rfl).1
      have tv3 := (rg_add ev3 rp2 rp3 rfl).2
      have uv3 : (0 : Int) ≤ v3.toInt ∧ v3.toInt ≤ 10060 := rv3
      refine lv_aload_n hx hb dX3_row_11 rfl (lv_at hl 1 rfl) ?_
      refine c_len (n := 480) x L 39 q1 hq1 rfl (by decide) dX3_row_12 ?_
      refine lv_icmp_gt (tgt := 28) hx hb dX3_row_13 (by decide) (fun c13_4 => ?_) (fun c13_4 => ?_)
      · skip
        have ic13_4 := Int32.lt_iff_toInt_lt.mp c13_4
        have q5 : rg (481) (10060) v3 := (rg_lt c13_4 kc_480 rv3).2
        have uq5 : (481 : Int) ≤ v3.toInt ∧ v3.toInt ≤ 10060 := q5
        exact hQ _ _ _ _ _ dX3_row_28 L ⟨mFr.rf, trivial⟩
      · skip
        have ic13_4 := Int32.le_iff_toInt_le.mp (rg_nlt c13_4)
        have q6 : rg (0) (480) v3 := (rg_le (rg_nlt c13_4) rv3 kc_480).1
        have uq6 : (0 : Int) ≤ v3.toInt ∧ v3.toInt ≤ 480 := q6
        refine lv_aload_n hx hb dX3_row_16 rfl (lv_at hl 0 rfl) ?_
        refine c_geti x L 3 i0 15 111 hal0 rfl rfl (wk_in kf_X3_102) dX3_row_17 (fun v7 ev7 wv7 => ?_)
        have rv7 : rg (0) (200) v7 := clj_111 wv7
        have uv7 : (0 : Int) ≤ v7.toInt ∧ v7.toInt ≤ 200 := rv7
        have sv7 := congrArg Int32.toInt ev7
        refine lv_iload_n hx hb dX3_row_20 rfl (lv_at hl 3 rfl) ?_
        refine lv_iadd hx hb dX3_row_21 ?_
        refine lv_topi (fun v8 ev8 => ?_)
        have rv8 : rg (0) (260) v8 := (rg_add ev8 rv7 rp3 rfl).1
        have tv8 := (rg_add ev8 rv7 rp3 rfl).2
        have uv8 : (0 : Int) ≤ v8.toInt ∧ v8.toInt ≤ 260 := rv8
        refine lv_sipush (v := 200) hx hb dX3_row_22 (by decide) ?_
        refine lv_icmp_le (tgt := 29) hx hb dX3_row_25 (by decide) (fun c25_9 => ?_) (fun c25_9 => ?_)
        · skip
          have ic25_9 := Int32.le_iff_toInt_le.mp c25_9
          have q10 : rg (0) (200) v8 := (rg_le c25_9 rv8 kc_200).1
          have uq10 : (0 : Int) ≤ v8.toInt ∧ v8.toInt ≤ 200 := q10
          refine lv_aload_n hx hb dX3_row_29 rfl (lv_at hl 1 rfl) ?_
          refine lv_iload_n hx hb dX3_row_30 rfl (lv_at hl 2 rfl) ?_
          refine lv_aload_n hx hb dX3_row_31 rfl (lv_at hl 0 rfl) ?_
          have al11 : Z.al 24 i0 := hz.2 24 i0 (show i0 < 2 * Z.n from (by omega))
          refine c_getr (a := Z.ad 24 i0) x L 3 i0 14 hal0 rfl rfl (wk_in kf_X3_51) dX3_row_32 ?_
          refine lv_aload_n hx hb dX3_row_35 rfl (lv_at hl 0 rfl) ?_
          refine c_geti x L 3 i0 15 111 hal0 rfl rfl (wk_in kf_X3_102) dX3_row_36 (fun v12 ev12 wv12 => ?_)
          refine m_top ((ev7).trans ev12.symm) ?_
          refine lv_iload_n hx hb dX3_row_39 rfl (lv_at hl 3 rfl) ?_
          refine c_copy (rest := []) x (hml.trans hl.1.symm) L 39 q1 24 i0 1248 768 hq1 al11 rfl rfl rfl rfl ⟨rfl, rfl⟩ kl_X3_105 kw_cp (Int.le_trans (by decide) rp2.1) (Int.le_trans (by decide) rv7.1) (Int.le_trans (by decide) rp3.1) (by show p2.toInt + p3.toInt ≤ 480; omega) (by show v7.toInt + p3.toInt ≤ 240; omega) (Nat.le_of_ble_eq_true rfl) (Nat.le_of_ble_eq_true rfl) dX3_row_40 (fun g13 H13 k13 ec13 L13 => ?_)
          refine lv_aload_n hx hb dX3_row_43 rfl (lv_at hl 0 rfl) ?_
          refine lv_dup hx hb dX3_row_44 rfl ?_
          refine c_geti x L13 3 i0 15 111 hal0 rfl rfl (wk_in kf_X3_102) dX3_row_45 (fun v14 ev14 wv14 => ?_)
          refine m_top (((mm_fr ev7 (cCpy_fr ec13) rfl)).trans ev14.symm) ?_
          refine lv_iload_n hx hb dX3_row_48 rfl (lv_at hl 3 rfl) ?_
          refine lv_iadd hx hb dX3_row_49 ?_
          refine m_top ev8 ?_
          refine c_puti x L13 3 i0 15 111 hal0 rfl rfl ⟨rfl, by decide +kernel⟩ (wk_in kf_X3_102) dX3_row_50 (crj_111 (rg_w q10 rfl)) (fun g15 H15 k15 eg15 L15 => ?_)
          exact hQ _ _ _ _ _ dX3_row_53 L15 ⟨(mFr.upE (mFr.tr mFr.rf (cCpy_fr ec13) rfl) eg15 rfl), trivial⟩
        · skip
          have ic25_9 := Int32.lt_iff_toInt_lt.mp (rg_nle c25_9)
          have q16 : rg (201) (260) v8 := (rg_lt (rg_nle c25_9) kc_200 rv8).2
          have uq16 : (201 : Int) ≤ v8.toInt ∧ v8.toInt ≤ 260 := q16
          exact hQ _ _ _ _ _ dX3_row_28 L ⟨mFr.rf, trivial⟩
theorem c_krow_39 (l : Launch) {G : cG} {Z : cZ} (X : Int) (g : mSt) (i0 : Nat) (q1 : Nat) (p2 : Int32) (p3 : Int32) (hX : 0 ≤ X ∧ X ≤ 2000000000) (hi0 : i0 < 2 * Z.n) (hq1 : Z.al 39 q1) (rp2 : rg (0) (10000) p2) (rp3 : rg (0) (60) p3) : Met l yX3_row (wk (Cond.code yX3_row cX3_row 4 none)) rm_krow_39 (va_Pc [.ref (Z.ad 3 i0), .ref (Z.ad 39 q1), .int p2, .int p3] (cPre G Z X g)) (cQv G Z X (fun g1 => mFr [111, 768] g g1 ∧ True)) 0 0 (cAd Z) := by
  refine Met.ofW (cc := cX3_row) (maxL := 4) (ret := none) (by decide) rfl ?_
  intro p e s m args below meth c s₁ B hml hv
  obtain ⟨rfl, hv⟩ := hv
  have hr := B.returns
  have hlocks := B.notSynchronized
  obtain ⟨x, L⟩ := c_start B rfl (fun w h => wk_in h) hv
  have hl := lv_entry ([.ref (Z.ad 3 i0), .ref (Z.ad 39 q1), .int p2, .int p3]) (n := 4) (Nat.le_of_ble_eq_true rfl)
  rw [lg_entry_eq]
  generalize (lg_sl ([.ref (Z.ad 3 i0), .ref (Z.ad 39 q1), .int p2, .int p3]) ++ List.replicate (4 - (lg_sl ([.ref (Z.ad 3 i0), .ref (Z.ad 39 q1), .int p2, .int p3])).length) Slot.unset).toArray = ls at hl ⊢
  exact w_krow_39 x hml L hX i0 q1 p2 p3 hi0 hq1 rp2 rp3 hl (fun pc' ls' g1 H1 locs1 hdg L hp => c_vret x L hr hlocks (Int.le_refl _) hp hdg)

def rm_ksendUnit : Room := { frames := 3, cells := 0, slots := 0, locals := 72 }
theorem hd_ksendUnit : yX3_sendUnit.cls = cRn 3 ∧ yX3_sendUnit.cls ≠ "java/lang/invoke/MethodHandle" ∧ yX3_sendUnit.cls ≠ "java/lang/invoke/VarHandle" ∧ (parseMethodDescriptor yX3_sendUnit.desc).map (fun d => d.parameters.length) = some 2 := by decide +kernel
set_option maxHeartbeats 4000000 in
set_option maxRecDepth 100000 in
theorem w_ksendUnit {p : Program} {l : Launch} {e : Env} {s : State} {m : MethodId} {args : Array Value} {below : List Frame} {meth : Method} {c : Code} {H : Heap} {locs : List Loc} {Q : State → Prop} {ls : Array Slot} {G : cG} {Z : cZ} {A : Nat → Prop} {g : mSt} {H0 : Heap} {X : Int} (x : cX p c cX3_sendUnit s args (wk (Cond.code yX3_sendUnit cX3_sendUnit 5 none)) m G Z A RX3 H0) (hml : c.maxLocals = 5) (L : cL G Z A H0 X g H locs) (hX : 0 ≤ X ∧ X ≤ 2000000000) (i0 : Nat) (p1 : Int32) (p2 : Int32) (hi0 : i0 < 2 * Z.n) (hl : lv_has ls 5 [(0, .ref (Z.ad 3 i0)), (1, .int p1), (2, .int p2)]) (hQ : ∀ (pc' : Nat) (ls' : Array Slot) (g1 : mSt) (H1 : Heap) (locs1 : List Loc), decode cX3_sendUnit pc' = .ok (.return_, 1) → cL G Z A H0 X g1 H1 locs1 → (mFr [67, 108, 111, 544, 576, 768] g g1 ∧ True) → W p l e rm_ksendUnit s m args below meth c H1 locs1 0 0 Q (F0 m pc' ls' [])) : W p l e rm_ksendUnit s m args below meth c H locs 0 0 Q (F0 m 0 ls []) := by
  have hx := x.1
  have hb := x.2.1
  have hz := x.2.2.2.2.2.2.2.1
  have hzn := hz.1
  have hal0 : Z.al 3 i0 := hz.2 3 i0 (show i0 < 2 * Z.n from hi0)
  have up1 : (-2147483648 : Int) ≤ p1.toInt ∧ p1.toInt ≤ 2147483647 := (rg_any p1)
  have up2 : (-2147483648 : Int) ≤ p2.toInt ∧ p2.toInt ≤ 2147483647 := (rg_any p2)
  refine lv_aload_n hx hb dX3_sendUnit_0 rfl (lv_at hl 0 rfl) ?_
  refine lv_iload_n hx hb dX3_sendUnit_1 rfl (lv_at hl 1 rfl) ?_
  refine lv_bipush (v := 24) hx hb dX3_sendUnit_2 (by decide) ?_
  refine lv_ishl hx hb dX3_sendUnit_4 ?_
  refine lv_topi (fun v1 ev1 => ?_)
  have rv1 : rg (-2147483648) (2147483647) v1 := rg_any v1
  have uv1 : (-2147483648 : Int) ≤ v1.toInt ∧ v1.toInt ≤ 2147483647 := rv1
  refine lv_iload_n hx hb dX3_sendUnit_5 rfl (lv_at hl 2 rfl) ?_
  refine lv_ior hx hb dX3_sendUnit_6 ?_
  refine lv_topi (fun v2 ev2 => ?_)
  have rv2 : rg (-2147483648) (2147483647) v2 := rg_any v2
  have uv2 : (-2147483648 : Int) ≤ v2.toInt ∧ v2.toInt ≤ 2147483647 := rv2
  refine c_cv (As := [.int v2]) (rest := []) x hml L 3 i0 hal0 rfl (c_kword l X g i0 v2 hX (show i0 < 2 * Z.n from (by omega))) (wk_V kd_X3_word kl_X3_111 ki_X3_word ks_X3_X3_word kn_X3) rfl ⟨rfl, rfl⟩ hd_kword ⟨Nat.le_of_ble_eq_true rfl, Nat.le_of_ble_eq_true rfl⟩ rfl hl.1 rfl (lv_room (Nat.le_of_ble_eq_true rfl)) dX3_sendUnit_7 (fun  g3 H3 k3 hp3 L3 => ?_)
  refine lv_aload_n hx hb dX3_sendUnit_10 rfl (lv_at hl 0 rfl) ?_
  have al4 : Z.al 24 i0 := hz.2 24 i0 (show i0 < 2 * Z.n from (by omega))
  refine c_getr (a := Z.ad 24 i0) x L3 3 i0 14 hal0 rfl rfl (wk_in kf_X3_51) dX3_sendUnit_11 ?_
  refine lv_aload_n hx hb dX3_sendUnit_14 rfl (lv_at hl 0 rfl) ?_
  refine c_geti x L3 3 i0 15 111 hal0 rfl rfl (wk_in kf_X3_102) dX3_sendUnit_15 (fun v5 ev5 wv5 => ?_)
  have rv5 : rg (0) (200) v5 := clj_111 wv5
  have uv5 : (0 : Int) ≤ v5.toInt ∧ v5.toInt ≤ 200 := rv5
  refine c_siN (As := [.ref (Z.ad 24 i0), .int v5]) (rest := []) x hml L3 (c_kcloseFrame_24 l X g3 i0 v5 hX al4) (goodC (wk_all kd_X11_closeFrame)) (List.mem_of_getElem? (i := 8) rfl) (wk_in kt_X11_closeFrame) (wk_in kn_X11) rfl ⟨rfl, rfl⟩ hd_kcloseFrame_24 ⟨Nat.le_of_ble_eq_true rfl, Nat.le_of_ble_eq_true rfl⟩ rfl hl.1 rfl (lv_room (Nat.le_of_ble_eq_true rfl)) dX3_sendUnit_18 (fun v7 g6 H6 k6 hp6 L6 => ?_)
  have rv7 : rg (0) (5) v7 := hp6.2.1
  have uv7 : (0 : Int) ≤ v7.toInt ∧ v7.toInt ≤ 5 := rv7
  refine lv_istore_n (lv' := [(3, .int v7), (0, .ref (Z.ad 3 i0)), (1, .int p1), (2, .int p2)]) hx hb dX3_sendUnit_21 rfl hl (by decide) rfl (fun ls hl => ?_)
  refine lv_aload_n hx hb dX3_sendUnit_22 rfl (lv_at hl 1 rfl) ?_
  refine lv_iconst (v := 0) hx hb dX3_sendUnit_23 (by decide) ?_
  refine c_puti x L6 3 i0 15 111 hal0 rfl rfl ⟨rfl, by decide +kernel⟩ (wk_in kf_X3_102) dX3_sendUnit_24 (crj_111 (rg_w kc_0 rfl)) (fun g8 H8 k8 eg8 L8 => ?_)
  refine lv_aload_n hx hb dX3_sendUnit_27 rfl (lv_at hl 1 rfl) ?_
  have al9 : Z.al 2 (2 * i0) := hz.2 2 (2 * i0) (show (2 * i0) < 4 * Z.n from (by omega))
  refine c_getr (a := Z.ad 2 (2 * i0)) x L8 3 i0 0 hal0 rfl rfl (wk_in kf_X3_12) dX3_sendUnit_28 ?_
  refine c_geti x L8 2 (2 * i0) 3 67 al9 rfl rfl (wk_in kf_X3_64) dX3_sendUnit_31 (fun v10 ev10 wv10 => ?_)
  have rv10 : rg (0) (40) v10 := clj_67 wv10
  have uv10 : (0 : Int) ≤ v10.toInt ∧ v10.toInt ≤ 40 := rv10
  refine lv_iload_n hx hb dX3_sendUnit_34 rfl (lv_at hl 0 rfl) ?_
  refine lv_iadd hx hb dX3_sendUnit_35 ?_
  refine lv_topi (fun v11 ev11 => ?_)
  have rv11 : rg (0) (45) v11 := (rg_add ev11 rv10 rv7 rfl).1
  have tv11 := (rg_add ev11 rv10 rv7 rfl).2
  have uv11 : (0 : Int) ≤ v11.toInt ∧ v11.toInt ≤ 45 := rv11
  refine lv_bipush (v := 40) hx hb dX3_sendUnit_36 (by decide) ?_
  refine lv_icmp_le (tgt := 52) hx hb dX3_sendUnit_38 (by decide) (fun c38_12 => ?_) (fun c38_12 => ?_)
  · skip
    have ic38_12 := Int32.le_iff_toInt_le.mp c38_12
    have q13 : rg (0) (40) v11 := (rg_le c38_12 rv11 kc_40).1
    have uq13 : (0 : Int) ≤ v11.toInt ∧ v11.toInt ≤ 40 := q13
    refine lv_iconst (v := 0) hx hb dX3_sendUnit_52 (by decide) ?_
    refine lv_istore (lv' := [(4, .int (0 : Int32)), (3, .int v7), (0, .ref (Z.ad 3 i0)), (1, .int p1), (2, .int p2)]) hx hb dX3_sendUnit_53 hl (by decide) rfl (fun ls hl => ?_)
    have j55_15 : ∀ (n : Nat) (a55_4_14 : Int32) (g15 : mSt) (H15 : Heap) (k15 : List Loc) (ls : Array Slot), mFr [67, 544, 576] g8 g15 → cL G Z A H0 X g15 H15 k15 → rg (0) (5) a55_4_14 → lv_has ls 5 [(0, .ref (Z.ad 3 i0)), (3, .int v7), (4, .int a55_4_14)] → ((5 : Int) - a55_4_14.toInt).toNat = n → W p l e rm_ksendUnit s m args below meth c H15 k15 0 0 Q (F0 m 55 ls []) := by
      intro n
      induction n using Nat.strongRecOn with
      | _ n ih15 =>
        intro a55_4_14 g15 H15 k15 ls hF15 L15 ra55_4_14 hl hn15
        subst hn15
        have ua55_4_14 : (0 : Int) ≤ a55_4_14.toInt ∧ a55_4_14.toInt ≤ 5 := ra55_4_14
        refine lv_iload hx hb dX3_sendUnit_55 (lv_at hl 2 rfl) ?_
        refine lv_iload_n hx hb dX3_sendUnit_57 rfl (lv_at hl 1 rfl) ?_
        refine lv_icmp_ge (tgt := 100) hx hb dX3_sendUnit_58 (by decide) (fun c58_16 => ?_) (fun c58_16 => ?_)
        · skip
          have ic58_16 := Int32.le_iff_toInt_le.mp c58_16
          exact hQ _ _ _ _ _ dX3_sendUnit_100 L15 ⟨(mFr.tr (mFr.upE (mFr.tr (mFr.tr mFr.rf hp3.1 rfl) hp6.1 rfl) eg8 rfl) hF15 rfl), trivial⟩
        · skip
          have ic58_16 := Int32.lt_iff_toInt_lt.mp (rg_nle c58_16)
          have q17 : rg (0) (4) a55_4_14 := (rg_lt (rg_nle c58_16) ra55_4_14 rv7).1
          have uq17 : (0 : Int) ≤ a55_4_14.toInt ∧ a55_4_14.toInt ≤ 4 := q17
          have q18 : rg (1) (5) v7 := (rg_lt (rg_nle c58_16) ra55_4_14 rv7).2
          have uq18 : (1 : Int) ≤ v7.toInt ∧ v7.toInt ≤ 5 := q18
          refine lv_aload_n hx hb dX3_sendUnit_61 rfl (lv_at hl 0 rfl) ?_
          refine c_getr (a := Z.ad 2 (2 * i0)) x L15 3 i0 0 hal0 rfl rfl (wk_in kf_X3_12) dX3_sendUnit_62 ?_
          refine lv_bipush (v := 80) hx hb dX3_sendUnit_65 (by decide) ?_
          refine lv_iload hx hb dX3_sendUnit_67 (lv_at hl 2 rfl) ?_
          refine lv_iload_n hx hb dX3_sendUnit_69 rfl (lv_at hl 1 rfl) ?_
          refine lv_iconst (v := 1) hx hb dX3_sendUnit_70 (by decide) ?_
          refine lv_isub hx hb dX3_sendUnit_71 ?_
          refine lv_topi (fun v19 ev19 => ?_)
          have rv19 : rg (0) (4) v19 := (rg_sub ev19 q18 kc_1 rfl).1
          have tv19 := (rg_sub ev19 q18 kc_1 rfl).2
          have y20 : (1 : Int32).toInt = 1 := by decide
          have uv19 : (0 : Int) ≤ v19.toInt ∧ v19.toInt ≤ 4 := rv19
          refine lv_icmp_ne (tgt := 79) hx hb dX3_sendUnit_72 (by decide) (fun c72_21 => ?_) (fun c72_21 => ?_)
          · skip
            have ic72_21 : a55_4_14.toInt ≠ v19.toInt := fun z => c72_21 (Int32.toInt_inj.mp z)
            refine lv_iconst (v := 0) hx hb dX3_sendUnit_79 (by decide) ?_
            refine lv_ior hx hb dX3_sendUnit_80 ?_
            refine lv_topi (fun v22 ev22 => ?_)
            have rv22 : rg (-2147483648) (2147483647) v22 := rg_any v22
            have uv22 : (-2147483648 : Int) ≤ v22.toInt ∧ v22.toInt ≤ 2147483647 := rv22
            refine lv_aload_n hx hb dX3_sendUnit_81 rfl (lv_at hl 0 rfl) ?_
            refine c_getr (a := Z.ad 24 i0) x L15 3 i0 14 hal0 rfl rfl (wk_in kf_X3_51) dX3_sendUnit_82 ?_
            refine lv_iload hx hb dX3_sendUnit_85 (lv_at hl 2 rfl) ?_
            refine lv_bipush (v := 48) hx hb dX3_sendUnit_87 (by decide) ?_
            refine lv_imul hx hb dX3_sendUnit_89 ?_
            refine lv_topi (fun v23 ev23 => ?_)
            have rv23 : rg (0) (192) v23 := (rg_mul ev23 q17 kc_48 rfl).1
            have tv23 := (rg_mul ev23 q17 kc_48 rfl).2
            have y24 : (48 : Int32).toInt = 48 := by decide
            have uv23 : (0 : Int) ≤ v23.toInt ∧ v23.toInt ≤ 192 := rv23
            refine c_ci (As := [.int v22, .ref (Z.ad 24 i0), .int v23]) (rest := []) x hml L15 2 (2 * i0) al9 rfl (c_kqadd_24 l X g15 (2 * i0) v22 i0 v23 hX (show (2 * i0) < 4 * Z.n from (by omega)) al4 (rg_w rv23 rfl)) (wk_V kd_X2_add kl_X3_95 ki_X2_add ks_X2_X2_add kn_X2) rfl ⟨rfl, rfl⟩ hd_kqadd_24 ⟨Nat.le_of_ble_eq_true rfl, Nat.le_of_ble_eq_true rfl⟩ rfl hl.1 rfl (lv_room (Nat.le_of_ble_eq_true rfl)) dX3_sendUnit_90 (fun v26 g25 H25 k25 hp25 L25 => ?_)
            have rv26 : rg (0) (1) v26 := hp25.2.1
            have uv26 : (0 : Int) ≤ v26.toInt ∧ v26.toInt ≤ 1 := rv26
            refine lv_pop hx hb dX3_sendUnit_93 rfl ?_
            obtain ⟨v27, ev27, fv27⟩ := inc_ex a55_4_14 (1) (1 : Int32) (by decide)
            have rv27 : rg (1) (5) v27 := (rg_add ev27 q17 kc_1 rfl).1
            have tv27 := (rg_add ev27 q17 kc_1 rfl).2
            have yv27 : (1 : Int32).toInt = 1 := by decide
            refine lv_iinc (v := v27) (lv' := [(4, .int v27), (0, .ref (Z.ad 3 i0)), (3, .int v7)]) hx hb dX3_sendUnit_94 hl (k := 2) rfl fv27 (by decide) rfl (fun ls hl => ?_)
            refine lv_goto (tgt := 55) hx hb dX3_sendUnit_97 (by decide) ?_
            exact ih15 _ (ms_up tv27 kc_1 q17 rfl rfl) v27 g25 _ _ ls (mFr.tr hF15 hp25.1 rfl) L25 (rg_w rv27 rfl) (lv_sub hl [1, 2, 0] rfl) rfl
          · skip
            have ic72_21 := congrArg Int32.toInt c72_21
            refine lv_iconst (v := 2) hx hb dX3_sendUnit_75 (by decide) ?_
            refine lv_goto (tgt := 80) hx hb dX3_sendUnit_76 (by decide) ?_
            refine lv_ior hx hb dX3_sendUnit_80 ?_
            refine lv_topi (fun v28 ev28 => ?_)
            have rv28 : rg (-2147483648) (2147483647) v28 := rg_any v28
            have uv28 : (-2147483648 : Int) ≤ v28.toInt ∧ v28.toInt ≤ 2147483647 := rv28
            refine lv_aload_n hx hb dX3_sendUnit_81 rfl (lv_at hl 0 rfl) ?_
            refine c_getr (a := Z.ad 24 i0) x L15 3 i0 14 hal0 rfl rfl (wk_in kf_X3_51) dX3_sendUnit_82 ?_
            refine lv_iload hx hb dX3_sendUnit_85 (lv_at hl 2 rfl) ?_
            refine lv_bipush (v := 48) hx hb dX3_sendUnit_87 (by decide) ?_
            refine lv_imul hx hb dX3_sendUnit_89 ?_
            refine lv_topi (fun v29 ev29 => ?_)
            have rv29 : rg (0) (192) v29 := (rg_mul ev29 q17 kc_48 rfl).1
            have tv29 := (rg_mul ev29 q17 kc_48 rfl).2
            have y30 : (48 : Int32).toInt = 48 := by decide
            have uv29 : (0 : Int) ≤ v29.toInt ∧ v29.toInt ≤ 192 := rv29
            refine c_ci (As := [.int v28, .ref (Z.ad 24 i0), .int v29]) (rest := []) x hml L15 2 (2 * i0) al9 rfl (c_kqadd_24 l X g15 (2 * i0) v28 i0 v29 hX (show (2 * i0) < 4 * Z.n from (by omega)) al4 (rg_w rv29 rfl)) (wk_V kd_X2_add kl_X3_95 ki_X2_add ks_X2_X2_add kn_X2) rfl ⟨rfl, rfl⟩ hd_kqadd_24 ⟨Nat.le_of_ble_eq_true rfl, Nat.le_of_ble_eq_true rfl⟩ rfl hl.1 rfl (lv_room (Nat.le_of_ble_eq_true rfl)) dX3_sendUnit_90 (fun v32 g31 H31 k31 hp31 L31 => ?_)
            have rv32 : rg (0) (1) v32 := hp31.2.1
            have uv32 : (0 : Int) ≤ v32.toInt ∧ v32.toInt ≤ 1 := rv32
            refine lv_pop hx hb dX3_sendUnit_93 rfl ?_
            obtain ⟨v33, ev33, fv33⟩ := inc_ex a55_4_14 (1) (1 : Int32) (by decide)
            have rv33 : rg (1) (5) v33 := (rg_add ev33 q17 kc_1 rfl).1
            have tv33 := (rg_add ev33 q17 kc_1 rfl).2
            have yv33 : (1 : Int32).toInt = 1 := by decide
            refine lv_iinc (v := v33) (lv' := [(4, .int v33), (0, .ref (Z.ad 3 i0)), (3, .int v7)]) hx hb dX3_sendUnit_94 hl (k := 2) rfl fv33 (by decide) rfl (fun ls hl => ?_)
            refine lv_goto (tgt := 55) hx hb dX3_sendUnit_97 (by decide) ?_
            exact ih15 _ (ms_up tv33 kc_1 q17 rfl rfl) v33 g31 _ _ ls (mFr.tr hF15 hp31.1 rfl) L31 (rg_w rv33 rfl) (lv_sub hl [1, 2, 0] rfl) rfl
    have y34 : (0 : Int32).toInt = 0 := by decide
    exact j55_15 _ (0 : Int32) g8 _ _ ls mFr.rf L8 (rg_w kc_0 rfl) (lv_sub hl [2, 1, 0] rfl) rfl
  · skip
    have ic38_12 := Int32.lt_iff_toInt_lt.mp (rg_nle c38_12)
    have q35 : rg (41) (45) v11 := (rg_lt (rg_nle c38_12) kc_40 rv11).2
    have uq35 : (41 : Int) ≤ v11.toInt ∧ v11.toInt ≤ 45 := q35
    refine lv_aload_n hx hb dX3_sendUnit_41 rfl (lv_at hl 1 rfl) ?_
    refine lv_dup hx hb dX3_sendUnit_42 rfl ?_
    refine c_geti x L8 3 i0 12 108 hal0 rfl rfl (wk_in kf_X3_99) dX3_sendUnit_43 (fun v36 ev36 wv36 => ?_)
    have rv36 : rg (-2147483648) (2147483647) v36 := rg_any v36
    have uv36 : (-2147483648 : Int) ≤ v36.toInt ∧ v36.toInt ≤ 2147483647 := rv36
    refine lv_iload_n hx hb dX3_sendUnit_46 rfl (lv_at hl 0 rfl) ?_
    refine lv_iadd hx hb dX3_sendUnit_47 ?_
    refine lv_topi (fun v37 ev37 => ?_)
    have rv37 : rg (-2147483648) (2147483647) v37 := rg_any v37
    have uv37 : (-2147483648 : Int) ≤ v37.toInt ∧ v37.toInt ≤ 2147483647 := rv37
    refine c_puti x L8 3 i0 12 108 hal0 rfl rfl ⟨rfl, by decide +kernel⟩ (wk_in kf_X3_99) dX3_sendUnit_48 (rg_any v37) (fun g38 H38 k38 eg38 L38 => ?_)
    exact hQ _ _ _ _ _ dX3_sendUnit_51 L38 ⟨(mFr.upE (mFr.upE (mFr.tr (mFr.tr mFr.rf hp3.1 rfl) hp6.1 rfl) eg8 rfl) eg38 rfl), trivial⟩
theorem c_ksendUnit (l : Launch) {G : cG} {Z : cZ} (X : Int) (g : mSt) (i0 : Nat) (p1 : Int32) (p2 : Int32) (hX : 0 ≤ X ∧ X ≤ 2000000000) (hi0 : i0 < 2 * Z.n) : Met l yX3_sendUnit (wk (Cond.code yX3_sendUnit cX3_sendUnit 5 none)) rm_ksendUnit (va_Pc [.ref (Z.ad 3 i0), .int p1, .int p2] (cPre G Z X g)) (cQv G Z X (fun g1 => mFr [67, 108, 111, 544, 576, 768] g g1 ∧ True)) 0 0 (cAd Z) := by
  refine Met.ofW (cc := cX3_sendUnit) (maxL := 5) (ret := none) (by decide) rfl ?_
  intro p e s m args below meth c s₁ B hml hv
  obtain ⟨rfl, hv⟩ := hv
  have hr := B.returns
  have hlocks := B.notSynchronized
  obtain ⟨x, L⟩ := c_start B rfl (fun w h => wk_in h) hv
  have hl := lv_entry ([.ref (Z.ad 3 i0), .int p1, .int p2]) (n := 5) (Nat.le_of_ble_eq_true rfl)
  rw [lg_entry_eq]
  generalize (lg_sl ([.ref (Z.ad 3 i0), .int p1, .int p2]) ++ List.replicate (5 - (lg_sl ([.ref (Z.ad 3 i0), .int p1, .int p2])).length) Slot.unset).toArray = ls at hl ⊢
  exact w_ksendUnit x hml L hX i0 p1 p2 hi0 hl (fun pc' ls' g1 H1 locs1 hdg L hp => c_vret x L hr hlocks (Int.le_refl _) hp hdg)

def rm_kaddData_25 : Room := { frames := 2, cells := 0, slots := 0, locals := 72 }
theorem hd_kaddData_25 : yX3_addData.cls = cRn 3 ∧ yX3_addData.cls ≠ "java/lang/invoke/MethodHandle" ∧ yX3_addData.cls ≠ "java/lang/invoke/VarHandle" ∧ (parseMethodDescriptor yX3_addData.desc).map (fun d => d.parameters.length) = some 3 := by decide +kernel
set_option maxHeartbeats 4000000 in
set_option maxRecDepth 100000 in
theorem w_kaddData_25 {p : Program} {l : Launch} {e : Env} {s : State} {m : MethodId} {args : Array Value} {below : List Frame} {meth : Method} {c : Code} {H : Heap} {locs : List Loc} {Q : State → Prop} {ls : Array Slot} {G : cG} {Z : cZ} {A : Nat → Prop} {g : mSt} {H0 : Heap} {X : Int} (x : cX p c cX3_addData s args (wk (Cond.code yX3_addData cX3_addData 4 none)) m G Z A RX3 H0) (hml : c.maxLocals = 4) (L : cL G Z A H0 X g H locs) (hX : 0 ≤ X ∧ X ≤ 2000000000) (i0 : Nat) (p1 : Int32) (q2 : Nat) (p3 : Int32) (hi0 : i0 < 2 * Z.n) (hq2 : Z.al 25 q2) (rp3 : rg (0) (10000) p3) (hl : lv_has ls 4 [(0, .ref (Z.ad 3 i0)), (1, .int p1), (2, .ref (Z.ad 25 q2)), (3, .int p3)]) (hQ : ∀ (pc' : Nat) (ls' : Array Slot) (g1 : mSt) (H1 : Heap) (locs1 : List Loc), decode cX3_addData pc' = .ok (.return_, 1) → cL G Z A H0 X g1 H1 locs1 → (mFr [67, 108, 544, 576] g g1 ∧ True) → W p l e rm_kaddData_25 s m args below meth c H1 locs1 0 0 Q (F0 m pc' ls' [])) : W p l e rm_kaddData_25 s m args below meth c H locs 0 0 Q (F0 m 0 ls []) := by
  have hx := x.1
  have hb := x.2.1
  have hz := x.2.2.2.2.2.2.2.1
  have hzn := hz.1
  have hal0 : Z.al 3 i0 := hz.2 3 i0 (show i0 < 2 * Z.n from hi0)
  refine lv_aload_n hx hb dX3_addData_0 rfl (lv_at hl 0 rfl) ?_
  have al1 : Z.al 2 (2 * i0 + 1) := hz.2 2 (2 * i0 + 1) (show (2 * i0 + 1) < 4 * Z.n from (by omega))
  refine c_getr (a := Z.ad 2 (2 * i0 + 1)) x L 3 i0 1 hal0 rfl rfl (wk_in kf_X3_18) dX3_addData_1 ?_
  refine lv_iload_n hx hb dX3_addData_4 rfl (lv_at hl 1 rfl) ?_
  refine lv_aload_n hx hb dX3_addData_5 rfl (lv_at hl 2 rfl) ?_
  refine lv_iload_n hx hb dX3_addData_6 rfl (lv_at hl 3 rfl) ?_
  refine c_ci (As := [.int p1, .ref (Z.ad 25 q2), .int p3]) (rest := []) x hml L 2 (2 * i0 + 1) al1 rfl (c_kqadd_25 l X g (2 * i0 + 1) p1 q2 p3 hX (show (2 * i0 + 1) < 4 * Z.n from (by omega)) hq2 (rg_w rp3 rfl)) (wk_V kd_X2_add kl_X3_95 ki_X2_add ks_X2_X2_add kn_X2) rfl ⟨rfl, rfl⟩ hd_kqadd_25 ⟨Nat.le_of_ble_eq_true rfl, Nat.le_of_ble_eq_true rfl⟩ rfl hl.1 rfl (lv_room (Nat.le_of_ble_eq_true rfl)) dX3_addData_7 (fun v3 g2 H2 k2 hp2 L2 => ?_)
  have rv3 : rg (0) (1) v3 := hp2.2.1
  have j23_4 : ∀ (g4 : mSt) (H4 : Heap) (k4 : List Loc) (ls : Array Slot), mFr [108] g2 g4 → cL G Z A H0 X g4 H4 k4 → lv_has ls 4 [(0, .ref (Z.ad 3 i0))] → W p l e rm_kaddData_25 s m args below meth c H4 k4 0 0 Q (F0 m 23 ls []) := by
    intro  g4 H4 k4 ls hF4 L4  hl
    exact hQ _ _ _ _ _ dX3_addData_23 L4 ⟨(mFr.tr (mFr.tr mFr.rf hp2.1 rfl) hF4 rfl), trivial⟩
  refine lv_if_ne (tgt := 23) hx hb dX3_addData_10 (by decide) (fun c10_5 => ?_) (fun c10_5 => ?_)
  · skip
    have q6 : rg (1) (1) v3 := rg_neL c10_5 rv3 kc_0
    exact j23_4  g2 _ _ ls mFr.rf L2  (lv_sub hl [0] rfl)
  · skip
    have q7 : rg (0) (0) v3 := (rg_eq c10_5 rv3 kc_0).1
    refine lv_aload_n hx hb dX3_addData_13 rfl (lv_at hl 0 rfl) ?_
    refine lv_dup hx hb dX3_addData_14 rfl ?_
    refine c_geti x L2 3 i0 12 108 hal0 rfl rfl (wk_in kf_X3_99) dX3_addData_15 (fun v8 ev8 wv8 => ?_)
    have rv8 : rg (-2147483648) (2147483647) v8 := rg_any v8
    refine lv_iconst (v := 1) hx hb dX3_addData_18 (by decide) ?_
    refine lv_iadd hx hb dX3_addData_19 ?_
    refine lv_topi (fun v9 ev9 => ?_)
    have rv9 : rg (-2147483648) (2147483647) v9 := rg_any v9
    refine c_puti x L2 3 i0 12 108 hal0 rfl rfl ⟨rfl, by decide +kernel⟩ (wk_in kf_X3_99) dX3_addData_20 (rg_any v9) (fun g10 H10 k10 eg10 L10 => ?_)
    exact j23_4  g10 _ _ ls (mFr.upE mFr.rf eg10 rfl) L10  (lv_sub hl [0] rfl)
theorem c_kaddData_25 (l : Launch) {G : cG} {Z : cZ} (X : Int) (g : mSt) (i0 : Nat) (p1 : Int32) (q2 : Nat) (p3 : Int32) (hX : 0 ≤ X ∧ X ≤ 2000000000) (hi0 : i0 < 2 * Z.n) (hq2 : Z.al 25 q2) (rp3 : rg (0) (10000) p3) : Met l yX3_addData (wk (Cond.code yX3_addData cX3_addData 4 none)) rm_kaddData_25 (va_Pc [.ref (Z.ad 3 i0), .int p1, .ref (Z.ad 25 q2), .int p3] (cPre G Z X g)) (cQv G Z X (fun g1 => mFr [67, 108, 544, 576] g g1 ∧ True)) 0 0 (cAd Z) := by
  refine Met.ofW (cc := cX3_addData) (maxL := 4) (ret := none) (by decide) rfl ?_
  intro p e s m args below meth c s₁ B hml hv
  obtain ⟨rfl, hv⟩ := hv
  have hr := B.returns
  have hlocks := B.notSynchronized
  obtain ⟨x, L⟩ := c_start B rfl (fun w h => wk_in h) hv
  have hl := lv_entry ([.ref (Z.ad 3 i0), .int p1, .ref (Z.ad 25 q2), .int p3]) (n := 4) (Nat.le_of_ble_eq_true rfl)
  rw [lg_entry_eq]
  generalize (lg_sl ([.ref (Z.ad 3 i0), .int p1, .ref (Z.ad 25 q2), .int p3]) ++ List.replicate (4 - (lg_sl ([.ref (Z.ad 3 i0), .int p1, .ref (Z.ad 25 q2), .int p3])).length) Slot.unset).toArray = ls at hl ⊢
  exact w_kaddData_25 x hml L hX i0 p1 q2 p3 hi0 hq2 rp3 hl (fun pc' ls' g1 H1 locs1 hdg L hp => c_vret x L hr hlocks (Int.le_refl _) hp hdg)

def rm_kdtell : Room := { frames := 0, cells := 0, slots := 0, locals := 0 }
theorem hd_kdtell : yX3_tell.cls = cRn 3 ∧ yX3_tell.cls ≠ "java/lang/invoke/MethodHandle" ∧ yX3_tell.cls ≠ "java/lang/invoke/VarHandle" ∧ (parseMethodDescriptor yX3_tell.desc).map (fun d => d.parameters.length) = some 1 := by decide +kernel
set_option maxHeartbeats 4000000 in
set_option maxRecDepth 100000 in
theorem w_kdtell {p : Program} {l : Launch} {e : Env} {s : State} {m : MethodId} {args : Array Value} {below : List Frame} {meth : Method} {c : Code} {H : Heap} {locs : List Loc} {Q : State → Prop} {ls : Array Slot} {G : cG} {Z : cZ} {A : Nat → Prop} {g : mSt} {H0 : Heap} {X : Int} (x : cX p c cX3_tell s args (wk (Cond.code yX3_tell cX3_tell 2 (some .int))) m G Z A RX3 H0) (hml : c.maxLocals = 2) (L : cL G Z A H0 X g H locs) (hX : 0 ≤ X ∧ X ≤ 2000000000) (i0 : Nat) (p1 : Int32) (hi0 : i0 < 2 * Z.n) (hl : lv_has ls 2 [(0, .ref (Z.ad 3 i0)), (1, .int p1)]) (hQ : ∀ (pc' : Nat) (ls' : Array Slot) (r : Int32) (g1 : mSt) (H1 : Heap) (locs1 : List Loc), decode cX3_tell pc' = .ok (.ireturn, 1) → cL G Z A H0 X g1 H1 locs1 → (mFr [] g g1 ∧ rg (-2147483648) (2147483647) r ∧ True) → W p l e rm_kdtell s m args below meth c H1 locs1 0 0 Q (F0 m pc' ls' [.int r])) : W p l e rm_kdtell s m args below meth c H locs 0 0 Q (F0 m 0 ls []) := by
  have hx := x.1
  have hb := x.2.1
  have hz := x.2.2.2.2.2.2.2.1
  have hzn := hz.1
  have hal0 : Z.al 3 i0 := hz.2 3 i0 (show i0 < 2 * Z.n from hi0)
  have up1 : (-2147483648 : Int) ≤ p1.toInt ∧ p1.toInt ≤ 2147483647 := (rg_any p1)
  refine lv_iload_n hx hb dX3_tell_0 rfl (lv_at hl 1 rfl) ?_
  rcases (show p1.toInt < 0 ∨ 9 < p1.toInt ∨ p1.toInt = 0 ∨ p1.toInt = 1 ∨ p1.toInt = 2 ∨ p1.toInt = 3 ∨ p1.toInt = 4 ∨ p1.toInt = 5 ∨ p1.toInt = 6 ∨ p1.toInt = 7 ∨ p1.toInt = 8 ∨ p1.toInt = 9 by omega) with c1_1 | c1_1 | c1_1 | c1_1 | c1_1 | c1_1 | c1_1 | c1_1 | c1_1 | c1_1 | c1_1 | c1_1
  · skip
    refine lv_tableOut (tgt := 149) hx hb dX3_tell_1 (Or.inl c1_1) (by decide) ?_
    refine lv_iconst (v := (-1)) hx hb dX3_tell_149 (by decide) ?_
    exact hQ _ _ (-1 : Int32) _ _ _ dX3_tell_150 L ⟨mFr.rf, rg_w kc_m1 rfl, trivial⟩
  · skip
    refine lv_tableOut (tgt := 149) hx hb dX3_tell_1 (Or.inr c1_1) (by decide) ?_
    refine lv_iconst (v := (-1)) hx hb dX3_tell_149 (by decide) ?_
    exact hQ _ _ (-1 : Int32) _ _ _ dX3_tell_150 L ⟨mFr.rf, rg_w kc_m1 rfl, trivial⟩
  · skip
    have q2 : rg (0) (0) p1 := ⟨by omega, by omega⟩
    refine lv_tableIn (off := 55) (tgt := 56) hx hb dX3_tell_1 (by omega) (by omega) (by rw [c1_1]; rfl) (by decide) ?_
    refine lv_aload_n hx hb dX3_tell_56 rfl (lv_at hl 0 rfl) ?_
    have al3 : Z.al 7 i0 := hz.2 7 i0 (show i0 < 2 * Z.n from (by omega))
    refine c_getr (a := Z.ad 7 i0) x L 3 i0 2 hal0 rfl rfl (wk_in kf_X3_24) dX3_tell_57 ?_
    refine c_geti x L 7 i0 1 225 al3 rfl rfl (wk_in kf_X3_117) dX3_tell_60 (fun v4 ev4 wv4 => ?_)
    have rv4 : rg (0) (2) v4 := clj_225 wv4
    have uv4 : (0 : Int) ≤ v4.toInt ∧ v4.toInt ≤ 2 := rv4
    have sv4 : v4.toInt = (g 225 i0).toInt := congrArg Int32.toInt (ev4.trans (congrFun ((show mFr [] g g from mFr.rf).at 225 rfl) _))
    exact hQ _ _ v4 _ _ _ dX3_tell_63 L ⟨mFr.rf, rg_w rv4 rfl, trivial⟩
  · skip
    have q5 : rg (1) (1) p1 := ⟨by omega, by omega⟩
    refine lv_tableIn (off := 63) (tgt := 64) hx hb dX3_tell_1 (by omega) (by omega) (by rw [c1_1]; rfl) (by decide) ?_
    refine lv_aload_n hx hb dX3_tell_64 rfl (lv_at hl 0 rfl) ?_
    have al6 : Z.al 7 i0 := hz.2 7 i0 (show i0 < 2 * Z.n from (by omega))
    refine c_getr (a := Z.ad 7 i0) x L 3 i0 2 hal0 rfl rfl (wk_in kf_X3_24) dX3_tell_65 ?_
    refine c_geti x L 7 i0 1 225 al6 rfl rfl (wk_in kf_X3_117) dX3_tell_68 (fun v7 ev7 wv7 => ?_)
    have rv7 : rg (0) (2) v7 := clj_225 wv7
    have uv7 : (0 : Int) ≤ v7.toInt ∧ v7.toInt ≤ 2 := rv7
    have sv7 : v7.toInt = (g 225 i0).toInt := congrArg Int32.toInt (ev7.trans (congrFun ((show mFr [] g g from mFr.rf).at 225 rfl) _))
    refine lv_iconst (v := 2) hx hb dX3_tell_71 (by decide) ?_
    refine lv_icmp_ne (tgt := 89) hx hb dX3_tell_72 (by decide) (fun c72_8 => ?_) (fun c72_8 => ?_)
    · skip
      have ic72_8 : v7.toInt ≠ (2 : Int32).toInt := fun z => c72_8 (Int32.toInt_inj.mp z)
      have y9 : (2 : Int32).toInt = 2 := by decide
      have q10 : rg (0) (1) v7 := rg_neH c72_8 rv7 kc_2
      have uq10 : (0 : Int) ≤ v7.toInt ∧ v7.toInt ≤ 1 := q10
      refine lv_iconst (v := 0) hx hb dX3_tell_89 (by decide) ?_
      exact hQ _ _ (0 : Int32) _ _ _ dX3_tell_90 L ⟨mFr.rf, rg_w kc_0 rfl, trivial⟩
    · skip
      have ic72_8 := congrArg Int32.toInt c72_8
      have y11 : (2 : Int32).toInt = 2 := by decide
      have q12 : rg (2) (2) v7 := (rg_eq c72_8 rv7 kc_2).1
      have uq12 : (2 : Int) ≤ v7.toInt ∧ v7.toInt ≤ 2 := q12
      refine lv_aload_n hx hb dX3_tell_75 rfl (lv_at hl 0 rfl) ?_
      refine c_getr (a := Z.ad 7 i0) x L 3 i0 2 hal0 rfl rfl (wk_in kf_X3_24) dX3_tell_76 ?_
      refine c_geti x L 7 i0 2 226 al6 rfl rfl (wk_in kf_X3_120) dX3_tell_79 (fun v13 ev13 wv13 => ?_)
      have rv13 : rg (0) (1) v13 := clj_226 wv13
      have uv13 : (0 : Int) ≤ v13.toInt ∧ v13.toInt ≤ 1 := rv13
      have sv13 : v13.toInt = (g 226 i0).toInt := congrArg Int32.toInt (ev13.trans (congrFun ((show mFr [] g g from mFr.rf).at 226 rfl) _))
      refine lv_if_eq (tgt := 89) hx hb dX3_tell_82 (by decide) (fun c82_14 => ?_) (fun c82_14 => ?_)
      · skip
        have ic82_14 := congrArg Int32.toInt c82_14
        have y15 : (0 : Int32).toInt = 0 := by decide
        have q16 : rg (0) (0) v13 := (rg_eq c82_14 rv13 kc_0).1
        have uq16 : (0 : Int) ≤ v13.toInt ∧ v13.toInt ≤ 0 := q16
        refine lv_iconst (v := 0) hx hb dX3_tell_89 (by decide) ?_
        exact hQ _ _ (0 : Int32) _ _ _ dX3_tell_90 L ⟨mFr.rf, rg_w kc_0 rfl, trivial⟩
      · skip
        have ic82_14 : v13.toInt ≠ (0 : Int32).toInt := fun z => c82_14 (Int32.toInt_inj.mp z)
        have y17 : (0 : Int32).toInt = 0 := by decide
        have q18 : rg (1) (1) v13 := rg_neL c82_14 rv13 kc_0
        have uq18 : (1 : Int) ≤ v13.toInt ∧ v13.toInt ≤ 1 := q18
        refine lv_iconst (v := 1) hx hb dX3_tell_85 (by decide) ?_
        refine lv_goto (tgt := 90) hx hb dX3_tell_86 (by decide) ?_
        exact hQ _ _ (1 : Int32) _ _ _ dX3_tell_90 L ⟨mFr.rf, rg_w kc_1 rfl, trivial⟩
  · skip
    have q19 : rg (2) (2) p1 := ⟨by omega, by omega⟩
    refine lv_tableIn (off := 90) (tgt := 91) hx hb dX3_tell_1 (by omega) (by omega) (by rw [c1_1]; rfl) (by decide) ?_
    refine lv_aload_n hx hb dX3_tell_91 rfl (lv_at hl 0 rfl) ?_
    have al20 : Z.al 7 i0 := hz.2 7 i0 (show i0 < 2 * Z.n from (by omega))
    refine c_getr (a := Z.ad 7 i0) x L 3 i0 2 hal0 rfl rfl (wk_in kf_X3_24) dX3_tell_92 ?_
    refine c_geti x L 7 i0 3 227 al20 rfl rfl (wk_in kf_X3_124) dX3_tell_95 (fun v21 ev21 wv21 => ?_)
    have rv21 : rg (-2147483648) (2147483647) v21 := rg_any v21
    have uv21 : (-2147483648 : Int) ≤ v21.toInt ∧ v21.toInt ≤ 2147483647 := rv21
    have sv21 : v21.toInt = (g 227 i0).toInt := congrArg Int32.toInt (ev21.trans (congrFun ((show mFr [] g g from mFr.rf).at 227 rfl) _))
    exact hQ _ _ v21 _ _ _ dX3_tell_98 L ⟨mFr.rf, rg_w rv21 rfl, trivial⟩
  · skip
    have q22 : rg (3) (3) p1 := ⟨by omega, by omega⟩
    refine lv_tableIn (off := 98) (tgt := 99) hx hb dX3_tell_1 (by omega) (by omega) (by rw [c1_1]; rfl) (by decide) ?_
    refine lv_aload_n hx hb dX3_tell_99 rfl (lv_at hl 0 rfl) ?_
    have al23 : Z.al 7 i0 := hz.2 7 i0 (show i0 < 2 * Z.n from (by omega))
    refine c_getr (a := Z.ad 7 i0) x L 3 i0 2 hal0 rfl rfl (wk_in kf_X3_24) dX3_tell_100 ?_
    refine c_geti x L 7 i0 4 228 al23 rfl rfl (wk_in kf_X3_127) dX3_tell_103 (fun v24 ev24 wv24 => ?_)
    have rv24 : rg (-2147483648) (2147483647) v24 := rg_any v24
    have uv24 : (-2147483648 : Int) ≤ v24.toInt ∧ v24.toInt ≤ 2147483647 := rv24
    have sv24 : v24.toInt = (g 228 i0).toInt := congrArg Int32.toInt (ev24.trans (congrFun ((show mFr [] g g from mFr.rf).at 228 rfl) _))
    exact hQ _ _ v24 _ _ _ dX3_tell_106 L ⟨mFr.rf, rg_w rv24 rfl, trivial⟩
  · skip
    have q25 : rg (4) (4) p1 := ⟨by omega, by omega⟩
    refine lv_tableIn (off := 106) (tgt := 107) hx hb dX3_tell_1 (by omega) (by omega) (by rw [c1_1]; rfl) (by decide) ?_
    refine lv_aload_n hx hb dX3_tell_107 rfl (lv_at hl 0 rfl) ?_
    have al26 : Z.al 7 i0 := hz.2 7 i0 (show i0 < 2 * Z.n from (by omega))
    refine c_getr (a := Z.ad 7 i0) x L 3 i0 2 hal0 rfl rfl (wk_in kf_X3_24) dX3_tell_108 ?_
    refine c_geti x L 7 i0 5 229 al26 rfl rfl (wk_in kf_X3_130) dX3_tell_111 (fun v27 ev27 wv27 => ?_)
    have rv27 : rg (-2147483648) (2147483647) v27 := rg_any v27
    have uv27 : (-2147483648 : Int) ≤ v27.toInt ∧ v27.toInt ≤ 2147483647 := rv27
    have sv27 : v27.toInt = (g 229 i0).toInt := congrArg Int32.toInt (ev27.trans (congrFun ((show mFr [] g g from mFr.rf).at 229 rfl) _))
    exact hQ _ _ v27 _ _ _ dX3_tell_114 L ⟨mFr.rf, rg_w rv27 rfl, trivial⟩
  · skip
    have q28 : rg (5) (5) p1 := ⟨by omega, by omega⟩
    refine lv_tableIn (off := 114) (tgt := 115) hx hb dX3_tell_1 (by omega) (by omega) (by rw [c1_1]; rfl) (by decide) ?_
    refine lv_aload_n hx hb dX3_tell_115 rfl (lv_at hl 0 rfl) ?_
    have al29 : Z.al 7 i0 := hz.2 7 i0 (show i0 < 2 * Z.n from (by omega))
    refine c_getr (a := Z.ad 7 i0) x L 3 i0 2 hal0 rfl rfl (wk_in kf_X3_24) dX3_tell_116 ?_
    refine c_geti x L 7 i0 6 230 al29 rfl rfl (wk_in kf_X3_133) dX3_tell_119 (fun v30 ev30 wv30 => ?_)
    have rv30 : rg (-2147483648) (2147483647) v30 := rg_any v30
    have uv30 : (-2147483648 : Int) ≤ v30.toInt ∧ v30.toInt ≤ 2147483647 := rv30
    have sv30 : v30.toInt = (g 230 i0).toInt := congrArg Int32.toInt (ev30.trans (congrFun ((show mFr [] g g from mFr.rf).at 230 rfl) _))
    exact hQ _ _ v30 _ _ _ dX3_tell_122 L ⟨mFr.rf, rg_w rv30 rfl, trivial⟩
  · skip
    have q31 : rg (6) (6) p1 := ⟨by omega, by omega⟩
    refine lv_tableIn (off := 122) (tgt := 123) hx hb dX3_tell_1 (by omega) (by omega) (by rw [c1_1]; rfl) (by decide) ?_
    refine lv_aload_n hx hb dX3_tell_123 rfl (lv_at hl 0 rfl) ?_
    refine c_geti x L 3 i0 13 109 hal0 rfl rfl (wk_in kf_X3_136) dX3_tell_124 (fun v32 ev32 wv32 => ?_)
    have rv32 : rg (-2147483648) (2147483647) v32 := rg_any v32
    have uv32 : (-2147483648 : Int) ≤ v32.toInt ∧ v32.toInt ≤ 2147483647 := rv32
    have sv32 : v32.toInt = (g 109 i0).toInt := congrArg Int32.toInt (ev32.trans (congrFun ((show mFr [] g g from mFr.rf).at 109 rfl) _))
    exact hQ _ _ v32 _ _ _ dX3_tell_127 L ⟨mFr.rf, rg_w rv32 rfl, trivial⟩
  · skip
    have q33 : rg (7) (7) p1 := ⟨by omega, by omega⟩
    refine lv_tableIn (off := 127) (tgt := 128) hx hb dX3_tell_1 (by omega) (by omega) (by rw [c1_1]; rfl) (by decide) ?_
    refine lv_aload_n hx hb dX3_tell_128 rfl (lv_at hl 0 rfl) ?_
    refine c_geti x L 3 i0 12 108 hal0 rfl rfl (wk_in kf_X3_99) dX3_tell_129 (fun v34 ev34 wv34 => ?_)
    have rv34 : rg (-2147483648) (2147483647) v34 := rg_any v34
    have uv34 : (-2147483648 : Int) ≤ v34.toInt ∧ v34.toInt ≤ 2147483647 := rv34
    have sv34 : v34.toInt = (g 108 i0).toInt := congrArg Int32.toInt (ev34.trans (congrFun ((show mFr [] g g from mFr.rf).at 108 rfl) _))
    exact hQ _ _ v34 _ _ _ dX3_tell_132 L ⟨mFr.rf, rg_w rv34 rfl, trivial⟩
  · skip
    have q35 : rg (8) (8) p1 := ⟨by omega, by omega⟩
    refine lv_tableIn (off := 132) (tgt := 133) hx hb dX3_tell_1 (by omega) (by omega) (by rw [c1_1]; rfl) (by decide) ?_
    refine lv_aload_n hx hb dX3_tell_133 rfl (lv_at hl 0 rfl) ?_
    have al36 : Z.al 2 (2 * i0) := hz.2 2 (2 * i0) (show (2 * i0) < 4 * Z.n from (by omega))
    refine c_getr (a := Z.ad 2 (2 * i0)) x L 3 i0 0 hal0 rfl rfl (wk_in kf_X3_12) dX3_tell_134 ?_
    refine c_geti x L 2 (2 * i0) 3 67 al36 rfl rfl (wk_in kf_X3_64) dX3_tell_137 (fun v37 ev37 wv37 => ?_)
    have rv37 : rg (0) (40) v37 := clj_67 wv37
    have uv37 : (0 : Int) ≤ v37.toInt ∧ v37.toInt ≤ 40 := rv37
    have sv37 : v37.toInt = (g 67 (2 * i0)).toInt := congrArg Int32.toInt (ev37.trans (congrFun ((show mFr [] g g from mFr.rf).at 67 rfl) _))
    exact hQ _ _ v37 _ _ _ dX3_tell_140 L ⟨mFr.rf, rg_w rv37 rfl, trivial⟩
  · skip
    have q38 : rg (9) (9) p1 := ⟨by omega, by omega⟩
    refine lv_tableIn (off := 140) (tgt := 141) hx hb dX3_tell_1 (by omega) (by omega) (by rw [c1_1]; rfl) (by decide) ?_
    refine lv_aload_n hx hb dX3_tell_141 rfl (lv_at hl 0 rfl) ?_
    have al39 : Z.al 2 (2 * i0 + 1) := hz.2 2 (2 * i0 + 1) (show (2 * i0 + 1) < 4 * Z.n from (by omega))
    refine c_getr (a := Z.ad 2 (2 * i0 + 1)) x L 3 i0 1 hal0 rfl rfl (wk_in kf_X3_18) dX3_tell_142 ?_
    refine c_geti x L 2 (2 * i0 + 1) 3 67 al39 rfl rfl (wk_in kf_X3_64) dX3_tell_145 (fun v40 ev40 wv40 => ?_)
    have rv40 : rg (0) (40) v40 := clj_67 wv40
    have uv40 : (0 : Int) ≤ v40.toInt ∧ v40.toInt ≤ 40 := rv40
    have sv40 : v40.toInt = (g 67 (2 * i0 + 1)).toInt := congrArg Int32.toInt (ev40.trans (congrFun ((show mFr [] g g from mFr.rf).at 67 rfl) _))
    exact hQ _ _ v40 _ _ _ dX3_tell_148 L ⟨mFr.rf, rg_w rv40 rfl, trivial⟩
theorem c_kdtell (l : Launch) {G : cG} {Z : cZ} (X : Int) (g : mSt) (i0 : Nat) (p1 : Int32) (hX : 0 ≤ X ∧ X ≤ 2000000000) (hi0 : i0 < 2 * Z.n) : Met l yX3_tell (wk (Cond.code yX3_tell cX3_tell 2 (some .int))) rm_kdtell (va_Pc [.ref (Z.ad 3 i0), .int p1] (cPre G Z X g)) (cQi G Z X (fun r g1 => mFr [] g g1 ∧ rg (-2147483648) (2147483647) r ∧ True)) 0 0 (cAd Z) := by
  refine Met.ofW (cc := cX3_tell) (maxL := 2) (ret := (some .int)) (by decide) rfl ?_
  intro p e s m args below meth c s₁ B hml hv
  obtain ⟨rfl, hv⟩ := hv
  have hr := B.returns
  have hlocks := B.notSynchronized
  obtain ⟨x, L⟩ := c_start B rfl (fun w h => wk_in h) hv
  have hl := lv_entry ([.ref (Z.ad 3 i0), .int p1]) (n := 2) (Nat.le_of_ble_eq_true rfl)
  rw [lg_entry_eq]
  generalize (lg_sl ([.ref (Z.ad 3 i0), .int p1]) ++ List.replicate (2 - (lg_sl ([.ref (Z.ad 3 i0), .int p1])).length) Slot.unset).toArray = ls at hl ⊢
  exact w_kdtell x hml L hX i0 p1 hi0 hl (fun pc' ls' r g1 H1 locs1 hdg L hp => c_iret x L hr hlocks (Int.le_refl _) hp hdg)

def rm_kspoilCell : Room := { frames := 1, cells := 0, slots := 0, locals := 21 }
theorem hd_kspoilCell : yX3_spoilCell.cls = cRn 3 ∧ yX3_spoilCell.cls ≠ "java/lang/invoke/MethodHandle" ∧ yX3_spoilCell.cls ≠ "java/lang/invoke/VarHandle" ∧ (parseMethodDescriptor yX3_spoilCell.desc).map (fun d => d.parameters.length) = some 0 := by decide +kernel
set_option maxHeartbeats 4000000 in
set_option maxRecDepth 100000 in
theorem w_kspoilCell {p : Program} {l : Launch} {e : Env} {s : State} {m : MethodId} {args : Array Value} {below : List Frame} {meth : Method} {c : Code} {H : Heap} {locs : List Loc} {Q : State → Prop} {ls : Array Slot} {G : cG} {Z : cZ} {A : Nat → Prop} {g : mSt} {H0 : Heap} {X : Int} (x : cX p c cX3_spoilCell s args (wk (Cond.code yX3_spoilCell cX3_spoilCell 4 (some .int))) m G Z A RX3 H0) (hml : c.maxLocals = 4) (L : cL G Z A H0 X g H locs) (hX : 0 ≤ X ∧ X ≤ 2000000000) (i0 : Nat) (hJ : cJ Z g) (hi0 : i0 < 2 * Z.n) (hpre0 : rg (0) (159) (g 101 i0)) (hl : lv_has ls 4 [(0, .ref (Z.ad 3 i0))]) (hQ : ∀ (pc' : Nat) (ls' : Array Slot) (r : Int32) (g1 : mSt) (H1 : Heap) (locs1 : List Loc), decode cX3_spoilCell pc' = .ok (.ireturn, 1) → cL G Z A H0 X g1 H1 locs1 → (mFr [106, 608, 640, 672, 704, 736] g g1 ∧ rg (0) (53) r ∧ cJ Z g1 ∧ True) → W p l e rm_kspoilCell s m args below meth c H1 locs1 0 0 Q (F0 m pc' ls' [.int r])) : W p l e rm_kspoilCell s m args below meth c H locs 0 0 Q (F0 m 0 ls []) := by
  have hx := x.1
  have hb := x.2.1
  have hz := x.2.2.2.2.2.2.2.1
  have hzn := hz.1
  have hal0 : Z.al 3 i0 := hz.2 3 i0 (show i0 < 2 * Z.n from hi0)
  obtain ⟨z0, ez0⟩ : ∃ y : Int32, y = g 101 i0 := ⟨_, rfl⟩
  have rz0 : rg (0) (159) z0 := rg_eqv ez0.symm hpre0
  have sz0 := congrArg Int32.toInt ez0
  have uz0 : (0 : Int) ≤ z0.toInt ∧ z0.toInt ≤ 159 := rz0
  refine lv_bipush (v := 53) hx hb dX3_spoilCell_0 (by decide) ?_
  refine lv_istore_n (lv' := [(1, .int (53 : Int32)), (0, .ref (Z.ad 3 i0))]) hx hb dX3_spoilCell_2 rfl hl (by decide) rfl (fun ls hl => ?_)
  refine lv_iconst (v := 0) hx hb dX3_spoilCell_3 (by decide) ?_
  refine lv_istore_n (lv' := [(2, .int (0 : Int32)), (1, .int (53 : Int32)), (0, .ref (Z.ad 3 i0))]) hx hb dX3_spoilCell_4 rfl hl (by decide) rfl (fun ls hl => ?_)
  refine lv_iconst (v := 0) hx hb dX3_spoilCell_5 (by decide) ?_
  refine lv_istore_n (lv' := [(3, .int (0 : Int32)), (2, .int (0 : Int32)), (1, .int (53 : Int32)), (0, .ref (Z.ad 3 i0))]) hx hb dX3_spoilCell_6 rfl hl (by decide) rfl (fun ls hl => ?_)
  have j7_4 : ∀ (n : Nat) (a7_1_1 a7_2_2 a7_3_3 : Int32) (g4 : mSt) (H4 : Heap) (k4 : List Loc) (ls : Array Slot), mFr [608, 640, 672, 704, 736] g g4 → cL G Z A H0 X g4 H4 k4 → cJ Z g4 → rg (0) (53) a7_1_1 → rg (0) (8) a7_2_2 → rg (0) (8) a7_3_3 → (a7_2_2.toInt ≤ a7_3_3.toInt) → lv_has ls 4 [(0, .ref (Z.ad 3 i0)), (1, .int a7_1_1), (2, .int a7_2_2), (3, .int a7_3_3)] → ((8 : Int) - a7_3_3.toInt).toNat = n → W p l e rm_kspoilCell s m args below meth c H4 k4 0 0 Q (F0 m 7 ls []) := by
    intro n
    induction n using Nat.strongRecOn with
    | _ n ih4 =>
      intro a7_1_1 a7_2_2 a7_3_3 g4 H4 k4 ls hF4 L4 hJ4 ra7_1_1 ra7_2_2 ra7_3_3 hv4_0 hl hn4
      subst hn4
      have ua7_1_1 : (0 : Int) ≤ a7_1_1.toInt ∧ a7_1_1.toInt ≤ 53 := ra7_1_1
      have ua7_2_2 : (0 : Int) ≤ a7_2_2.toInt ∧ a7_2_2.toInt ≤ 8 := ra7_2_2
      have ua7_3_3 : (0 : Int) ≤ a7_3_3.toInt ∧ a7_3_3.toInt ≤ 8 := ra7_3_3
      refine lv_iload_n hx hb dX3_spoilCell_7 rfl (lv_at hl 3 rfl) ?_
      refine lv_aload_n hx hb dX3_spoilCell_8 rfl (lv_at hl 0 rfl) ?_
      refine c_geti x L4 3 i0 10 106 hal0 rfl rfl (wk_in kf_X3_54) dX3_spoilCell_9 (fun v5 ev5 wv5 => ?_)
      have rv5 : rg (0) (8) v5 := clj_106 wv5
      have uv5 : (0 : Int) ≤ v5.toInt ∧ v5.toInt ≤ 8 := rv5
      refine lv_icmp_ge (tgt := 146) hx hb dX3_spoilCell_12 (by decide) (fun c12_6 => ?_) (fun c12_6 => ?_)
      · skip
        have ic12_6 := Int32.le_iff_toInt_le.mp c12_6
        refine lv_aload_n hx hb dX3_spoilCell_146 rfl (lv_at hl 0 rfl) ?_
        refine lv_iload_n hx hb dX3_spoilCell_147 rfl (lv_at hl 2 rfl) ?_
        refine c_puti x L4 3 i0 10 106 hal0 rfl rfl ⟨rfl, by decide +kernel⟩ (wk_in kf_X3_54) dX3_spoilCell_148 (crj_106 (rg_w ra7_2_2 rfl)) (fun g7 H7 k7 eg7 L7 => ?_)
        refine lv_iload_n hx hb dX3_spoilCell_151 rfl (lv_at hl 1 rfl) ?_
        exact hQ _ _ a7_1_1 _ _ _ dX3_spoilCell_152 L7 ⟨(mFr.upE (mFr.tr mFr.rf hF4 rfl) eg7 rfl), rg_w ra7_1_1 rfl, (cJ_up hJ4 eg7 rfl), trivial⟩
      · skip
        have ic12_6 := Int32.lt_iff_toInt_lt.mp (rg_nle c12_6)
        have q8 : rg (0) (7) a7_3_3 := (rg_lt (rg_nle c12_6) ra7_3_3 rv5).1
        have uq8 : (0 : Int) ≤ a7_3_3.toInt ∧ a7_3_3.toInt ≤ 7 := q8
        have q9 : rg (1) (8) v5 := (rg_lt (rg_nle c12_6) ra7_3_3 rv5).2
        have uq9 : (1 : Int) ≤ v5.toInt ∧ v5.toInt ≤ 8 := q9
        refine lv_aload_n hx hb dX3_spoilCell_15 rfl (lv_at hl 0 rfl) ?_
        have al10 : Z.al 21 i0 := hz.2 21 i0 (show i0 < 2 * Z.n from (by omega))
        refine c_getr (a := Z.ad 21 i0) x L4 3 i0 7 hal0 rfl rfl (wk_in kf_X3_42) dX3_spoilCell_16 ?_
        refine lv_iload_n hx hb dX3_spoilCell_19 rfl (lv_at hl 3 rfl) ?_
        refine c_ld x L4 21 i0 672 al10 rfl rfl q8 rfl dX3_spoilCell_20 (fun v11 ev11 wv11 => ?_)
        have rv11 : rg (-2147483648) (2147483647) v11 := rg_any v11
        have uv11 : (-2147483648 : Int) ≤ v11.toInt ∧ v11.toInt ≤ 2147483647 := rv11
        refine lv_aload_n hx hb dX3_spoilCell_21 rfl (lv_at hl 0 rfl) ?_
        refine c_geti x L4 3 i0 11 107 hal0 rfl rfl (wk_in kf_X3_58) dX3_spoilCell_22 (fun v12 ev12 wv12 => ?_)
        have rv12 : rg (-2147483648) (2147483647) v12 := rg_any v12
        have uv12 : (-2147483648 : Int) ≤ v12.toInt ∧ v12.toInt ≤ 2147483647 := rv12
        have sv12 : v12.toInt = (g 107 i0).toInt := congrArg Int32.toInt (ev12.trans (congrFun ((show mFr [106, 608, 640, 672, 704, 736] g g4 from (mFr.tr mFr.rf hF4 rfl)).at 107 rfl) _))
        have j140_15 : ∀ (a140_1_13 a140_2_14 : Int32) (g15 : mSt) (H15 : Heap) (k15 : List Loc) (ls : Array Slot), mFr [608, 640, 672, 704, 736] g4 g15 → cL G Z A H0 X g15 H15 k15 → cJ Z g15 → rg (0) (53) a140_1_13 → rg (0) (8) a140_2_14 → (a140_2_14.toInt ≤ a7_3_3.toInt + 1) → lv_has ls 4 [(0, .ref (Z.ad 3 i0)), (1, .int a140_1_13), (2, .int a140_2_14), (3, .int a7_3_3)] → W p l e rm_kspoilCell s m args below meth c H15 k15 0 0 Q (F0 m 140 ls []) := by
          intro a140_1_13 a140_2_14 g15 H15 k15 ls hF15 L15 hJ15 ra140_1_13 ra140_2_14 hv15_0 hl
          have ua140_1_13 : (0 : Int) ≤ a140_1_13.toInt ∧ a140_1_13.toInt ≤ 53 := ra140_1_13
          have ua140_2_14 : (0 : Int) ≤ a140_2_14.toInt ∧ a140_2_14.toInt ≤ 8 := ra140_2_14
          obtain ⟨v16, ev16, fv16⟩ := inc_ex a7_3_3 (1) (1 : Int32) (by decide)
          have rv16 : rg (1) (8) v16 := (rg_add ev16 q8 kc_1 rfl).1
          have tv16 := (rg_add ev16 q8 kc_1 rfl).2
          have yv16 : (1 : Int32).toInt = 1 := by decide
          refine lv_iinc (v := v16) (lv' := [(3, .int v16), (0, .ref (Z.ad 3 i0)), (1, .int a140_1_13), (2, .int a140_2_14)]) hx hb dX3_spoilCell_140 hl (k := 3) rfl fv16 (by decide) rfl (fun ls hl => ?_)
          refine lv_goto (tgt := 7) hx hb dX3_spoilCell_143 (by decide) ?_
          exact ih4 _ (ms_up tv16 kc_1 q8 rfl rfl) a140_1_13 a140_2_14 v16 g15 _ _ ls (mFr.tr hF4 hF15 rfl) L15 hJ15 (rg_w ra140_1_13 rfl) (rg_w ra140_2_14 rfl) (rg_w rv16 rfl) (by omega) (lv_sub hl [1, 2, 3, 0] rfl) rfl
        refine lv_icmp_eq (tgt := 82) hx hb dX3_spoilCell_25 (by decide) (fun c25_17 => ?_) (fun c25_17 => ?_)
        · skip
          have ic25_17 := congrArg Int32.toInt c25_17
          refine lv_aload_n hx hb dX3_spoilCell_82 rfl (lv_at hl 0 rfl) ?_
          have al18 : Z.al 20 i0 := hz.2 20 i0 (show i0 < 2 * Z.n from (by omega))
          refine c_getr (a := Z.ad 20 i0) x L4 3 i0 6 hal0 rfl rfl (wk_in kf_X3_39) dX3_spoilCell_83 ?_
          refine lv_iload_n hx hb dX3_spoilCell_86 rfl (lv_at hl 3 rfl) ?_
          refine c_ld x L4 20 i0 640 al18 rfl rfl q8 rfl dX3_spoilCell_87 (fun v19 ev19 wv19 => ?_)
          have rv19 : rg (-2147483648) (2147483647) v19 := rg_any v19
          have uv19 : (-2147483648 : Int) ≤ v19.toInt ∧ v19.toInt ≤ 2147483647 := rv19
          refine lv_iconst (v := 1) hx hb dX3_spoilCell_88 (by decide) ?_
          refine lv_icmp_ne (tgt := 120) hx hb dX3_spoilCell_89 (by decide) (fun c89_20 => ?_) (fun c89_20 => ?_)
          · skip
            have ic89_20 : v19.toInt ≠ (1 : Int32).toInt := fun z => c89_20 (Int32.toInt_inj.mp z)
            have y21 : (1 : Int32).toInt = 1 := by decide
            refine lv_iload_n hx hb dX3_spoilCell_120 rfl (lv_at hl 1 rfl) ?_
            refine lv_aload_n hx hb dX3_spoilCell_121 rfl (lv_at hl 0 rfl) ?_
            refine c_getr (a := Z.ad 20 i0) x L4 3 i0 6 hal0 rfl rfl (wk_in kf_X3_39) dX3_spoilCell_122 ?_
            refine lv_iload_n hx hb dX3_spoilCell_125 rfl (lv_at hl 3 rfl) ?_
            refine c_ld x L4 20 i0 640 al18 rfl rfl q8 rfl dX3_spoilCell_126 (fun v22 ev22 wv22 => ?_)
            refine m_top ((ev19).trans ev22.symm) ?_
            have j136_24 : ∀ (b136_1_23 : Int32) (g24 : mSt) (H24 : Heap) (k24 : List Loc) (ls : Array Slot), mFr [] g4 g24 → cL G Z A H0 X g24 H24 k24 → cJ Z g24 → rg (0) (52) b136_1_23 → lv_has ls 4 [(0, .ref (Z.ad 3 i0)), (2, .int a7_2_2), (3, .int a7_3_3)] → W p l e rm_kspoilCell s m args below meth c H24 k24 0 0 Q (F0 m 136 ls [.int b136_1_23, .int a7_1_1]) := by
              intro b136_1_23 g24 H24 k24 ls hF24 L24 hJ24 rb136_1_23 hl
              have ub136_1_23 : (0 : Int) ≤ b136_1_23.toInt ∧ b136_1_23.toInt ≤ 52 := rb136_1_23
              refine va_mmin (rest := []) hx hb (hml.trans hl.1.symm) x.2.2.2.2.1 (x.2.2.1 _ (wk_in kl_X3_89)) (x.2.2.1 _ (wk_in kw_min.1)) (x.2.2.1 _ (wk_in kw_min.2.1)) (x.2.2.1 _ (wk_in kw_min.2.2)) (Nat.le_of_ble_eq_true rfl) (Nat.le_of_ble_eq_true rfl) (Nat.zero_le _) (Nat.zero_le _) dX3_spoilCell_136 ?_
              refine lv_topi (fun v25 ev25 => ?_)
              have hmv25 := rg_min ev25 ra7_1_1 rb136_1_23
              have rv25 : rg (0) (52) v25 := rg_w hmv25.1 rfl
              have tv25 := hmv25.2
              have uv25 : (0 : Int) ≤ v25.toInt ∧ v25.toInt ≤ 52 := rv25
              refine lv_istore_n (lv' := [(1, .int v25), (0, .ref (Z.ad 3 i0)), (2, .int a7_2_2), (3, .int a7_3_3)]) hx hb dX3_spoilCell_139 rfl hl (by decide) rfl (fun ls hl => ?_)
              exact j140_15 v25 a7_2_2 g24 _ _ ls (mFr.tr mFr.rf hF24 rfl) L24 hJ24 (rg_w rv25 rfl) (rg_w ra7_2_2 rfl) (by omega) (lv_sub hl [1, 0, 2, 3] rfl)
            refine lv_if_ne (tgt := 134) hx hb dX3_spoilCell_127 (by decide) (fun c127_26 => ?_) (fun c127_26 => ?_)
            · skip
              have ic127_26 : v19.toInt ≠ (0 : Int32).toInt := fun z => c127_26 (Int32.toInt_inj.mp z)
              have y27 : (0 : Int32).toInt = 0 := by decide
              refine lv_bipush (v := 52) hx hb dX3_spoilCell_134 (by decide) ?_
              have y28 : (52 : Int32).toInt = 52 := by decide
              exact j136_24 (52 : Int32) g4 _ _ ls mFr.rf L4 hJ4 (rg_w kc_52 rfl) (lv_sub hl [0, 2, 3] rfl)
            · skip
              have ic127_26 := congrArg Int32.toInt c127_26
              have y29 : (0 : Int32).toInt = 0 := by decide
              have q30 : rg (0) (0) v19 := (rg_eq c127_26 rv19 kc_0).1
              have uq30 : (0 : Int) ≤ v19.toInt ∧ v19.toInt ≤ 0 := q30
              refine lv_iconst (v := 0) hx hb dX3_spoilCell_130 (by decide) ?_
              refine lv_goto (tgt := 136) hx hb dX3_spoilCell_131 (by decide) ?_
              have y31 : (0 : Int32).toInt = 0 := by decide
              exact j136_24 (0 : Int32) g4 _ _ ls mFr.rf L4 hJ4 (rg_w kc_0 rfl) (lv_sub hl [0, 2, 3] rfl)
          · skip
            have ic89_20 := congrArg Int32.toInt c89_20
            have y32 : (1 : Int32).toInt = 1 := by decide
            have q33 : rg (1) (1) v19 := (rg_eq c89_20 rv19 kc_1).1
            have uq33 : (1 : Int) ≤ v19.toInt ∧ v19.toInt ≤ 1 := q33
            refine lv_aload_n hx hb dX3_spoilCell_92 rfl (lv_at hl 0 rfl) ?_
            have al34 : Z.al 19 i0 := hz.2 19 i0 (show i0 < 2 * Z.n from (by omega))
            refine c_getr (a := Z.ad 19 i0) x L4 3 i0 4 hal0 rfl rfl (wk_in kf_X3_35) dX3_spoilCell_93 ?_
            refine lv_aload_n hx hb dX3_spoilCell_96 rfl (lv_at hl 0 rfl) ?_
            refine c_geti x L4 3 i0 5 101 hal0 rfl rfl (wk_in kf_X3_61) dX3_spoilCell_97 (fun v35 ev35 wv35 => ?_)
            refine m_top (((mm_fr ez0 hF4 rfl)).trans ev35.symm) ?_
            refine lv_aload_n hx hb dX3_spoilCell_100 rfl (lv_at hl 0 rfl) ?_
            have al36 : Z.al 22 i0 := hz.2 22 i0 (show i0 < 2 * Z.n from (by omega))
            refine c_getr (a := Z.ad 22 i0) x L4 3 i0 8 hal0 rfl rfl (wk_in kf_X3_45) dX3_spoilCell_101 ?_
            refine lv_iload_n hx hb dX3_spoilCell_104 rfl (lv_at hl 3 rfl) ?_
            refine c_ld x L4 22 i0 704 al36 rfl rfl q8 rfl dX3_spoilCell_105 (fun v37 ev37 wv37 => ?_)
            have rv37 : rg (-2147483648) (2147483647) v37 := rg_any v37
            have rrv37 : rg (0) (52) v37 := cJ_ro hJ4 ev37 ev19 (by omega)
            have uv37 : (0 : Int) ≤ v37.toInt ∧ v37.toInt ≤ 52 := rrv37
            refine lv_iadd hx hb dX3_spoilCell_106 ?_
            refine lv_topi (fun v38 ev38 => ?_)
            have rv38 : rg (0) (211) v38 := (rg_add ev38 rz0 rrv37 rfl).1
            have tv38 := (rg_add ev38 rz0 rrv37 rfl).2
            have uv38 : (0 : Int) ≤ v38.toInt ∧ v38.toInt ≤ 211 := rv38
            refine lv_dup2_11 hx hb dX3_spoilCell_107 rfl rfl ?_
            refine c_ld x L4 19 i0 608 al34 rfl rfl rv38 rfl dX3_spoilCell_108 (fun v39 ev39 wv39 => ?_)
            have rv39 : rg (-2147483648) (2147483647) v39 := rg_any v39
            have uv39 : (-2147483648 : Int) ≤ v39.toInt ∧ v39.toInt ≤ 2147483647 := rv39
            refine lv_aload_n hx hb dX3_spoilCell_109 rfl (lv_at hl 0 rfl) ?_
            have al40 : Z.al 23 i0 := hz.2 23 i0 (show i0 < 2 * Z.n from (by omega))
            refine c_getr (a := Z.ad 23 i0) x L4 3 i0 9 hal0 rfl rfl (wk_in kf_X3_48) dX3_spoilCell_110 ?_
            refine lv_iload_n hx hb dX3_spoilCell_113 rfl (lv_at hl 3 rfl) ?_
            refine c_ld x L4 23 i0 736 al40 rfl rfl q8 rfl dX3_spoilCell_114 (fun v41 ev41 wv41 => ?_)
            have rv41 : rg (-2147483648) (2147483647) v41 := rg_any v41
            have uv41 : (-2147483648 : Int) ≤ v41.toInt ∧ v41.toInt ≤ 2147483647 := rv41
            refine lv_ixor hx hb dX3_spoilCell_115 ?_
            refine lv_topi (fun v42 ev42 => ?_)
            have rv42 : rg (-2147483648) (2147483647) v42 := rg_any v42
            have uv42 : (-2147483648 : Int) ≤ v42.toInt ∧ v42.toInt ≤ 2147483647 := rv42
            refine c_st x L4 19 i0 608 al34 rfl rfl rv38 rfl (rg_any v42) dX3_spoilCell_116 (fun g43 H43 k43 eg43 L43 => ?_)
            refine lv_goto (tgt := 140) hx hb dX3_spoilCell_117 (by decide) ?_
            exact j140_15 a7_1_1 a7_2_2 g43 _ _ ls (mFr.upE mFr.rf eg43 rfl) L43 (cJ_up hJ4 eg43 rfl) (rg_w ra7_1_1 rfl) (rg_w ra7_2_2 rfl) (by omega) (lv_sub hl [0, 1, 2, 3] rfl)
        · skip
          have ic25_17 : v11.toInt ≠ v12.toInt := fun z => c25_17 (Int32.toInt_inj.mp z)
          have q44 : rg (0) (7) a7_2_2 := ⟨by omega, by omega⟩
          refine lv_aload_n hx hb dX3_spoilCell_28 rfl (lv_at hl 0 rfl) ?_
          have al45 : Z.al 20 i0 := hz.2 20 i0 (show i0 < 2 * Z.n from (by omega))
          refine c_getr (a := Z.ad 20 i0) x L4 3 i0 6 hal0 rfl rfl (wk_in kf_X3_39) dX3_spoilCell_29 ?_
          refine lv_iload_n hx hb dX3_spoilCell_32 rfl (lv_at hl 2 rfl) ?_
          refine lv_aload_n hx hb dX3_spoilCell_33 rfl (lv_at hl 0 rfl) ?_
          refine c_getr (a := Z.ad 20 i0) x L4 3 i0 6 hal0 rfl rfl (wk_in kf_X3_39) dX3_spoilCell_34 ?_
          refine lv_iload_n hx hb dX3_spoilCell_37 rfl (lv_at hl 3 rfl) ?_
          refine c_ld x L4 20 i0 640 al45 rfl rfl q8 rfl dX3_spoilCell_38 (fun v46 ev46 wv46 => ?_)
          have rv46 : rg (-2147483648) (2147483647) v46 := rg_any v46
          have uv46 : (-2147483648 : Int) ≤ v46.toInt ∧ v46.toInt ≤ 2147483647 := rv46
          refine c_st x L4 20 i0 640 al45 rfl rfl q44 rfl (rg_any v46) dX3_spoilCell_39 (fun g47 H47 k47 eg47 L47 => ?_)
          refine lv_aload_n hx hb dX3_spoilCell_40 rfl (lv_at hl 0 rfl) ?_
          refine c_getr (a := Z.ad 21 i0) x L47 3 i0 7 hal0 rfl rfl (wk_in kf_X3_42) dX3_spoilCell_41 ?_
          refine lv_iload_n hx hb dX3_spoilCell_44 rfl (lv_at hl 2 rfl) ?_
          refine lv_aload_n hx hb dX3_spoilCell_45 rfl (lv_at hl 0 rfl) ?_
          refine c_getr (a := Z.ad 21 i0) x L47 3 i0 7 hal0 rfl rfl (wk_in kf_X3_42) dX3_spoilCell_46 ?_
          refine lv_iload_n hx hb dX3_spoilCell_49 rfl (lv_at hl 3 rfl) ?_
          refine c_ld x L47 21 i0 672 al10 rfl rfl q8 rfl dX3_spoilCell_50 (fun v48 ev48 wv48 => ?_)
          refine m_top (((mm_up ev11 eg47 rfl)).trans ev48.symm) ?_
          refine c_st x L47 21 i0 672 al10 rfl rfl q44 rfl (rg_any v11) dX3_spoilCell_51 (fun g49 H49 k49 eg49 L49 => ?_)
          refine lv_aload_n hx hb dX3_spoilCell_52 rfl (lv_at hl 0 rfl) ?_
          have al50 : Z.al 22 i0 := hz.2 22 i0 (show i0 < 2 * Z.n from (by omega))
          refine c_getr (a := Z.ad 22 i0) x L49 3 i0 8 hal0 rfl rfl (wk_in kf_X3_45) dX3_spoilCell_53 ?_
          refine lv_iload_n hx hb dX3_spoilCell_56 rfl (lv_at hl 2 rfl) ?_
          refine lv_aload_n hx hb dX3_spoilCell_57 rfl (lv_at hl 0 rfl) ?_
          refine c_getr (a := Z.ad 22 i0) x L49 3 i0 8 hal0 rfl rfl (wk_in kf_X3_45) dX3_spoilCell_58 ?_
          refine lv_iload_n hx hb dX3_spoilCell_61 rfl (lv_at hl 3 rfl) ?_
          refine c_ld x L49 22 i0 704 al50 rfl rfl q8 rfl dX3_spoilCell_62 (fun v51 ev51 wv51 => ?_)
          have rv51 : rg (-2147483648) (2147483647) v51 := rg_any v51
          have uv51 : (-2147483648 : Int) ≤ v51.toInt ∧ v51.toInt ≤ 2147483647 := rv51
          refine c_st x L49 22 i0 704 al50 rfl rfl q44 rfl (rg_any v51) dX3_spoilCell_63 (fun g52 H52 k52 eg52 L52 => ?_)
          have hJ53 := cJ_dmg hJ4 eg47 eg49 eg52 (fun z => by have w := hJ4.1.1 (8192 * i0 + a7_3_3.toNatClampNeg) (by rw [← ev46]; exact z); have h14 : g4 704 (8192 * i0 + a7_3_3.toNatClampNeg) = g49 704 (8192 * i0 + a7_3_3.toNatClampNeg) := mm_up (mm_up rfl eg47 rfl) eg49 rfl; rw [h14, ← ev51] at w; exact w)
          refine lv_aload_n hx hb dX3_spoilCell_64 rfl (lv_at hl 0 rfl) ?_
          have al54 : Z.al 23 i0 := hz.2 23 i0 (show i0 < 2 * Z.n from (by omega))
          refine c_getr (a := Z.ad 23 i0) x L52 3 i0 9 hal0 rfl rfl (wk_in kf_X3_48) dX3_spoilCell_65 ?_
          refine lv_iload_n hx hb dX3_spoilCell_68 rfl (lv_at hl 2 rfl) ?_
          refine lv_aload_n hx hb dX3_spoilCell_69 rfl (lv_at hl 0 rfl) ?_
          refine c_getr (a := Z.ad 23 i0) x L52 3 i0 9 hal0 rfl rfl (wk_in kf_X3_48) dX3_spoilCell_70 ?_
          refine lv_iload_n hx hb dX3_spoilCell_73 rfl (lv_at hl 3 rfl) ?_
          refine c_ld x L52 23 i0 736 al54 rfl rfl q8 rfl dX3_spoilCell_74 (fun v55 ev55 wv55 => ?_)
          have rv55 : rg (-2147483648) (2147483647) v55 := rg_any v55
          have uv55 : (-2147483648 : Int) ≤ v55.toInt ∧ v55.toInt ≤ 2147483647 := rv55
          refine c_st x L52 23 i0 736 al54 rfl rfl q44 rfl (rg_any v55) dX3_spoilCell_75 (fun g56 H56 k56 eg56 L56 => ?_)
          obtain ⟨v57, ev57, fv57⟩ := inc_ex a7_2_2 (1) (1 : Int32) (by decide)
          have rv57 : rg (1) (8) v57 := (rg_add ev57 q44 kc_1 rfl).1
          have tv57 := (rg_add ev57 q44 kc_1 rfl).2
          have yv57 : (1 : Int32).toInt = 1 := by decide
          refine lv_iinc (v := v57) (lv' := [(2, .int v57), (0, .ref (Z.ad 3 i0)), (1, .int a7_1_1), (3, .int a7_3_3)]) hx hb dX3_spoilCell_76 hl (k := 2) rfl fv57 (by decide) rfl (fun ls hl => ?_)
          refine lv_goto (tgt := 140) hx hb dX3_spoilCell_79 (by decide) ?_
          exact j140_15 a7_1_1 v57 g56 _ _ ls (mFr.upE (mFr.upE (mFr.upE (mFr.upE mFr.rf eg47 rfl) eg49 rfl) eg52 rfl) eg56 rfl) L56 (cJ_up hJ53 eg56 rfl) (rg_w ra7_1_1 rfl) (rg_w rv57 rfl) (by omega) (lv_sub hl [1, 2, 0, 3] rfl)
  have y58 : (53 : Int32).toInt = 53 := by decide
  have y59 : (0 : Int32).toInt = 0 := by decide
  have y60 : (0 : Int32).toInt = 0 := by decide
  exact j7_4 _ (53 : Int32) (0 : Int32) (0 : Int32) g _ _ ls mFr.rf L hJ (rg_w kc_53 rfl) (rg_w kc_0 rfl) (rg_w kc_0 rfl) (by omega) (lv_sub hl [3, 2, 1, 0] rfl) rfl
theorem c_kspoilCell (l : Launch) {G : cG} {Z : cZ} (X : Int) (g : mSt) (i0 : Nat) (hX : 0 ≤ X ∧ X ≤ 2000000000) (hJ : cJ Z g) (hi0 : i0 < 2 * Z.n) (hpre0 : rg (0) (159) (g 101 i0)) : Met l yX3_spoilCell (wk (Cond.code yX3_spoilCell cX3_spoilCell 4 (some .int))) rm_kspoilCell (va_Pc [.ref (Z.ad 3 i0)] (cPre G Z X g)) (cQi G Z X (fun r g1 => mFr [106, 608, 640, 672, 704, 736] g g1 ∧ rg (0) (53) r ∧ cJ Z g1 ∧ True)) 0 0 (cAd Z) := by
  refine Met.ofW (cc := cX3_spoilCell) (maxL := 4) (ret := (some .int)) (by decide) rfl ?_
  intro p e s m args below meth c s₁ B hml hv
  obtain ⟨rfl, hv⟩ := hv
  have hr := B.returns
  have hlocks := B.notSynchronized
  obtain ⟨x, L⟩ := c_start B rfl (fun w h => wk_in h) hv
  have hl := lv_entry ([.ref (Z.ad 3 i0)]) (n := 4) (Nat.le_of_ble_eq_true rfl)
  rw [lg_entry_eq]
  generalize (lg_sl ([.ref (Z.ad 3 i0)]) ++ List.replicate (4 - (lg_sl ([.ref (Z.ad 3 i0)])).length) Slot.unset).toArray = ls at hl ⊢
  exact w_kspoilCell x hml L hX i0 hJ hi0 hpre0 hl (fun pc' ls' r g1 H1 locs1 hdg L hp => c_iret x L hr hlocks (Int.le_refl _) hp hdg)

def rm_kputCells : Room := { frames := 2, cells := 0, slots := 0, locals := 71 }
theorem hd_kputCells : yX3_putCells.cls = cRn 3 ∧ yX3_putCells.cls ≠ "java/lang/invoke/MethodHandle" ∧ yX3_putCells.cls ≠ "java/lang/invoke/VarHandle" ∧ (parseMethodDescriptor yX3_putCells.desc).map (fun d => d.parameters.length) = some 0 := by decide +kernel
set_option maxHeartbeats 4000000 in
set_option maxRecDepth 100000 in
theorem w_kputCells {p : Program} {l : Launch} {e : Env} {s : State} {m : MethodId} {args : Array Value} {below : List Frame} {meth : Method} {c : Code} {H : Heap} {locs : List Loc} {Q : State → Prop} {ls : Array Slot} {G : cG} {Z : cZ} {A : Nat → Prop} {g : mSt} {H0 : Heap} {X : Int} (x : cX p c cX3_putCells s args (wk (Cond.code yX3_putCells cX3_putCells 4 (some .int))) m G Z A RX3 H0) (hml : c.maxLocals = 4) (L : cL G Z A H0 X g H locs) (hX : 0 ≤ X ∧ X ≤ 2000000000) (i0 : Nat) (hJ : cJ Z g) (hi0 : i0 < 2 * Z.n) (hl : lv_has ls 4 [(0, .ref (Z.ad 3 i0))]) (hQ : ∀ (pc' : Nat) (ls' : Array Slot) (r : Int32) (g1 : mSt) (H1 : Heap) (locs1 : List Loc), decode cX3_putCells pc' = .ok (.ireturn, 1) → cL G Z A H0 X g1 H1 locs1 → (mFr [66, 67, 101, 106, 107, 608, 640, 672, 704, 736] g g1 ∧ rg (-2147483648) (2147483647) r ∧ cJ Z g1 ∧ True) → W p l e rm_kputCells s m args below meth c H1 locs1 0 0 Q (F0 m pc' ls' [.int r])) : W p l e rm_kputCells s m args below meth c H locs 0 0 Q (F0 m 0 ls []) := by
  have hx := x.1
  have hb := x.2.1
  have hz := x.2.2.2.2.2.2.2.1
  have hzn := hz.1
  have hal0 : Z.al 3 i0 := hz.2 3 i0 (show i0 < 2 * Z.n from hi0)
  refine lv_iconst (v := 0) hx hb dX3_putCells_0 (by decide) ?_
  refine lv_istore_n (lv' := [(1, .int (0 : Int32)), (0, .ref (Z.ad 3 i0))]) hx hb dX3_putCells_1 rfl hl (by decide) rfl (fun ls hl => ?_)
  refine lv_aload_n hx hb dX3_putCells_2 rfl (lv_at hl 1 rfl) ?_
  refine lv_iconst (v := 0) hx hb dX3_putCells_3 (by decide) ?_
  refine c_puti x L 3 i0 5 101 hal0 rfl rfl ⟨rfl, by decide +kernel⟩ (wk_in kf_X3_61) dX3_putCells_4 (crj_101 (rg_w kc_0 rfl)) (fun g1 H1 k1 eg1 L1 => ?_)
  refine lv_iconst (v := 0) hx hb dX3_putCells_7 (by decide) ?_
  refine lv_istore_n (lv' := [(2, .int (0 : Int32)), (1, .int (0 : Int32)), (0, .ref (Z.ad 3 i0))]) hx hb dX3_putCells_8 rfl hl (by decide) rfl (fun ls hl => ?_)
  have j9_4 : ∀ (n : Nat) (a9_1_2 a9_2_3 : Int32) (g4 : mSt) (H4 : Heap) (k4 : List Loc) (ls : Array Slot), mFr [66, 67, 101, 106, 107, 608, 640, 672, 704, 736] g1 g4 → cL G Z A H0 X g4 H4 k4 → cJ Z g4 → rg (-2147483648) (2147483647) a9_1_2 → rg (0) (4) a9_2_3 → rg (0) (212) (g4 101 i0) → ((g4 101 i0)).toInt ≤ 53 * a9_2_3.toInt → lv_has ls 4 [(0, .ref (Z.ad 3 i0)), (1, .int a9_1_2), (2, .int a9_2_3)] → ((4 : Int) - a9_2_3.toInt).toNat = n → W p l e rm_kputCells s m args below meth c H4 k4 0 0 Q (F0 m 9 ls []) := by
    intro n
    induction n using Nat.strongRecOn with
    | _ n ih4 =>
      intro a9_1_2 a9_2_3 g4 H4 k4 ls hF4 L4 hJ4 ra9_1_2 ra9_2_3 hm4_0 hv4_0 hl hn4
      subst hn4
      obtain ⟨z4_0, ez4_0⟩ : ∃ y : Int32, y = g4 101 i0 := ⟨_, rfl⟩
      have rz4_0 : rg (0) (212) z4_0 := rg_eqv ez4_0.symm hm4_0
      have uz4_0 : (0 : Int) ≤ z4_0.toInt ∧ z4_0.toInt ≤ 212 := rz4_0
      have sz4_0 := congrArg Int32.toInt ez4_0
      have ua9_1_2 : (-2147483648 : Int) ≤ a9_1_2.toInt ∧ a9_1_2.toInt ≤ 2147483647 := ra9_1_2
      have ua9_2_3 : (0 : Int) ≤ a9_2_3.toInt ∧ a9_2_3.toInt ≤ 4 := ra9_2_3
      refine lv_iload_n hx hb dX3_putCells_9 rfl (lv_at hl 2 rfl) ?_
      refine lv_iconst (v := 4) hx hb dX3_putCells_10 (by decide) ?_
      refine lv_icmp_ge (tgt := 149) hx hb dX3_putCells_11 (by decide) (fun c11_5 => ?_) (fun c11_5 => ?_)
      · skip
        have ic11_5 := Int32.le_iff_toInt_le.mp c11_5
        have q6 : rg (4) (4) a9_2_3 := (rg_le c11_5 kc_4 ra9_2_3).2
        have uq6 : (4 : Int) ≤ a9_2_3.toInt ∧ a9_2_3.toInt ≤ 4 := q6
        refine lv_iload_n hx hb dX3_putCells_149 rfl (lv_at hl 1 rfl) ?_
        exact hQ _ _ a9_1_2 _ _ _ dX3_putCells_150 L4 ⟨(mFr.tr (mFr.upE mFr.rf eg1 rfl) hF4 rfl), rg_w ra9_1_2 rfl, hJ4, trivial⟩
      · skip
        have ic11_5 := Int32.lt_iff_toInt_lt.mp (rg_nle c11_5)
        have q7 : rg (0) (3) a9_2_3 := (rg_lt (rg_nle c11_5) ra9_2_3 kc_4).1
        have uq7 : (0 : Int) ≤ a9_2_3.toInt ∧ a9_2_3.toInt ≤ 3 := q7
        have q8 : rg (0) (159) z4_0 := ⟨by omega, by omega⟩
        refine lv_iconst (v := 1) hx hb dX3_putCells_14 (by decide) ?_
        refine lv_istore_n (lv' := [(3, .int (1 : Int32)), (0, .ref (Z.ad 3 i0)), (1, .int a9_1_2), (2, .int a9_2_3)]) hx hb dX3_putCells_15 rfl hl (by decide) rfl (fun ls hl => ?_)
        refine lv_aload_n hx hb dX3_putCells_16 rfl (lv_at hl 1 rfl) ?_
        have al9 : Z.al 2 (2 * i0) := hz.2 2 (2 * i0) (show (2 * i0) < 4 * Z.n from (by omega))
        refine c_getr (a := Z.ad 2 (2 * i0)) x L4 3 i0 0 hal0 rfl rfl (wk_in kf_X3_12) dX3_putCells_17 ?_
        refine c_geti x L4 2 (2 * i0) 3 67 al9 rfl rfl (wk_in kf_X3_64) dX3_putCells_20 (fun v10 ev10 wv10 => ?_)
        have rv10 : rg (0) (40) v10 := clj_67 wv10
        have uv10 : (0 : Int) ≤ v10.toInt ∧ v10.toInt ≤ 40 := rv10
        have j103_13 : ∀ (a103_1_11 a103_3_12 : Int32) (g13 : mSt) (H13 : Heap) (k13 : List Loc) (ls : Array Slot), mFr [66, 67, 608] g4 g13 → cL G Z A H0 X g13 H13 k13 → cJ Z g13 → rg (-2147483648) (2147483647) a103_1_11 → rg (-2147483648) (2147483647) a103_3_12 → lv_has ls 4 [(0, .ref (Z.ad 3 i0)), (1, .int a103_1_11), (2, .int a9_2_3), (3, .int a103_3_12)] → W p l e rm_kputCells s m args below meth c H13 k13 0 0 Q (F0 m 103 ls []) := by
          intro a103_1_11 a103_3_12 g13 H13 k13 ls hF13 L13 hJ13 ra103_1_11 ra103_3_12 hl
          have ua103_1_11 : (-2147483648 : Int) ≤ a103_1_11.toInt ∧ a103_1_11.toInt ≤ 2147483647 := ra103_1_11
          have ua103_3_12 : (-2147483648 : Int) ≤ a103_3_12.toInt ∧ a103_3_12.toInt ≤ 2147483647 := ra103_3_12
          refine lv_aload_n hx hb dX3_putCells_103 rfl (lv_at hl 0 rfl) ?_
          refine lv_iload_n hx hb dX3_putCells_104 rfl (lv_at hl 3 rfl) ?_
          refine c_cv (As := [.int a103_3_12]) (rest := []) x hml L13 3 i0 hal0 rfl (c_kputHeader l X g13 i0 a103_3_12 hX (show i0 < 2 * Z.n from (by omega)) (rg_eqv (mm_fr ez4_0 hF13 rfl) (rg_w q8 rfl))) (wk_V kd_X3_putHeader kl_X3_77 ki_X3_putHeader ks_X3_X3_putHeader kn_X3) rfl ⟨rfl, rfl⟩ hd_kputHeader ⟨Nat.le_of_ble_eq_true rfl, Nat.le_of_ble_eq_true rfl⟩ rfl hl.1 rfl (lv_room (Nat.le_of_ble_eq_true rfl)) dX3_putCells_105 (fun  g14 H14 k14 hp14 L14 => ?_)
          refine lv_aload_n hx hb dX3_putCells_108 rfl (lv_at hl 0 rfl) ?_
          refine lv_dup hx hb dX3_putCells_109 rfl ?_
          refine c_geti x L14 3 i0 5 101 hal0 rfl rfl (wk_in kf_X3_61) dX3_putCells_110 (fun v15 ev15 wv15 => ?_)
          refine m_top (((mm_fr (mm_fr ez4_0 hF13 rfl) hp14.1 rfl)).trans ev15.symm) ?_
          refine lv_aload_n hx hb dX3_putCells_113 rfl (lv_at hl 0 rfl) ?_
          refine c_geti x L14 3 i0 10 106 hal0 rfl rfl (wk_in kf_X3_54) dX3_putCells_114 (fun v16 ev16 wv16 => ?_)
          have rv16 : rg (0) (8) v16 := clj_106 wv16
          have uv16 : (0 : Int) ≤ v16.toInt ∧ v16.toInt ≤ 8 := rv16
          have j129_18 : ∀ (b129_2_17 : Int32) (g18 : mSt) (H18 : Heap) (k18 : List Loc) (ls : Array Slot), mFr [106, 608, 640, 672, 704, 736] g14 g18 → cL G Z A H0 X g18 H18 k18 → cJ Z g18 → rg (0) (53) b129_2_17 → lv_has ls 4 [(0, .ref (Z.ad 3 i0)), (1, .int a103_1_11), (2, .int a9_2_3)] → W p l e rm_kputCells s m args below meth c H18 k18 0 0 Q (F0 m 129 ls [.int b129_2_17, .int z4_0, .ref (Z.ad 3 i0)]) := by
            intro b129_2_17 g18 H18 k18 ls hF18 L18 hJ18 rb129_2_17 hl
            have ub129_2_17 : (0 : Int) ≤ b129_2_17.toInt ∧ b129_2_17.toInt ≤ 53 := rb129_2_17
            refine lv_iadd hx hb dX3_putCells_129 ?_
            refine lv_topi (fun v19 ev19 => ?_)
            have rv19 : rg (0) (212) v19 := (rg_add ev19 q8 rb129_2_17 rfl).1
            have tv19 := (rg_add ev19 q8 rb129_2_17 rfl).2
            have uv19 : (0 : Int) ≤ v19.toInt ∧ v19.toInt ≤ 212 := rv19
            refine c_puti x L18 3 i0 5 101 hal0 rfl rfl ⟨rfl, by decide +kernel⟩ (wk_in kf_X3_61) dX3_putCells_130 (crj_101 (rg_w rv19 rfl)) (fun g20 H20 k20 eg20 L20 => ?_)
            refine lv_aload_n hx hb dX3_putCells_133 rfl (lv_at hl 0 rfl) ?_
            refine lv_dup hx hb dX3_putCells_134 rfl ?_
            refine c_geti x L20 3 i0 11 107 hal0 rfl rfl (wk_in kf_X3_58) dX3_putCells_135 (fun v21 ev21 wv21 => ?_)
            have rv21 : rg (-2147483648) (2147483647) v21 := rg_any v21
            have uv21 : (-2147483648 : Int) ≤ v21.toInt ∧ v21.toInt ≤ 2147483647 := rv21
            refine lv_iconst (v := 1) hx hb dX3_putCells_138 (by decide) ?_
            refine lv_iadd hx hb dX3_putCells_139 ?_
            refine lv_topi (fun v22 ev22 => ?_)
            have rv22 : rg (-2147483648) (2147483647) v22 := rg_any v22
            have uv22 : (-2147483648 : Int) ≤ v22.toInt ∧ v22.toInt ≤ 2147483647 := rv22
            refine c_puti x L20 3 i0 11 107 hal0 rfl rfl ⟨rfl, by decide +kernel⟩ (wk_in kf_X3_58) dX3_putCells_140 (rg_any v22) (fun g23 H23 k23 eg23 L23 => ?_)
            obtain ⟨v24, ev24, fv24⟩ := inc_ex a9_2_3 (1) (1 : Int32) (by decide)
            have rv24 : rg (1) (4) v24 := (rg_add ev24 q7 kc_1 rfl).1
            have tv24 := (rg_add ev24 q7 kc_1 rfl).2
            have yv24 : (1 : Int32).toInt = 1 := by decide
            refine lv_iinc (v := v24) (lv' := [(2, .int v24), (0, .ref (Z.ad 3 i0)), (1, .int a103_1_11)]) hx hb dX3_putCells_143 hl (k := 2) rfl fv24 (by decide) rfl (fun ls hl => ?_)
            refine lv_goto (tgt := 9) hx hb dX3_putCells_146 (by decide) ?_
            have y25 := congrArg Int32.toInt (mm_up (mm_st eg20) eg23 rfl)
            exact ih4 _ (ms_up tv24 kc_1 q7 rfl rfl) a103_1_11 v24 g23 _ _ ls (mFr.upE (mFr.upE (mFr.tr (mFr.tr (mFr.tr hF4 hF13 rfl) hp14.1 rfl) hF18 rfl) eg20 rfl) eg23 rfl) L23 (cJ_up (cJ_up hJ18 eg20 rfl) eg23 rfl) (rg_w ra103_1_11 rfl) (rg_w rv24 rfl) (rg_eqv (mm_up (mm_st eg20) eg23 rfl) (rg_w rv19 rfl)) (by omega) (lv_sub hl [1, 2, 0] rfl) rfl
          refine lv_if_le (tgt := 127) hx hb dX3_putCells_117 (by decide) (fun c117_26 => ?_) (fun c117_26 => ?_)
          · skip
            have ic117_26 := Int32.le_iff_toInt_le.mp c117_26
            have q27 : rg (0) (0) v16 := (rg_le c117_26 rv16 kc_0).1
            have uq27 : (0 : Int) ≤ v16.toInt ∧ v16.toInt ≤ 0 := q27
            refine lv_bipush (v := 53) hx hb dX3_putCells_127 (by decide) ?_
            have y28 : (53 : Int32).toInt = 53 := by decide
            exact j129_18 (53 : Int32) g14 _ _ ls mFr.rf L14 (cJ_fr hJ13 hp14.1 rfl) (rg_w kc_53 rfl) (lv_sub hl [0, 1, 2] rfl)
          · skip
            have ic117_26 := Int32.lt_iff_toInt_lt.mp (rg_nle c117_26)
            have q29 : rg (1) (8) v16 := (rg_lt (rg_nle c117_26) kc_0 rv16).2
            have uq29 : (1 : Int) ≤ v16.toInt ∧ v16.toInt ≤ 8 := q29
            refine lv_aload_n hx hb dX3_putCells_120 rfl (lv_at hl 0 rfl) ?_
            refine c_ci (As := []) (rest := [.int z4_0, .ref (Z.ad 3 i0)]) x hml L14 3 i0 hal0 rfl (c_kspoilCell l X g14 i0 hX (cJ_fr hJ13 hp14.1 rfl) (show i0 < 2 * Z.n from (by omega)) (rg_eqv (mm_fr (mm_fr ez4_0 hF13 rfl) hp14.1 rfl) (rg_w q8 rfl))) (wk_V kd_X3_spoilCell kl_X3_81 ki_X3_spoilCell ks_X3_X3_spoilCell kn_X3) rfl ⟨rfl, rfl⟩ hd_kspoilCell ⟨Nat.le_of_ble_eq_true rfl, Nat.le_of_ble_eq_true rfl⟩ rfl hl.1 rfl (lv_room (Nat.le_of_ble_eq_true rfl)) dX3_putCells_121 (fun v31 g30 H30 k30 hp30 L30 => ?_)
            have rv31 : rg (0) (53) v31 := hp30.2.1
            have uv31 : (0 : Int) ≤ v31.toInt ∧ v31.toInt ≤ 53 := rv31
            refine lv_goto (tgt := 129) hx hb dX3_putCells_124 (by decide) ?_
            exact j129_18 v31 g30 _ _ ls (mFr.tr mFr.rf hp30.1 rfl) L30 hp30.2.2.1 (rg_w rv31 rfl) (lv_sub hl [0, 1, 2] rfl)
        refine lv_if_le (tgt := 47) hx hb dX3_putCells_23 (by decide) (fun c23_32 => ?_) (fun c23_32 => ?_)
        · skip
          have ic23_32 := Int32.le_iff_toInt_le.mp c23_32
          have q33 : rg (0) (0) v10 := (rg_le c23_32 rv10 kc_0).1
          have uq33 : (0 : Int) ≤ v10.toInt ∧ v10.toInt ≤ 0 := q33
          refine lv_aload_n hx hb dX3_putCells_47 rfl (lv_at hl 1 rfl) ?_
          have al34 : Z.al 2 (2 * i0 + 1) := hz.2 2 (2 * i0 + 1) (show (2 * i0 + 1) < 4 * Z.n from (by omega))
          refine c_getr (a := Z.ad 2 (2 * i0 + 1)) x L4 3 i0 1 hal0 rfl rfl (wk_in kf_X3_18) dX3_putCells_48 ?_
          refine c_geti x L4 2 (2 * i0 + 1) 3 67 al34 rfl rfl (wk_in kf_X3_64) dX3_putCells_51 (fun v35 ev35 wv35 => ?_)
          have rv35 : rg (0) (40) v35 := clj_67 wv35
          have uv35 : (0 : Int) ≤ v35.toInt ∧ v35.toInt ≤ 40 := rv35
          refine lv_if_le (tgt := 78) hx hb dX3_putCells_54 (by decide) (fun c54_36 => ?_) (fun c54_36 => ?_)
          · skip
            have ic54_36 := Int32.le_iff_toInt_le.mp c54_36
            have q37 : rg (0) (0) v35 := (rg_le c54_36 rv35 kc_0).1
            have uq37 : (0 : Int) ≤ v35.toInt ∧ v35.toInt ≤ 0 := q37
            refine lv_aload_n hx hb dX3_putCells_78 rfl (lv_at hl 1 rfl) ?_
            have al38 : Z.al 19 i0 := hz.2 19 i0 (show i0 < 2 * Z.n from (by omega))
            refine c_getr (a := Z.ad 19 i0) x L4 3 i0 4 hal0 rfl rfl (wk_in kf_X3_35) dX3_putCells_79 ?_
            refine lv_aload_n hx hb dX3_putCells_82 rfl (lv_at hl 1 rfl) ?_
            refine c_geti x L4 3 i0 5 101 hal0 rfl rfl (wk_in kf_X3_61) dX3_putCells_83 (fun v39 ev39 wv39 => ?_)
            refine m_top ((ez4_0).trans ev39.symm) ?_
            refine lv_iconst (v := 5) hx hb dX3_putCells_86 (by decide) ?_
            refine lv_iadd hx hb dX3_putCells_87 ?_
            refine lv_topi (fun v40 ev40 => ?_)
            have rv40 : rg (5) (164) v40 := (rg_add ev40 q8 kc_5 rfl).1
            have tv40 := (rg_add ev40 q8 kc_5 rfl).2
            have y41 : (5 : Int32).toInt = 5 := by decide
            have uv40 : (5 : Int) ≤ v40.toInt ∧ v40.toInt ≤ 164 := rv40
            refine lv_aload_n hx hb dX3_putCells_88 rfl (lv_at hl 1 rfl) ?_
            refine c_geti x L4 3 i0 5 101 hal0 rfl rfl (wk_in kf_X3_61) dX3_putCells_89 (fun v42 ev42 wv42 => ?_)
            refine m_top ((ez4_0).trans ev42.symm) ?_
            refine lv_bipush (v := 53) hx hb dX3_putCells_92 (by decide) ?_
            refine lv_iadd hx hb dX3_putCells_94 ?_
            refine lv_topi (fun v43 ev43 => ?_)
            have rv43 : rg (53) (212) v43 := (rg_add ev43 q8 kc_53 rfl).1
            have tv43 := (rg_add ev43 q8 kc_53 rfl).2
            have y44 : (53 : Int32).toInt = 53 := by decide
            have uv43 : (53 : Int) ≤ v43.toInt ∧ v43.toInt ≤ 212 := rv43
            refine lv_bipush (v := 106) hx hb dX3_putCells_95 (by decide) ?_
            have y45 : (106 : Int32).toInt = 106 := by decide
            refine c_sv (As := [.ref (Z.ad 19 i0), .int v40, .int v43, .int (106 : Int32)]) (rest := []) x hml L4 (c_kfill_19 l X g4 i0 v40 v43 (106 : Int32) hX al38 (rg_w rv40 rfl) (rg_w rv43 rfl) (by omega)) (wk_T kt_J7_fill_fda19 kl_X3_71 kn_J7 (wk_all kd_J7_fill_fda19)) rfl ⟨rfl, rfl⟩ hd_kfill_19 ⟨Nat.le_of_ble_eq_true rfl, Nat.le_of_ble_eq_true rfl⟩ rfl hl.1 rfl (lv_room (Nat.le_of_ble_eq_true rfl)) dX3_putCells_97 (fun  g46 H46 k46 hp46 L46 => ?_)
            obtain ⟨v47, ev47, fv47⟩ := inc_ex a9_1_2 (1) (1 : Int32) (by decide)
            have rv47 := rg_any v47
            refine lv_iinc (v := v47) (lv' := [(1, .int v47), (3, .int (1 : Int32)), (0, .ref (Z.ad 3 i0)), (2, .int a9_2_3)]) hx hb dX3_putCells_100 hl (k := 2) rfl fv47 (by decide) rfl (fun ls hl => ?_)
            have y48 : (1 : Int32).toInt = 1 := by decide
            exact j103_13 v47 (1 : Int32) g46 _ _ ls (mFr.tr mFr.rf hp46.1 rfl) L46 (cJ_fr hJ4 hp46.1 rfl) (rg_w rv47 rfl) (rg_w kc_1 rfl) (lv_sub hl [2, 0, 3, 1] rfl)
          · skip
            have ic54_36 := Int32.lt_iff_toInt_lt.mp (rg_nle c54_36)
            have q49 : rg (1) (40) v35 := (rg_lt (rg_nle c54_36) kc_0 rv35).2
            have uq49 : (1 : Int) ≤ v35.toInt ∧ v35.toInt ≤ 40 := q49
            refine lv_aload_n hx hb dX3_putCells_57 rfl (lv_at hl 1 rfl) ?_
            refine c_getr (a := Z.ad 2 (2 * i0 + 1)) x L4 3 i0 1 hal0 rfl rfl (wk_in kf_X3_18) dX3_putCells_58 ?_
            refine lv_aload_n hx hb dX3_putCells_61 rfl (lv_at hl 1 rfl) ?_
            have al50 : Z.al 19 i0 := hz.2 19 i0 (show i0 < 2 * Z.n from (by omega))
            refine c_getr (a := Z.ad 19 i0) x L4 3 i0 4 hal0 rfl rfl (wk_in kf_X3_35) dX3_putCells_62 ?_
            refine lv_aload_n hx hb dX3_putCells_65 rfl (lv_at hl 1 rfl) ?_
            refine c_geti x L4 3 i0 5 101 hal0 rfl rfl (wk_in kf_X3_61) dX3_putCells_66 (fun v51 ev51 wv51 => ?_)
            refine m_top ((ez4_0).trans ev51.symm) ?_
            refine lv_iconst (v := 5) hx hb dX3_putCells_69 (by decide) ?_
            refine lv_iadd hx hb dX3_putCells_70 ?_
            refine lv_topi (fun v52 ev52 => ?_)
            have rv52 : rg (5) (164) v52 := (rg_add ev52 q8 kc_5 rfl).1
            have tv52 := (rg_add ev52 q8 kc_5 rfl).2
            have y53 : (5 : Int32).toInt = 5 := by decide
            have uv52 : (5 : Int) ≤ v52.toInt ∧ v52.toInt ≤ 164 := rv52
            refine c_ci (As := [.ref (Z.ad 19 i0), .int v52]) (rest := []) x hml L4 2 (2 * i0 + 1) al34 rfl (c_kqtake l X g4 (2 * i0 + 1) i0 v52 hX (show (2 * i0 + 1) < 4 * Z.n from (by omega)) al50 (rg_w rv52 rfl)) (wk_V kd_X2_takeFirst kl_X3_67 ki_X2_takeFirst ks_X2_X2_takeFirst kn_X2) rfl ⟨rfl, rfl⟩ hd_kqtake ⟨Nat.le_of_ble_eq_true rfl, Nat.le_of_ble_eq_true rfl⟩ rfl hl.1 rfl (lv_room (Nat.le_of_ble_eq_true rfl)) dX3_putCells_71 (fun v55 g54 H54 k54 hp54 L54 => ?_)
            have rv55 : rg (-2147483648) (2147483647) v55 := hp54.2.1
            have uv55 : (-2147483648 : Int) ≤ v55.toInt ∧ v55.toInt ≤ 2147483647 := rv55
            refine lv_istore_n (lv' := [(3, .int v55), (0, .ref (Z.ad 3 i0)), (1, .int a9_1_2), (2, .int a9_2_3)]) hx hb dX3_putCells_74 rfl hl (by decide) rfl (fun ls hl => ?_)
            refine lv_goto (tgt := 103) hx hb dX3_putCells_75 (by decide) ?_
            exact j103_13 a9_1_2 v55 g54 _ _ ls (mFr.tr mFr.rf hp54.1 rfl) L54 (cJ_fr hJ4 hp54.1 rfl) (rg_w ra9_1_2 rfl) (rg_w rv55 rfl) (lv_sub hl [1, 2, 3, 0] rfl)
        · skip
          have ic23_32 := Int32.lt_iff_toInt_lt.mp (rg_nle c23_32)
          have q56 : rg (1) (40) v10 := (rg_lt (rg_nle c23_32) kc_0 rv10).2
          have uq56 : (1 : Int) ≤ v10.toInt ∧ v10.toInt ≤ 40 := q56
          refine lv_aload_n hx hb dX3_putCells_26 rfl (lv_at hl 1 rfl) ?_
          refine c_getr (a := Z.ad 2 (2 * i0)) x L4 3 i0 0 hal0 rfl rfl (wk_in kf_X3_12) dX3_putCells_27 ?_
          refine lv_aload_n hx hb dX3_putCells_30 rfl (lv_at hl 1 rfl) ?_
          have al57 : Z.al 19 i0 := hz.2 19 i0 (show i0 < 2 * Z.n from (by omega))
          refine c_getr (a := Z.ad 19 i0) x L4 3 i0 4 hal0 rfl rfl (wk_in kf_X3_35) dX3_putCells_31 ?_
          refine lv_aload_n hx hb dX3_putCells_34 rfl (lv_at hl 1 rfl) ?_
          refine c_geti x L4 3 i0 5 101 hal0 rfl rfl (wk_in kf_X3_61) dX3_putCells_35 (fun v58 ev58 wv58 => ?_)
          refine m_top ((ez4_0).trans ev58.symm) ?_
          refine lv_iconst (v := 5) hx hb dX3_putCells_38 (by decide) ?_
          refine lv_iadd hx hb dX3_putCells_39 ?_
          refine lv_topi (fun v59 ev59 => ?_)
          have rv59 : rg (5) (164) v59 := (rg_add ev59 q8 kc_5 rfl).1
          have tv59 := (rg_add ev59 q8 kc_5 rfl).2
          have y60 : (5 : Int32).toInt = 5 := by decide
          have uv59 : (5 : Int) ≤ v59.toInt ∧ v59.toInt ≤ 164 := rv59
          refine c_ci (As := [.ref (Z.ad 19 i0), .int v59]) (rest := []) x hml L4 2 (2 * i0) al9 rfl (c_kqtake l X g4 (2 * i0) i0 v59 hX (show (2 * i0) < 4 * Z.n from (by omega)) al57 (rg_w rv59 rfl)) (wk_V kd_X2_takeFirst kl_X3_67 ki_X2_takeFirst ks_X2_X2_takeFirst kn_X2) rfl ⟨rfl, rfl⟩ hd_kqtake ⟨Nat.le_of_ble_eq_true rfl, Nat.le_of_ble_eq_true rfl⟩ rfl hl.1 rfl (lv_room (Nat.le_of_ble_eq_true rfl)) dX3_putCells_40 (fun v62 g61 H61 k61 hp61 L61 => ?_)
          have rv62 : rg (-2147483648) (2147483647) v62 := hp61.2.1
          have uv62 : (-2147483648 : Int) ≤ v62.toInt ∧ v62.toInt ≤ 2147483647 := rv62
          refine lv_istore_n (lv' := [(3, .int v62), (0, .ref (Z.ad 3 i0)), (1, .int a9_1_2), (2, .int a9_2_3)]) hx hb dX3_putCells_43 rfl hl (by decide) rfl (fun ls hl => ?_)
          refine lv_goto (tgt := 103) hx hb dX3_putCells_44 (by decide) ?_
          exact j103_13 a9_1_2 v62 g61 _ _ ls (mFr.tr mFr.rf hp61.1 rfl) L61 (cJ_fr hJ4 hp61.1 rfl) (rg_w ra9_1_2 rfl) (rg_w rv62 rfl) (lv_sub hl [1, 2, 3, 0] rfl)
  have y63 : (0 : Int32).toInt = 0 := by decide
  have y64 : (0 : Int32).toInt = 0 := by decide
  have y65 := congrArg Int32.toInt (mm_st eg1)
  exact j9_4 _ (0 : Int32) (0 : Int32) g1 _ _ ls mFr.rf L1 (cJ_up hJ eg1 rfl) (rg_w kc_0 rfl) (rg_w kc_0 rfl) (rg_eqv (mm_st eg1) (rg_w kc_0 rfl)) (by omega) (lv_sub hl [2, 1, 0] rfl) rfl
theorem c_kputCells (l : Launch) {G : cG} {Z : cZ} (X : Int) (g : mSt) (i0 : Nat) (hX : 0 ≤ X ∧ X ≤ 2000000000) (hJ : cJ Z g) (hi0 : i0 < 2 * Z.n) : Met l yX3_putCells (wk (Cond.code yX3_putCells cX3_putCells 4 (some .int))) rm_kputCells (va_Pc [.ref (Z.ad 3 i0)] (cPre G Z X g)) (cQi G Z X (fun r g1 => mFr [66, 67, 101, 106, 107, 608, 640, 672, 704, 736] g g1 ∧ rg (-2147483648) (2147483647) r ∧ cJ Z g1 ∧ True)) 0 0 (cAd Z) := by
  refine Met.ofW (cc := cX3_putCells) (maxL := 4) (ret := (some .int)) (by decide) rfl ?_
  intro p e s m args below meth c s₁ B hml hv
  obtain ⟨rfl, hv⟩ := hv
  have hr := B.returns
  have hlocks := B.notSynchronized
  obtain ⟨x, L⟩ := c_start B rfl (fun w h => wk_in h) hv
  have hl := lv_entry ([.ref (Z.ad 3 i0)]) (n := 4) (Nat.le_of_ble_eq_true rfl)
  rw [lg_entry_eq]
  generalize (lg_sl ([.ref (Z.ad 3 i0)]) ++ List.replicate (4 - (lg_sl ([.ref (Z.ad 3 i0)])).length) Slot.unset).toArray = ls at hl ⊢
  exact w_kputCells x hml L hX i0 hJ hi0 hl (fun pc' ls' r g1 H1 locs1 hdg L hp => c_iret x L hr hlocks (Int.le_refl _) hp hdg)

def rm_khunt : Room := { frames := 0, cells := 0, slots := 0, locals := 0 }
theorem hd_khunt : yX7_hunt.cls = cRn 7 ∧ yX7_hunt.cls ≠ "java/lang/invoke/MethodHandle" ∧ yX7_hunt.cls ≠ "java/lang/invoke/VarHandle" ∧ (parseMethodDescriptor yX7_hunt.desc).map (fun d => d.parameters.length) = some 0 := by decide +kernel
set_option maxHeartbeats 4000000 in
set_option maxRecDepth 100000 in
theorem w_khunt {p : Program} {l : Launch} {e : Env} {s : State} {m : MethodId} {args : Array Value} {below : List Frame} {meth : Method} {c : Code} {H : Heap} {locs : List Loc} {Q : State → Prop} {ls : Array Slot} {G : cG} {Z : cZ} {A : Nat → Prop} {g : mSt} {H0 : Heap} {X : Int} (x : cX p c cX7_hunt s args (wk (Cond.code yX7_hunt cX7_hunt 1 none)) m G Z A RX7 H0) (hml : c.maxLocals = 1) (L : cL G Z A H0 X g H locs) (hX : 0 ≤ X ∧ X ≤ 2000000000) (i0 : Nat) (hJ : cJ Z g) (hi0 : i0 < 2 * Z.n) (hl : lv_has ls 1 [(0, .ref (Z.ad 7 i0))]) (hQ : ∀ (pc' : Nat) (ls' : Array Slot) (g1 : mSt) (H1 : Heap) (locs1 : List Loc), decode cX7_hunt pc' = .ok (.return_, 1) → cL G Z A H0 X g1 H1 locs1 → (mFr [225, 226, 227, 233, 234] g g1 ∧ cJ Z g1 ∧ True) → W p l e rm_khunt s m args below meth c H1 locs1 0 0 Q (F0 m pc' ls' [])) : W p l e rm_khunt s m args below meth c H locs 0 0 Q (F0 m 0 ls []) := by
  have hx := x.1
  have hb := x.2.1
  have hz := x.2.2.2.2.2.2.2.1
  have hzn := hz.1
  have hal0 : Z.al 7 i0 := hz.2 7 i0 (show i0 < 2 * Z.n from hi0)
  refine lv_aload_n hx hb dX7_hunt_0 rfl (lv_at hl 0 rfl) ?_
  refine lv_iconst (v := 0) hx hb dX7_hunt_1 (by decide) ?_
  refine c_puti x L 7 i0 1 225 hal0 rfl rfl ⟨rfl, by decide +kernel⟩ (wk_in kf_X7_15) dX7_hunt_2 (crj_225 (rg_w kc_0 rfl)) (fun g1 H1 k1 eg1 L1 => ?_)
  have hJ2 := cJ_225 hJ eg1 (Or.inl (by decide))
  refine lv_aload_n hx hb dX7_hunt_5 rfl (lv_at hl 0 rfl) ?_
  refine lv_iconst (v := 0) hx hb dX7_hunt_6 (by decide) ?_
  refine c_puti x L1 7 i0 3 227 hal0 rfl rfl ⟨rfl, by decide +kernel⟩ (wk_in kf_X7_58) dX7_hunt_7 (rg_any (0 : Int32)) (fun g3 H3 k3 eg3 L3 => ?_)
  refine lv_aload_n hx hb dX7_hunt_10 rfl (lv_at hl 0 rfl) ?_
  refine lv_iconst (v := 0) hx hb dX7_hunt_11 (by decide) ?_
  refine c_puti x L3 7 i0 9 233 hal0 rfl rfl ⟨rfl, by decide +kernel⟩ (wk_in kf_X7_23) dX7_hunt_12 (rg_any (0 : Int32)) (fun g4 H4 k4 eg4 L4 => ?_)
  have hJ5 := cJ_233 (cJ_up hJ2 eg3 rfl) eg4 (fun _ => ⟨Int.le_trans (by decide) kc_0.1, Int.le_trans kc_0.2 (by decide)⟩)
  refine lv_aload_n hx hb dX7_hunt_15 rfl (lv_at hl 0 rfl) ?_
  refine lv_iconst (v := 0) hx hb dX7_hunt_16 (by decide) ?_
  refine c_putz x L4 7 i0 10 234 hal0 rfl rfl ⟨rfl, by decide +kernel⟩ (wk_in kf_X7_36) dX7_hunt_17 (rg_w kc_0 rfl) (crj_234 (rg_w kc_0 rfl)) (fun g6 H6 k6 eg6 L6 => ?_)
  refine lv_aload_n hx hb dX7_hunt_20 rfl (lv_at hl 0 rfl) ?_
  refine lv_iconst (v := 0) hx hb dX7_hunt_21 (by decide) ?_
  refine c_putz x L6 7 i0 2 226 hal0 rfl rfl ⟨rfl, by decide +kernel⟩ (wk_in kf_X7_71) dX7_hunt_22 (rg_w kc_0 rfl) (crj_226 (rg_w kc_0 rfl)) (fun g7 H7 k7 eg7 L7 => ?_)
  exact hQ _ _ _ _ _ dX7_hunt_25 L7 ⟨(mFr.upE (mFr.upE (mFr.upE (mFr.upE (mFr.upE mFr.rf eg1 rfl) eg3 rfl) eg4 rfl) eg6 rfl) eg7 rfl), (cJ_up (cJ_up hJ5 eg6 rfl) eg7 rfl), trivial⟩
theorem c_khunt (l : Launch) {G : cG} {Z : cZ} (X : Int) (g : mSt) (i0 : Nat) (hX : 0 ≤ X ∧ X ≤ 2000000000) (hJ : cJ Z g) (hi0 : i0 < 2 * Z.n) : Met l yX7_hunt (wk (Cond.code yX7_hunt cX7_hunt 1 none)) rm_khunt (va_Pc [.ref (Z.ad 7 i0)] (cPre G Z X g)) (cQv G Z X (fun g1 => mFr [225, 226, 227, 233, 234] g g1 ∧ cJ Z g1 ∧ True)) 0 0 (cAd Z) := by
  refine Met.ofW (cc := cX7_hunt) (maxL := 1) (ret := none) (by decide) rfl ?_
  intro p e s m args below meth c s₁ B hml hv
  obtain ⟨rfl, hv⟩ := hv
  have hr := B.returns
  have hlocks := B.notSynchronized
  obtain ⟨x, L⟩ := c_start B rfl (fun w h => wk_in h) hv
  have hl := lv_entry ([.ref (Z.ad 7 i0)]) (n := 1) (Nat.le_of_ble_eq_true rfl)
  rw [lg_entry_eq]
  generalize (lg_sl ([.ref (Z.ad 7 i0)]) ++ List.replicate (1 - (lg_sl ([.ref (Z.ad 7 i0)])).length) Slot.unset).toArray = ls at hl ⊢
  exact w_khunt x hml L hX i0 hJ hi0 hl (fun pc' ls' g1 H1 locs1 hdg L hp => c_vret x L hr hlocks (Int.le_refl _) hp hdg)

def rm_kpresync : Room := { frames := 1, cells := 0, slots := 0, locals := 20 }
theorem hd_kpresync : yX7_presyncHeader.cls = cRn 7 ∧ yX7_presyncHeader.cls ≠ "java/lang/invoke/MethodHandle" ∧ yX7_presyncHeader.cls ≠ "java/lang/invoke/VarHandle" ∧ (parseMethodDescriptor yX7_presyncHeader.desc).map (fun d => d.parameters.length) = some 1 := by decide +kernel
set_option maxHeartbeats 4000000 in
set_option maxRecDepth 100000 in
theorem w_kpresync {p : Program} {l : Launch} {e : Env} {s : State} {m : MethodId} {args : Array Value} {below : List Frame} {meth : Method} {c : Code} {H : Heap} {locs : List Loc} {Q : State → Prop} {ls : Array Slot} {G : cG} {Z : cZ} {A : Nat → Prop} {g : mSt} {H0 : Heap} {X : Int} (x : cX p c cX7_presyncHeader s args (wk (Cond.code yX7_presyncHeader cX7_presyncHeader 2 none)) m G Z A RX7 H0) (hml : c.maxLocals = 2) (L : cL G Z A H0 X g H locs) (hX : 0 ≤ X ∧ X ≤ 2000000000) (i0 : Nat) (p1 : Int32) (hJ : cJ Z g) (hi0 : i0 < 2 * Z.n) (rp1 : rg (0) (1) p1) (hpre0 : rg (1) (2) (g 225 i0)) (hl : lv_has ls 2 [(0, .ref (Z.ad 7 i0)), (1, .int p1)]) (hQ : ∀ (pc' : Nat) (ls' : Array Slot) (g1 : mSt) (H1 : Heap) (locs1 : List Loc), decode cX7_presyncHeader pc' = .ok (.return_, 1) → cL G Z A H0 X g1 H1 locs1 → (mFr [225, 226, 227, 233, 234] g g1 ∧ cJ Z g1 ∧ True) → W p l e rm_kpresync s m args below meth c H1 locs1 0 0 Q (F0 m pc' ls' [])) : W p l e rm_kpresync s m args below meth c H locs 0 0 Q (F0 m 0 ls []) := by
  have hx := x.1
  have hb := x.2.1
  have hz := x.2.2.2.2.2.2.2.1
  have hzn := hz.1
  have hal0 : Z.al 7 i0 := hz.2 7 i0 (show i0 < 2 * Z.n from hi0)
  obtain ⟨z0, ez0⟩ : ∃ y : Int32, y = g 225 i0 := ⟨_, rfl⟩
  have rz0 : rg (1) (2) z0 := rg_eqv ez0.symm hpre0
  refine lv_iload_n hx hb dX7_presyncHeader_0 rfl (lv_at hl 1 rfl) ?_
  refine lv_if_ne (tgt := 9) hx hb dX7_presyncHeader_1 (by decide) (fun c1_1 => ?_) (fun c1_1 => ?_)
  · skip
    have q2 : rg (1) (1) p1 := rg_neL c1_1 rp1 kc_0
    refine lv_aload_n hx hb dX7_presyncHeader_9 rfl (lv_at hl 0 rfl) ?_
    refine lv_dup hx hb dX7_presyncHeader_10 rfl ?_
    refine c_geti x L 7 i0 3 227 hal0 rfl rfl (wk_in kf_X7_58) dX7_presyncHeader_11 (fun v3 ev3 wv3 => ?_)
    have rv3 : rg (-2147483648) (2147483647) v3 := rg_any v3
    refine lv_iconst (v := 1) hx hb dX7_presyncHeader_14 (by decide) ?_
    refine lv_iadd hx hb dX7_presyncHeader_15 ?_
    refine lv_topi (fun v4 ev4 => ?_)
    have rv4 : rg (-2147483648) (2147483647) v4 := rg_any v4
    refine c_puti x L 7 i0 3 227 hal0 rfl rfl ⟨rfl, by decide +kernel⟩ (wk_in kf_X7_58) dX7_presyncHeader_16 (rg_any v4) (fun g5 H5 k5 eg5 L5 => ?_)
    refine lv_aload_n hx hb dX7_presyncHeader_19 rfl (lv_at hl 0 rfl) ?_
    refine c_geti x L5 7 i0 3 227 hal0 rfl rfl (wk_in kf_X7_58) dX7_presyncHeader_20 (fun v6 ev6 wv6 => ?_)
    refine m_top (((mm_st eg5)).trans ev6.symm) ?_
    refine lv_bipush (v := 6) hx hb dX7_presyncHeader_23 (by decide) ?_
    refine lv_icmp_lt (tgt := 48) hx hb dX7_presyncHeader_25 (by decide) (fun c25_7 => ?_) (fun c25_7 => ?_)
    · skip
      have q8 : rg (-2147483648) (5) v4 := (rg_lt c25_7 rv4 kc_6).1
      exact hQ _ _ _ _ _ dX7_presyncHeader_48 L5 ⟨(mFr.upE mFr.rf eg5 rfl), (cJ_up hJ eg5 rfl), trivial⟩
    · skip
      have q9 : rg (6) (2147483647) v4 := (rg_le (rg_nlt c25_7) kc_6 rv4).2
      refine lv_aload_n hx hb dX7_presyncHeader_28 rfl (lv_at hl 0 rfl) ?_
      refine lv_iconst (v := 2) hx hb dX7_presyncHeader_29 (by decide) ?_
      refine c_puti x L5 7 i0 1 225 hal0 rfl rfl ⟨rfl, by decide +kernel⟩ (wk_in kf_X7_15) dX7_presyncHeader_30 (crj_225 (rg_w kc_2 rfl)) (fun g10 H10 k10 eg10 L10 => ?_)
      have hJ11 := cJ_225 (cJ_up hJ eg5 rfl) eg10 (Or.inr (fun z => by rw [← (mm_up ez0 eg5 rfl)] at z; have h1 : (1 : Int) ≤ z0.toInt := rz0.1; omega))
      refine lv_aload_n hx hb dX7_presyncHeader_33 rfl (lv_at hl 0 rfl) ?_
      refine lv_iconst (v := 0) hx hb dX7_presyncHeader_34 (by decide) ?_
      refine c_puti x L10 7 i0 3 227 hal0 rfl rfl ⟨rfl, by decide +kernel⟩ (wk_in kf_X7_58) dX7_presyncHeader_35 (rg_any (0 : Int32)) (fun g12 H12 k12 eg12 L12 => ?_)
      refine lv_aload_n hx hb dX7_presyncHeader_38 rfl (lv_at hl 0 rfl) ?_
      refine lv_iconst (v := 0) hx hb dX7_presyncHeader_39 (by decide) ?_
      refine c_putz x L12 7 i0 2 226 hal0 rfl rfl ⟨rfl, by decide +kernel⟩ (wk_in kf_X7_71) dX7_presyncHeader_40 (rg_w kc_0 rfl) (crj_226 (rg_w kc_0 rfl)) (fun g13 H13 k13 eg13 L13 => ?_)
      refine lv_aload_n hx hb dX7_presyncHeader_43 rfl (lv_at hl 0 rfl) ?_
      refine lv_iconst (v := 1) hx hb dX7_presyncHeader_44 (by decide) ?_
      refine c_putz x L13 7 i0 10 234 hal0 rfl rfl ⟨rfl, by decide +kernel⟩ (wk_in kf_X7_36) dX7_presyncHeader_45 (rg_w kc_1 rfl) (crj_234 (rg_w kc_1 rfl)) (fun g14 H14 k14 eg14 L14 => ?_)
      exact hQ _ _ _ _ _ dX7_presyncHeader_48 L14 ⟨(mFr.upE (mFr.upE (mFr.upE (mFr.upE (mFr.upE mFr.rf eg5 rfl) eg10 rfl) eg12 rfl) eg13 rfl) eg14 rfl), (cJ_up (cJ_up (cJ_up hJ11 eg12 rfl) eg13 rfl) eg14 rfl), trivial⟩
  · skip
    have q15 : rg (0) (0) p1 := (rg_eq c1_1 rp1 kc_0).1
    refine lv_aload_n hx hb dX7_presyncHeader_4 rfl (lv_at hl 0 rfl) ?_
    refine c_cv (As := []) (rest := []) x hml L 7 i0 hal0 rfl (c_khunt l X g i0 hX hJ (show i0 < 2 * Z.n from (by omega))) (wk_V kd_X7_hunt kl_X7_68 ki_X7_hunt ks_X7_X7_hunt kn_X7) rfl ⟨rfl, rfl⟩ hd_khunt ⟨Nat.le_of_ble_eq_true rfl, Nat.le_of_ble_eq_true rfl⟩ rfl hl.1 rfl (lv_room (Nat.le_of_ble_eq_true rfl)) dX7_presyncHeader_5 (fun  g16 H16 k16 hp16 L16 => ?_)
    exact hQ _ _ _ _ _ dX7_presyncHeader_8 L16 ⟨(mFr.tr mFr.rf hp16.1 rfl), hp16.2.1, trivial⟩
theorem c_kpresync (l : Launch) {G : cG} {Z : cZ} (X : Int) (g : mSt) (i0 : Nat) (p1 : Int32) (hX : 0 ≤ X ∧ X ≤ 2000000000) (hJ : cJ Z g) (hi0 : i0 < 2 * Z.n) (rp1 : rg (0) (1) p1) (hpre0 : rg (1) (2) (g 225 i0)) : Met l yX7_presyncHeader (wk (Cond.code yX7_presyncHeader cX7_presyncHeader 2 none)) rm_kpresync (va_Pc [.ref (Z.ad 7 i0), .int p1] (cPre G Z X g)) (cQv G Z X (fun g1 => mFr [225, 226, 227, 233, 234] g g1 ∧ cJ Z g1 ∧ True)) 0 0 (cAd Z) := by
  refine Met.ofW (cc := cX7_presyncHeader) (maxL := 2) (ret := none) (by decide) rfl ?_
  intro p e s m args below meth c s₁ B hml hv
  obtain ⟨rfl, hv⟩ := hv
  have hr := B.returns
  have hlocks := B.notSynchronized
  obtain ⟨x, L⟩ := c_start B rfl (fun w h => wk_in h) hv
  have hl := lv_entry ([.ref (Z.ad 7 i0), .int p1]) (n := 2) (Nat.le_of_ble_eq_true rfl)
  rw [lg_entry_eq]
  generalize (lg_sl ([.ref (Z.ad 7 i0), .int p1]) ++ List.replicate (2 - (lg_sl ([.ref (Z.ad 7 i0), .int p1])).length) Slot.unset).toArray = ls at hl ⊢
  exact w_kpresync x hml L hX i0 p1 hJ hi0 rp1 hpre0 hl (fun pc' ls' g1 H1 locs1 hdg L hp => c_vret x L hr hlocks (Int.le_refl _) hp hdg)

def rm_ksyncHeader : Room := { frames := 2, cells := 0, slots := 0, locals := 45 }
theorem hd_ksyncHeader : yX7_syncHeader.cls = cRn 7 ∧ yX7_syncHeader.cls ≠ "java/lang/invoke/MethodHandle" ∧ yX7_syncHeader.cls ≠ "java/lang/invoke/VarHandle" ∧ (parseMethodDescriptor yX7_syncHeader.desc).map (fun d => d.parameters.length) = some 1 := by decide +kernel
set_option maxHeartbeats 4000000 in
set_option maxRecDepth 100000 in
theorem w_ksyncHeader {p : Program} {l : Launch} {e : Env} {s : State} {m : MethodId} {args : Array Value} {below : List Frame} {meth : Method} {c : Code} {H : Heap} {locs : List Loc} {Q : State → Prop} {ls : Array Slot} {G : cG} {Z : cZ} {A : Nat → Prop} {g : mSt} {H0 : Heap} {X : Int} (x : cX p c cX7_syncHeader s args (wk (Cond.code yX7_syncHeader cX7_syncHeader 3 none)) m G Z A RX7 H0) (hml : c.maxLocals = 3) (L : cL G Z A H0 X g H locs) (hX : 0 ≤ X ∧ X ≤ 2000000000) (i0 : Nat) (p1 : Int32) (hJ : cJ Z g) (hi0 : i0 < 2 * Z.n) (rp1 : rg (0) (1) p1) (hl : lv_has ls 3 [(0, .ref (Z.ad 7 i0)), (1, .int p1)]) (hQ : ∀ (pc' : Nat) (ls' : Array Slot) (g1 : mSt) (H1 : Heap) (locs1 : List Loc), decode cX7_syncHeader pc' = .ok (.return_, 1) → cL G Z A H0 X g1 H1 locs1 → (mFr [225, 226, 227, 229, 230, 231, 233, 234] g g1 ∧ cJ Z g1 ∧ True) → W p l e rm_ksyncHeader s m args below meth c H1 locs1 0 0 Q (F0 m pc' ls' [])) : W p l e rm_ksyncHeader s m args below meth c H locs 0 0 Q (F0 m 0 ls []) := by
  have hx := x.1
  have hb := x.2.1
  have hz := x.2.2.2.2.2.2.2.1
  have hzn := hz.1
  have hal0 : Z.al 7 i0 := hz.2 7 i0 (show i0 < 2 * Z.n from hi0)
  refine lv_aload_n hx hb dX7_syncHeader_0 rfl (lv_at hl 0 rfl) ?_
  refine lv_iload_n hx hb dX7_syncHeader_1 rfl (lv_at hl 1 rfl) ?_
  refine c_putz x L 7 i0 10 234 hal0 rfl rfl ⟨rfl, by decide +kernel⟩ (wk_in kf_X7_36) dX7_syncHeader_2 (rg_w rp1 rfl) (crj_234 (rg_w rp1 rfl)) (fun g1 H1 k1 eg1 L1 => ?_)
  refine lv_iload_n hx hb dX7_syncHeader_5 rfl (lv_at hl 1 rfl) ?_
  refine lv_if_eq (tgt := 20) hx hb dX7_syncHeader_6 (by decide) (fun c6_2 => ?_) (fun c6_2 => ?_)
  · skip
    have q3 : rg (0) (0) p1 := (rg_eq c6_2 rp1 kc_0).1
    refine lv_aload_n hx hb dX7_syncHeader_20 rfl (lv_at hl 0 rfl) ?_
    refine lv_dup hx hb dX7_syncHeader_21 rfl ?_
    refine c_geti x L1 7 i0 3 227 hal0 rfl rfl (wk_in kf_X7_58) dX7_syncHeader_22 (fun v4 ev4 wv4 => ?_)
    have rv4 : rg (-2147483648) (2147483647) v4 := rg_any v4
    refine lv_iconst (v := 1) hx hb dX7_syncHeader_25 (by decide) ?_
    refine lv_iadd hx hb dX7_syncHeader_26 ?_
    refine lv_topi (fun v5 ev5 => ?_)
    have rv5 : rg (-2147483648) (2147483647) v5 := rg_any v5
    refine c_puti x L1 7 i0 3 227 hal0 rfl rfl ⟨rfl, by decide +kernel⟩ (wk_in kf_X7_58) dX7_syncHeader_27 (rg_any v5) (fun g6 H6 k6 eg6 L6 => ?_)
    refine lv_aload_n hx hb dX7_syncHeader_30 rfl (lv_at hl 0 rfl) ?_
    refine c_geti x L6 7 i0 3 227 hal0 rfl rfl (wk_in kf_X7_58) dX7_syncHeader_31 (fun v7 ev7 wv7 => ?_)
    refine m_top (((mm_st eg6)).trans ev7.symm) ?_
    refine lv_bipush (v := 7) hx hb dX7_syncHeader_34 (by decide) ?_
    refine lv_icmp_lt (tgt := 44) hx hb dX7_syncHeader_36 (by decide) (fun c36_8 => ?_) (fun c36_8 => ?_)
    · skip
      have q9 : rg (-2147483648) (6) v5 := (rg_lt c36_8 rv5 kc_7).1
      refine lv_aload_n hx hb dX7_syncHeader_44 rfl (lv_at hl 0 rfl) ?_
      refine c_geti x L6 7 i0 2 226 hal0 rfl rfl (wk_in kf_X7_71) dX7_syncHeader_45 (fun v10 ev10 wv10 => ?_)
      have rv10 : rg (0) (1) v10 := clj_226 wv10
      have j66_12 : ∀ (b66_0_11 : Int32) (g12 : mSt) (H12 : Heap) (k12 : List Loc) (ls : Array Slot), mFr [] g6 g12 → cL G Z A H0 X g12 H12 k12 → cJ Z g12 → rg (-2147483648) (2147483647) b66_0_11 → lv_has ls 3 [(0, .ref (Z.ad 7 i0))] → W p l e rm_ksyncHeader s m args below meth c H12 k12 0 0 Q (F0 m 66 ls [.int b66_0_11]) := by
        intro b66_0_11 g12 H12 k12 ls hF12 L12 hJ12 rb66_0_11 hl
        refine lv_istore_n (lv' := [(2, .int b66_0_11), (0, .ref (Z.ad 7 i0))]) hx hb dX7_syncHeader_66 rfl hl (by decide) rfl (fun ls hl => ?_)
        refine lv_aload_n hx hb dX7_syncHeader_67 rfl (lv_at hl 1 rfl) ?_
        refine lv_iconst (v := 1) hx hb dX7_syncHeader_68 (by decide) ?_
        refine c_putz x L12 7 i0 2 226 hal0 rfl rfl ⟨rfl, by decide +kernel⟩ (wk_in kf_X7_71) dX7_syncHeader_69 (rg_w kc_1 rfl) (crj_226 (rg_w kc_1 rfl)) (fun g13 H13 k13 eg13 L13 => ?_)
        refine lv_iload_n hx hb dX7_syncHeader_72 rfl (lv_at hl 0 rfl) ?_
        refine lv_if_ge (tgt := 87) hx hb dX7_syncHeader_73 (by decide) (fun c73_14 => ?_) (fun c73_14 => ?_)
        · skip
          have q15 : rg (0) (2147483647) b66_0_11 := (rg_le c73_14 kc_0 rb66_0_11).2
          refine lv_aload_n hx hb dX7_syncHeader_87 rfl (lv_at hl 1 rfl) ?_
          refine lv_iconst (v := 1) hx hb dX7_syncHeader_88 (by decide) ?_
          refine c_putz x L13 7 i0 10 234 hal0 rfl rfl ⟨rfl, by decide +kernel⟩ (wk_in kf_X7_36) dX7_syncHeader_89 (rg_w kc_1 rfl) (crj_234 (rg_w kc_1 rfl)) (fun g16 H16 k16 eg16 L16 => ?_)
          refine lv_aload_n hx hb dX7_syncHeader_92 rfl (lv_at hl 1 rfl) ?_
          refine lv_dup hx hb dX7_syncHeader_93 rfl ?_
          refine c_geti x L16 7 i0 6 230 hal0 rfl rfl (wk_in kf_X7_80) dX7_syncHeader_94 (fun v17 ev17 wv17 => ?_)
          have rv17 : rg (-2147483648) (2147483647) v17 := rg_any v17
          refine lv_iconst (v := 1) hx hb dX7_syncHeader_97 (by decide) ?_
          refine lv_iadd hx hb dX7_syncHeader_98 ?_
          refine lv_topi (fun v18 ev18 => ?_)
          have rv18 : rg (-2147483648) (2147483647) v18 := rg_any v18
          refine c_puti x L16 7 i0 6 230 hal0 rfl rfl ⟨rfl, by decide +kernel⟩ (wk_in kf_X7_80) dX7_syncHeader_99 (rg_any v18) (fun g19 H19 k19 eg19 L19 => ?_)
          refine lv_aload_n hx hb dX7_syncHeader_102 rfl (lv_at hl 1 rfl) ?_
          refine lv_dup hx hb dX7_syncHeader_103 rfl ?_
          refine c_geti x L19 7 i0 7 231 hal0 rfl rfl (wk_in kf_X7_48) dX7_syncHeader_104 (fun v20 ev20 wv20 => ?_)
          have rv20 : rg (-2147483648) (2147483647) v20 := rg_any v20
          refine lv_iload_n hx hb dX7_syncHeader_107 rfl (lv_at hl 0 rfl) ?_
          refine lv_bipush (v := 32) hx hb dX7_syncHeader_108 (by decide) ?_
          have j123_22 : ∀ (b123_2_21 : Int32) (g22 : mSt) (H22 : Heap) (k22 : List Loc) (ls : Array Slot), mFr [] g19 g22 → cL G Z A H0 X g22 H22 k22 → cJ Z g22 → rg (-2147483648) (2147483647) b123_2_21 → lv_has ls 3 [(0, .ref (Z.ad 7 i0))] → W p l e rm_ksyncHeader s m args below meth c H22 k22 0 0 Q (F0 m 123 ls [.int b123_2_21, .int v20, .ref (Z.ad 7 i0)]) := by
            intro b123_2_21 g22 H22 k22 ls hF22 L22 hJ22 rb123_2_21 hl
            refine lv_ixor hx hb dX7_syncHeader_123 ?_
            refine lv_topi (fun v23 ev23 => ?_)
            have rv23 : rg (-2147483648) (2147483647) v23 := rg_any v23
            refine c_puti x L22 7 i0 7 231 hal0 rfl rfl ⟨rfl, by decide +kernel⟩ (wk_in kf_X7_48) dX7_syncHeader_124 (rg_any v23) (fun g24 H24 k24 eg24 L24 => ?_)
            exact hQ _ _ _ _ _ dX7_syncHeader_127 L24 ⟨(mFr.upE (mFr.tr (mFr.upE (mFr.upE (mFr.upE (mFr.tr (mFr.upE (mFr.upE mFr.rf eg1 rfl) eg6 rfl) hF12 rfl) eg13 rfl) eg16 rfl) eg19 rfl) hF22 rfl) eg24 rfl), (cJ_up hJ22 eg24 rfl), trivial⟩
          refine lv_icmp_ge (tgt := 122) hx hb dX7_syncHeader_110 (by decide) (fun c110_25 => ?_) (fun c110_25 => ?_)
          · skip
            have q26 : rg (32) (2147483647) b66_0_11 := (rg_le c110_25 kc_32 q15).2
            refine lv_iconst (v := 0) hx hb dX7_syncHeader_122 (by decide) ?_
            exact j123_22 (0 : Int32) g19 _ _ ls mFr.rf L19 (cJ_up (cJ_up (cJ_up hJ12 eg13 rfl) eg16 rfl) eg19 rfl) (rg_w kc_0 rfl) (lv_sub hl [1] rfl)
          · skip
            have q27 : rg (0) (31) b66_0_11 := (rg_lt (rg_nle c110_25) q15 kc_32).1
            refine lv_iconst (v := 1) hx hb dX7_syncHeader_113 (by decide) ?_
            refine lv_bipush (v := 31) hx hb dX7_syncHeader_114 (by decide) ?_
            refine lv_iload_n hx hb dX7_syncHeader_116 rfl (lv_at hl 0 rfl) ?_
            refine lv_isub hx hb dX7_syncHeader_117 ?_
            refine lv_topi (fun v28 ev28 => ?_)
            have rv28 : rg (0) (31) v28 := (rg_sub ev28 kc_31 q27 rfl).1
            refine lv_ishl hx hb dX7_syncHeader_118 ?_
            refine lv_topi (fun v29 ev29 => ?_)
            have rv29 : rg (-2147483648) (2147483647) v29 := rg_any v29
            refine lv_goto (tgt := 123) hx hb dX7_syncHeader_119 (by decide) ?_
            exact j123_22 v29 g19 _ _ ls mFr.rf L19 (cJ_up (cJ_up (cJ_up hJ12 eg13 rfl) eg16 rfl) eg19 rfl) (rg_w rv29 rfl) (lv_sub hl [1] rfl)
        · skip
          have q30 : rg (-2147483648) (-1) b66_0_11 := (rg_lt (rg_nle c73_14) rb66_0_11 kc_0).1
          refine lv_aload_n hx hb dX7_syncHeader_76 rfl (lv_at hl 1 rfl) ?_
          refine lv_dup hx hb dX7_syncHeader_77 rfl ?_
          refine c_geti x L13 7 i0 5 229 hal0 rfl rfl (wk_in kf_X7_77) dX7_syncHeader_78 (fun v31 ev31 wv31 => ?_)
          have rv31 : rg (-2147483648) (2147483647) v31 := rg_any v31
          refine lv_iconst (v := 1) hx hb dX7_syncHeader_81 (by decide) ?_
          refine lv_iadd hx hb dX7_syncHeader_82 ?_
          refine lv_topi (fun v32 ev32 => ?_)
          have rv32 : rg (-2147483648) (2147483647) v32 := rg_any v32
          refine c_puti x L13 7 i0 5 229 hal0 rfl rfl ⟨rfl, by decide +kernel⟩ (wk_in kf_X7_77) dX7_syncHeader_83 (rg_any v32) (fun g33 H33 k33 eg33 L33 => ?_)
          exact hQ _ _ _ _ _ dX7_syncHeader_86 L33 ⟨(mFr.upE (mFr.upE (mFr.tr (mFr.upE (mFr.upE mFr.rf eg1 rfl) eg6 rfl) hF12 rfl) eg13 rfl) eg33 rfl), (cJ_up (cJ_up hJ12 eg13 rfl) eg33 rfl), trivial⟩
      refine lv_if_eq (tgt := 55) hx hb dX7_syncHeader_48 (by decide) (fun c48_34 => ?_) (fun c48_34 => ?_)
      · skip
        have q35 : rg (0) (0) v10 := (rg_eq c48_34 rv10 kc_0).1
        refine lv_aload_n hx hb dX7_syncHeader_55 rfl (lv_at hl 0 rfl) ?_
        refine c_geti x L6 7 i0 7 231 hal0 rfl rfl (wk_in kf_X7_48) dX7_syncHeader_56 (fun v36 ev36 wv36 => ?_)
        have rv36 : rg (-2147483648) (2147483647) v36 := rg_any v36
        refine lv_aload_n hx hb dX7_syncHeader_59 rfl (lv_at hl 0 rfl) ?_
        refine c_geti x L6 7 i0 8 232 hal0 rfl rfl (wk_in kf_X7_51) dX7_syncHeader_60 (fun v37 ev37 wv37 => ?_)
        have rv37 : rg (-2147483648) (2147483647) v37 := rg_any v37
        refine pf_call (va_runSN (As := [.int v36, .int v37]) (rest := []) ⟨hx, hb, hml, x.2.2.2.2.1, x.2.2.1⟩ (c_wb l v36 v37) ⟨va_cnB 2 x.2.2.1 (goodC us_X11_wrongBit) rfl rfl rfl (x.2.2.2.2.2.2.2.2.2.1.1 _ (List.mem_of_getElem? (i := 14) rfl)) (x.2.2.1 _ (wk_in kn_X11)) (by decide +kernel) ⟨Nat.le_of_ble_eq_true rfl, Nat.le_of_ble_eq_true rfl⟩, x.2.2.1 _ (wk_in kt_X11_wrongBit), trivial⟩ ⟨hc_blind, fun U hU hW => ⟨rfl, hc_at x L6 hU hW⟩⟩ rfl rfl hl.1 rfl (lv_room (Nat.le_of_ble_eq_true rfl)) dX7_syncHeader_63 ⟨Nat.zero_le _, Nat.zero_le _⟩) ?_
        refine lv_topi (fun v38 ev38 => ?_)
        have rv38 : rg (-2147483648) (2147483647) v38 := rg_any v38
        exact j66_12 v38 g6 _ _ ls mFr.rf L6 (cJ_up (cJ_up hJ eg1 rfl) eg6 rfl) (rg_w rv38 rfl) (lv_sub hl [0] rfl)
      · skip
        have q39 : rg (1) (1) v10 := rg_neL c48_34 rv10 kc_0
        refine lv_iconst (v := (-1)) hx hb dX7_syncHeader_51 (by decide) ?_
        refine lv_goto (tgt := 66) hx hb dX7_syncHeader_52 (by decide) ?_
        exact j66_12 (-1 : Int32) g6 _ _ ls mFr.rf L6 (cJ_up (cJ_up hJ eg1 rfl) eg6 rfl) (rg_w kc_m1 rfl) (lv_sub hl [0] rfl)
    · skip
      have q40 : rg (7) (2147483647) v5 := (rg_le (rg_nlt c36_8) kc_7 rv5).2
      refine lv_aload_n hx hb dX7_syncHeader_39 rfl (lv_at hl 0 rfl) ?_
      refine c_cv (As := []) (rest := []) x hml L6 7 i0 hal0 rfl (c_khunt l X g6 i0 hX (cJ_up (cJ_up hJ eg1 rfl) eg6 rfl) (show i0 < 2 * Z.n from (by omega))) (wk_V kd_X7_hunt kl_X7_68 ki_X7_hunt ks_X7_X7_hunt kn_X7) rfl ⟨rfl, rfl⟩ hd_khunt ⟨Nat.le_of_ble_eq_true rfl, Nat.le_of_ble_eq_true rfl⟩ rfl hl.1 rfl (lv_room (Nat.le_of_ble_eq_true rfl)) dX7_syncHeader_40 (fun  g41 H41 k41 hp41 L41 => ?_)
      exact hQ _ _ _ _ _ dX7_syncHeader_43 L41 ⟨(mFr.tr (mFr.upE (mFr.upE mFr.rf eg1 rfl) eg6 rfl) hp41.1 rfl), hp41.2.1, trivial⟩
  · skip
    have q42 : rg (1) (1) p1 := rg_neL c6_2 rp1 kc_0
    refine lv_aload_n hx hb dX7_syncHeader_9 rfl (lv_at hl 0 rfl) ?_
    refine lv_iconst (v := 0) hx hb dX7_syncHeader_10 (by decide) ?_
    refine c_puti x L1 7 i0 3 227 hal0 rfl rfl ⟨rfl, by decide +kernel⟩ (wk_in kf_X7_58) dX7_syncHeader_11 (rg_any (0 : Int32)) (fun g43 H43 k43 eg43 L43 => ?_)
    refine lv_aload_n hx hb dX7_syncHeader_14 rfl (lv_at hl 0 rfl) ?_
    refine lv_iconst (v := 0) hx hb dX7_syncHeader_15 (by decide) ?_
    refine c_putz x L43 7 i0 2 226 hal0 rfl rfl ⟨rfl, by decide +kernel⟩ (wk_in kf_X7_71) dX7_syncHeader_16 (rg_w kc_0 rfl) (crj_226 (rg_w kc_0 rfl)) (fun g44 H44 k44 eg44 L44 => ?_)
    exact hQ _ _ _ _ _ dX7_syncHeader_19 L44 ⟨(mFr.upE (mFr.upE (mFr.upE mFr.rf eg1 rfl) eg43 rfl) eg44 rfl), (cJ_up (cJ_up (cJ_up hJ eg1 rfl) eg43 rfl) eg44 rfl), trivial⟩
theorem c_ksyncHeader (l : Launch) {G : cG} {Z : cZ} (X : Int) (g : mSt) (i0 : Nat) (p1 : Int32) (hX : 0 ≤ X ∧ X ≤ 2000000000) (hJ : cJ Z g) (hi0 : i0 < 2 * Z.n) (rp1 : rg (0) (1) p1) : Met l yX7_syncHeader (wk (Cond.code yX7_syncHeader cX7_syncHeader 3 none)) rm_ksyncHeader (va_Pc [.ref (Z.ad 7 i0), .int p1] (cPre G Z X g)) (cQv G Z X (fun g1 => mFr [225, 226, 227, 229, 230, 231, 233, 234] g g1 ∧ cJ Z g1 ∧ True)) 0 0 (cAd Z) := by
  refine Met.ofW (cc := cX7_syncHeader) (maxL := 3) (ret := none) (by decide) rfl ?_
  intro p e s m args below meth c s₁ B hml hv
  obtain ⟨rfl, hv⟩ := hv
  have hr := B.returns
  have hlocks := B.notSynchronized
  obtain ⟨x, L⟩ := c_start B rfl (fun w h => wk_in h) hv
  have hl := lv_entry ([.ref (Z.ad 7 i0), .int p1]) (n := 3) (Nat.le_of_ble_eq_true rfl)
  rw [lg_entry_eq]
  generalize (lg_sl ([.ref (Z.ad 7 i0), .int p1]) ++ List.replicate (3 - (lg_sl ([.ref (Z.ad 7 i0), .int p1])).length) Slot.unset).toArray = ls at hl ⊢
  exact w_ksyncHeader x hml L hX i0 p1 hJ hi0 rp1 hl (fun pc' ls' g1 H1 locs1 hdg L hp => c_vret x L hr hlocks (Int.le_refl _) hp hdg)

def rm_kheaderOctet : Room := { frames := 3, cells := 0, slots := 0, locals := 67 }
theorem hd_kheaderOctet : yX7_headerOctet.cls = cRn 7 ∧ yX7_headerOctet.cls ≠ "java/lang/invoke/MethodHandle" ∧ yX7_headerOctet.cls ≠ "java/lang/invoke/VarHandle" ∧ (parseMethodDescriptor yX7_headerOctet.desc).map (fun d => d.parameters.length) = some 1 := by decide +kernel
set_option maxHeartbeats 4000000 in
set_option maxRecDepth 100000 in
theorem w_kheaderOctet {p : Program} {l : Launch} {e : Env} {s : State} {m : MethodId} {args : Array Value} {below : List Frame} {meth : Method} {c : Code} {H : Heap} {locs : List Loc} {Q : State → Prop} {ls : Array Slot} {G : cG} {Z : cZ} {A : Nat → Prop} {g : mSt} {H0 : Heap} {X : Int} (x : cX p c cX7_headerOctet s args (wk (Cond.code yX7_headerOctet cX7_headerOctet 3 none)) m G Z A RX7 H0) (hml : c.maxLocals = 3) (L : cL G Z A H0 X g H locs) (hX : 0 ≤ X ∧ X ≤ 2000000000) (i0 : Nat) (p1 : Int32) (hJ : cJ Z g) (hi0 : i0 < 2 * Z.n) (hpl : (g 225 i0).toInt ≠ 0 → 0 ≤ (g 233 i0).toInt ∧ (g 233 i0).toInt ≤ 4) (hl : lv_has ls 3 [(0, .ref (Z.ad 7 i0)), (1, .int p1)]) (hQ : ∀ (pc' : Nat) (ls' : Array Slot) (g1 : mSt) (H1 : Heap) (locs1 : List Loc), decode cX7_headerOctet pc' = .ok (.return_, 1) → cL G Z A H0 X g1 H1 locs1 → (mFr [225, 226, 227, 229, 230, 231, 232, 233, 234] g g1 ∧ cJ Z g1 ∧ True) → W p l e rm_kheaderOctet s m args below meth c H1 locs1 0 0 Q (F0 m pc' ls' [])) : W p l e rm_kheaderOctet s m args below meth c H locs 0 0 Q (F0 m 0 ls []) := by
  have hx := x.1
  have hb := x.2.1
  have hz := x.2.2.2.2.2.2.2.1
  have hzn := hz.1
  have hal0 : Z.al 7 i0 := hz.2 7 i0 (show i0 < 2 * Z.n from hi0)
  have up1 : (-2147483648 : Int) ≤ p1.toInt ∧ p1.toInt ≤ 2147483647 := (rg_any p1)
  refine lv_aload_n hx hb dX7_headerOctet_0 rfl (lv_at hl 0 rfl) ?_
  refine lv_aload_n hx hb dX7_headerOctet_1 rfl (lv_at hl 0 rfl) ?_
  refine c_geti x L 7 i0 7 231 hal0 rfl rfl (wk_in kf_X7_48) dX7_headerOctet_2 (fun v1 ev1 wv1 => ?_)
  have rv1 : rg (-2147483648) (2147483647) v1 := rg_any v1
  have uv1 : (-2147483648 : Int) ≤ v1.toInt ∧ v1.toInt ≤ 2147483647 := rv1
  have sv1 := congrArg Int32.toInt ev1
  refine lv_bipush (v := 8) hx hb dX7_headerOctet_5 (by decide) ?_
  refine lv_ishl hx hb dX7_headerOctet_7 ?_
  refine lv_topi (fun v2 ev2 => ?_)
  have rv2 : rg (-2147483648) (2147483647) v2 := rg_any v2
  have uv2 : (-2147483648 : Int) ≤ v2.toInt ∧ v2.toInt ≤ 2147483647 := rv2
  refine lv_aload_n hx hb dX7_headerOctet_8 rfl (lv_at hl 0 rfl) ?_
  refine c_geti x L 7 i0 8 232 hal0 rfl rfl (wk_in kf_X7_51) dX7_headerOctet_9 (fun v3 ev3 wv3 => ?_)
  have rv3 : rg (-2147483648) (2147483647) v3 := rg_any v3
  have uv3 : (-2147483648 : Int) ≤ v3.toInt ∧ v3.toInt ≤ 2147483647 := rv3
  have sv3 := congrArg Int32.toInt ev3
  refine lv_ior hx hb dX7_headerOctet_12 ?_
  refine lv_topi (fun v4 ev4 => ?_)
  have rv4 : rg (-2147483648) (2147483647) v4 := rg_any v4
  have uv4 : (-2147483648 : Int) ≤ v4.toInt ∧ v4.toInt ≤ 2147483647 := rv4
  refine c_puti x L 7 i0 7 231 hal0 rfl rfl ⟨rfl, by decide +kernel⟩ (wk_in kf_X7_48) dX7_headerOctet_13 (rg_any v4) (fun g5 H5 k5 eg5 L5 => ?_)
  refine lv_aload_n hx hb dX7_headerOctet_16 rfl (lv_at hl 0 rfl) ?_
  refine lv_iload_n hx hb dX7_headerOctet_17 rfl (lv_at hl 1 rfl) ?_
  refine c_puti x L5 7 i0 8 232 hal0 rfl rfl ⟨rfl, by decide +kernel⟩ (wk_in kf_X7_51) dX7_headerOctet_18 (rg_any p1) (fun g6 H6 k6 eg6 L6 => ?_)
  refine lv_aload_n hx hb dX7_headerOctet_21 rfl (lv_at hl 0 rfl) ?_
  refine lv_dup hx hb dX7_headerOctet_22 rfl ?_
  refine c_geti x L6 7 i0 9 233 hal0 rfl rfl (wk_in kf_X7_23) dX7_headerOctet_23 (fun v7 ev7 wv7 => ?_)
  have rv7 : rg (-2147483648) (2147483647) v7 := rg_any v7
  have uv7 : (-2147483648 : Int) ≤ v7.toInt ∧ v7.toInt ≤ 2147483647 := rv7
  refine lv_iconst (v := 1) hx hb dX7_headerOctet_26 (by decide) ?_
  refine lv_iadd hx hb dX7_headerOctet_27 ?_
  refine lv_topi (fun v8 ev8 => ?_)
  have rv8 : rg (-2147483648) (2147483647) v8 := rg_any v8
  have uv8 : (-2147483648 : Int) ≤ v8.toInt ∧ v8.toInt ≤ 2147483647 := rv8
  refine c_puti x L6 7 i0 9 233 hal0 rfl rfl ⟨rfl, by decide +kernel⟩ (wk_in kf_X7_23) dX7_headerOctet_28 (rg_any v8) (fun g9 H9 k9 eg9 L9 => ?_)
  have hJ10 := cJ_233 (cJ_up (cJ_up hJ eg5 rfl) eg6 rfl) eg9 (fun hz => by have h1 := hpl (fun z => hz (by rw [congrFun ((show mFr [226, 227, 229, 230, 231, 232, 234] g g6 from (mFr.upE (mFr.upE mFr.rf eg5 rfl) eg6 rfl)).at 225 rfl) i0]; exact z)); have h2 : v7.toInt = (g 233 i0).toInt := congrArg Int32.toInt ((ev7).trans (congrFun ((show mFr [226, 227, 229, 230, 231, 232, 234] g g6 from (mFr.upE (mFr.upE mFr.rf eg5 rfl) eg6 rfl)).at 233 rfl) i0)); have k1 : (1 : Int32).toInt = 1 := (by decide); have h3 := ti_add (x := v7) (y := 1) (by omega) (by omega); rw [← ev8] at h3; exact ⟨by omega, by omega⟩)
  refine lv_aload_n hx hb dX7_headerOctet_31 rfl (lv_at hl 0 rfl) ?_
  refine c_geti x L9 7 i0 9 233 hal0 rfl rfl (wk_in kf_X7_23) dX7_headerOctet_32 (fun v11 ev11 wv11 => ?_)
  refine m_top (((mm_st eg9)).trans ev11.symm) ?_
  refine lv_iconst (v := 5) hx hb dX7_headerOctet_35 (by decide) ?_
  refine lv_icmp_ge (tgt := 40) hx hb dX7_headerOctet_36 (by decide) (fun c36_12 => ?_) (fun c36_12 => ?_)
  · skip
    have ic36_12 := Int32.le_iff_toInt_le.mp c36_12
    have q13 : rg (5) (2147483647) v8 := (rg_le c36_12 kc_5 rv8).2
    have uq13 : (5 : Int) ≤ v8.toInt ∧ v8.toInt ≤ 2147483647 := q13
    refine lv_aload_n hx hb dX7_headerOctet_40 rfl (lv_at hl 0 rfl) ?_
    refine c_geti x L9 7 i0 7 231 hal0 rfl rfl (wk_in kf_X7_48) dX7_headerOctet_41 (fun v14 ev14 wv14 => ?_)
    refine m_top (((mm_up (mm_up (mm_st eg5) eg6 rfl) eg9 rfl)).trans ev14.symm) ?_
    refine pf_call (va_runSN (As := [.int v4]) (rest := []) ⟨hx, hb, hml, x.2.2.2.2.1, x.2.2.1⟩ (c_hc l v4) ⟨va_cnB 1 x.2.2.1 (goodC us_X11_hecOf) rfl rfl rfl (x.2.2.2.2.2.2.2.2.2.1.1 _ (List.mem_of_getElem? (i := 13) rfl)) (x.2.2.1 _ (wk_in kn_X11)) (by decide +kernel) ⟨Nat.le_of_ble_eq_true rfl, Nat.le_of_ble_eq_true rfl⟩, x.2.2.1 _ (wk_in kt_X11_hecOf), trivial⟩ ⟨hc_blind, fun U hU hW => ⟨rfl, hc_at x L9 hU hW⟩⟩ rfl rfl hl.1 rfl (lv_room (Nat.le_of_ble_eq_true rfl)) dX7_headerOctet_44 ⟨Nat.zero_le _, Nat.zero_le _⟩) ?_
    refine lv_topi (fun v15 ev15 => ?_)
    have rv15 : rg (-2147483648) (2147483647) v15 := rg_any v15
    have uv15 : (-2147483648 : Int) ≤ v15.toInt ∧ v15.toInt ≤ 2147483647 := rv15
    refine lv_aload_n hx hb dX7_headerOctet_47 rfl (lv_at hl 0 rfl) ?_
    refine c_geti x L9 7 i0 8 232 hal0 rfl rfl (wk_in kf_X7_51) dX7_headerOctet_48 (fun v16 ev16 wv16 => ?_)
    refine m_top (((mm_up (mm_st eg6) eg9 rfl)).trans ev16.symm) ?_
    refine lv_icmp_ne (tgt := 58) hx hb dX7_headerOctet_51 (by decide) (fun c51_17 => ?_) (fun c51_17 => ?_)
    · skip
      have ic51_17 : v15.toInt ≠ p1.toInt := fun z => c51_17 (Int32.toInt_inj.mp z)
      refine lv_iconst (v := 0) hx hb dX7_headerOctet_58 (by decide) ?_
      refine lv_istore_n (lv' := [(2, .int (0 : Int32)), (0, .ref (Z.ad 7 i0)), (1, .int p1)]) hx hb dX7_headerOctet_59 rfl hl (by decide) rfl (fun ls hl => ?_)
      refine lv_aload_n hx hb dX7_headerOctet_60 rfl (lv_at hl 1 rfl) ?_
      refine c_geti x L9 7 i0 1 225 hal0 rfl rfl (wk_in kf_X7_15) dX7_headerOctet_61 (fun v18 ev18 wv18 => ?_)
      have rv18 : rg (0) (2) v18 := clj_225 wv18
      have uv18 : (0 : Int) ≤ v18.toInt ∧ v18.toInt ≤ 2 := rv18
      refine lv_if_ne (tgt := 94) hx hb dX7_headerOctet_64 (by decide) (fun c64_19 => ?_) (fun c64_19 => ?_)
      · skip
        have ic64_19 : v18.toInt ≠ (0 : Int32).toInt := fun z => c64_19 (Int32.toInt_inj.mp z)
        have y20 : (0 : Int32).toInt = 0 := by decide
        have q21 : rg (1) (2) v18 := rg_neL c64_19 rv18 kc_0
        have uq21 : (1 : Int) ≤ v18.toInt ∧ v18.toInt ≤ 2 := q21
        refine lv_aload_n hx hb dX7_headerOctet_94 rfl (lv_at hl 1 rfl) ?_
        refine c_geti x L9 7 i0 1 225 hal0 rfl rfl (wk_in kf_X7_15) dX7_headerOctet_95 (fun v22 ev22 wv22 => ?_)
        refine m_top ((ev18).trans ev22.symm) ?_
        refine lv_iconst (v := 1) hx hb dX7_headerOctet_98 (by decide) ?_
        refine lv_icmp_ne (tgt := 110) hx hb dX7_headerOctet_99 (by decide) (fun c99_23 => ?_) (fun c99_23 => ?_)
        · skip
          have ic99_23 : v18.toInt ≠ (1 : Int32).toInt := fun z => c99_23 (Int32.toInt_inj.mp z)
          have y24 : (1 : Int32).toInt = 1 := by decide
          have q25 : rg (2) (2) v18 := rg_neL c99_23 q21 kc_1
          have uq25 : (2 : Int) ≤ v18.toInt ∧ v18.toInt ≤ 2 := q25
          refine lv_aload_n hx hb dX7_headerOctet_110 rfl (lv_at hl 1 rfl) ?_
          refine lv_iload_n hx hb dX7_headerOctet_111 rfl (lv_at hl 0 rfl) ?_
          refine c_cv (As := [.int (0 : Int32)]) (rest := []) x hml L9 7 i0 hal0 rfl (c_ksyncHeader l X g9 i0 (0 : Int32) hX hJ10 (show i0 < 2 * Z.n from (by omega)) (rg_w kc_0 rfl)) (wk_V kd_X7_syncHeader kl_X7_65 ki_X7_syncHeader ks_X7_X7_syncHeader kn_X7) rfl ⟨rfl, rfl⟩ hd_ksyncHeader ⟨Nat.le_of_ble_eq_true rfl, Nat.le_of_ble_eq_true rfl⟩ rfl hl.1 rfl (lv_room (Nat.le_of_ble_eq_true rfl)) dX7_headerOctet_112 (fun  g26 H26 k26 hp26 L26 => ?_)
          exact hQ _ _ _ _ _ dX7_headerOctet_115 L26 ⟨(mFr.tr (mFr.upE (mFr.upE (mFr.upE mFr.rf eg5 rfl) eg6 rfl) eg9 rfl) hp26.1 rfl), hp26.2.1, trivial⟩
        · skip
          have ic99_23 := congrArg Int32.toInt c99_23
          have y27 : (1 : Int32).toInt = 1 := by decide
          have q28 : rg (1) (1) v18 := (rg_eq c99_23 q21 kc_1).1
          have uq28 : (1 : Int) ≤ v18.toInt ∧ v18.toInt ≤ 1 := q28
          refine lv_aload_n hx hb dX7_headerOctet_102 rfl (lv_at hl 1 rfl) ?_
          refine lv_iload_n hx hb dX7_headerOctet_103 rfl (lv_at hl 0 rfl) ?_
          refine c_cv (As := [.int (0 : Int32)]) (rest := []) x hml L9 7 i0 hal0 rfl (c_kpresync l X g9 i0 (0 : Int32) hX hJ10 (show i0 < 2 * Z.n from (by omega)) (rg_w kc_0 rfl) (rg_eqv ev18 (rg_w q28 rfl))) (wk_V kd_X7_presyncHeader kl_X7_61 ki_X7_presyncHeader ks_X7_X7_presyncHeader kn_X7) rfl ⟨rfl, rfl⟩ hd_kpresync ⟨Nat.le_of_ble_eq_true rfl, Nat.le_of_ble_eq_true rfl⟩ rfl hl.1 rfl (lv_room (Nat.le_of_ble_eq_true rfl)) dX7_headerOctet_104 (fun  g29 H29 k29 hp29 L29 => ?_)
          refine lv_goto (tgt := 115) hx hb dX7_headerOctet_107 (by decide) ?_
          exact hQ _ _ _ _ _ dX7_headerOctet_115 L29 ⟨(mFr.tr (mFr.upE (mFr.upE (mFr.upE mFr.rf eg5 rfl) eg6 rfl) eg9 rfl) hp29.1 rfl), hp29.2.1, trivial⟩
      · skip
        have ic64_19 := congrArg Int32.toInt c64_19
        have y30 : (0 : Int32).toInt = 0 := by decide
        have q31 : rg (0) (0) v18 := (rg_eq c64_19 rv18 kc_0).1
        have uq31 : (0 : Int) ≤ v18.toInt ∧ v18.toInt ≤ 0 := q31
        refine lv_iload_n hx hb dX7_headerOctet_67 rfl (lv_at hl 0 rfl) ?_
        refine lv_if_eq (tgt := 115) hx hb dX7_headerOctet_68 (by decide) (fun c68_32 => ?_) (fun c68_32 => ?_)
        · skip
          exact hQ _ _ _ _ _ dX7_headerOctet_115 L9 ⟨(mFr.upE (mFr.upE (mFr.upE mFr.rf eg5 rfl) eg6 rfl) eg9 rfl), hJ10, trivial⟩
        · skip
          exact absurd c68_32 (by decide)
    · skip
      have ic51_17 := congrArg Int32.toInt c51_17
      refine lv_iconst (v := 1) hx hb dX7_headerOctet_54 (by decide) ?_
      refine lv_goto (tgt := 59) hx hb dX7_headerOctet_55 (by decide) ?_
      refine lv_istore_n (lv' := [(2, .int (1 : Int32)), (0, .ref (Z.ad 7 i0)), (1, .int p1)]) hx hb dX7_headerOctet_59 rfl hl (by decide) rfl (fun ls hl => ?_)
      refine lv_aload_n hx hb dX7_headerOctet_60 rfl (lv_at hl 1 rfl) ?_
      refine c_geti x L9 7 i0 1 225 hal0 rfl rfl (wk_in kf_X7_15) dX7_headerOctet_61 (fun v33 ev33 wv33 => ?_)
      have rv33 : rg (0) (2) v33 := clj_225 wv33
      have uv33 : (0 : Int) ≤ v33.toInt ∧ v33.toInt ≤ 2 := rv33
      refine lv_if_ne (tgt := 94) hx hb dX7_headerOctet_64 (by decide) (fun c64_34 => ?_) (fun c64_34 => ?_)
      · skip
        have ic64_34 : v33.toInt ≠ (0 : Int32).toInt := fun z => c64_34 (Int32.toInt_inj.mp z)
        have y35 : (0 : Int32).toInt = 0 := by decide
        have q36 : rg (1) (2) v33 := rg_neL c64_34 rv33 kc_0
        have uq36 : (1 : Int) ≤ v33.toInt ∧ v33.toInt ≤ 2 := q36
        refine lv_aload_n hx hb dX7_headerOctet_94 rfl (lv_at hl 1 rfl) ?_
        refine c_geti x L9 7 i0 1 225 hal0 rfl rfl (wk_in kf_X7_15) dX7_headerOctet_95 (fun v37 ev37 wv37 => ?_)
        refine m_top ((ev33).trans ev37.symm) ?_
        refine lv_iconst (v := 1) hx hb dX7_headerOctet_98 (by decide) ?_
        refine lv_icmp_ne (tgt := 110) hx hb dX7_headerOctet_99 (by decide) (fun c99_38 => ?_) (fun c99_38 => ?_)
        · skip
          have ic99_38 : v33.toInt ≠ (1 : Int32).toInt := fun z => c99_38 (Int32.toInt_inj.mp z)
          have y39 : (1 : Int32).toInt = 1 := by decide
          have q40 : rg (2) (2) v33 := rg_neL c99_38 q36 kc_1
          have uq40 : (2 : Int) ≤ v33.toInt ∧ v33.toInt ≤ 2 := q40
          refine lv_aload_n hx hb dX7_headerOctet_110 rfl (lv_at hl 1 rfl) ?_
          refine lv_iload_n hx hb dX7_headerOctet_111 rfl (lv_at hl 0 rfl) ?_
          refine c_cv (As := [.int (1 : Int32)]) (rest := []) x hml L9 7 i0 hal0 rfl (c_ksyncHeader l X g9 i0 (1 : Int32) hX hJ10 (show i0 < 2 * Z.n from (by omega)) (rg_w kc_1 rfl)) (wk_V kd_X7_syncHeader kl_X7_65 ki_X7_syncHeader ks_X7_X7_syncHeader kn_X7) rfl ⟨rfl, rfl⟩ hd_ksyncHeader ⟨Nat.le_of_ble_eq_true rfl, Nat.le_of_ble_eq_true rfl⟩ rfl hl.1 rfl (lv_room (Nat.le_of_ble_eq_true rfl)) dX7_headerOctet_112 (fun  g41 H41 k41 hp41 L41 => ?_)
          exact hQ _ _ _ _ _ dX7_headerOctet_115 L41 ⟨(mFr.tr (mFr.upE (mFr.upE (mFr.upE mFr.rf eg5 rfl) eg6 rfl) eg9 rfl) hp41.1 rfl), hp41.2.1, trivial⟩
        · skip
          have ic99_38 := congrArg Int32.toInt c99_38
          have y42 : (1 : Int32).toInt = 1 := by decide
          have q43 : rg (1) (1) v33 := (rg_eq c99_38 q36 kc_1).1
          have uq43 : (1 : Int) ≤ v33.toInt ∧ v33.toInt ≤ 1 := q43
          refine lv_aload_n hx hb dX7_headerOctet_102 rfl (lv_at hl 1 rfl) ?_
          refine lv_iload_n hx hb dX7_headerOctet_103 rfl (lv_at hl 0 rfl) ?_
          refine c_cv (As := [.int (1 : Int32)]) (rest := []) x hml L9 7 i0 hal0 rfl (c_kpresync l X g9 i0 (1 : Int32) hX hJ10 (show i0 < 2 * Z.n from (by omega)) (rg_w kc_1 rfl) (rg_eqv ev33 (rg_w q43 rfl))) (wk_V kd_X7_presyncHeader kl_X7_61 ki_X7_presyncHeader ks_X7_X7_presyncHeader kn_X7) rfl ⟨rfl, rfl⟩ hd_kpresync ⟨Nat.le_of_ble_eq_true rfl, Nat.le_of_ble_eq_true rfl⟩ rfl hl.1 rfl (lv_room (Nat.le_of_ble_eq_true rfl)) dX7_headerOctet_104 (fun  g44 H44 k44 hp44 L44 => ?_)
          refine lv_goto (tgt := 115) hx hb dX7_headerOctet_107 (by decide) ?_
          exact hQ _ _ _ _ _ dX7_headerOctet_115 L44 ⟨(mFr.tr (mFr.upE (mFr.upE (mFr.upE mFr.rf eg5 rfl) eg6 rfl) eg9 rfl) hp44.1 rfl), hp44.2.1, trivial⟩
      · skip
        have ic64_34 := congrArg Int32.toInt c64_34
        have y45 : (0 : Int32).toInt = 0 := by decide
        have q46 : rg (0) (0) v33 := (rg_eq c64_34 rv33 kc_0).1
        have uq46 : (0 : Int) ≤ v33.toInt ∧ v33.toInt ≤ 0 := q46
        refine lv_iload_n hx hb dX7_headerOctet_67 rfl (lv_at hl 0 rfl) ?_
        refine lv_if_eq (tgt := 115) hx hb dX7_headerOctet_68 (by decide) (fun c68_47 => ?_) (fun c68_47 => ?_)
        · skip
          exact absurd c68_47 (by decide)
        · skip
          refine lv_aload_n hx hb dX7_headerOctet_71 rfl (lv_at hl 1 rfl) ?_
          refine lv_iconst (v := 1) hx hb dX7_headerOctet_72 (by decide) ?_
          refine c_puti x L9 7 i0 1 225 hal0 rfl rfl ⟨rfl, by decide +kernel⟩ (wk_in kf_X7_15) dX7_headerOctet_73 (crj_225 (rg_w kc_1 rfl)) (fun g48 H48 k48 eg48 L48 => ?_)
          refine lv_aload_n hx hb dX7_headerOctet_76 rfl (lv_at hl 1 rfl) ?_
          refine lv_iconst (v := 1) hx hb dX7_headerOctet_77 (by decide) ?_
          refine c_puti x L48 7 i0 3 227 hal0 rfl rfl ⟨rfl, by decide +kernel⟩ (wk_in kf_X7_58) dX7_headerOctet_78 (rg_any (1 : Int32)) (fun g49 H49 k49 eg49 L49 => ?_)
          refine lv_aload_n hx hb dX7_headerOctet_81 rfl (lv_at hl 1 rfl) ?_
          refine lv_iconst (v := 5) hx hb dX7_headerOctet_82 (by decide) ?_
          refine c_puti x L49 7 i0 9 233 hal0 rfl rfl ⟨rfl, by decide +kernel⟩ (wk_in kf_X7_23) dX7_headerOctet_83 (rg_any (5 : Int32)) (fun g50 H50 k50 eg50 L50 => ?_)
          have hJ51 := cJ_rs hJ10 eg48 eg49 rfl eg50 ⟨by decide, by decide⟩
          refine lv_aload_n hx hb dX7_headerOctet_86 rfl (lv_at hl 1 rfl) ?_
          refine lv_iconst (v := 0) hx hb dX7_headerOctet_87 (by decide) ?_
          refine c_putz x L50 7 i0 10 234 hal0 rfl rfl ⟨rfl, by decide +kernel⟩ (wk_in kf_X7_36) dX7_headerOctet_88 (rg_w kc_0 rfl) (crj_234 (rg_w kc_0 rfl)) (fun g52 H52 k52 eg52 L52 => ?_)
          refine lv_goto (tgt := 115) hx hb dX7_headerOctet_91 (by decide) ?_
          exact hQ _ _ _ _ _ dX7_headerOctet_115 L52 ⟨(mFr.upE (mFr.upE (mFr.upE (mFr.upE (mFr.upE (mFr.upE (mFr.upE mFr.rf eg5 rfl) eg6 rfl) eg9 rfl) eg48 rfl) eg49 rfl) eg50 rfl) eg52 rfl), (cJ_up hJ51 eg52 rfl), trivial⟩
  · skip
    have ic36_12 := Int32.lt_iff_toInt_lt.mp (rg_nle c36_12)
    have q53 : rg (-2147483648) (4) v8 := (rg_lt (rg_nle c36_12) rv8 kc_5).1
    have uq53 : (-2147483648 : Int) ≤ v8.toInt ∧ v8.toInt ≤ 4 := q53
    exact hQ _ _ _ _ _ dX7_headerOctet_39 L9 ⟨(mFr.upE (mFr.upE (mFr.upE mFr.rf eg5 rfl) eg6 rfl) eg9 rfl), hJ10, trivial⟩
theorem c_kheaderOctet (l : Launch) {G : cG} {Z : cZ} (X : Int) (g : mSt) (i0 : Nat) (p1 : Int32) (hX : 0 ≤ X ∧ X ≤ 2000000000) (hJ : cJ Z g) (hi0 : i0 < 2 * Z.n) (hpl : (g 225 i0).toInt ≠ 0 → 0 ≤ (g 233 i0).toInt ∧ (g 233 i0).toInt ≤ 4) : Met l yX7_headerOctet (wk (Cond.code yX7_headerOctet cX7_headerOctet 3 none)) rm_kheaderOctet (va_Pc [.ref (Z.ad 7 i0), .int p1] (cPre G Z X g)) (cQv G Z X (fun g1 => mFr [225, 226, 227, 229, 230, 231, 232, 233, 234] g g1 ∧ cJ Z g1 ∧ True)) 0 0 (cAd Z) := by
  refine Met.ofW (cc := cX7_headerOctet) (maxL := 3) (ret := none) (by decide) rfl ?_
  intro p e s m args below meth c s₁ B hml hv
  obtain ⟨rfl, hv⟩ := hv
  have hr := B.returns
  have hlocks := B.notSynchronized
  obtain ⟨x, L⟩ := c_start B rfl (fun w h => wk_in h) hv
  have hl := lv_entry ([.ref (Z.ad 7 i0), .int p1]) (n := 3) (Nat.le_of_ble_eq_true rfl)
  rw [lg_entry_eq]
  generalize (lg_sl ([.ref (Z.ad 7 i0), .int p1]) ++ List.replicate (3 - (lg_sl ([.ref (Z.ad 7 i0), .int p1])).length) Slot.unset).toArray = ls at hl ⊢
  exact w_kheaderOctet x hml L hX i0 p1 hJ hi0 hpl hl (fun pc' ls' g1 H1 locs1 hdg L hp => c_vret x L hr hlocks (Int.le_refl _) hp hdg)

def rm_ktake : Room := { frames := 4, cells := 0, slots := 0, locals := 89 }
theorem hd_ktake : yX7_take.cls = cRn 7 ∧ yX7_take.cls ≠ "java/lang/invoke/MethodHandle" ∧ yX7_take.cls ≠ "java/lang/invoke/VarHandle" ∧ (parseMethodDescriptor yX7_take.desc).map (fun d => d.parameters.length) = some 3 := by decide +kernel
set_option maxHeartbeats 4000000 in
set_option maxRecDepth 100000 in
theorem w_ktake {p : Program} {l : Launch} {e : Env} {s : State} {m : MethodId} {args : Array Value} {below : List Frame} {meth : Method} {c : Code} {H : Heap} {locs : List Loc} {Q : State → Prop} {ls : Array Slot} {G : cG} {Z : cZ} {A : Nat → Prop} {g : mSt} {H0 : Heap} {X : Int} (x : cX p c cX7_take s args (wk (Cond.code yX7_take cX7_take 5 (some .int))) m G Z A RX7 H0) (hml : c.maxLocals = 5) (L : cL G Z A H0 X g H locs) (hX : 0 ≤ X ∧ X ≤ 2000000000) (i0 : Nat) (q1 : Nat) (p2 : Int32) (p3 : Int32) (hJ : cJ Z g) (hi0 : i0 < 2 * Z.n) (hq1 : Z.al 19 q1) (hl : lv_has ls 5 [(0, .ref (Z.ad 7 i0)), (1, .ref (Z.ad 19 q1)), (2, .int p2), (3, .int p3)]) (hQ : ∀ (pc' : Nat) (ls' : Array Slot) (r : Int32) (g1 : mSt) (H1 : Heap) (locs1 : List Loc), decode cX7_take pc' = .ok (.ireturn, 1) → cL G Z A H0 X g1 H1 locs1 → (mFr [225, 226, 227, 228, 229, 230, 231, 232, 233, 234, 235, 800] g g1 ∧ rg (-210) (48) r ∧ cJ Z g1 ∧ True) → W p l e rm_ktake s m args below meth c H1 locs1 0 0 Q (F0 m pc' ls' [.int r])) : W p l e rm_ktake s m args below meth c H locs 0 0 Q (F0 m 0 ls []) := by
  have hx := x.1
  have hb := x.2.1
  have hz := x.2.2.2.2.2.2.2.1
  have hzn := hz.1
  have hal0 : Z.al 7 i0 := hz.2 7 i0 (show i0 < 2 * Z.n from hi0)
  have up2 : (-2147483648 : Int) ≤ p2.toInt ∧ p2.toInt ≤ 2147483647 := (rg_any p2)
  have up3 : (-2147483648 : Int) ≤ p3.toInt ∧ p3.toInt ≤ 2147483647 := (rg_any p3)
  refine lv_aload_n hx hb dX7_take_0 rfl (lv_at hl 0 rfl) ?_
  refine lv_iconst (v := 0) hx hb dX7_take_1 (by decide) ?_
  refine c_putz x L 7 i0 11 235 hal0 rfl rfl ⟨rfl, by decide +kernel⟩ (wk_in kf_X7_19) dX7_take_2 (rg_w kc_0 rfl) (crj_235 (rg_w kc_0 rfl)) (fun g1 H1 k1 eg1 L1 => ?_)
  refine lv_iload_n hx hb dX7_take_5 rfl (lv_at hl 2 rfl) ?_
  refine lv_if_lt (tgt := 20) hx hb dX7_take_6 (by decide) (fun c6_2 => ?_) (fun c6_2 => ?_)
  · skip
    have ic6_2 := Int32.lt_iff_toInt_lt.mp c6_2
    have q3 : rg (-2147483648) (-1) p2 := (rg_lt c6_2 (rg_any p2) kc_0).1
    have uq3 : (-2147483648 : Int) ≤ p2.toInt ∧ p2.toInt ≤ -1 := q3
    refine lv_iconst (v := 1) hx hb dX7_take_20 (by decide) ?_
    exact hQ _ _ (1 : Int32) _ _ _ dX7_take_21 L1 ⟨(mFr.upE mFr.rf eg1 rfl), rg_w kc_1 rfl, (cJ_up hJ eg1 rfl), trivial⟩
  · skip
    have ic6_2 := Int32.le_iff_toInt_le.mp (rg_nlt c6_2)
    have q4 : rg (0) (2147483647) p2 := (rg_le (rg_nlt c6_2) kc_0 (rg_any p2)).2
    have uq4 : (0 : Int) ≤ p2.toInt ∧ p2.toInt ≤ 2147483647 := q4
    refine lv_iload_n hx hb dX7_take_9 rfl (lv_at hl 2 rfl) ?_
    refine lv_iload_n hx hb dX7_take_10 rfl (lv_at hl 3 rfl) ?_
    refine lv_icmp_ge (tgt := 20) hx hb dX7_take_11 (by decide) (fun c11_5 => ?_) (fun c11_5 => ?_)
    · skip
      have ic11_5 := Int32.le_iff_toInt_le.mp c11_5
      refine lv_iconst (v := 1) hx hb dX7_take_20 (by decide) ?_
      exact hQ _ _ (1 : Int32) _ _ _ dX7_take_21 L1 ⟨(mFr.upE mFr.rf eg1 rfl), rg_w kc_1 rfl, (cJ_up hJ eg1 rfl), trivial⟩
    · skip
      have ic11_5 := Int32.lt_iff_toInt_lt.mp (rg_nle c11_5)
      have q6 : rg (0) (2147483646) p2 := (rg_lt (rg_nle c11_5) q4 (rg_any p3)).1
      have uq6 : (0 : Int) ≤ p2.toInt ∧ p2.toInt ≤ 2147483646 := q6
      have q7 : rg (1) (2147483647) p3 := (rg_lt (rg_nle c11_5) q4 (rg_any p3)).2
      have uq7 : (1 : Int) ≤ p3.toInt ∧ p3.toInt ≤ 2147483647 := q7
      refine lv_iload_n hx hb dX7_take_14 rfl (lv_at hl 3 rfl) ?_
      refine lv_aload_n hx hb dX7_take_15 rfl (lv_at hl 1 rfl) ?_
      refine c_len (n := 212) x L1 19 q1 hq1 rfl (by decide) dX7_take_16 ?_
      refine lv_icmp_le (tgt := 22) hx hb dX7_take_17 (by decide) (fun c17_8 => ?_) (fun c17_8 => ?_)
      · skip
        have ic17_8 := Int32.le_iff_toInt_le.mp c17_8
        have q9 : rg (1) (212) p3 := (rg_le c17_8 q7 kc_212).1
        have uq9 : (1 : Int) ≤ p3.toInt ∧ p3.toInt ≤ 212 := q9
        have q10 : rg (0) (211) p2 := ⟨by omega, by omega⟩
        refine lv_aload_n hx hb dX7_take_22 rfl (lv_at hl 0 rfl) ?_
        refine c_geti x L1 7 i0 1 225 hal0 rfl rfl (wk_in kf_X7_15) dX7_take_23 (fun v11 ev11 wv11 => ?_)
        have rv11 : rg (0) (2) v11 := clj_225 wv11
        have uv11 : (0 : Int) ≤ v11.toInt ∧ v11.toInt ≤ 2 := rv11
        refine lv_if_eq (tgt := 37) hx hb dX7_take_26 (by decide) (fun c26_12 => ?_) (fun c26_12 => ?_)
        · skip
          have ic26_12 := congrArg Int32.toInt c26_12
          have y13 : (0 : Int32).toInt = 0 := by decide
          have q14 : rg (0) (0) v11 := (rg_eq c26_12 rv11 kc_0).1
          have uq14 : (0 : Int) ≤ v11.toInt ∧ v11.toInt ≤ 0 := q14
          refine lv_aload_n hx hb dX7_take_37 rfl (lv_at hl 0 rfl) ?_
          refine lv_aload_n hx hb dX7_take_38 rfl (lv_at hl 1 rfl) ?_
          refine lv_iload_n hx hb dX7_take_39 rfl (lv_at hl 2 rfl) ?_
          refine c_ld x L1 19 q1 608 hq1 rfl rfl q10 rfl dX7_take_40 (fun v15 ev15 wv15 => ?_)
          have rv15 : rg (-2147483648) (2147483647) v15 := rg_any v15
          have uv15 : (-2147483648 : Int) ≤ v15.toInt ∧ v15.toInt ≤ 2147483647 := rv15
          have sv15 : v15.toInt = (g 608 (8192 * q1 + p2.toNatClampNeg)).toInt := congrArg Int32.toInt (ev15.trans (congrFun ((show mFr [225, 226, 227, 228, 229, 230, 231, 232, 233, 234, 235, 800] g g1 from (mFr.upE mFr.rf eg1 rfl)).at 608 rfl) _))
          have y16 := congrArg Int32.toInt ev11
          refine c_cv (As := [.int v15]) (rest := []) x hml L1 7 i0 hal0 rfl (c_kheaderOctet l X g1 i0 v15 hX (cJ_up hJ eg1 rfl) (show i0 < 2 * Z.n from (by omega)) (fun z => absurd (by rw [← ev11]; omega) z)) (wk_V kd_X7_headerOctet kl_X7_26 ki_X7_headerOctet ks_X7_X7_headerOctet kn_X7) rfl ⟨rfl, rfl⟩ hd_kheaderOctet ⟨Nat.le_of_ble_eq_true rfl, Nat.le_of_ble_eq_true rfl⟩ rfl hl.1 rfl (lv_room (Nat.le_of_ble_eq_true rfl)) dX7_take_41 (fun  g17 H17 k17 hp17 L17 => ?_)
          refine lv_iconst (v := 1) hx hb dX7_take_44 (by decide) ?_
          exact hQ _ _ (1 : Int32) _ _ _ dX7_take_45 L17 ⟨(mFr.tr (mFr.upE mFr.rf eg1 rfl) hp17.1 rfl), rg_w kc_1 rfl, hp17.2.1, trivial⟩
        · skip
          have ic26_12 : v11.toInt ≠ (0 : Int32).toInt := fun z => c26_12 (Int32.toInt_inj.mp z)
          have y18 : (0 : Int32).toInt = 0 := by decide
          have q19 : rg (1) (2) v11 := rg_neL c26_12 rv11 kc_0
          have uq19 : (1 : Int) ≤ v11.toInt ∧ v11.toInt ≤ 2 := q19
          refine lv_aload_n hx hb dX7_take_29 rfl (lv_at hl 0 rfl) ?_
          refine c_geti x L1 7 i0 9 233 hal0 rfl rfl (wk_in kf_X7_23) dX7_take_30 (fun v20 ev20 wv20 => ?_)
          have rv20 : rg (-2147483648) (2147483647) v20 := rg_any v20
          have rrv20 : rg (0) (52) v20 := cJ_rp (cJ_up hJ eg1 rfl) ev20 ev11 (by omega)
          have uv20 : (0 : Int) ≤ v20.toInt ∧ v20.toInt ≤ 52 := rrv20
          refine lv_iconst (v := 5) hx hb dX7_take_33 (by decide) ?_
          refine lv_icmp_ge (tgt := 46) hx hb dX7_take_34 (by decide) (fun c34_21 => ?_) (fun c34_21 => ?_)
          · skip
            have ic34_21 := Int32.le_iff_toInt_le.mp c34_21
            have q22 : rg (5) (52) v20 := (rg_le c34_21 kc_5 rrv20).2
            have uq22 : (5 : Int) ≤ v20.toInt ∧ v20.toInt ≤ 52 := q22
            refine lv_iload_n hx hb dX7_take_46 rfl (lv_at hl 3 rfl) ?_
            refine lv_iload_n hx hb dX7_take_47 rfl (lv_at hl 2 rfl) ?_
            refine lv_isub hx hb dX7_take_48 ?_
            refine lv_topi (fun v23 ev23 => ?_)
            have rv23 : rg (-210) (212) v23 := (rg_sub ev23 q9 q10 rfl).1
            have tv23 := (rg_sub ev23 q9 q10 rfl).2
            have uv23 : (-210 : Int) ≤ v23.toInt ∧ v23.toInt ≤ 212 := rv23
            refine lv_bipush (v := 53) hx hb dX7_take_49 (by decide) ?_
            refine lv_aload_n hx hb dX7_take_51 rfl (lv_at hl 0 rfl) ?_
            refine c_geti x L1 7 i0 9 233 hal0 rfl rfl (wk_in kf_X7_23) dX7_take_52 (fun v24 ev24 wv24 => ?_)
            refine m_top ((ev20).trans ev24.symm) ?_
            refine lv_isub hx hb dX7_take_55 ?_
            refine lv_topi (fun v25 ev25 => ?_)
            have rv25 : rg (1) (48) v25 := (rg_sub ev25 kc_53 q22 rfl).1
            have tv25 := (rg_sub ev25 kc_53 q22 rfl).2
            have y26 : (53 : Int32).toInt = 53 := by decide
            have uv25 : (1 : Int) ≤ v25.toInt ∧ v25.toInt ≤ 48 := rv25
            refine va_mmin (rest := []) hx hb (hml.trans hl.1.symm) x.2.2.2.2.1 (x.2.2.1 _ (wk_in kl_X7_30)) (x.2.2.1 _ (wk_in kw_min.1)) (x.2.2.1 _ (wk_in kw_min.2.1)) (x.2.2.1 _ (wk_in kw_min.2.2)) (Nat.le_of_ble_eq_true rfl) (Nat.le_of_ble_eq_true rfl) (Nat.zero_le _) (Nat.zero_le _) dX7_take_56 ?_
            refine lv_topi (fun v27 ev27 => ?_)
            have hmv27 := rg_min ev27 rv23 rv25
            have rv27 : rg (-210) (48) v27 := rg_w hmv27.1 rfl
            have tv27 := hmv27.2
            have uv27 : (-210 : Int) ≤ v27.toInt ∧ v27.toInt ≤ 48 := rv27
            refine lv_istore (lv' := [(4, .int v27), (0, .ref (Z.ad 7 i0)), (1, .ref (Z.ad 19 q1)), (2, .int p2), (3, .int p3)]) hx hb dX7_take_59 hl (by decide) rfl (fun ls hl => ?_)
            refine lv_aload_n hx hb dX7_take_61 rfl (lv_at hl 1 rfl) ?_
            refine c_geti x L1 7 i0 10 234 hal0 rfl rfl (wk_in kf_X7_36) dX7_take_62 (fun v28 ev28 wv28 => ?_)
            have rv28 : rg (0) (1) v28 := clj_234 wv28
            have uv28 : (0 : Int) ≤ v28.toInt ∧ v28.toInt ≤ 1 := rv28
            refine lv_if_eq (tgt := 85) hx hb dX7_take_65 (by decide) (fun c65_29 => ?_) (fun c65_29 => ?_)
            · skip
              have ic65_29 := congrArg Int32.toInt c65_29
              have y30 : (0 : Int32).toInt = 0 := by decide
              have q31 : rg (0) (0) v28 := (rg_eq c65_29 rv28 kc_0).1
              have uq31 : (0 : Int) ≤ v28.toInt ∧ v28.toInt ≤ 0 := q31
              refine lv_aload_n hx hb dX7_take_85 rfl (lv_at hl 1 rfl) ?_
              refine lv_dup hx hb dX7_take_86 rfl ?_
              refine c_geti x L1 7 i0 9 233 hal0 rfl rfl (wk_in kf_X7_23) dX7_take_87 (fun v32 ev32 wv32 => ?_)
              refine m_top ((ev20).trans ev32.symm) ?_
              refine lv_iload hx hb dX7_take_90 (lv_at hl 0 rfl) ?_
              refine lv_iadd hx hb dX7_take_92 ?_
              refine lv_topi (fun v33 ev33 => ?_)
              have rv33 : rg (-205) (100) v33 := (rg_add ev33 q22 rv27 rfl).1
              have tv33 := (rg_add ev33 q22 rv27 rfl).2
              have q34 : rg (6) (53) v33 := ⟨by omega, by omega⟩
              have uv33 : (6 : Int) ≤ v33.toInt ∧ v33.toInt ≤ 53 := q34
              refine c_puti x L1 7 i0 9 233 hal0 rfl rfl ⟨rfl, by decide +kernel⟩ (wk_in kf_X7_23) dX7_take_93 (rg_any v33) (fun g35 H35 k35 eg35 L35 => ?_)
              refine lv_aload_n hx hb dX7_take_96 rfl (lv_at hl 1 rfl) ?_
              refine c_geti x L35 7 i0 9 233 hal0 rfl rfl (wk_in kf_X7_23) dX7_take_97 (fun v36 ev36 wv36 => ?_)
              refine m_top (((mm_st eg35)).trans ev36.symm) ?_
              refine lv_bipush (v := 53) hx hb dX7_take_100 (by decide) ?_
              refine lv_icmp_lt (tgt := 139) hx hb dX7_take_102 (by decide) (fun c102_37 => ?_) (fun c102_37 => ?_)
              · skip
                have ic102_37 := Int32.lt_iff_toInt_lt.mp c102_37
                have q38 : rg (6) (52) v33 := (rg_lt c102_37 q34 kc_53).1
                have uq38 : (6 : Int) ≤ v33.toInt ∧ v33.toInt ≤ 52 := q38
                have hJ39 := cJ_233 (cJ_up hJ eg1 rfl) eg35 (fun _ => ⟨by omega, by omega⟩)
                refine lv_iload hx hb dX7_take_139 (lv_at hl 0 rfl) ?_
                exact hQ _ _ v27 _ _ _ dX7_take_141 L35 ⟨(mFr.upE (mFr.upE mFr.rf eg1 rfl) eg35 rfl), rg_w rv27 rfl, hJ39, trivial⟩
              · skip
                have ic102_37 := Int32.le_iff_toInt_le.mp (rg_nlt c102_37)
                have q40 : rg (53) (53) v33 := (rg_le (rg_nlt c102_37) kc_53 q34).2
                have uq40 : (53 : Int) ≤ v33.toInt ∧ v33.toInt ≤ 53 := q40
                refine lv_aload_n hx hb dX7_take_105 rfl (lv_at hl 1 rfl) ?_
                refine lv_iconst (v := 0) hx hb dX7_take_106 (by decide) ?_
                refine c_puti x L35 7 i0 9 233 hal0 rfl rfl ⟨rfl, by decide +kernel⟩ (wk_in kf_X7_23) dX7_take_107 (rg_any (0 : Int32)) (fun g41 H41 k41 eg41 L41 => ?_)
                have hJ42 := cJ_233 (cJ_up hJ eg1 rfl) (up2_up2 eg35 eg41) (fun _ => ⟨by decide, by decide⟩)
                refine lv_aload_n hx hb dX7_take_110 rfl (lv_at hl 1 rfl) ?_
                refine lv_aload_n hx hb dX7_take_111 rfl (lv_at hl 1 rfl) ?_
                refine c_geti x L41 7 i0 10 234 hal0 rfl rfl (wk_in kf_X7_36) dX7_take_112 (fun v43 ev43 wv43 => ?_)
                refine m_top (((mm_up (mm_up ev28 eg35 rfl) eg41 rfl)).trans ev43.symm) ?_
                refine c_putz x L41 7 i0 11 235 hal0 rfl rfl ⟨rfl, by decide +kernel⟩ (wk_in kf_X7_19) dX7_take_115 (rg_w q31 rfl) (crj_235 (rg_w q31 rfl)) (fun g44 H44 k44 eg44 L44 => ?_)
                refine lv_aload_n hx hb dX7_take_118 rfl (lv_at hl 1 rfl) ?_
                refine lv_dup hx hb dX7_take_119 rfl ?_
                refine c_geti x L44 7 i0 4 228 hal0 rfl rfl (wk_in kf_X7_45) dX7_take_120 (fun v45 ev45 wv45 => ?_)
                have rv45 : rg (-2147483648) (2147483647) v45 := rg_any v45
                have uv45 : (-2147483648 : Int) ≤ v45.toInt ∧ v45.toInt ≤ 2147483647 := rv45
                refine lv_aload_n hx hb dX7_take_123 rfl (lv_at hl 1 rfl) ?_
                refine c_geti x L44 7 i0 10 234 hal0 rfl rfl (wk_in kf_X7_36) dX7_take_124 (fun v46 ev46 wv46 => ?_)
                refine m_top (((mm_up (mm_up (mm_up ev28 eg35 rfl) eg41 rfl) eg44 rfl)).trans ev46.symm) ?_
                have j135_48 : ∀ (b135_2_47 : Int32) (g48 : mSt) (H48 : Heap) (k48 : List Loc) (ls : Array Slot), mFr [] g44 g48 → cL G Z A H0 X g48 H48 k48 → cJ Z g48 → rg (0) (1) b135_2_47 → lv_has ls 5 [(0, .ref (Z.ad 7 i0)), (4, .int v27)] → W p l e rm_ktake s m args below meth c H48 k48 0 0 Q (F0 m 135 ls [.int b135_2_47, .int v45, .ref (Z.ad 7 i0)]) := by
                  intro b135_2_47 g48 H48 k48 ls hF48 L48 hJ48 rb135_2_47 hl
                  have ub135_2_47 : (0 : Int) ≤ b135_2_47.toInt ∧ b135_2_47.toInt ≤ 1 := rb135_2_47
                  refine lv_iadd hx hb dX7_take_135 ?_
                  refine lv_topi (fun v49 ev49 => ?_)
                  have rv49 : rg (-2147483648) (2147483647) v49 := rg_any v49
                  have uv49 : (-2147483648 : Int) ≤ v49.toInt ∧ v49.toInt ≤ 2147483647 := rv49
                  refine c_puti x L48 7 i0 4 228 hal0 rfl rfl ⟨rfl, by decide +kernel⟩ (wk_in kf_X7_45) dX7_take_136 (rg_any v49) (fun g50 H50 k50 eg50 L50 => ?_)
                  refine lv_iload hx hb dX7_take_139 (lv_at hl 1 rfl) ?_
                  exact hQ _ _ v27 _ _ _ dX7_take_141 L50 ⟨(mFr.upE (mFr.tr (mFr.upE (mFr.upE (mFr.upE (mFr.upE mFr.rf eg1 rfl) eg35 rfl) eg41 rfl) eg44 rfl) hF48 rfl) eg50 rfl), rg_w rv27 rfl, (cJ_up hJ48 eg50 rfl), trivial⟩
                refine lv_if_eq (tgt := 134) hx hb dX7_take_127 (by decide) (fun c127_51 => ?_) (fun c127_51 => ?_)
                · skip
                  have ic127_51 := congrArg Int32.toInt c127_51
                  have y52 : (0 : Int32).toInt = 0 := by decide
                  refine lv_iconst (v := 0) hx hb dX7_take_134 (by decide) ?_
                  have y53 : (0 : Int32).toInt = 0 := by decide
                  exact j135_48 (0 : Int32) g44 _ _ ls mFr.rf L44 (cJ_up hJ42 eg44 rfl) (rg_w kc_0 rfl) (lv_sub hl [1, 0] rfl)
                · skip
                  have ic127_51 : v28.toInt ≠ (0 : Int32).toInt := fun z => c127_51 (Int32.toInt_inj.mp z)
                  have y54 : (0 : Int32).toInt = 0 := by decide
                  exact absurd (rg_neH c127_51 q31 kc_0 : rg (0) (-1) v28) (fun q => rg_dead q rfl)
            · skip
              have ic65_29 : v28.toInt ≠ (0 : Int32).toInt := fun z => c65_29 (Int32.toInt_inj.mp z)
              have y55 : (0 : Int32).toInt = 0 := by decide
              have q56 : rg (1) (1) v28 := rg_neL c65_29 rv28 kc_0
              have uq56 : (1 : Int) ≤ v28.toInt ∧ v28.toInt ≤ 1 := q56
              refine lv_aload_n hx hb dX7_take_68 rfl (lv_at hl 2 rfl) ?_
              refine lv_iload_n hx hb dX7_take_69 rfl (lv_at hl 3 rfl) ?_
              refine lv_aload_n hx hb dX7_take_70 rfl (lv_at hl 1 rfl) ?_
              have al57 : Z.al 25 i0 := hz.2 25 i0 (show i0 < 2 * Z.n from (by omega))
              refine c_getr (a := Z.ad 25 i0) x L1 7 i0 0 hal0 rfl rfl (wk_in kf_X7_9) dX7_take_71 ?_
              refine lv_aload_n hx hb dX7_take_74 rfl (lv_at hl 1 rfl) ?_
              refine c_geti x L1 7 i0 9 233 hal0 rfl rfl (wk_in kf_X7_23) dX7_take_75 (fun v58 ev58 wv58 => ?_)
              refine m_top ((ev20).trans ev58.symm) ?_
              refine lv_iconst (v := 5) hx hb dX7_take_78 (by decide) ?_
              refine lv_isub hx hb dX7_take_79 ?_
              refine lv_topi (fun v59 ev59 => ?_)
              have rv59 : rg (0) (47) v59 := (rg_sub ev59 q22 kc_5 rfl).1
              have tv59 := (rg_sub ev59 q22 kc_5 rfl).2
              have y60 : (5 : Int32).toInt = 5 := by decide
              have uv59 : (0 : Int) ≤ v59.toInt ∧ v59.toInt ≤ 47 := rv59
              refine lv_iload hx hb dX7_take_80 (lv_at hl 0 rfl) ?_
              refine c_copy (rest := []) x (hml.trans hl.1.symm) L1 19 q1 25 i0 608 800 hq1 al57 rfl rfl rfl rfl ⟨rfl, rfl⟩ kl_X7_39 kw_cp (Int.le_trans (by decide) q10.1) (Int.le_trans (by decide) rv59.1) (by omega) (by show p2.toInt + v27.toInt ≤ 212; omega) (by show v59.toInt + v27.toInt ≤ 48; omega) (Nat.le_of_ble_eq_true rfl) (Nat.le_of_ble_eq_true rfl) dX7_take_82 (fun g61 H61 k61 ec61 L61 => ?_)
              refine lv_aload_n hx hb dX7_take_85 rfl (lv_at hl 1 rfl) ?_
              refine lv_dup hx hb dX7_take_86 rfl ?_
              refine c_geti x L61 7 i0 9 233 hal0 rfl rfl (wk_in kf_X7_23) dX7_take_87 (fun v62 ev62 wv62 => ?_)
              refine m_top (((mm_fr ev20 (cCpy_fr ec61) rfl)).trans ev62.symm) ?_
              refine lv_iload hx hb dX7_take_90 (lv_at hl 0 rfl) ?_
              refine lv_iadd hx hb dX7_take_92 ?_
              refine lv_topi (fun v63 ev63 => ?_)
              have rv63 : rg (-205) (100) v63 := (rg_add ev63 q22 rv27 rfl).1
              have tv63 := (rg_add ev63 q22 rv27 rfl).2
              have q64 : rg (6) (53) v63 := ⟨by omega, by omega⟩
              have uv63 : (6 : Int) ≤ v63.toInt ∧ v63.toInt ≤ 53 := q64
              refine c_puti x L61 7 i0 9 233 hal0 rfl rfl ⟨rfl, by decide +kernel⟩ (wk_in kf_X7_23) dX7_take_93 (rg_any v63) (fun g65 H65 k65 eg65 L65 => ?_)
              refine lv_aload_n hx hb dX7_take_96 rfl (lv_at hl 1 rfl) ?_
              refine c_geti x L65 7 i0 9 233 hal0 rfl rfl (wk_in kf_X7_23) dX7_take_97 (fun v66 ev66 wv66 => ?_)
              refine m_top (((mm_st eg65)).trans ev66.symm) ?_
              refine lv_bipush (v := 53) hx hb dX7_take_100 (by decide) ?_
              refine lv_icmp_lt (tgt := 139) hx hb dX7_take_102 (by decide) (fun c102_67 => ?_) (fun c102_67 => ?_)
              · skip
                have ic102_67 := Int32.lt_iff_toInt_lt.mp c102_67
                have q68 : rg (6) (52) v63 := (rg_lt c102_67 q64 kc_53).1
                have uq68 : (6 : Int) ≤ v63.toInt ∧ v63.toInt ≤ 52 := q68
                have hJ69 := cJ_233 (cJ_fr (cJ_up hJ eg1 rfl) (cCpy_fr ec61) rfl) eg65 (fun _ => ⟨by omega, by omega⟩)
                refine lv_iload hx hb dX7_take_139 (lv_at hl 0 rfl) ?_
                exact hQ _ _ v27 _ _ _ dX7_take_141 L65 ⟨(mFr.upE (mFr.tr (mFr.upE mFr.rf eg1 rfl) (cCpy_fr ec61) rfl) eg65 rfl), rg_w rv27 rfl, hJ69, trivial⟩
              · skip
                have ic102_67 := Int32.le_iff_toInt_le.mp (rg_nlt c102_67)
                have q70 : rg (53) (53) v63 := (rg_le (rg_nlt c102_67) kc_53 q64).2
                have uq70 : (53 : Int) ≤ v63.toInt ∧ v63.toInt ≤ 53 := q70
                refine lv_aload_n hx hb dX7_take_105 rfl (lv_at hl 1 rfl) ?_
                refine lv_iconst (v := 0) hx hb dX7_take_106 (by decide) ?_
                refine c_puti x L65 7 i0 9 233 hal0 rfl rfl ⟨rfl, by decide +kernel⟩ (wk_in kf_X7_23) dX7_take_107 (rg_any (0 : Int32)) (fun g71 H71 k71 eg71 L71 => ?_)
                have hJ72 := cJ_233 (cJ_fr (cJ_up hJ eg1 rfl) (cCpy_fr ec61) rfl) (up2_up2 eg65 eg71) (fun _ => ⟨by decide, by decide⟩)
                refine lv_aload_n hx hb dX7_take_110 rfl (lv_at hl 1 rfl) ?_
                refine lv_aload_n hx hb dX7_take_111 rfl (lv_at hl 1 rfl) ?_
                refine c_geti x L71 7 i0 10 234 hal0 rfl rfl (wk_in kf_X7_36) dX7_take_112 (fun v73 ev73 wv73 => ?_)
                refine m_top (((mm_up (mm_up (mm_fr ev28 (cCpy_fr ec61) rfl) eg65 rfl) eg71 rfl)).trans ev73.symm) ?_
                refine c_putz x L71 7 i0 11 235 hal0 rfl rfl ⟨rfl, by decide +kernel⟩ (wk_in kf_X7_19) dX7_take_115 (rg_w q56 rfl) (crj_235 (rg_w q56 rfl)) (fun g74 H74 k74 eg74 L74 => ?_)
                refine lv_aload_n hx hb dX7_take_118 rfl (lv_at hl 1 rfl) ?_
                refine lv_dup hx hb dX7_take_119 rfl ?_
                refine c_geti x L74 7 i0 4 228 hal0 rfl rfl (wk_in kf_X7_45) dX7_take_120 (fun v75 ev75 wv75 => ?_)
                have rv75 : rg (-2147483648) (2147483647) v75 := rg_any v75
                have uv75 : (-2147483648 : Int) ≤ v75.toInt ∧ v75.toInt ≤ 2147483647 := rv75
                refine lv_aload_n hx hb dX7_take_123 rfl (lv_at hl 1 rfl) ?_
                refine c_geti x L74 7 i0 10 234 hal0 rfl rfl (wk_in kf_X7_36) dX7_take_124 (fun v76 ev76 wv76 => ?_)
                refine m_top (((mm_up (mm_up (mm_up (mm_fr ev28 (cCpy_fr ec61) rfl) eg65 rfl) eg71 rfl) eg74 rfl)).trans ev76.symm) ?_
                have j135_78 : ∀ (b135_2_77 : Int32) (g78 : mSt) (H78 : Heap) (k78 : List Loc) (ls : Array Slot), mFr [] g74 g78 → cL G Z A H0 X g78 H78 k78 → cJ Z g78 → rg (0) (1) b135_2_77 → lv_has ls 5 [(0, .ref (Z.ad 7 i0)), (4, .int v27)] → W p l e rm_ktake s m args below meth c H78 k78 0 0 Q (F0 m 135 ls [.int b135_2_77, .int v75, .ref (Z.ad 7 i0)]) := by
                  intro b135_2_77 g78 H78 k78 ls hF78 L78 hJ78 rb135_2_77 hl
                  have ub135_2_77 : (0 : Int) ≤ b135_2_77.toInt ∧ b135_2_77.toInt ≤ 1 := rb135_2_77
                  refine lv_iadd hx hb dX7_take_135 ?_
                  refine lv_topi (fun v79 ev79 => ?_)
                  have rv79 : rg (-2147483648) (2147483647) v79 := rg_any v79
                  have uv79 : (-2147483648 : Int) ≤ v79.toInt ∧ v79.toInt ≤ 2147483647 := rv79
                  refine c_puti x L78 7 i0 4 228 hal0 rfl rfl ⟨rfl, by decide +kernel⟩ (wk_in kf_X7_45) dX7_take_136 (rg_any v79) (fun g80 H80 k80 eg80 L80 => ?_)
                  refine lv_iload hx hb dX7_take_139 (lv_at hl 1 rfl) ?_
                  exact hQ _ _ v27 _ _ _ dX7_take_141 L80 ⟨(mFr.upE (mFr.tr (mFr.upE (mFr.upE (mFr.upE (mFr.tr (mFr.upE mFr.rf eg1 rfl) (cCpy_fr ec61) rfl) eg65 rfl) eg71 rfl) eg74 rfl) hF78 rfl) eg80 rfl), rg_w rv27 rfl, (cJ_up hJ78 eg80 rfl), trivial⟩
                refine lv_if_eq (tgt := 134) hx hb dX7_take_127 (by decide) (fun c127_81 => ?_) (fun c127_81 => ?_)
                · skip
                  have ic127_81 := congrArg Int32.toInt c127_81
                  have y82 : (0 : Int32).toInt = 0 := by decide
                  exact absurd ((rg_eq c127_81 q56 kc_0).1 : rg (1) (0) v28) (fun q => rg_dead q rfl)
                · skip
                  have ic127_81 : v28.toInt ≠ (0 : Int32).toInt := fun z => c127_81 (Int32.toInt_inj.mp z)
                  have y83 : (0 : Int32).toInt = 0 := by decide
                  refine lv_iconst (v := 1) hx hb dX7_take_130 (by decide) ?_
                  refine lv_goto (tgt := 135) hx hb dX7_take_131 (by decide) ?_
                  have y84 : (1 : Int32).toInt = 1 := by decide
                  exact j135_78 (1 : Int32) g74 _ _ ls mFr.rf L74 (cJ_up hJ72 eg74 rfl) (rg_w kc_1 rfl) (lv_sub hl [1, 0] rfl)
          · skip
            have ic34_21 := Int32.lt_iff_toInt_lt.mp (rg_nle c34_21)
            have q85 : rg (0) (4) v20 := (rg_lt (rg_nle c34_21) rrv20 kc_5).1
            have uq85 : (0 : Int) ≤ v20.toInt ∧ v20.toInt ≤ 4 := q85
            refine lv_aload_n hx hb dX7_take_37 rfl (lv_at hl 0 rfl) ?_
            refine lv_aload_n hx hb dX7_take_38 rfl (lv_at hl 1 rfl) ?_
            refine lv_iload_n hx hb dX7_take_39 rfl (lv_at hl 2 rfl) ?_
            refine c_ld x L1 19 q1 608 hq1 rfl rfl q10 rfl dX7_take_40 (fun v86 ev86 wv86 => ?_)
            have rv86 : rg (-2147483648) (2147483647) v86 := rg_any v86
            have uv86 : (-2147483648 : Int) ≤ v86.toInt ∧ v86.toInt ≤ 2147483647 := rv86
            have sv86 : v86.toInt = (g 608 (8192 * q1 + p2.toNatClampNeg)).toInt := congrArg Int32.toInt (ev86.trans (congrFun ((show mFr [225, 226, 227, 228, 229, 230, 231, 232, 233, 234, 235, 800] g g1 from (mFr.upE mFr.rf eg1 rfl)).at 608 rfl) _))
            have y87 := congrArg Int32.toInt ev11
            have y88 := congrArg Int32.toInt ev20
            refine c_cv (As := [.int v86]) (rest := []) x hml L1 7 i0 hal0 rfl (c_kheaderOctet l X g1 i0 v86 hX (cJ_up hJ eg1 rfl) (show i0 < 2 * Z.n from (by omega)) (fun _ => by rw [← ev20]; omega)) (wk_V kd_X7_headerOctet kl_X7_26 ki_X7_headerOctet ks_X7_X7_headerOctet kn_X7) rfl ⟨rfl, rfl⟩ hd_kheaderOctet ⟨Nat.le_of_ble_eq_true rfl, Nat.le_of_ble_eq_true rfl⟩ rfl hl.1 rfl (lv_room (Nat.le_of_ble_eq_true rfl)) dX7_take_41 (fun  g89 H89 k89 hp89 L89 => ?_)
            refine lv_iconst (v := 1) hx hb dX7_take_44 (by decide) ?_
            exact hQ _ _ (1 : Int32) _ _ _ dX7_take_45 L89 ⟨(mFr.tr (mFr.upE mFr.rf eg1 rfl) hp89.1 rfl), rg_w kc_1 rfl, hp89.2.1, trivial⟩
      · skip
        have ic17_8 := Int32.lt_iff_toInt_lt.mp (rg_nle c17_8)
        have q90 : rg (213) (2147483647) p3 := (rg_lt (rg_nle c17_8) kc_212 q7).2
        have uq90 : (213 : Int) ≤ p3.toInt ∧ p3.toInt ≤ 2147483647 := q90
        refine lv_iconst (v := 1) hx hb dX7_take_20 (by decide) ?_
        exact hQ _ _ (1 : Int32) _ _ _ dX7_take_21 L1 ⟨(mFr.upE mFr.rf eg1 rfl), rg_w kc_1 rfl, (cJ_up hJ eg1 rfl), trivial⟩
theorem c_ktake (l : Launch) {G : cG} {Z : cZ} (X : Int) (g : mSt) (i0 : Nat) (q1 : Nat) (p2 : Int32) (p3 : Int32) (hX : 0 ≤ X ∧ X ≤ 2000000000) (hJ : cJ Z g) (hi0 : i0 < 2 * Z.n) (hq1 : Z.al 19 q1) : Met l yX7_take (wk (Cond.code yX7_take cX7_take 5 (some .int))) rm_ktake (va_Pc [.ref (Z.ad 7 i0), .ref (Z.ad 19 q1), .int p2, .int p3] (cPre G Z X g)) (cQi G Z X (fun r g1 => mFr [225, 226, 227, 228, 229, 230, 231, 232, 233, 234, 235, 800] g g1 ∧ rg (-210) (48) r ∧ cJ Z g1 ∧ True)) 0 0 (cAd Z) := by
  refine Met.ofW (cc := cX7_take) (maxL := 5) (ret := (some .int)) (by decide) rfl ?_
  intro p e s m args below meth c s₁ B hml hv
  obtain ⟨rfl, hv⟩ := hv
  have hr := B.returns
  have hlocks := B.notSynchronized
  obtain ⟨x, L⟩ := c_start B rfl (fun w h => wk_in h) hv
  have hl := lv_entry ([.ref (Z.ad 7 i0), .ref (Z.ad 19 q1), .int p2, .int p3]) (n := 5) (Nat.le_of_ble_eq_true rfl)
  rw [lg_entry_eq]
  generalize (lg_sl ([.ref (Z.ad 7 i0), .ref (Z.ad 19 q1), .int p2, .int p3]) ++ List.replicate (5 - (lg_sl ([.ref (Z.ad 7 i0), .ref (Z.ad 19 q1), .int p2, .int p3])).length) Slot.unset).toArray = ls at hl ⊢
  exact w_ktake x hml L hX i0 q1 p2 p3 hJ hi0 hq1 hl (fun pc' ls' r g1 H1 locs1 hdg L hp => c_iret x L hr hlocks (Int.le_refl _) hp hdg)

def rm_kisWhole : Room := { frames := 1, cells := 0, slots := 0, locals := 24 }
theorem hd_kisWhole : yX0_isWhole.cls = cRn 0 ∧ yX0_isWhole.cls ≠ "java/lang/invoke/MethodHandle" ∧ yX0_isWhole.cls ≠ "java/lang/invoke/VarHandle" ∧ (parseMethodDescriptor yX0_isWhole.desc).map (fun d => d.parameters.length) = some 1 := by decide +kernel
set_option maxHeartbeats 4000000 in
set_option maxRecDepth 100000 in
theorem w_kisWhole {p : Program} {l : Launch} {e : Env} {s : State} {m : MethodId} {args : Array Value} {below : List Frame} {meth : Method} {c : Code} {H : Heap} {locs : List Loc} {Q : State → Prop} {ls : Array Slot} {G : cG} {Z : cZ} {A : Nat → Prop} {g : mSt} {H0 : Heap} {X : Int} (x : cX p c cX0_isWhole s args (wk (Cond.code yX0_isWhole cX0_isWhole 3 (some .boolean))) m G Z A RX0 H0) (hml : c.maxLocals = 3) (L : cL G Z A H0 X g H locs) (hX : 0 ≤ X ∧ X ≤ 2000000000) (i0 : Nat) (p1 : Int32) (hal0 : Z.al 0 i0) (hal16 : Z.al 16 i0) (rp1 : rg (1) (5) p1) (hl : lv_has ls 3 [(0, .ref (Z.ad 0 i0)), (1, .int p1)]) (hQ : ∀ (pc' : Nat) (ls' : Array Slot) (r : Int32) (g1 : mSt) (H1 : Heap) (locs1 : List Loc), decode cX0_isWhole pc' = .ok (.ireturn, 1) → cL G Z A H0 X g1 H1 locs1 → (mFr [2] g g1 ∧ rg (0) (1) r ∧ (r.toInt = 1 → 1 ≤ (g1 2 i0).toInt ∧ (g1 2 i0).toInt ≤ 200)) → W p l e rm_kisWhole s m args below meth c H1 locs1 0 0 Q (F0 m pc' ls' [.int r])) : W p l e rm_kisWhole s m args below meth c H locs 0 0 Q (F0 m 0 ls []) := by
  have hx := x.1
  have hb := x.2.1
  have hz := x.2.2.2.2.2.2.2.1
  have hzn := hz.1
  have up1 : (1 : Int) ≤ p1.toInt ∧ p1.toInt ≤ 5 := rp1
  refine lv_iload_n hx hb dX0_isWhole_0 rfl (lv_at hl 1 rfl) ?_
  refine lv_bipush (v := 48) hx hb dX0_isWhole_1 (by decide) ?_
  refine lv_imul hx hb dX0_isWhole_3 ?_
  refine lv_topi (fun v1 ev1 => ?_)
  have rv1 : rg (48) (240) v1 := (rg_mul ev1 rp1 kc_48 rfl).1
  have tv1 := (rg_mul ev1 rp1 kc_48 rfl).2
  have y2 : (48 : Int32).toInt = 48 := by decide
  have uv1 : (48 : Int) ≤ v1.toInt ∧ v1.toInt ≤ 240 := rv1
  refine lv_istore_n (lv' := [(2, .int v1), (0, .ref (Z.ad 0 i0)), (1, .int p1)]) hx hb dX0_isWhole_4 rfl hl (by decide) rfl (fun ls hl => ?_)
  refine lv_aload_n hx hb dX0_isWhole_5 rfl (lv_at hl 1 rfl) ?_
  refine lv_aload_n hx hb dX0_isWhole_6 rfl (lv_at hl 1 rfl) ?_
  refine c_getr (a := Z.ad 16 i0) x L 0 i0 0 hal0 rfl rfl (wk_in kf_X0_9) dX0_isWhole_7 ?_
  refine lv_iload_n hx hb dX0_isWhole_10 rfl (lv_at hl 0 rfl) ?_
  refine lv_bipush (v := 6) hx hb dX0_isWhole_11 (by decide) ?_
  refine lv_isub hx hb dX0_isWhole_13 ?_
  refine lv_topi (fun v3 ev3 => ?_)
  have rv3 : rg (42) (234) v3 := (rg_sub ev3 rv1 kc_6 rfl).1
  have tv3 := (rg_sub ev3 rv1 kc_6 rfl).2
  have y4 : (6 : Int32).toInt = 6 := by decide
  have uv3 : (42 : Int) ≤ v3.toInt ∧ v3.toInt ≤ 234 := rv3
  refine c_ld x L 16 i0 512 hal16 rfl rfl rv3 rfl dX0_isWhole_14 (fun v5 ev5 wv5 => ?_)
  have rv5 : rg (-2147483648) (2147483647) v5 := rg_any v5
  have uv5 : (-2147483648 : Int) ≤ v5.toInt ∧ v5.toInt ≤ 2147483647 := rv5
  have sv5 : v5.toInt = (g 512 (8192 * i0 + v3.toNatClampNeg)).toInt := congrArg Int32.toInt (ev5.trans (congrFun ((show mFr [2] g g from mFr.rf).at 512 rfl) _))
  refine lv_bipush (v := 8) hx hb dX0_isWhole_15 (by decide) ?_
  refine lv_ishl hx hb dX0_isWhole_17 ?_
  refine lv_topi (fun v6 ev6 => ?_)
  have rv6 : rg (-2147483648) (2147483647) v6 := rg_any v6
  have uv6 : (-2147483648 : Int) ≤ v6.toInt ∧ v6.toInt ≤ 2147483647 := rv6
  refine lv_aload_n hx hb dX0_isWhole_18 rfl (lv_at hl 1 rfl) ?_
  refine c_getr (a := Z.ad 16 i0) x L 0 i0 0 hal0 rfl rfl (wk_in kf_X0_9) dX0_isWhole_19 ?_
  refine lv_iload_n hx hb dX0_isWhole_22 rfl (lv_at hl 0 rfl) ?_
  refine lv_iconst (v := 5) hx hb dX0_isWhole_23 (by decide) ?_
  refine lv_isub hx hb dX0_isWhole_24 ?_
  refine lv_topi (fun v7 ev7 => ?_)
  have rv7 : rg (43) (235) v7 := (rg_sub ev7 rv1 kc_5 rfl).1
  have tv7 := (rg_sub ev7 rv1 kc_5 rfl).2
  have y8 : (5 : Int32).toInt = 5 := by decide
  have uv7 : (43 : Int) ≤ v7.toInt ∧ v7.toInt ≤ 235 := rv7
  refine c_ld x L 16 i0 512 hal16 rfl rfl rv7 rfl dX0_isWhole_25 (fun v9 ev9 wv9 => ?_)
  have rv9 : rg (-2147483648) (2147483647) v9 := rg_any v9
  have uv9 : (-2147483648 : Int) ≤ v9.toInt ∧ v9.toInt ≤ 2147483647 := rv9
  have sv9 : v9.toInt = (g 512 (8192 * i0 + v7.toNatClampNeg)).toInt := congrArg Int32.toInt (ev9.trans (congrFun ((show mFr [2] g g from mFr.rf).at 512 rfl) _))
  refine lv_ior hx hb dX0_isWhole_26 ?_
  refine lv_topi (fun v10 ev10 => ?_)
  have rv10 : rg (-2147483648) (2147483647) v10 := rg_any v10
  have uv10 : (-2147483648 : Int) ≤ v10.toInt ∧ v10.toInt ≤ 2147483647 := rv10
  refine c_puti x L 0 i0 2 2 hal0 rfl rfl ⟨rfl, by decide +kernel⟩ (wk_in kf_X0_29) dX0_isWhole_27 (rg_any v10) (fun g11 H11 k11 eg11 L11 => ?_)
  refine lv_aload_n hx hb dX0_isWhole_30 rfl (lv_at hl 1 rfl) ?_
  refine c_geti x L11 0 i0 2 2 hal0 rfl rfl (wk_in kf_X0_29) dX0_isWhole_31 (fun v12 ev12 wv12 => ?_)
  refine m_top (((mm_st eg11)).trans ev12.symm) ?_
  refine lv_iconst (v := 1) hx hb dX0_isWhole_34 (by decide) ?_
  refine lv_icmp_lt (tgt := 86) hx hb dX0_isWhole_35 (by decide) (fun c35_13 => ?_) (fun c35_13 => ?_)
  · skip
    have ic35_13 := Int32.lt_iff_toInt_lt.mp c35_13
    have q14 : rg (-2147483648) (0) v10 := (rg_lt c35_13 rv10 kc_1).1
    have uq14 : (-2147483648 : Int) ≤ v10.toInt ∧ v10.toInt ≤ 0 := q14
    refine lv_iconst (v := 0) hx hb dX0_isWhole_86 (by decide) ?_
    exact hQ _ _ (0 : Int32) _ _ _ dX0_isWhole_87 L11 ⟨(mFr.upE mFr.rf eg11 rfl), rg_w kc_0 rfl, (fun h => by have : (0 : Int32).toInt = 0 := (by decide); omega)⟩
  · skip
    have ic35_13 := Int32.le_iff_toInt_le.mp (rg_nlt c35_13)
    have q15 : rg (1) (2147483647) v10 := (rg_le (rg_nlt c35_13) kc_1 rv10).2
    have uq15 : (1 : Int) ≤ v10.toInt ∧ v10.toInt ≤ 2147483647 := q15
    refine lv_aload_n hx hb dX0_isWhole_38 rfl (lv_at hl 1 rfl) ?_
    refine c_geti x L11 0 i0 2 2 hal0 rfl rfl (wk_in kf_X0_29) dX0_isWhole_39 (fun v16 ev16 wv16 => ?_)
    refine m_top (((mm_st eg11)).trans ev16.symm) ?_
    refine lv_sipush (v := 200) hx hb dX0_isWhole_42 (by decide) ?_
    refine lv_icmp_gt (tgt := 86) hx hb dX0_isWhole_45 (by decide) (fun c45_17 => ?_) (fun c45_17 => ?_)
    · skip
      have ic45_17 := Int32.lt_iff_toInt_lt.mp c45_17
      have q18 : rg (201) (2147483647) v10 := (rg_lt c45_17 kc_200 q15).2
      have uq18 : (201 : Int) ≤ v10.toInt ∧ v10.toInt ≤ 2147483647 := q18
      refine lv_iconst (v := 0) hx hb dX0_isWhole_86 (by decide) ?_
      exact hQ _ _ (0 : Int32) _ _ _ dX0_isWhole_87 L11 ⟨(mFr.upE mFr.rf eg11 rfl), rg_w kc_0 rfl, (fun h => by have : (0 : Int32).toInt = 0 := (by decide); omega)⟩
    · skip
      have ic45_17 := Int32.le_iff_toInt_le.mp (rg_nlt c45_17)
      have q19 : rg (1) (200) v10 := (rg_le (rg_nlt c45_17) q15 kc_200).1
      have uq19 : (1 : Int) ≤ v10.toInt ∧ v10.toInt ≤ 200 := q19
      refine lv_aload_n hx hb dX0_isWhole_48 rfl (lv_at hl 1 rfl) ?_
      refine c_geti x L11 0 i0 2 2 hal0 rfl rfl (wk_in kf_X0_29) dX0_isWhole_49 (fun v20 ev20 wv20 => ?_)
      refine m_top (((mm_st eg11)).trans ev20.symm) ?_
      refine c_siN (As := [.int v10]) (rest := []) x hml L11 (c_kcellsFor l X g11 v10 hX (rg_w q19 rfl)) (goodC (wk_all kd_X11_cellsFor)) (List.mem_of_getElem? (i := 2) rfl) (wk_in kt_X11_cellsFor) (wk_in kn_X11) rfl ⟨rfl, rfl⟩ hd_kcellsFor ⟨Nat.le_of_ble_eq_true rfl, Nat.le_of_ble_eq_true rfl⟩ rfl hl.1 rfl (lv_room (Nat.le_of_ble_eq_true rfl)) dX0_isWhole_52 (fun v22 g21 H21 k21 hp21 L21 => ?_)
      have rv22 : rg (1) (5) v22 := hp21.2.1
      have uv22 : (1 : Int) ≤ v22.toInt ∧ v22.toInt ≤ 5 := rv22
      have hw23 := hp21.2.2
      refine lv_iload_n hx hb dX0_isWhole_55 rfl (lv_at hl 2 rfl) ?_
      refine lv_icmp_ne (tgt := 86) hx hb dX0_isWhole_56 (by decide) (fun c56_24 => ?_) (fun c56_24 => ?_)
      · skip
        have ic56_24 : v22.toInt ≠ p1.toInt := fun z => c56_24 (Int32.toInt_inj.mp z)
        refine lv_iconst (v := 0) hx hb dX0_isWhole_86 (by decide) ?_
        exact hQ _ _ (0 : Int32) _ _ _ dX0_isWhole_87 L21 ⟨(mFr.tr (mFr.upE mFr.rf eg11 rfl) hp21.1 rfl), rg_w kc_0 rfl, (fun h => by have : (0 : Int32).toInt = 0 := (by decide); omega)⟩
      · skip
        have ic56_24 := congrArg Int32.toInt c56_24
        refine lv_aload_n hx hb dX0_isWhole_59 rfl (lv_at hl 1 rfl) ?_
        refine c_getr (a := Z.ad 16 i0) x L21 0 i0 0 hal0 rfl rfl (wk_in kf_X0_9) dX0_isWhole_60 ?_
        refine lv_iload_n hx hb dX0_isWhole_63 rfl (lv_at hl 0 rfl) ?_
        refine lv_iconst (v := 4) hx hb dX0_isWhole_64 (by decide) ?_
        refine lv_isub hx hb dX0_isWhole_65 ?_
        refine lv_topi (fun v25 ev25 => ?_)
        have rv25 : rg (44) (236) v25 := (rg_sub ev25 rv1 kc_4 rfl).1
        have tv25 := (rg_sub ev25 rv1 kc_4 rfl).2
        have y26 : (4 : Int32).toInt = 4 := by decide
        have uv25 : (44 : Int) ≤ v25.toInt ∧ v25.toInt ≤ 236 := rv25
        refine c_siN (As := [.ref (Z.ad 16 i0), .int v25]) (rest := []) x hml L21 (c_kcrcOf_16 l X g21 i0 v25 hX hal16) (goodC (wk_all kd_X11_crcOf)) (List.mem_of_getElem? (i := 3) rfl) (wk_in kt_X11_crcOf) (wk_in kn_X11) rfl ⟨rfl, rfl⟩ hd_kcrcOf_16 ⟨Nat.le_of_ble_eq_true rfl, Nat.le_of_ble_eq_true rfl⟩ rfl hl.1 rfl (lv_room (Nat.le_of_ble_eq_true rfl)) dX0_isWhole_66 (fun v28 g27 H27 k27 hp27 L27 => ?_)
        have rv28 : rg (-2147483648) (2147483647) v28 := hp27.2.1
        have uv28 : (-2147483648 : Int) ≤ v28.toInt ∧ v28.toInt ≤ 2147483647 := rv28
        refine lv_aload_n hx hb dX0_isWhole_69 rfl (lv_at hl 1 rfl) ?_
        refine c_getr (a := Z.ad 16 i0) x L27 0 i0 0 hal0 rfl rfl (wk_in kf_X0_9) dX0_isWhole_70 ?_
        refine lv_iload_n hx hb dX0_isWhole_73 rfl (lv_at hl 0 rfl) ?_
        refine lv_iconst (v := 4) hx hb dX0_isWhole_74 (by decide) ?_
        refine lv_isub hx hb dX0_isWhole_75 ?_
        refine m_top ev25 ?_
        refine c_siN (As := [.ref (Z.ad 16 i0), .int v25]) (rest := [.int v28]) x hml L27 (c_kwordAt_16 l X g27 i0 v25 hX hal16 (rg_w rv25 rfl)) (goodC (wk_all kd_X11_wordAt)) (List.mem_of_getElem? (i := 4) rfl) (wk_in kt_X11_wordAt) (wk_in kn_X11) rfl ⟨rfl, rfl⟩ hd_kwordAt_16 ⟨Nat.le_of_ble_eq_true rfl, Nat.le_of_ble_eq_true rfl⟩ rfl hl.1 rfl (lv_room (Nat.le_of_ble_eq_true rfl)) dX0_isWhole_76 (fun v30 g29 H29 k29 hp29 L29 => ?_)
        have rv30 : rg (-2147483648) (2147483647) v30 := hp29.2.1
        have uv30 : (-2147483648 : Int) ≤ v30.toInt ∧ v30.toInt ≤ 2147483647 := rv30
        refine lv_icmp_ne (tgt := 86) hx hb dX0_isWhole_79 (by decide) (fun c79_31 => ?_) (fun c79_31 => ?_)
        · skip
          have ic79_31 : v28.toInt ≠ v30.toInt := fun z => c79_31 (Int32.toInt_inj.mp z)
          refine lv_iconst (v := 0) hx hb dX0_isWhole_86 (by decide) ?_
          exact hQ _ _ (0 : Int32) _ _ _ dX0_isWhole_87 L29 ⟨(mFr.tr (mFr.tr (mFr.tr (mFr.upE mFr.rf eg11 rfl) hp21.1 rfl) hp27.1 rfl) hp29.1 rfl), rg_w kc_0 rfl, (fun h => by have : (0 : Int32).toInt = 0 := (by decide); omega)⟩
        · skip
          have ic79_31 := congrArg Int32.toInt c79_31
          refine lv_iconst (v := 1) hx hb dX0_isWhole_82 (by decide) ?_
          refine lv_goto (tgt := 87) hx hb dX0_isWhole_83 (by decide) ?_
          exact hQ _ _ (1 : Int32) _ _ _ dX0_isWhole_87 L29 ⟨(mFr.tr (mFr.tr (mFr.tr (mFr.upE mFr.rf eg11 rfl) hp21.1 rfl) hp27.1 rfl) hp29.1 rfl), rg_w kc_1 rfl, (fun _ => by rw [← (mm_fr (mm_fr (mm_fr (mm_st eg11) hp21.1 rfl) hp27.1 rfl) hp29.1 rfl)]; omega)⟩
theorem c_kisWhole (l : Launch) {G : cG} {Z : cZ} (X : Int) (g : mSt) (i0 : Nat) (p1 : Int32) (hX : 0 ≤ X ∧ X ≤ 2000000000) (hal0 : Z.al 0 i0) (hal16 : Z.al 16 i0) (rp1 : rg (1) (5) p1) : Met l yX0_isWhole (wk (Cond.code yX0_isWhole cX0_isWhole 3 (some .boolean))) rm_kisWhole (va_Pc [.ref (Z.ad 0 i0), .int p1] (cPre G Z X g)) (cQi G Z X (fun r g1 => mFr [2] g g1 ∧ rg (0) (1) r ∧ (r.toInt = 1 → 1 ≤ (g1 2 i0).toInt ∧ (g1 2 i0).toInt ≤ 200))) 0 0 (cAd Z) := by
  refine Met.ofW (cc := cX0_isWhole) (maxL := 3) (ret := (some .boolean)) (by decide) rfl ?_
  intro p e s m args below meth c s₁ B hml hv
  obtain ⟨rfl, hv⟩ := hv
  have hr := B.returns
  have hlocks := B.notSynchronized
  obtain ⟨x, L⟩ := c_start B rfl (fun w h => wk_in h) hv
  have hl := lv_entry ([.ref (Z.ad 0 i0), .int p1]) (n := 3) (Nat.le_of_ble_eq_true rfl)
  rw [lg_entry_eq]
  generalize (lg_sl ([.ref (Z.ad 0 i0), .int p1]) ++ List.replicate (3 - (lg_sl ([.ref (Z.ad 0 i0), .int p1])).length) Slot.unset).toArray = ls at hl ⊢
  exact w_kisWhole x hml L hX i0 p1 hal0 hal16 rp1 hl (fun pc' ls' r g1 H1 locs1 hdg L hp => c_zret x L hr hlocks (nar01 (rg_w hp.2.1 rfl)) (Int.le_refl _) hp hdg)

def rm_kasmAdd : Room := { frames := 2, cells := 0, slots := 0, locals := 48 }
theorem hd_kasmAdd : yX0_add.cls = cRn 0 ∧ yX0_add.cls ≠ "java/lang/invoke/MethodHandle" ∧ yX0_add.cls ≠ "java/lang/invoke/VarHandle" ∧ (parseMethodDescriptor yX0_add.desc).map (fun d => d.parameters.length) = some 2 := by decide +kernel
set_option maxHeartbeats 4000000 in
set_option maxRecDepth 100000 in
theorem w_kasmAdd {p : Program} {l : Launch} {e : Env} {s : State} {m : MethodId} {args : Array Value} {below : List Frame} {meth : Method} {c : Code} {H : Heap} {locs : List Loc} {Q : State → Prop} {ls : Array Slot} {G : cG} {Z : cZ} {A : Nat → Prop} {g : mSt} {H0 : Heap} {X : Int} (x : cX p c cX0_add s args (wk (Cond.code yX0_add cX0_add 4 (some .int))) m G Z A RX0 H0) (hml : c.maxLocals = 4) (L : cL G Z A H0 X g H locs) (hX : 0 ≤ X ∧ X ≤ 2000000000) (i0 : Nat) (q1 : Nat) (p2 : Int32) (hal0 : Z.al 0 i0) (hal16 : Z.al 16 i0) (hq1 : Z.al 25 q1) (rp2 : rg (0) (1) p2) (hl : lv_has ls 4 [(0, .ref (Z.ad 0 i0)), (1, .ref (Z.ad 25 q1)), (2, .int p2)]) (hQ : ∀ (pc' : Nat) (ls' : Array Slot) (r : Int32) (g1 : mSt) (H1 : Heap) (locs1 : List Loc), decode cX0_add pc' = .ok (.ireturn, 1) → cL G Z A H0 X g1 H1 locs1 → (mFr [1, 2, 512] g g1 ∧ rg (0) (2) r ∧ (r.toInt = 1 → 1 ≤ (g1 2 i0).toInt ∧ (g1 2 i0).toInt ≤ 200)) → W p l e rm_kasmAdd s m args below meth c H1 locs1 0 0 Q (F0 m pc' ls' [.int r])) : W p l e rm_kasmAdd s m args below meth c H locs 0 0 Q (F0 m 0 ls []) := by
  have hx := x.1
  have hb := x.2.1
  have hz := x.2.2.2.2.2.2.2.1
  have hzn := hz.1
  have up2 : (0 : Int) ≤ p2.toInt ∧ p2.toInt ≤ 1 := rp2
  refine lv_aload_n hx hb dX0_add_0 rfl (lv_at hl 0 rfl) ?_
  refine c_geti x L 0 i0 1 1 hal0 rfl rfl (wk_in kf_X0_15) dX0_add_1 (fun v1 ev1 wv1 => ?_)
  have rv1 : rg (0) (5) v1 := clj_1 wv1
  have uv1 : (0 : Int) ≤ v1.toInt ∧ v1.toInt ≤ 5 := rv1
  have sv1 := congrArg Int32.toInt ev1
  refine lv_iconst (v := 5) hx hb dX0_add_4 (by decide) ?_
  refine lv_icmp_ge (tgt := 15) hx hb dX0_add_5 (by decide) (fun c5_2 => ?_) (fun c5_2 => ?_)
  · skip
    have ic5_2 := Int32.le_iff_toInt_le.mp c5_2
    have q3 : rg (5) (5) v1 := (rg_le c5_2 kc_5 rv1).2
    have uq3 : (5 : Int) ≤ v1.toInt ∧ v1.toInt ≤ 5 := q3
    refine lv_iconst (v := 0) hx hb dX0_add_15 (by decide) ?_
    exact hQ _ _ (0 : Int32) _ _ _ dX0_add_16 L ⟨mFr.rf, rg_w kc_0 rfl, (fun h => by have : (0 : Int32).toInt = 0 := (by decide); omega)⟩
  · skip
    have ic5_2 := Int32.lt_iff_toInt_lt.mp (rg_nle c5_2)
    have q4 : rg (0) (4) v1 := (rg_lt (rg_nle c5_2) rv1 kc_5).1
    have uq4 : (0 : Int) ≤ v1.toInt ∧ v1.toInt ≤ 4 := q4
    refine lv_aload_n hx hb dX0_add_8 rfl (lv_at hl 1 rfl) ?_
    refine c_len (n := 48) x L 25 q1 hq1 rfl (by decide) dX0_add_9 ?_
    refine lv_bipush (v := 48) hx hb dX0_add_10 (by decide) ?_
    refine lv_icmp_ge (tgt := 17) hx hb dX0_add_12 (by decide) (fun c12_5 => ?_) (fun c12_5 => ?_)
    · skip
      refine lv_aload_n hx hb dX0_add_17 rfl (lv_at hl 1 rfl) ?_
      refine lv_iconst (v := 0) hx hb dX0_add_18 (by decide) ?_
      refine lv_aload_n hx hb dX0_add_19 rfl (lv_at hl 0 rfl) ?_
      refine c_getr (a := Z.ad 16 i0) x L 0 i0 0 hal0 rfl rfl (wk_in kf_X0_9) dX0_add_20 ?_
      refine lv_aload_n hx hb dX0_add_23 rfl (lv_at hl 0 rfl) ?_
      refine c_geti x L 0 i0 1 1 hal0 rfl rfl (wk_in kf_X0_15) dX0_add_24 (fun v6 ev6 wv6 => ?_)
      refine m_top ((ev1).trans ev6.symm) ?_
      refine lv_bipush (v := 48) hx hb dX0_add_27 (by decide) ?_
      refine lv_imul hx hb dX0_add_29 ?_
      refine lv_topi (fun v7 ev7 => ?_)
      have rv7 : rg (0) (192) v7 := (rg_mul ev7 q4 kc_48 rfl).1
      have tv7 := (rg_mul ev7 q4 kc_48 rfl).2
      have y8 : (48 : Int32).toInt = 48 := by decide
      have uv7 : (0 : Int) ≤ v7.toInt ∧ v7.toInt ≤ 192 := rv7
      refine lv_bipush (v := 48) hx hb dX0_add_30 (by decide) ?_
      refine c_copy (rest := []) x (hml.trans hl.1.symm) L 25 q1 16 i0 800 512 hq1 hal16 rfl rfl rfl rfl ⟨rfl, rfl⟩ kl_X0_19 kw_cp (Int.le_trans (by decide) kc_0.1) (Int.le_trans (by decide) rv7.1) (Int.le_trans (by decide) kc_48.1) (Int.le_trans (Int.add_le_add kc_0.2 kc_48.2) (by decide)) (Int.le_trans (Int.add_le_add rv7.2 kc_48.2) (by decide)) (Nat.le_of_ble_eq_true rfl) (Nat.le_of_ble_eq_true rfl) dX0_add_32 (fun g9 H9 k9 ec9 L9 => ?_)
      refine lv_aload_n hx hb dX0_add_35 rfl (lv_at hl 0 rfl) ?_
      refine lv_dup hx hb dX0_add_36 rfl ?_
      refine c_geti x L9 0 i0 1 1 hal0 rfl rfl (wk_in kf_X0_15) dX0_add_37 (fun v10 ev10 wv10 => ?_)
      refine m_top (((mm_fr ev1 (cCpy_fr ec9) rfl)).trans ev10.symm) ?_
      refine lv_iconst (v := 1) hx hb dX0_add_40 (by decide) ?_
      refine lv_iadd hx hb dX0_add_41 ?_
      refine lv_topi (fun v11 ev11 => ?_)
      have rv11 : rg (1) (5) v11 := (rg_add ev11 q4 kc_1 rfl).1
      have tv11 := (rg_add ev11 q4 kc_1 rfl).2
      have y12 : (1 : Int32).toInt = 1 := by decide
      have uv11 : (1 : Int) ≤ v11.toInt ∧ v11.toInt ≤ 5 := rv11
      refine c_puti x L9 0 i0 1 1 hal0 rfl rfl ⟨rfl, by decide +kernel⟩ (wk_in kf_X0_15) dX0_add_42 (crj_1 (rg_w rv11 rfl)) (fun g13 H13 k13 eg13 L13 => ?_)
      refine lv_iload_n hx hb dX0_add_45 rfl (lv_at hl 2 rfl) ?_
      refine lv_if_ne (tgt := 59) hx hb dX0_add_46 (by decide) (fun c46_14 => ?_) (fun c46_14 => ?_)
      · skip
        have ic46_14 : p2.toInt ≠ (0 : Int32).toInt := fun z => c46_14 (Int32.toInt_inj.mp z)
        have y15 : (0 : Int32).toInt = 0 := by decide
        have q16 : rg (1) (1) p2 := rg_neL c46_14 rp2 kc_0
        have uq16 : (1 : Int) ≤ p2.toInt ∧ p2.toInt ≤ 1 := q16
        refine lv_aload_n hx hb dX0_add_59 rfl (lv_at hl 0 rfl) ?_
        refine c_geti x L13 0 i0 1 1 hal0 rfl rfl (wk_in kf_X0_15) dX0_add_60 (fun v17 ev17 wv17 => ?_)
        refine m_top (((mm_st eg13)).trans ev17.symm) ?_
        refine lv_istore_n (lv' := [(3, .int v11), (0, .ref (Z.ad 0 i0)), (1, .ref (Z.ad 25 q1)), (2, .int p2)]) hx hb dX0_add_63 rfl hl (by decide) rfl (fun ls hl => ?_)
        refine lv_aload_n hx hb dX0_add_64 rfl (lv_at hl 1 rfl) ?_
        refine lv_iconst (v := 0) hx hb dX0_add_65 (by decide) ?_
        refine c_puti x L13 0 i0 1 1 hal0 rfl rfl ⟨rfl, by decide +kernel⟩ (wk_in kf_X0_15) dX0_add_66 (crj_1 (rg_w kc_0 rfl)) (fun g18 H18 k18 eg18 L18 => ?_)
        refine lv_iload_n hx hb dX0_add_69 rfl (lv_at hl 3 rfl) ?_
        refine lv_if_eq (tgt := 85) hx hb dX0_add_70 (by decide) (fun c70_19 => ?_) (fun c70_19 => ?_)
        · skip
          have ic70_19 := congrArg Int32.toInt c70_19
          have y20 : (0 : Int32).toInt = 0 := by decide
          exact absurd ((rg_eq c70_19 q16 kc_0).1 : rg (1) (0) p2) (fun q => rg_dead q rfl)
        · skip
          have ic70_19 : p2.toInt ≠ (0 : Int32).toInt := fun z => c70_19 (Int32.toInt_inj.mp z)
          have y21 : (0 : Int32).toInt = 0 := by decide
          refine lv_aload_n hx hb dX0_add_73 rfl (lv_at hl 1 rfl) ?_
          refine lv_iload_n hx hb dX0_add_74 rfl (lv_at hl 0 rfl) ?_
          refine c_ci (As := [.int v11]) (rest := []) x hml L18 0 i0 hal0 rfl (c_kisWhole l X g18 i0 v11 hX hal0 hal16 (rg_w rv11 rfl)) (wk_V kd_X0_isWhole kl_X0_25 ki_X0_isWhole ks_X0_X0_isWhole kn_X0) rfl ⟨rfl, rfl⟩ hd_kisWhole ⟨Nat.le_of_ble_eq_true rfl, Nat.le_of_ble_eq_true rfl⟩ rfl hl.1 rfl (lv_room (Nat.le_of_ble_eq_true rfl)) dX0_add_75 (fun v23 g22 H22 k22 hp22 L22 => ?_)
          have rv23 : rg (0) (1) v23 := hp22.2.1
          have uv23 : (0 : Int) ≤ v23.toInt ∧ v23.toInt ≤ 1 := rv23
          have hw24 := hp22.2.2
          refine lv_if_eq (tgt := 85) hx hb dX0_add_78 (by decide) (fun c78_25 => ?_) (fun c78_25 => ?_)
          · skip
            have ic78_25 := congrArg Int32.toInt c78_25
            have y26 : (0 : Int32).toInt = 0 := by decide
            have q27 : rg (0) (0) v23 := (rg_eq c78_25 rv23 kc_0).1
            have uq27 : (0 : Int) ≤ v23.toInt ∧ v23.toInt ≤ 0 := q27
            refine lv_iconst (v := 2) hx hb dX0_add_85 (by decide) ?_
            exact hQ _ _ (2 : Int32) _ _ _ dX0_add_86 L22 ⟨(mFr.tr (mFr.upE (mFr.upE (mFr.tr mFr.rf (cCpy_fr ec9) rfl) eg13 rfl) eg18 rfl) hp22.1 rfl), rg_w kc_2 rfl, (fun h => by have : (2 : Int32).toInt = 2 := (by decide); omega)⟩
          · skip
            have ic78_25 : v23.toInt ≠ (0 : Int32).toInt := fun z => c78_25 (Int32.toInt_inj.mp z)
            have y28 : (0 : Int32).toInt = 0 := by decide
            have q29 : rg (1) (1) v23 := rg_neL c78_25 rv23 kc_0
            have uq29 : (1 : Int) ≤ v23.toInt ∧ v23.toInt ≤ 1 := q29
            refine lv_iconst (v := 1) hx hb dX0_add_81 (by decide) ?_
            refine lv_goto (tgt := 86) hx hb dX0_add_82 (by decide) ?_
            exact hQ _ _ (1 : Int32) _ _ _ dX0_add_86 L22 ⟨(mFr.tr (mFr.upE (mFr.upE (mFr.tr mFr.rf (cCpy_fr ec9) rfl) eg13 rfl) eg18 rfl) hp22.1 rfl), rg_w kc_1 rfl, (fun _ => hw24 (by omega))⟩
      · skip
        have ic46_14 := congrArg Int32.toInt c46_14
        have y30 : (0 : Int32).toInt = 0 := by decide
        have q31 : rg (0) (0) p2 := (rg_eq c46_14 rp2 kc_0).1
        have uq31 : (0 : Int) ≤ p2.toInt ∧ p2.toInt ≤ 0 := q31
        refine lv_aload_n hx hb dX0_add_49 rfl (lv_at hl 0 rfl) ?_
        refine c_geti x L13 0 i0 1 1 hal0 rfl rfl (wk_in kf_X0_15) dX0_add_50 (fun v32 ev32 wv32 => ?_)
        refine m_top (((mm_st eg13)).trans ev32.symm) ?_
        refine lv_iconst (v := 5) hx hb dX0_add_53 (by decide) ?_
        refine lv_icmp_ge (tgt := 59) hx hb dX0_add_54 (by decide) (fun c54_33 => ?_) (fun c54_33 => ?_)
        · skip
          have ic54_33 := Int32.le_iff_toInt_le.mp c54_33
          have q34 : rg (5) (5) v11 := (rg_le c54_33 kc_5 rv11).2
          have uq34 : (5 : Int) ≤ v11.toInt ∧ v11.toInt ≤ 5 := q34
          refine lv_aload_n hx hb dX0_add_59 rfl (lv_at hl 0 rfl) ?_
          refine c_geti x L13 0 i0 1 1 hal0 rfl rfl (wk_in kf_X0_15) dX0_add_60 (fun v35 ev35 wv35 => ?_)
          refine m_top (((mm_st eg13)).trans ev35.symm) ?_
          refine lv_istore_n (lv' := [(3, .int v11), (0, .ref (Z.ad 0 i0)), (1, .ref (Z.ad 25 q1)), (2, .int p2)]) hx hb dX0_add_63 rfl hl (by decide) rfl (fun ls hl => ?_)
          refine lv_aload_n hx hb dX0_add_64 rfl (lv_at hl 1 rfl) ?_
          refine lv_iconst (v := 0) hx hb dX0_add_65 (by decide) ?_
          refine c_puti x L13 0 i0 1 1 hal0 rfl rfl ⟨rfl, by decide +kernel⟩ (wk_in kf_X0_15) dX0_add_66 (crj_1 (rg_w kc_0 rfl)) (fun g36 H36 k36 eg36 L36 => ?_)
          refine lv_iload_n hx hb dX0_add_69 rfl (lv_at hl 3 rfl) ?_
          refine lv_if_eq (tgt := 85) hx hb dX0_add_70 (by decide) (fun c70_37 => ?_) (fun c70_37 => ?_)
          · skip
            have ic70_37 := congrArg Int32.toInt c70_37
            have y38 : (0 : Int32).toInt = 0 := by decide
            refine lv_iconst (v := 2) hx hb dX0_add_85 (by decide) ?_
            exact hQ _ _ (2 : Int32) _ _ _ dX0_add_86 L36 ⟨(mFr.upE (mFr.upE (mFr.tr mFr.rf (cCpy_fr ec9) rfl) eg13 rfl) eg36 rfl), rg_w kc_2 rfl, (fun h => by have : (2 : Int32).toInt = 2 := (by decide); omega)⟩
          · skip
            have ic70_37 : p2.toInt ≠ (0 : Int32).toInt := fun z => c70_37 (Int32.toInt_inj.mp z)
            have y39 : (0 : Int32).toInt = 0 := by decide
            exact absurd (rg_neH c70_37 q31 kc_0 : rg (0) (-1) p2) (fun q => rg_dead q rfl)
        · skip
          have ic54_33 := Int32.lt_iff_toInt_lt.mp (rg_nle c54_33)
          have q40 : rg (1) (4) v11 := (rg_lt (rg_nle c54_33) rv11 kc_5).1
          have uq40 : (1 : Int) ≤ v11.toInt ∧ v11.toInt ≤ 4 := q40
          refine lv_iconst (v := 0) hx hb dX0_add_57 (by decide) ?_
          exact hQ _ _ (0 : Int32) _ _ _ dX0_add_58 L13 ⟨(mFr.upE (mFr.tr mFr.rf (cCpy_fr ec9) rfl) eg13 rfl), rg_w kc_0 rfl, (fun h => by have : (0 : Int32).toInt = 0 := (by decide); omega)⟩
    · skip
      exact absurd c12_5 (by decide)
theorem c_kasmAdd (l : Launch) {G : cG} {Z : cZ} (X : Int) (g : mSt) (i0 : Nat) (q1 : Nat) (p2 : Int32) (hX : 0 ≤ X ∧ X ≤ 2000000000) (hal0 : Z.al 0 i0) (hal16 : Z.al 16 i0) (hq1 : Z.al 25 q1) (rp2 : rg (0) (1) p2) : Met l yX0_add (wk (Cond.code yX0_add cX0_add 4 (some .int))) rm_kasmAdd (va_Pc [.ref (Z.ad 0 i0), .ref (Z.ad 25 q1), .int p2] (cPre G Z X g)) (cQi G Z X (fun r g1 => mFr [1, 2, 512] g g1 ∧ rg (0) (2) r ∧ (r.toInt = 1 → 1 ≤ (g1 2 i0).toInt ∧ (g1 2 i0).toInt ≤ 200))) 0 0 (cAd Z) := by
  refine Met.ofW (cc := cX0_add) (maxL := 4) (ret := (some .int)) (by decide) rfl ?_
  intro p e s m args below meth c s₁ B hml hv
  obtain ⟨rfl, hv⟩ := hv
  have hr := B.returns
  have hlocks := B.notSynchronized
  obtain ⟨x, L⟩ := c_start B rfl (fun w h => wk_in h) hv
  have hl := lv_entry ([.ref (Z.ad 0 i0), .ref (Z.ad 25 q1), .int p2]) (n := 4) (Nat.le_of_ble_eq_true rfl)
  rw [lg_entry_eq]
  generalize (lg_sl ([.ref (Z.ad 0 i0), .ref (Z.ad 25 q1), .int p2]) ++ List.replicate (4 - (lg_sl ([.ref (Z.ad 0 i0), .ref (Z.ad 25 q1), .int p2])).length) Slot.unset).toArray = ls at hl ⊢
  exact w_kasmAdd x hml L hX i0 q1 p2 hal0 hal16 hq1 rp2 hl (fun pc' ls' r g1 H1 locs1 hdg L hp => c_iret x L hr hlocks (Int.le_refl _) hp hdg)

def rm_kcameAhead : Room := { frames := 0, cells := 0, slots := 0, locals := 0 }
theorem hd_kcameAhead : yX5_cameAhead.cls = cRn 5 ∧ yX5_cameAhead.cls ≠ "java/lang/invoke/MethodHandle" ∧ yX5_cameAhead.cls ≠ "java/lang/invoke/VarHandle" ∧ (parseMethodDescriptor yX5_cameAhead.desc).map (fun d => d.parameters.length) = some 0 := by decide +kernel
set_option maxHeartbeats 4000000 in
set_option maxRecDepth 100000 in
theorem w_kcameAhead {p : Program} {l : Launch} {e : Env} {s : State} {m : MethodId} {args : Array Value} {below : List Frame} {meth : Method} {c : Code} {H : Heap} {locs : List Loc} {Q : State → Prop} {ls : Array Slot} {G : cG} {Z : cZ} {A : Nat → Prop} {g : mSt} {H0 : Heap} {X : Int} (x : cX p c cX5_cameAhead s args (wk (Cond.code yX5_cameAhead cX5_cameAhead 3 (some .int))) m G Z A RX5 H0) (hml : c.maxLocals = 3) (L : cL G Z A H0 X g H locs) (hX : 0 ≤ X ∧ X ≤ 2000000000) (i0 : Nat) (hi0 : i0 < 2 * Z.n) (hl : lv_has ls 3 [(0, .ref (Z.ad 5 i0))]) (hQ : ∀ (pc' : Nat) (ls' : Array Slot) (r : Int32) (g1 : mSt) (H1 : Heap) (locs1 : List Loc), decode cX5_cameAhead pc' = .ok (.ireturn, 1) → cL G Z A H0 X g1 H1 locs1 → (mFr [] g g1 ∧ rg (-2147483648) (2147483647) r ∧ True) → W p l e rm_kcameAhead s m args below meth c H1 locs1 0 0 Q (F0 m pc' ls' [.int r])) : W p l e rm_kcameAhead s m args below meth c H locs 0 0 Q (F0 m 0 ls []) := by
  have hx := x.1
  have hb := x.2.1
  have hz := x.2.2.2.2.2.2.2.1
  have hzn := hz.1
  have hal0 : Z.al 5 i0 := hz.2 5 i0 (show i0 < 2 * Z.n from hi0)
  refine lv_iconst (v := 0) hx hb dX5_cameAhead_0 (by decide) ?_
  refine lv_istore_n (lv' := [(1, .int (0 : Int32)), (0, .ref (Z.ad 5 i0))]) hx hb dX5_cameAhead_1 rfl hl (by decide) rfl (fun ls hl => ?_)
  refine lv_iconst (v := 0) hx hb dX5_cameAhead_2 (by decide) ?_
  refine lv_istore_n (lv' := [(2, .int (0 : Int32)), (1, .int (0 : Int32)), (0, .ref (Z.ad 5 i0))]) hx hb dX5_cameAhead_3 rfl hl (by decide) rfl (fun ls hl => ?_)
  have j4_3 : ∀ (n : Nat) (a4_1_1 a4_2_2 : Int32) (g3 : mSt) (H3 : Heap) (k3 : List Loc) (ls : Array Slot), mFr [] g g3 → cL G Z A H0 X g3 H3 k3 → rg (-2147483648) (2147483647) a4_1_1 → rg (0) (8) a4_2_2 → lv_has ls 3 [(0, .ref (Z.ad 5 i0)), (1, .int a4_1_1), (2, .int a4_2_2)] → ((8 : Int) - a4_2_2.toInt).toNat = n → W p l e rm_kcameAhead s m args below meth c H3 k3 0 0 Q (F0 m 4 ls []) := by
    intro n
    induction n using Nat.strongRecOn with
    | _ n ih3 =>
      intro a4_1_1 a4_2_2 g3 H3 k3 ls hF3 L3 ra4_1_1 ra4_2_2 hl hn3
      subst hn3
      refine lv_iload_n hx hb dX5_cameAhead_4 rfl (lv_at hl 2 rfl) ?_
      refine lv_bipush (v := 8) hx hb dX5_cameAhead_5 (by decide) ?_
      refine lv_icmp_ge (tgt := 36) hx hb dX5_cameAhead_7 (by decide) (fun c7_4 => ?_) (fun c7_4 => ?_)
      · skip
        have q5 : rg (8) (8) a4_2_2 := (rg_le c7_4 kc_8 ra4_2_2).2
        refine lv_iload_n hx hb dX5_cameAhead_36 rfl (lv_at hl 1 rfl) ?_
        exact hQ _ _ a4_1_1 _ _ _ dX5_cameAhead_37 L3 ⟨(mFr.tr mFr.rf hF3 rfl), rg_w ra4_1_1 rfl, trivial⟩
      · skip
        have q6 : rg (0) (7) a4_2_2 := (rg_lt (rg_nle c7_4) ra4_2_2 kc_8).1
        refine lv_iload_n hx hb dX5_cameAhead_10 rfl (lv_at hl 1 rfl) ?_
        refine lv_aload_n hx hb dX5_cameAhead_11 rfl (lv_at hl 0 rfl) ?_
        have al7 : Z.al 13 (2 * i0 + 1) := hz.2 13 (2 * i0 + 1) (show (2 * i0 + 1) < 4 * Z.n from (by omega))
        refine c_getr (a := Z.ad 13 (2 * i0 + 1)) x L3 5 i0 3 hal0 rfl rfl (wk_in kf_X5_23) dX5_cameAhead_12 ?_
        have al8 : Z.al 40 (2 * i0 + 1) := hz.2 40 (2 * i0 + 1) (show (2 * i0 + 1) < 4 * Z.n from (by omega))
        refine c_getr (a := Z.ad 40 (2 * i0 + 1)) x L3 13 (2 * i0 + 1) 2 al7 rfl rfl (wk_in kf_X5_65) dX5_cameAhead_15 ?_
        refine lv_iload_n hx hb dX5_cameAhead_18 rfl (lv_at hl 2 rfl) ?_
        refine c_ld x L3 40 (2 * i0 + 1) 1280 al8 rfl rfl q6 rfl dX5_cameAhead_19 (fun v9 ev9 wv9 => ?_)
        have rv9 : rg (0) (60) v9 := clj_1280 wv9
        have j28_11 : ∀ (b28_1_10 : Int32) (g11 : mSt) (H11 : Heap) (k11 : List Loc) (ls : Array Slot), mFr [] g3 g11 → cL G Z A H0 X g11 H11 k11 → rg (0) (1) b28_1_10 → lv_has ls 3 [(0, .ref (Z.ad 5 i0)), (2, .int a4_2_2)] → W p l e rm_kcameAhead s m args below meth c H11 k11 0 0 Q (F0 m 28 ls [.int b28_1_10, .int a4_1_1]) := by
          intro b28_1_10 g11 H11 k11 ls hF11 L11 rb28_1_10 hl
          refine lv_iadd hx hb dX5_cameAhead_28 ?_
          refine lv_topi (fun v12 ev12 => ?_)
          have rv12 : rg (-2147483648) (2147483647) v12 := rg_any v12
          refine lv_istore_n (lv' := [(1, .int v12), (0, .ref (Z.ad 5 i0)), (2, .int a4_2_2)]) hx hb dX5_cameAhead_29 rfl hl (by decide) rfl (fun ls hl => ?_)
          obtain ⟨v13, ev13, fv13⟩ := inc_ex a4_2_2 (1) (1 : Int32) (by decide)
          have rv13 : rg (1) (8) v13 := (rg_add ev13 q6 kc_1 rfl).1
          have tv13 := (rg_add ev13 q6 kc_1 rfl).2
          refine lv_iinc (v := v13) (lv' := [(2, .int v13), (1, .int v12), (0, .ref (Z.ad 5 i0))]) hx hb dX5_cameAhead_30 hl (k := 2) rfl fv13 (by decide) rfl (fun ls hl => ?_)
          refine lv_goto (tgt := 4) hx hb dX5_cameAhead_33 (by decide) ?_
          exact ih3 _ (ms_up tv13 kc_1 q6 rfl rfl) v12 v13 g11 _ _ ls (mFr.tr hF3 hF11 rfl) L11 (rg_w rv12 rfl) (rg_w rv13 rfl) (lv_sub hl [2, 1, 0] rfl) rfl
        refine lv_if_le (tgt := 27) hx hb dX5_cameAhead_20 (by decide) (fun c20_14 => ?_) (fun c20_14 => ?_)
        · skip
          have q15 : rg (0) (0) v9 := (rg_le c20_14 rv9 kc_0).1
          refine lv_iconst (v := 0) hx hb dX5_cameAhead_27 (by decide) ?_
          exact j28_11 (0 : Int32) g3 _ _ ls mFr.rf L3 (rg_w kc_0 rfl) (lv_sub hl [0, 2] rfl)
        · skip
          have q16 : rg (1) (60) v9 := (rg_lt (rg_nle c20_14) kc_0 rv9).2
          refine lv_iconst (v := 1) hx hb dX5_cameAhead_23 (by decide) ?_
          refine lv_goto (tgt := 28) hx hb dX5_cameAhead_24 (by decide) ?_
          exact j28_11 (1 : Int32) g3 _ _ ls mFr.rf L3 (rg_w kc_1 rfl) (lv_sub hl [0, 2] rfl)
  exact j4_3 _ (0 : Int32) (0 : Int32) g _ _ ls mFr.rf L (rg_w kc_0 rfl) (rg_w kc_0 rfl) (lv_sub hl [2, 1, 0] rfl) rfl
theorem c_kcameAhead (l : Launch) {G : cG} {Z : cZ} (X : Int) (g : mSt) (i0 : Nat) (hX : 0 ≤ X ∧ X ≤ 2000000000) (hi0 : i0 < 2 * Z.n) : Met l yX5_cameAhead (wk (Cond.code yX5_cameAhead cX5_cameAhead 3 (some .int))) rm_kcameAhead (va_Pc [.ref (Z.ad 5 i0)] (cPre G Z X g)) (cQi G Z X (fun r g1 => mFr [] g g1 ∧ rg (-2147483648) (2147483647) r ∧ True)) 0 0 (cAd Z) := by
  refine Met.ofW (cc := cX5_cameAhead) (maxL := 3) (ret := (some .int)) (by decide) rfl ?_
  intro p e s m args below meth c s₁ B hml hv
  obtain ⟨rfl, hv⟩ := hv
  have hr := B.returns
  have hlocks := B.notSynchronized
  obtain ⟨x, L⟩ := c_start B rfl (fun w h => wk_in h) hv
  have hl := lv_entry ([.ref (Z.ad 5 i0)]) (n := 3) (Nat.le_of_ble_eq_true rfl)
  rw [lg_entry_eq]
  generalize (lg_sl ([.ref (Z.ad 5 i0)]) ++ List.replicate (3 - (lg_sl ([.ref (Z.ad 5 i0)])).length) Slot.unset).toArray = ls at hl ⊢
  exact w_kcameAhead x hml L hX i0 hi0 hl (fun pc' ls' r g1 H1 locs1 hdg L hp => c_iret x L hr hlocks (Int.le_refl _) hp hdg)

def rm_kltell : Room := { frames := 1, cells := 0, slots := 0, locals := 22 }
theorem hd_kltell : yX5_tell.cls = cRn 5 ∧ yX5_tell.cls ≠ "java/lang/invoke/MethodHandle" ∧ yX5_tell.cls ≠ "java/lang/invoke/VarHandle" ∧ (parseMethodDescriptor yX5_tell.desc).map (fun d => d.parameters.length) = some 1 := by decide +kernel
set_option maxHeartbeats 4000000 in
set_option maxRecDepth 100000 in
theorem w_kltell {p : Program} {l : Launch} {e : Env} {s : State} {m : MethodId} {args : Array Value} {below : List Frame} {meth : Method} {c : Code} {H : Heap} {locs : List Loc} {Q : State → Prop} {ls : Array Slot} {G : cG} {Z : cZ} {A : Nat → Prop} {g : mSt} {H0 : Heap} {X : Int} (x : cX p c cX5_tell s args (wk (Cond.code yX5_tell cX5_tell 2 (some .int))) m G Z A RX5 H0) (hml : c.maxLocals = 2) (L : cL G Z A H0 X g H locs) (hX : 0 ≤ X ∧ X ≤ 2000000000) (i0 : Nat) (p1 : Int32) (hi0 : i0 < 2 * Z.n) (hl : lv_has ls 2 [(0, .ref (Z.ad 5 i0)), (1, .int p1)]) (hQ : ∀ (pc' : Nat) (ls' : Array Slot) (r : Int32) (g1 : mSt) (H1 : Heap) (locs1 : List Loc), decode cX5_tell pc' = .ok (.ireturn, 1) → cL G Z A H0 X g1 H1 locs1 → (mFr [] g g1 ∧ rg (-2147483648) (2147483647) r ∧ True) → W p l e rm_kltell s m args below meth c H1 locs1 0 0 Q (F0 m pc' ls' [.int r])) : W p l e rm_kltell s m args below meth c H locs 0 0 Q (F0 m 0 ls []) := by
  have hx := x.1
  have hb := x.2.1
  have hz := x.2.2.2.2.2.2.2.1
  have hzn := hz.1
  have hal0 : Z.al 5 i0 := hz.2 5 i0 (show i0 < 2 * Z.n from hi0)
  have up1 : (-2147483648 : Int) ≤ p1.toInt ∧ p1.toInt ≤ 2147483647 := (rg_any p1)
  refine lv_iload_n hx hb dX5_tell_0 rfl (lv_at hl 1 rfl) ?_
  rcases (show p1.toInt < 0 ∨ 11 < p1.toInt ∨ p1.toInt = 0 ∨ p1.toInt = 1 ∨ p1.toInt = 2 ∨ p1.toInt = 3 ∨ p1.toInt = 4 ∨ p1.toInt = 5 ∨ p1.toInt = 6 ∨ p1.toInt = 7 ∨ p1.toInt = 8 ∨ p1.toInt = 9 ∨ p1.toInt = 10 ∨ p1.toInt = 11 by omega) with c1_1 | c1_1 | c1_1 | c1_1 | c1_1 | c1_1 | c1_1 | c1_1 | c1_1 | c1_1 | c1_1 | c1_1 | c1_1 | c1_1
  · skip
    refine lv_tableOut (tgt := 132) hx hb dX5_tell_1 (Or.inl c1_1) (by decide) ?_
    refine lv_iconst (v := (-1)) hx hb dX5_tell_132 (by decide) ?_
    exact hQ _ _ (-1 : Int32) _ _ _ dX5_tell_133 L ⟨mFr.rf, rg_w kc_m1 rfl, trivial⟩
  · skip
    refine lv_tableOut (tgt := 132) hx hb dX5_tell_1 (Or.inr c1_1) (by decide) ?_
    refine lv_iconst (v := (-1)) hx hb dX5_tell_132 (by decide) ?_
    exact hQ _ _ (-1 : Int32) _ _ _ dX5_tell_133 L ⟨mFr.rf, rg_w kc_m1 rfl, trivial⟩
  · skip
    have q2 : rg (0) (0) p1 := ⟨by omega, by omega⟩
    refine lv_tableIn (off := 63) (tgt := 64) hx hb dX5_tell_1 (by omega) (by omega) (by rw [c1_1]; rfl) (by decide) ?_
    refine lv_aload_n hx hb dX5_tell_64 rfl (lv_at hl 0 rfl) ?_
    refine c_geti x L 5 i0 4 164 hal0 rfl rfl (wk_in kf_X5_26) dX5_tell_65 (fun v3 ev3 wv3 => ?_)
    have rv3 : rg (0) (4) v3 := clj_164 wv3
    have uv3 : (0 : Int) ≤ v3.toInt ∧ v3.toInt ≤ 4 := rv3
    have sv3 : v3.toInt = (g 164 i0).toInt := congrArg Int32.toInt (ev3.trans (congrFun ((show mFr [] g g from mFr.rf).at 164 rfl) _))
    exact hQ _ _ v3 _ _ _ dX5_tell_68 L ⟨mFr.rf, rg_w rv3 rfl, trivial⟩
  · skip
    have q4 : rg (1) (1) p1 := ⟨by omega, by omega⟩
    refine lv_tableIn (off := 68) (tgt := 69) hx hb dX5_tell_1 (by omega) (by omega) (by rw [c1_1]; rfl) (by decide) ?_
    refine lv_aload_n hx hb dX5_tell_69 rfl (lv_at hl 0 rfl) ?_
    refine c_geti x L 5 i0 5 165 hal0 rfl rfl (wk_in kf_X5_34) dX5_tell_70 (fun v5 ev5 wv5 => ?_)
    have rv5 : rg (0) (16777223) v5 := clj_165 wv5
    have uv5 : (0 : Int) ≤ v5.toInt ∧ v5.toInt ≤ 16777223 := rv5
    have sv5 : v5.toInt = (g 165 i0).toInt := congrArg Int32.toInt (ev5.trans (congrFun ((show mFr [] g g from mFr.rf).at 165 rfl) _))
    exact hQ _ _ v5 _ _ _ dX5_tell_73 L ⟨mFr.rf, rg_w rv5 rfl, trivial⟩
  · skip
    have q6 : rg (2) (2) p1 := ⟨by omega, by omega⟩
    refine lv_tableIn (off := 73) (tgt := 74) hx hb dX5_tell_1 (by omega) (by omega) (by rw [c1_1]; rfl) (by decide) ?_
    refine lv_aload_n hx hb dX5_tell_74 rfl (lv_at hl 0 rfl) ?_
    refine c_geti x L 5 i0 6 166 hal0 rfl rfl (wk_in kf_X5_37) dX5_tell_75 (fun v7 ev7 wv7 => ?_)
    have rv7 : rg (0) (16777215) v7 := clj_166 wv7
    have uv7 : (0 : Int) ≤ v7.toInt ∧ v7.toInt ≤ 16777215 := rv7
    have sv7 : v7.toInt = (g 166 i0).toInt := congrArg Int32.toInt (ev7.trans (congrFun ((show mFr [] g g from mFr.rf).at 166 rfl) _))
    exact hQ _ _ v7 _ _ _ dX5_tell_78 L ⟨mFr.rf, rg_w rv7 rfl, trivial⟩
  · skip
    have q8 : rg (3) (3) p1 := ⟨by omega, by omega⟩
    refine lv_tableIn (off := 78) (tgt := 79) hx hb dX5_tell_1 (by omega) (by omega) (by rw [c1_1]; rfl) (by decide) ?_
    refine lv_aload_n hx hb dX5_tell_79 rfl (lv_at hl 0 rfl) ?_
    refine c_geti x L 5 i0 7 167 hal0 rfl rfl (wk_in kf_X5_40) dX5_tell_80 (fun v9 ev9 wv9 => ?_)
    have rv9 : rg (0) (16777223) v9 := clj_167 wv9
    have uv9 : (0 : Int) ≤ v9.toInt ∧ v9.toInt ≤ 16777223 := rv9
    have sv9 : v9.toInt = (g 167 i0).toInt := congrArg Int32.toInt (ev9.trans (congrFun ((show mFr [] g g from mFr.rf).at 167 rfl) _))
    exact hQ _ _ v9 _ _ _ dX5_tell_83 L ⟨mFr.rf, rg_w rv9 rfl, trivial⟩
  · skip
    have q10 : rg (4) (4) p1 := ⟨by omega, by omega⟩
    refine lv_tableIn (off := 83) (tgt := 84) hx hb dX5_tell_1 (by omega) (by omega) (by rw [c1_1]; rfl) (by decide) ?_
    refine lv_aload_n hx hb dX5_tell_84 rfl (lv_at hl 0 rfl) ?_
    refine c_geti x L 5 i0 8 168 hal0 rfl rfl (wk_in kf_X5_43) dX5_tell_85 (fun v11 ev11 wv11 => ?_)
    have rv11 : rg (-2147483648) (2147483647) v11 := rg_any v11
    have uv11 : (-2147483648 : Int) ≤ v11.toInt ∧ v11.toInt ≤ 2147483647 := rv11
    have sv11 : v11.toInt = (g 168 i0).toInt := congrArg Int32.toInt (ev11.trans (congrFun ((show mFr [] g g from mFr.rf).at 168 rfl) _))
    exact hQ _ _ v11 _ _ _ dX5_tell_88 L ⟨mFr.rf, rg_w rv11 rfl, trivial⟩
  · skip
    have q12 : rg (5) (5) p1 := ⟨by omega, by omega⟩
    refine lv_tableIn (off := 88) (tgt := 89) hx hb dX5_tell_1 (by omega) (by omega) (by rw [c1_1]; rfl) (by decide) ?_
    refine lv_aload_n hx hb dX5_tell_89 rfl (lv_at hl 0 rfl) ?_
    refine c_geti x L 5 i0 9 169 hal0 rfl rfl (wk_in kf_X5_46) dX5_tell_90 (fun v13 ev13 wv13 => ?_)
    have rv13 : rg (-2147483648) (2147483647) v13 := rg_any v13
    have uv13 : (-2147483648 : Int) ≤ v13.toInt ∧ v13.toInt ≤ 2147483647 := rv13
    have sv13 : v13.toInt = (g 169 i0).toInt := congrArg Int32.toInt (ev13.trans (congrFun ((show mFr [] g g from mFr.rf).at 169 rfl) _))
    exact hQ _ _ v13 _ _ _ dX5_tell_93 L ⟨mFr.rf, rg_w rv13 rfl, trivial⟩
  · skip
    have q14 : rg (6) (6) p1 := ⟨by omega, by omega⟩
    refine lv_tableIn (off := 93) (tgt := 94) hx hb dX5_tell_1 (by omega) (by omega) (by rw [c1_1]; rfl) (by decide) ?_
    refine lv_aload_n hx hb dX5_tell_94 rfl (lv_at hl 0 rfl) ?_
    refine c_geti x L 5 i0 10 170 hal0 rfl rfl (wk_in kf_X5_49) dX5_tell_95 (fun v15 ev15 wv15 => ?_)
    have rv15 : rg 0 2000000000 v15 := rg_X hX (clj_170 wv15)
    have uv15 : (0 : Int) ≤ v15.toInt ∧ v15.toInt ≤ 2000000000 := rv15
    have sv15 : v15.toInt = (g 170 i0).toInt := congrArg Int32.toInt (ev15.trans (congrFun ((show mFr [] g g from mFr.rf).at 170 rfl) _))
    exact hQ _ _ v15 _ _ _ dX5_tell_98 L ⟨mFr.rf, rg_w rv15 rfl, trivial⟩
  · skip
    have q16 : rg (7) (7) p1 := ⟨by omega, by omega⟩
    refine lv_tableIn (off := 98) (tgt := 99) hx hb dX5_tell_1 (by omega) (by omega) (by rw [c1_1]; rfl) (by decide) ?_
    refine lv_aload_n hx hb dX5_tell_99 rfl (lv_at hl 0 rfl) ?_
    refine c_geti x L 5 i0 11 171 hal0 rfl rfl (wk_in kf_X5_52) dX5_tell_100 (fun v17 ev17 wv17 => ?_)
    have rv17 : rg (-2147483648) (2147483647) v17 := rg_any v17
    have uv17 : (-2147483648 : Int) ≤ v17.toInt ∧ v17.toInt ≤ 2147483647 := rv17
    have sv17 : v17.toInt = (g 171 i0).toInt := congrArg Int32.toInt (ev17.trans (congrFun ((show mFr [] g g from mFr.rf).at 171 rfl) _))
    exact hQ _ _ v17 _ _ _ dX5_tell_103 L ⟨mFr.rf, rg_w rv17 rfl, trivial⟩
  · skip
    have q18 : rg (8) (8) p1 := ⟨by omega, by omega⟩
    refine lv_tableIn (off := 103) (tgt := 104) hx hb dX5_tell_1 (by omega) (by omega) (by rw [c1_1]; rfl) (by decide) ?_
    refine lv_aload_n hx hb dX5_tell_104 rfl (lv_at hl 0 rfl) ?_
    have al19 : Z.al 6 i0 := hz.2 6 i0 (show i0 < 2 * Z.n from (by omega))
    refine c_getr (a := Z.ad 6 i0) x L 5 i0 1 hal0 rfl rfl (wk_in kf_X5_16) dX5_tell_105 ?_
    refine c_geti x L 6 i0 6 198 al19 rfl rfl (wk_in kf_X5_55) dX5_tell_108 (fun v20 ev20 wv20 => ?_)
    have rv20 : rg (0) (10) v20 := clj_198 wv20
    have uv20 : (0 : Int) ≤ v20.toInt ∧ v20.toInt ≤ 10 := rv20
    have sv20 : v20.toInt = (g 198 i0).toInt := congrArg Int32.toInt (ev20.trans (congrFun ((show mFr [] g g from mFr.rf).at 198 rfl) _))
    exact hQ _ _ v20 _ _ _ dX5_tell_111 L ⟨mFr.rf, rg_w rv20 rfl, trivial⟩
  · skip
    have q21 : rg (9) (9) p1 := ⟨by omega, by omega⟩
    refine lv_tableIn (off := 111) (tgt := 112) hx hb dX5_tell_1 (by omega) (by omega) (by rw [c1_1]; rfl) (by decide) ?_
    refine lv_aload_n hx hb dX5_tell_112 rfl (lv_at hl 0 rfl) ?_
    refine c_geti x L 5 i0 5 165 hal0 rfl rfl (wk_in kf_X5_34) dX5_tell_113 (fun v22 ev22 wv22 => ?_)
    have rv22 : rg (0) (16777223) v22 := clj_165 wv22
    have uv22 : (0 : Int) ≤ v22.toInt ∧ v22.toInt ≤ 16777223 := rv22
    have sv22 : v22.toInt = (g 165 i0).toInt := congrArg Int32.toInt (ev22.trans (congrFun ((show mFr [] g g from mFr.rf).at 165 rfl) _))
    refine lv_aload_n hx hb dX5_tell_116 rfl (lv_at hl 0 rfl) ?_
    refine c_geti x L 5 i0 6 166 hal0 rfl rfl (wk_in kf_X5_37) dX5_tell_117 (fun v23 ev23 wv23 => ?_)
    have rv23 : rg (0) (16777215) v23 := clj_166 wv23
    have uv23 : (0 : Int) ≤ v23.toInt ∧ v23.toInt ≤ 16777215 := rv23
    have sv23 : v23.toInt = (g 166 i0).toInt := congrArg Int32.toInt (ev23.trans (congrFun ((show mFr [] g g from mFr.rf).at 166 rfl) _))
    refine lv_isub hx hb dX5_tell_120 ?_
    refine lv_topi (fun v24 ev24 => ?_)
    have rv24 : rg (-16777215) (16777223) v24 := (rg_sub ev24 rv22 rv23 rfl).1
    have tv24 := (rg_sub ev24 rv22 rv23 rfl).2
    have uv24 : (-16777215 : Int) ≤ v24.toInt ∧ v24.toInt ≤ 16777223 := rv24
    exact hQ _ _ v24 _ _ _ dX5_tell_121 L ⟨mFr.rf, rg_w rv24 rfl, trivial⟩
  · skip
    have q25 : rg (10) (10) p1 := ⟨by omega, by omega⟩
    refine lv_tableIn (off := 121) (tgt := 122) hx hb dX5_tell_1 (by omega) (by omega) (by rw [c1_1]; rfl) (by decide) ?_
    refine lv_aload_n hx hb dX5_tell_122 rfl (lv_at hl 0 rfl) ?_
    refine c_ci (As := []) (rest := []) x hml L 5 i0 hal0 rfl (c_kcameAhead l X g i0 hX (show i0 < 2 * Z.n from (by omega))) (wk_V kd_X5_cameAhead kl_X5_58 ki_X5_cameAhead ks_X5_X5_cameAhead kn_X5) rfl ⟨rfl, rfl⟩ hd_kcameAhead ⟨Nat.le_of_ble_eq_true rfl, Nat.le_of_ble_eq_true rfl⟩ rfl hl.1 rfl (lv_room (Nat.le_of_ble_eq_true rfl)) dX5_tell_123 (fun v27 g26 H26 k26 hp26 L26 => ?_)
    have rv27 : rg (-2147483648) (2147483647) v27 := hp26.2.1
    have uv27 : (-2147483648 : Int) ≤ v27.toInt ∧ v27.toInt ≤ 2147483647 := rv27
    exact hQ _ _ v27 _ _ _ dX5_tell_126 L26 ⟨(mFr.tr mFr.rf hp26.1 rfl), rg_w rv27 rfl, trivial⟩
  · skip
    have q28 : rg (11) (11) p1 := ⟨by omega, by omega⟩
    refine lv_tableIn (off := 126) (tgt := 127) hx hb dX5_tell_1 (by omega) (by omega) (by rw [c1_1]; rfl) (by decide) ?_
    refine lv_aload_n hx hb dX5_tell_127 rfl (lv_at hl 0 rfl) ?_
    refine c_geti x L 5 i0 12 172 hal0 rfl rfl (wk_in kf_X5_62) dX5_tell_128 (fun v29 ev29 wv29 => ?_)
    have rv29 : rg (-2147483648) (2147483647) v29 := rg_any v29
    have uv29 : (-2147483648 : Int) ≤ v29.toInt ∧ v29.toInt ≤ 2147483647 := rv29
    have sv29 : v29.toInt = (g 172 i0).toInt := congrArg Int32.toInt (ev29.trans (congrFun ((show mFr [] g g from mFr.rf).at 172 rfl) _))
    exact hQ _ _ v29 _ _ _ dX5_tell_131 L ⟨mFr.rf, rg_w rv29 rfl, trivial⟩
theorem c_kltell (l : Launch) {G : cG} {Z : cZ} (X : Int) (g : mSt) (i0 : Nat) (p1 : Int32) (hX : 0 ≤ X ∧ X ≤ 2000000000) (hi0 : i0 < 2 * Z.n) : Met l yX5_tell (wk (Cond.code yX5_tell cX5_tell 2 (some .int))) rm_kltell (va_Pc [.ref (Z.ad 5 i0), .int p1] (cPre G Z X g)) (cQi G Z X (fun r g1 => mFr [] g g1 ∧ rg (-2147483648) (2147483647) r ∧ True)) 0 0 (cAd Z) := by
  refine Met.ofW (cc := cX5_tell) (maxL := 2) (ret := (some .int)) (by decide) rfl ?_
  intro p e s m args below meth c s₁ B hml hv
  obtain ⟨rfl, hv⟩ := hv
  have hr := B.returns
  have hlocks := B.notSynchronized
  obtain ⟨x, L⟩ := c_start B rfl (fun w h => wk_in h) hv
  have hl := lv_entry ([.ref (Z.ad 5 i0), .int p1]) (n := 2) (Nat.le_of_ble_eq_true rfl)
  rw [lg_entry_eq]
  generalize (lg_sl ([.ref (Z.ad 5 i0), .int p1]) ++ List.replicate (2 - (lg_sl ([.ref (Z.ad 5 i0), .int p1])).length) Slot.unset).toArray = ls at hl ⊢
  exact w_kltell x hml L hX i0 p1 hi0 hl (fun pc' ls' r g1 H1 locs1 hdg L hp => c_iret x L hr hlocks (Int.le_refl _) hp hdg)

def rm_kanew : Room := { frames := 1, cells := 0, slots := 0, locals := 21 }
theorem hd_kanew : yX5_anew.cls = cRn 5 ∧ yX5_anew.cls ≠ "java/lang/invoke/MethodHandle" ∧ yX5_anew.cls ≠ "java/lang/invoke/VarHandle" ∧ (parseMethodDescriptor yX5_anew.desc).map (fun d => d.parameters.length) = some 1 := by decide +kernel
set_option maxHeartbeats 4000000 in
set_option maxRecDepth 100000 in
theorem w_kanew {p : Program} {l : Launch} {e : Env} {s : State} {m : MethodId} {args : Array Value} {below : List Frame} {meth : Method} {c : Code} {H : Heap} {locs : List Loc} {Q : State → Prop} {ls : Array Slot} {G : cG} {Z : cZ} {A : Nat → Prop} {g : mSt} {H0 : Heap} {X : Int} (x : cX p c cX5_anew s args (wk (Cond.code yX5_anew cX5_anew 2 none)) m G Z A RX5 H0) (hml : c.maxLocals = 2) (L : cL G Z A H0 X g H locs) (hX : 0 ≤ X ∧ X ≤ 2000000000) (i0 : Nat) (p1 : Int32) (hi0 : i0 < 2 * Z.n) (rp1 : rg (0) (16777223) p1) (hl : lv_has ls 2 [(0, .ref (Z.ad 5 i0)), (1, .int p1)]) (hQ : ∀ (pc' : Nat) (ls' : Array Slot) (g1 : mSt) (H1 : Heap) (locs1 : List Loc), decode cX5_anew pc' = .ok (.return_, 1) → cL G Z A H0 X g1 H1 locs1 → (mFr [165, 166, 167, 168, 169, 170, 171, 179, 421, 422, 1280, 1344] g g1 ∧ True) → W p l e rm_kanew s m args below meth c H1 locs1 0 0 Q (F0 m pc' ls' [])) : W p l e rm_kanew s m args below meth c H locs 0 0 Q (F0 m 0 ls []) := by
  have hx := x.1
  have hb := x.2.1
  have hz := x.2.2.2.2.2.2.2.1
  have hzn := hz.1
  have hal0 : Z.al 5 i0 := hz.2 5 i0 (show i0 < 2 * Z.n from hi0)
  refine lv_aload_n hx hb dX5_anew_0 rfl (lv_at hl 0 rfl) ?_
  refine lv_iconst (v := 0) hx hb dX5_anew_1 (by decide) ?_
  refine c_puti x L 5 i0 5 165 hal0 rfl rfl ⟨rfl, by decide +kernel⟩ (wk_in kf_X5_34) dX5_anew_2 (crj_165 (rg_w kc_0 rfl)) (fun g1 H1 k1 eg1 L1 => ?_)
  refine lv_aload_n hx hb dX5_anew_5 rfl (lv_at hl 0 rfl) ?_
  refine lv_iconst (v := 0) hx hb dX5_anew_6 (by decide) ?_
  refine c_puti x L1 5 i0 6 166 hal0 rfl rfl ⟨rfl, by decide +kernel⟩ (wk_in kf_X5_37) dX5_anew_7 (crj_166 (rg_w kc_0 rfl)) (fun g2 H2 k2 eg2 L2 => ?_)
  refine lv_aload_n hx hb dX5_anew_10 rfl (lv_at hl 0 rfl) ?_
  refine lv_iload_n hx hb dX5_anew_11 rfl (lv_at hl 1 rfl) ?_
  refine c_puti x L2 5 i0 7 167 hal0 rfl rfl ⟨rfl, by decide +kernel⟩ (wk_in kf_X5_40) dX5_anew_12 (crj_167 (rg_w rp1 rfl)) (fun g3 H3 k3 eg3 L3 => ?_)
  refine lv_aload_n hx hb dX5_anew_15 rfl (lv_at hl 0 rfl) ?_
  refine lv_iconst (v := 0) hx hb dX5_anew_16 (by decide) ?_
  refine c_puti x L3 5 i0 8 168 hal0 rfl rfl ⟨rfl, by decide +kernel⟩ (wk_in kf_X5_43) dX5_anew_17 (rg_any (0 : Int32)) (fun g4 H4 k4 eg4 L4 => ?_)
  refine lv_aload_n hx hb dX5_anew_20 rfl (lv_at hl 0 rfl) ?_
  refine lv_iconst (v := 0) hx hb dX5_anew_21 (by decide) ?_
  refine c_puti x L4 5 i0 9 169 hal0 rfl rfl ⟨rfl, by decide +kernel⟩ (wk_in kf_X5_46) dX5_anew_22 (rg_any (0 : Int32)) (fun g5 H5 k5 eg5 L5 => ?_)
  refine lv_aload_n hx hb dX5_anew_25 rfl (lv_at hl 0 rfl) ?_
  refine lv_iconst (v := 0) hx hb dX5_anew_26 (by decide) ?_
  refine c_puti x L5 5 i0 10 170 hal0 rfl rfl ⟨rfl, by decide +kernel⟩ (wk_in kf_X5_49) dX5_anew_27 (crj_170 ⟨kc_0.1, Int.le_trans kc_0.2 (by omega)⟩) (fun g6 H6 k6 eg6 L6 => ?_)
  refine lv_aload_n hx hb dX5_anew_30 rfl (lv_at hl 0 rfl) ?_
  refine lv_iconst (v := 0) hx hb dX5_anew_31 (by decide) ?_
  refine c_puti x L6 5 i0 11 171 hal0 rfl rfl ⟨rfl, by decide +kernel⟩ (wk_in kf_X5_52) dX5_anew_32 (rg_any (0 : Int32)) (fun g7 H7 k7 eg7 L7 => ?_)
  refine lv_aload_n hx hb dX5_anew_35 rfl (lv_at hl 0 rfl) ?_
  refine lv_iconst (v := 0) hx hb dX5_anew_36 (by decide) ?_
  refine c_puti x L7 5 i0 19 179 hal0 rfl rfl ⟨rfl, by decide +kernel⟩ (wk_in kf_X5_69) dX5_anew_37 (rg_any (0 : Int32)) (fun g8 H8 k8 eg8 L8 => ?_)
  refine lv_aload_n hx hb dX5_anew_40 rfl (lv_at hl 0 rfl) ?_
  have al9 : Z.al 13 (2 * i0) := hz.2 13 (2 * i0) (show (2 * i0) < 4 * Z.n from (by omega))
  refine c_getr (a := Z.ad 13 (2 * i0)) x L8 5 i0 2 hal0 rfl rfl (wk_in kf_X5_20) dX5_anew_41 ?_
  refine c_cv (As := []) (rest := []) x hml L8 13 (2 * i0) al9 rfl (c_kclearAll_13 l X g8 (2 * i0) hX (show (2 * i0) < 4 * Z.n from (by omega))) (wk_V kd_X6_clearAll kl_X5_72 ki_X6_clearAll ks_X6_X6_clearAll kn_X6) rfl ⟨rfl, rfl⟩ hd_kclearAll_13 ⟨Nat.le_of_ble_eq_true rfl, Nat.le_of_ble_eq_true rfl⟩ rfl hl.1 rfl (lv_room (Nat.le_of_ble_eq_true rfl)) dX5_anew_44 (fun  g10 H10 k10 hp10 L10 => ?_)
  refine lv_aload_n hx hb dX5_anew_47 rfl (lv_at hl 0 rfl) ?_
  have al11 : Z.al 13 (2 * i0 + 1) := hz.2 13 (2 * i0 + 1) (show (2 * i0 + 1) < 4 * Z.n from (by omega))
  refine c_getr (a := Z.ad 13 (2 * i0 + 1)) x L10 5 i0 3 hal0 rfl rfl (wk_in kf_X5_23) dX5_anew_48 ?_
  refine c_cv (As := []) (rest := []) x hml L10 13 (2 * i0 + 1) al11 rfl (c_kclearAll_13 l X g10 (2 * i0 + 1) hX (show (2 * i0 + 1) < 4 * Z.n from (by omega))) (wk_V kd_X6_clearAll kl_X5_72 ki_X6_clearAll ks_X6_X6_clearAll kn_X6) rfl ⟨rfl, rfl⟩ hd_kclearAll_13 ⟨Nat.le_of_ble_eq_true rfl, Nat.le_of_ble_eq_true rfl⟩ rfl hl.1 rfl (lv_room (Nat.le_of_ble_eq_true rfl)) dX5_anew_51 (fun  g12 H12 k12 hp12 L12 => ?_)
  exact hQ _ _ _ _ _ dX5_anew_54 L12 ⟨(mFr.tr (mFr.tr (mFr.upE (mFr.upE (mFr.upE (mFr.upE (mFr.upE (mFr.upE (mFr.upE (mFr.upE mFr.rf eg1 rfl) eg2 rfl) eg3 rfl) eg4 rfl) eg5 rfl) eg6 rfl) eg7 rfl) eg8 rfl) hp10.1 rfl) hp12.1 rfl), trivial⟩
theorem c_kanew (l : Launch) {G : cG} {Z : cZ} (X : Int) (g : mSt) (i0 : Nat) (p1 : Int32) (hX : 0 ≤ X ∧ X ≤ 2000000000) (hi0 : i0 < 2 * Z.n) (rp1 : rg (0) (16777223) p1) : Met l yX5_anew (wk (Cond.code yX5_anew cX5_anew 2 none)) rm_kanew (va_Pc [.ref (Z.ad 5 i0), .int p1] (cPre G Z X g)) (cQv G Z X (fun g1 => mFr [165, 166, 167, 168, 169, 170, 171, 179, 421, 422, 1280, 1344] g g1 ∧ True)) 0 0 (cAd Z) := by
  refine Met.ofW (cc := cX5_anew) (maxL := 2) (ret := none) (by decide) rfl ?_
  intro p e s m args below meth c s₁ B hml hv
  obtain ⟨rfl, hv⟩ := hv
  have hr := B.returns
  have hlocks := B.notSynchronized
  obtain ⟨x, L⟩ := c_start B rfl (fun w h => wk_in h) hv
  have hl := lv_entry ([.ref (Z.ad 5 i0), .int p1]) (n := 2) (Nat.le_of_ble_eq_true rfl)
  rw [lg_entry_eq]
  generalize (lg_sl ([.ref (Z.ad 5 i0), .int p1]) ++ List.replicate (2 - (lg_sl ([.ref (Z.ad 5 i0), .int p1])).length) Slot.unset).toArray = ls at hl ⊢
  exact w_kanew x hml L hX i0 p1 hi0 rp1 hl (fun pc' ls' g1 H1 locs1 hdg L hp => c_vret x L hr hlocks (Int.le_refl _) hp hdg)

def rm_kbecomeReady : Room := { frames := 2, cells := 0, slots := 0, locals := 42 }
theorem hd_kbecomeReady : yX5_becomeReady.cls = cRn 5 ∧ yX5_becomeReady.cls ≠ "java/lang/invoke/MethodHandle" ∧ yX5_becomeReady.cls ≠ "java/lang/invoke/VarHandle" ∧ (parseMethodDescriptor yX5_becomeReady.desc).map (fun d => d.parameters.length) = some 1 := by decide +kernel
set_option maxHeartbeats 4000000 in
set_option maxRecDepth 100000 in
theorem w_kbecomeReady {p : Program} {l : Launch} {e : Env} {s : State} {m : MethodId} {args : Array Value} {below : List Frame} {meth : Method} {c : Code} {H : Heap} {locs : List Loc} {Q : State → Prop} {ls : Array Slot} {G : cG} {Z : cZ} {A : Nat → Prop} {g : mSt} {H0 : Heap} {X : Int} (x : cX p c cX5_becomeReady s args (wk (Cond.code yX5_becomeReady cX5_becomeReady 2 none)) m G Z A RX5 H0) (hml : c.maxLocals = 2) (L : cL G Z A H0 X g H locs) (hX : 0 ≤ X ∧ X ≤ 2000000000) (i0 : Nat) (p1 : Int32) (hi0 : i0 < 2 * Z.n) (hl : lv_has ls 2 [(0, .ref (Z.ad 5 i0)), (1, .int p1)]) (hQ : ∀ (pc' : Nat) (ls' : Array Slot) (g1 : mSt) (H1 : Heap) (locs1 : List Loc), decode cX5_becomeReady pc' = .ok (.return_, 1) → cL G Z A H0 X g1 H1 locs1 → (mFr [164, 165, 166, 167, 168, 169, 170, 171, 178, 179, 180, 421, 422, 1280, 1344] g g1 ∧ True) → W p l e rm_kbecomeReady s m args below meth c H1 locs1 0 0 Q (F0 m pc' ls' [])) : W p l e rm_kbecomeReady s m args below meth c H locs 0 0 Q (F0 m 0 ls []) := by
  have hx := x.1
  have hb := x.2.1
  have hz := x.2.2.2.2.2.2.2.1
  have hzn := hz.1
  have hal0 : Z.al 5 i0 := hz.2 5 i0 (show i0 < 2 * Z.n from hi0)
  refine lv_aload_n hx hb dX5_becomeReady_0 rfl (lv_at hl 0 rfl) ?_
  refine lv_bipush (v := 8) hx hb dX5_becomeReady_1 (by decide) ?_
  refine c_cv (As := [.int (8 : Int32)]) (rest := []) x hml L 5 i0 hal0 rfl (c_kanew l X g i0 (8 : Int32) hX (show i0 < 2 * Z.n from (by omega)) (rg_w kc_8 rfl)) (wk_V kd_X5_anew kl_X5_75 ki_X5_anew ks_X5_X5_anew kn_X5) rfl ⟨rfl, rfl⟩ hd_kanew ⟨Nat.le_of_ble_eq_true rfl, Nat.le_of_ble_eq_true rfl⟩ rfl hl.1 rfl (lv_room (Nat.le_of_ble_eq_true rfl)) dX5_becomeReady_3 (fun  g1 H1 k1 hp1 L1 => ?_)
  refine lv_aload_n hx hb dX5_becomeReady_6 rfl (lv_at hl 0 rfl) ?_
  refine lv_iconst (v := 2) hx hb dX5_becomeReady_7 (by decide) ?_
  refine c_puti x L1 5 i0 4 164 hal0 rfl rfl ⟨rfl, by decide +kernel⟩ (wk_in kf_X5_26) dX5_becomeReady_8 (crj_164 (rg_w kc_2 rfl)) (fun g2 H2 k2 eg2 L2 => ?_)
  refine lv_aload_n hx hb dX5_becomeReady_11 rfl (lv_at hl 0 rfl) ?_
  refine lv_iload_n hx hb dX5_becomeReady_12 rfl (lv_at hl 1 rfl) ?_
  refine c_puti x L2 5 i0 18 178 hal0 rfl rfl ⟨rfl, by decide +kernel⟩ (wk_in kf_X5_78) dX5_becomeReady_13 (rg_any p1) (fun g3 H3 k3 eg3 L3 => ?_)
  refine lv_aload_n hx hb dX5_becomeReady_16 rfl (lv_at hl 0 rfl) ?_
  refine lv_iload_n hx hb dX5_becomeReady_17 rfl (lv_at hl 1 rfl) ?_
  refine c_puti x L3 5 i0 20 180 hal0 rfl rfl ⟨rfl, by decide +kernel⟩ (wk_in kf_X5_81) dX5_becomeReady_18 (rg_any p1) (fun g4 H4 k4 eg4 L4 => ?_)
  exact hQ _ _ _ _ _ dX5_becomeReady_21 L4 ⟨(mFr.upE (mFr.upE (mFr.upE (mFr.tr mFr.rf hp1.1 rfl) eg2 rfl) eg3 rfl) eg4 rfl), trivial⟩
theorem c_kbecomeReady (l : Launch) {G : cG} {Z : cZ} (X : Int) (g : mSt) (i0 : Nat) (p1 : Int32) (hX : 0 ≤ X ∧ X ≤ 2000000000) (hi0 : i0 < 2 * Z.n) : Met l yX5_becomeReady (wk (Cond.code yX5_becomeReady cX5_becomeReady 2 none)) rm_kbecomeReady (va_Pc [.ref (Z.ad 5 i0), .int p1] (cPre G Z X g)) (cQv G Z X (fun g1 => mFr [164, 165, 166, 167, 168, 169, 170, 171, 178, 179, 180, 421, 422, 1280, 1344] g g1 ∧ True)) 0 0 (cAd Z) := by
  refine Met.ofW (cc := cX5_becomeReady) (maxL := 2) (ret := none) (by decide) rfl ?_
  intro p e s m args below meth c s₁ B hml hv
  obtain ⟨rfl, hv⟩ := hv
  have hr := B.returns
  have hlocks := B.notSynchronized
  obtain ⟨x, L⟩ := c_start B rfl (fun w h => wk_in h) hv
  have hl := lv_entry ([.ref (Z.ad 5 i0), .int p1]) (n := 2) (Nat.le_of_ble_eq_true rfl)
  rw [lg_entry_eq]
  generalize (lg_sl ([.ref (Z.ad 5 i0), .int p1]) ++ List.replicate (2 - (lg_sl ([.ref (Z.ad 5 i0), .int p1])).length) Slot.unset).toArray = ls at hl ⊢
  exact w_kbecomeReady x hml L hX i0 p1 hi0 hl (fun pc' ls' g1 H1 locs1 hdg L hp => c_vret x L hr hlocks (Int.le_refl _) hp hdg)

def rm_kcut : Room := { frames := 2, cells := 0, slots := 0, locals := 42 }
theorem hd_kcut : yX5_cut.cls = cRn 5 ∧ yX5_cut.cls ≠ "java/lang/invoke/MethodHandle" ∧ yX5_cut.cls ≠ "java/lang/invoke/VarHandle" ∧ (parseMethodDescriptor yX5_cut.desc).map (fun d => d.parameters.length) = some 0 := by decide +kernel
set_option maxHeartbeats 4000000 in
set_option maxRecDepth 100000 in
theorem w_kcut {p : Program} {l : Launch} {e : Env} {s : State} {m : MethodId} {args : Array Value} {below : List Frame} {meth : Method} {c : Code} {H : Heap} {locs : List Loc} {Q : State → Prop} {ls : Array Slot} {G : cG} {Z : cZ} {A : Nat → Prop} {g : mSt} {H0 : Heap} {X : Int} (x : cX p c cX5_cut s args (wk (Cond.code yX5_cut cX5_cut 1 none)) m G Z A RX5 H0) (hml : c.maxLocals = 1) (L : cL G Z A H0 X g H locs) (hX : 0 ≤ X ∧ X ≤ 2000000000) (i0 : Nat) (hi0 : i0 < 2 * Z.n) (hl : lv_has ls 1 [(0, .ref (Z.ad 5 i0))]) (hQ : ∀ (pc' : Nat) (ls' : Array Slot) (g1 : mSt) (H1 : Heap) (locs1 : List Loc), decode cX5_cut pc' = .ok (.return_, 1) → cL G Z A H0 X g1 H1 locs1 → (mFr [164, 165, 166, 167, 168, 169, 170, 171, 172, 179, 197, 198, 421, 422, 864, 928, 1280, 1344] g g1 ∧ True) → W p l e rm_kcut s m args below meth c H1 locs1 0 0 Q (F0 m pc' ls' [])) : W p l e rm_kcut s m args below meth c H locs 0 0 Q (F0 m 0 ls []) := by
  have hx := x.1
  have hb := x.2.1
  have hz := x.2.2.2.2.2.2.2.1
  have hzn := hz.1
  have hal0 : Z.al 5 i0 := hz.2 5 i0 (show i0 < 2 * Z.n from hi0)
  refine lv_aload_n hx hb dX5_cut_0 rfl (lv_at hl 0 rfl) ?_
  refine lv_iconst (v := 0) hx hb dX5_cut_1 (by decide) ?_
  refine c_puti x L 5 i0 4 164 hal0 rfl rfl ⟨rfl, by decide +kernel⟩ (wk_in kf_X5_26) dX5_cut_2 (crj_164 (rg_w kc_0 rfl)) (fun g1 H1 k1 eg1 L1 => ?_)
  refine lv_aload_n hx hb dX5_cut_5 rfl (lv_at hl 0 rfl) ?_
  refine lv_dup hx hb dX5_cut_6 rfl ?_
  refine c_geti x L1 5 i0 12 172 hal0 rfl rfl (wk_in kf_X5_62) dX5_cut_7 (fun v2 ev2 wv2 => ?_)
  have rv2 : rg (-2147483648) (2147483647) v2 := rg_any v2
  refine lv_iconst (v := 1) hx hb dX5_cut_10 (by decide) ?_
  refine lv_iadd hx hb dX5_cut_11 ?_
  refine lv_topi (fun v3 ev3 => ?_)
  have rv3 : rg (-2147483648) (2147483647) v3 := rg_any v3
  refine c_puti x L1 5 i0 12 172 hal0 rfl rfl ⟨rfl, by decide +kernel⟩ (wk_in kf_X5_62) dX5_cut_12 (rg_any v3) (fun g4 H4 k4 eg4 L4 => ?_)
  refine lv_aload_n hx hb dX5_cut_15 rfl (lv_at hl 0 rfl) ?_
  have al5 : Z.al 6 i0 := hz.2 6 i0 (show i0 < 2 * Z.n from (by omega))
  refine c_getr (a := Z.ad 6 i0) x L4 5 i0 1 hal0 rfl rfl (wk_in kf_X5_16) dX5_cut_16 ?_
  refine c_cv (As := []) (rest := []) x hml L4 6 i0 al5 rfl (c_kclearAll_6 l X g4 i0 hX (show i0 < 2 * Z.n from (by omega))) (wk_V kd_X6_clearAll kl_X5_72 ki_X6_clearAll ks_X6_X6_clearAll kn_X6) rfl ⟨rfl, rfl⟩ hd_kclearAll_6 ⟨Nat.le_of_ble_eq_true rfl, Nat.le_of_ble_eq_true rfl⟩ rfl hl.1 rfl (lv_room (Nat.le_of_ble_eq_true rfl)) dX5_cut_19 (fun  g6 H6 k6 hp6 L6 => ?_)
  refine lv_aload_n hx hb dX5_cut_22 rfl (lv_at hl 0 rfl) ?_
  refine lv_iconst (v := 0) hx hb dX5_cut_23 (by decide) ?_
  refine c_cv (As := [.int (0 : Int32)]) (rest := []) x hml L6 5 i0 hal0 rfl (c_kanew l X g6 i0 (0 : Int32) hX (show i0 < 2 * Z.n from (by omega)) (rg_w kc_0 rfl)) (wk_V kd_X5_anew kl_X5_75 ki_X5_anew ks_X5_X5_anew kn_X5) rfl ⟨rfl, rfl⟩ hd_kanew ⟨Nat.le_of_ble_eq_true rfl, Nat.le_of_ble_eq_true rfl⟩ rfl hl.1 rfl (lv_room (Nat.le_of_ble_eq_true rfl)) dX5_cut_24 (fun  g7 H7 k7 hp7 L7 => ?_)
  exact hQ _ _ _ _ _ dX5_cut_27 L7 ⟨(mFr.tr (mFr.tr (mFr.upE (mFr.upE mFr.rf eg1 rfl) eg4 rfl) hp6.1 rfl) hp7.1 rfl), trivial⟩
theorem c_kcut (l : Launch) {G : cG} {Z : cZ} (X : Int) (g : mSt) (i0 : Nat) (hX : 0 ≤ X ∧ X ≤ 2000000000) (hi0 : i0 < 2 * Z.n) : Met l yX5_cut (wk (Cond.code yX5_cut cX5_cut 1 none)) rm_kcut (va_Pc [.ref (Z.ad 5 i0)] (cPre G Z X g)) (cQv G Z X (fun g1 => mFr [164, 165, 166, 167, 168, 169, 170, 171, 172, 179, 197, 198, 421, 422, 864, 928, 1280, 1344] g g1 ∧ True)) 0 0 (cAd Z) := by
  refine Met.ofW (cc := cX5_cut) (maxL := 1) (ret := none) (by decide) rfl ?_
  intro p e s m args below meth c s₁ B hml hv
  obtain ⟨rfl, hv⟩ := hv
  have hr := B.returns
  have hlocks := B.notSynchronized
  obtain ⟨x, L⟩ := c_start B rfl (fun w h => wk_in h) hv
  have hl := lv_entry ([.ref (Z.ad 5 i0)]) (n := 1) (Nat.le_of_ble_eq_true rfl)
  rw [lg_entry_eq]
  generalize (lg_sl ([.ref (Z.ad 5 i0)]) ++ List.replicate (1 - (lg_sl ([.ref (Z.ad 5 i0)])).length) Slot.unset).toArray = ls at hl ⊢
  exact w_kcut x hml L hX i0 hi0 hl (fun pc' ls' g1 H1 locs1 hdg L hp => c_vret x L hr hlocks (Int.le_refl _) hp hdg)

def rm_kaskAgain : Room := { frames := 4, cells := 0, slots := 0, locals := 96 }
theorem hd_kaskAgain : yX5_askAgain.cls = cRn 5 ∧ yX5_askAgain.cls ≠ "java/lang/invoke/MethodHandle" ∧ yX5_askAgain.cls ≠ "java/lang/invoke/VarHandle" ∧ (parseMethodDescriptor yX5_askAgain.desc).map (fun d => d.parameters.length) = some 1 := by decide +kernel
set_option maxHeartbeats 4000000 in
set_option maxRecDepth 100000 in
theorem w_kaskAgain {p : Program} {l : Launch} {e : Env} {s : State} {m : MethodId} {args : Array Value} {below : List Frame} {meth : Method} {c : Code} {H : Heap} {locs : List Loc} {Q : State → Prop} {ls : Array Slot} {G : cG} {Z : cZ} {A : Nat → Prop} {g : mSt} {H0 : Heap} {X : Int} (x : cX p c cX5_askAgain s args (wk (Cond.code yX5_askAgain cX5_askAgain 2 none)) m G Z A RX5 H0) (hml : c.maxLocals = 2) (L : cL G Z A H0 X g H locs) (hX : 0 ≤ X ∧ X ≤ 2000000000) (i0 : Nat) (p1 : Int32) (hi0 : i0 < 2 * Z.n) (hl : lv_has ls 2 [(0, .ref (Z.ad 5 i0)), (1, .int p1)]) (hQ : ∀ (pc' : Nat) (ls' : Array Slot) (g1 : mSt) (H1 : Heap) (locs1 : List Loc), decode cX5_askAgain pc' = .ok (.return_, 1) → cL G Z A H0 X g1 H1 locs1 → (mFr [67, 108, 111, 177, 178, 544, 576, 768] g g1 ∧ True) → W p l e rm_kaskAgain s m args below meth c H1 locs1 0 0 Q (F0 m pc' ls' [])) : W p l e rm_kaskAgain s m args below meth c H locs 0 0 Q (F0 m 0 ls []) := by
  have hx := x.1
  have hb := x.2.1
  have hz := x.2.2.2.2.2.2.2.1
  have hzn := hz.1
  have hal0 : Z.al 5 i0 := hz.2 5 i0 (show i0 < 2 * Z.n from hi0)
  refine lv_aload_n hx hb dX5_askAgain_0 rfl (lv_at hl 0 rfl) ?_
  refine lv_dup hx hb dX5_askAgain_1 rfl ?_
  refine c_geti x L 5 i0 17 177 hal0 rfl rfl (wk_in kf_X5_87) dX5_askAgain_2 (fun v1 ev1 wv1 => ?_)
  have rv1 : rg (-2147483648) (2147483647) v1 := rg_any v1
  refine lv_iconst (v := 1) hx hb dX5_askAgain_5 (by decide) ?_
  refine lv_iadd hx hb dX5_askAgain_6 ?_
  refine lv_topi (fun v2 ev2 => ?_)
  have rv2 : rg (-2147483648) (2147483647) v2 := rg_any v2
  refine c_puti x L 5 i0 17 177 hal0 rfl rfl ⟨rfl, by decide +kernel⟩ (wk_in kf_X5_87) dX5_askAgain_7 (rg_any v2) (fun g3 H3 k3 eg3 L3 => ?_)
  refine lv_aload_n hx hb dX5_askAgain_10 rfl (lv_at hl 0 rfl) ?_
  refine lv_iload_n hx hb dX5_askAgain_11 rfl (lv_at hl 1 rfl) ?_
  refine c_puti x L3 5 i0 18 178 hal0 rfl rfl ⟨rfl, by decide +kernel⟩ (wk_in kf_X5_78) dX5_askAgain_12 (rg_any p1) (fun g4 H4 k4 eg4 L4 => ?_)
  refine lv_aload_n hx hb dX5_askAgain_15 rfl (lv_at hl 0 rfl) ?_
  refine c_geti x L4 5 i0 16 176 hal0 rfl rfl (wk_in kf_X5_84) dX5_askAgain_16 (fun v5 ev5 wv5 => ?_)
  have rv5 : rg (-2147483648) (2147483647) v5 := rg_any v5
  refine lv_iconst (v := 3) hx hb dX5_askAgain_19 (by decide) ?_
  have j59_6 : ∀ (g6 : mSt) (H6 : Heap) (k6 : List Loc) (ls : Array Slot), mFr [67, 108, 111, 544, 576, 768] g4 g6 → cL G Z A H0 X g6 H6 k6 → lv_has ls 2 [(0, .ref (Z.ad 5 i0))] → W p l e rm_kaskAgain s m args below meth c H6 k6 0 0 Q (F0 m 59 ls []) := by
    intro  g6 H6 k6 ls hF6 L6  hl
    exact hQ _ _ _ _ _ dX5_askAgain_59 L6 ⟨(mFr.tr (mFr.upE (mFr.upE mFr.rf eg3 rfl) eg4 rfl) hF6 rfl), trivial⟩
  refine lv_icmp_ne (tgt := 35) hx hb dX5_askAgain_20 (by decide) (fun c20_7 => ?_) (fun c20_7 => ?_)
  · skip
    refine lv_aload_n hx hb dX5_askAgain_35 rfl (lv_at hl 0 rfl) ?_
    have ho8 := cOut_lt (n := Z.n) (i := i0) (by omega)
    have al9 : Z.al 3 (cOut Z.n i0) := hz.2 3 (cOut Z.n i0) (show (cOut Z.n i0) < 2 * Z.n from (by omega))
    refine c_getr (a := Z.ad 3 (cOut Z.n i0)) x L4 5 i0 0 hal0 rfl rfl (wk_in kf_X5_30) dX5_askAgain_36 ?_
    refine lv_bipush (v := 8) hx hb dX5_askAgain_39 (by decide) ?_
    refine c_cv (As := [.int (8 : Int32)]) (rest := []) x hml L4 3 (cOut Z.n i0) al9 rfl (c_kword l X g4 (cOut Z.n i0) (8 : Int32) hX (show (cOut Z.n i0) < 2 * Z.n from (by omega))) (wk_V kd_X3_word kl_X5_102 ki_X3_word ks_X3_X3_word kn_X3) rfl ⟨rfl, rfl⟩ hd_kword ⟨Nat.le_of_ble_eq_true rfl, Nat.le_of_ble_eq_true rfl⟩ rfl hl.1 rfl (lv_room (Nat.le_of_ble_eq_true rfl)) dX5_askAgain_41 (fun  g10 H10 k10 hp10 L10 => ?_)
    refine lv_aload_n hx hb dX5_askAgain_44 rfl (lv_at hl 0 rfl) ?_
    refine c_getr (a := Z.ad 3 (cOut Z.n i0)) x L10 5 i0 0 hal0 rfl rfl (wk_in kf_X5_30) dX5_askAgain_45 ?_
    refine lv_aload_n hx hb dX5_askAgain_48 rfl (lv_at hl 0 rfl) ?_
    refine c_geti x L10 5 i0 16 176 hal0 rfl rfl (wk_in kf_X5_84) dX5_askAgain_49 (fun v11 ev11 wv11 => ?_)
    refine m_top (((mm_fr ev5 hp10.1 rfl)).trans ev11.symm) ?_
    refine lv_aload_n hx hb dX5_askAgain_52 rfl (lv_at hl 0 rfl) ?_
    refine c_geti x L10 5 i0 13 173 hal0 rfl rfl (wk_in kf_X5_90) dX5_askAgain_53 (fun v12 ev12 wv12 => ?_)
    have rv12 : rg (-2147483648) (2147483647) v12 := rg_any v12
    refine c_cv (As := [.int v5, .int v12]) (rest := []) x hml L10 3 (cOut Z.n i0) al9 rfl (c_ksendUnit l X g10 (cOut Z.n i0) v5 v12 hX (show (cOut Z.n i0) < 2 * Z.n from (by omega))) (wk_V kd_X3_sendUnit kl_X5_96 ki_X3_sendUnit ks_X3_X3_sendUnit kn_X3) rfl ⟨rfl, rfl⟩ hd_ksendUnit ⟨Nat.le_of_ble_eq_true rfl, Nat.le_of_ble_eq_true rfl⟩ rfl hl.1 rfl (lv_room (Nat.le_of_ble_eq_true rfl)) dX5_askAgain_56 (fun  g13 H13 k13 hp13 L13 => ?_)
    exact j59_6  g13 _ _ ls (mFr.tr (mFr.tr mFr.rf hp10.1 rfl) hp13.1 rfl) L13  (lv_sub hl [0] rfl)
  · skip
    have q14 : rg (3) (3) v5 := (rg_eq c20_7 rv5 kc_3).1
    refine lv_aload_n hx hb dX5_askAgain_23 rfl (lv_at hl 0 rfl) ?_
    have ho15 := cOut_lt (n := Z.n) (i := i0) (by omega)
    have al16 : Z.al 3 (cOut Z.n i0) := hz.2 3 (cOut Z.n i0) (show (cOut Z.n i0) < 2 * Z.n from (by omega))
    refine c_getr (a := Z.ad 3 (cOut Z.n i0)) x L4 5 i0 0 hal0 rfl rfl (wk_in kf_X5_30) dX5_askAgain_24 ?_
    refine lv_iconst (v := 3) hx hb dX5_askAgain_27 (by decide) ?_
    refine lv_iconst (v := 0) hx hb dX5_askAgain_28 (by decide) ?_
    refine c_cv (As := [.int (3 : Int32), .int (0 : Int32)]) (rest := []) x hml L4 3 (cOut Z.n i0) al16 rfl (c_ksendUnit l X g4 (cOut Z.n i0) (3 : Int32) (0 : Int32) hX (show (cOut Z.n i0) < 2 * Z.n from (by omega))) (wk_V kd_X3_sendUnit kl_X5_96 ki_X3_sendUnit ks_X3_X3_sendUnit kn_X3) rfl ⟨rfl, rfl⟩ hd_ksendUnit ⟨Nat.le_of_ble_eq_true rfl, Nat.le_of_ble_eq_true rfl⟩ rfl hl.1 rfl (lv_room (Nat.le_of_ble_eq_true rfl)) dX5_askAgain_29 (fun  g17 H17 k17 hp17 L17 => ?_)
    refine lv_goto (tgt := 59) hx hb dX5_askAgain_32 (by decide) ?_
    exact j59_6  g17 _ _ ls (mFr.tr mFr.rf hp17.1 rfl) L17  (lv_sub hl [0] rfl)
theorem c_kaskAgain (l : Launch) {G : cG} {Z : cZ} (X : Int) (g : mSt) (i0 : Nat) (p1 : Int32) (hX : 0 ≤ X ∧ X ≤ 2000000000) (hi0 : i0 < 2 * Z.n) : Met l yX5_askAgain (wk (Cond.code yX5_askAgain cX5_askAgain 2 none)) rm_kaskAgain (va_Pc [.ref (Z.ad 5 i0), .int p1] (cPre G Z X g)) (cQv G Z X (fun g1 => mFr [67, 108, 111, 177, 178, 544, 576, 768] g g1 ∧ True)) 0 0 (cAd Z) := by
  refine Met.ofW (cc := cX5_askAgain) (maxL := 2) (ret := none) (by decide) rfl ?_
  intro p e s m args below meth c s₁ B hml hv
  obtain ⟨rfl, hv⟩ := hv
  have hr := B.returns
  have hlocks := B.notSynchronized
  obtain ⟨x, L⟩ := c_start B rfl (fun w h => wk_in h) hv
  have hl := lv_entry ([.ref (Z.ad 5 i0), .int p1]) (n := 2) (Nat.le_of_ble_eq_true rfl)
  rw [lg_entry_eq]
  generalize (lg_sl ([.ref (Z.ad 5 i0), .int p1]) ++ List.replicate (2 - (lg_sl ([.ref (Z.ad 5 i0), .int p1])).length) Slot.unset).toArray = ls at hl ⊢
  exact w_kaskAgain x hml L hX i0 p1 hi0 hl (fun pc' ls' g1 H1 locs1 hdg L hp => c_vret x L hr hlocks (Int.le_refl _) hp hdg)

def rm_kask : Room := { frames := 5, cells := 0, slots := 0, locals := 117 }
theorem hd_kask : yX5_ask.cls = cRn 5 ∧ yX5_ask.cls ≠ "java/lang/invoke/MethodHandle" ∧ yX5_ask.cls ≠ "java/lang/invoke/VarHandle" ∧ (parseMethodDescriptor yX5_ask.desc).map (fun d => d.parameters.length) = some 3 := by decide +kernel
set_option maxHeartbeats 4000000 in
set_option maxRecDepth 100000 in
theorem w_kask {p : Program} {l : Launch} {e : Env} {s : State} {m : MethodId} {args : Array Value} {below : List Frame} {meth : Method} {c : Code} {H : Heap} {locs : List Loc} {Q : State → Prop} {ls : Array Slot} {G : cG} {Z : cZ} {A : Nat → Prop} {g : mSt} {H0 : Heap} {X : Int} (x : cX p c cX5_ask s args (wk (Cond.code yX5_ask cX5_ask 4 none)) m G Z A RX5 H0) (hml : c.maxLocals = 4) (L : cL G Z A H0 X g H locs) (hX : 0 ≤ X ∧ X ≤ 2000000000) (i0 : Nat) (p1 : Int32) (p2 : Int32) (p3 : Int32) (hi0 : i0 < 2 * Z.n) (rp1 : rg (0) (4) p1) (hl : lv_has ls 4 [(0, .ref (Z.ad 5 i0)), (1, .int p1), (2, .int p2), (3, .int p3)]) (hQ : ∀ (pc' : Nat) (ls' : Array Slot) (g1 : mSt) (H1 : Heap) (locs1 : List Loc), decode cX5_ask pc' = .ok (.return_, 1) → cL G Z A H0 X g1 H1 locs1 → (mFr [67, 108, 111, 164, 173, 176, 177, 178, 544, 576, 768] g g1 ∧ True) → W p l e rm_kask s m args below meth c H1 locs1 0 0 Q (F0 m pc' ls' [])) : W p l e rm_kask s m args below meth c H locs 0 0 Q (F0 m 0 ls []) := by
  have hx := x.1
  have hb := x.2.1
  have hz := x.2.2.2.2.2.2.2.1
  have hzn := hz.1
  have hal0 : Z.al 5 i0 := hz.2 5 i0 (show i0 < 2 * Z.n from hi0)
  refine lv_aload_n hx hb dX5_ask_0 rfl (lv_at hl 0 rfl) ?_
  refine lv_iload_n hx hb dX5_ask_1 rfl (lv_at hl 1 rfl) ?_
  refine c_puti x L 5 i0 4 164 hal0 rfl rfl ⟨rfl, by decide +kernel⟩ (wk_in kf_X5_26) dX5_ask_2 (crj_164 (rg_w rp1 rfl)) (fun g1 H1 k1 eg1 L1 => ?_)
  refine lv_aload_n hx hb dX5_ask_5 rfl (lv_at hl 0 rfl) ?_
  refine lv_iload_n hx hb dX5_ask_6 rfl (lv_at hl 2 rfl) ?_
  refine c_puti x L1 5 i0 16 176 hal0 rfl rfl ⟨rfl, by decide +kernel⟩ (wk_in kf_X5_84) dX5_ask_7 (rg_any p2) (fun g2 H2 k2 eg2 L2 => ?_)
  refine lv_aload_n hx hb dX5_ask_10 rfl (lv_at hl 0 rfl) ?_
  refine lv_iconst (v := 0) hx hb dX5_ask_11 (by decide) ?_
  refine c_puti x L2 5 i0 17 177 hal0 rfl rfl ⟨rfl, by decide +kernel⟩ (wk_in kf_X5_87) dX5_ask_12 (rg_any (0 : Int32)) (fun g3 H3 k3 eg3 L3 => ?_)
  refine lv_iload_n hx hb dX5_ask_15 rfl (lv_at hl 2 rfl) ?_
  refine lv_iconst (v := 3) hx hb dX5_ask_16 (by decide) ?_
  have j30_4 : ∀ (g4 : mSt) (H4 : Heap) (k4 : List Loc) (ls : Array Slot), mFr [173] g3 g4 → cL G Z A H0 X g4 H4 k4 → lv_has ls 4 [(0, .ref (Z.ad 5 i0)), (3, .int p3)] → W p l e rm_kask s m args below meth c H4 k4 0 0 Q (F0 m 30 ls []) := by
    intro  g4 H4 k4 ls hF4 L4  hl
    refine lv_aload_n hx hb dX5_ask_30 rfl (lv_at hl 0 rfl) ?_
    refine lv_iload_n hx hb dX5_ask_31 rfl (lv_at hl 1 rfl) ?_
    refine c_cv (As := [.int p3]) (rest := []) x hml L4 5 i0 hal0 rfl (c_kaskAgain l X g4 i0 p3 hX (show i0 < 2 * Z.n from (by omega))) (wk_V kd_X5_askAgain kl_X5_93 ki_X5_askAgain ks_X5_X5_askAgain kn_X5) rfl ⟨rfl, rfl⟩ hd_kaskAgain ⟨Nat.le_of_ble_eq_true rfl, Nat.le_of_ble_eq_true rfl⟩ rfl hl.1 rfl (lv_room (Nat.le_of_ble_eq_true rfl)) dX5_ask_32 (fun  g5 H5 k5 hp5 L5 => ?_)
    exact hQ _ _ _ _ _ dX5_ask_35 L5 ⟨(mFr.tr (mFr.tr (mFr.upE (mFr.upE (mFr.upE mFr.rf eg1 rfl) eg2 rfl) eg3 rfl) hF4 rfl) hp5.1 rfl), trivial⟩
  refine lv_icmp_eq (tgt := 30) hx hb dX5_ask_17 (by decide) (fun c17_6 => ?_) (fun c17_6 => ?_)
  · skip
    have q7 : rg (3) (3) p2 := (rg_eq c17_6 (rg_any p2) kc_3).1
    exact j30_4  g3 _ _ ls mFr.rf L3  (lv_sub hl [0, 3] rfl)
  · skip
    refine lv_aload_n hx hb dX5_ask_20 rfl (lv_at hl 0 rfl) ?_
    refine lv_dup hx hb dX5_ask_21 rfl ?_
    refine c_geti x L3 5 i0 13 173 hal0 rfl rfl (wk_in kf_X5_90) dX5_ask_22 (fun v8 ev8 wv8 => ?_)
    have rv8 : rg (-2147483648) (2147483647) v8 := rg_any v8
    refine lv_iconst (v := 1) hx hb dX5_ask_25 (by decide) ?_
    refine lv_iadd hx hb dX5_ask_26 ?_
    refine lv_topi (fun v9 ev9 => ?_)
    have rv9 : rg (-2147483648) (2147483647) v9 := rg_any v9
    refine c_puti x L3 5 i0 13 173 hal0 rfl rfl ⟨rfl, by decide +kernel⟩ (wk_in kf_X5_90) dX5_ask_27 (rg_any v9) (fun g10 H10 k10 eg10 L10 => ?_)
    exact j30_4  g10 _ _ ls (mFr.upE mFr.rf eg10 rfl) L10  (lv_sub hl [0, 3] rfl)
theorem c_kask (l : Launch) {G : cG} {Z : cZ} (X : Int) (g : mSt) (i0 : Nat) (p1 : Int32) (p2 : Int32) (p3 : Int32) (hX : 0 ≤ X ∧ X ≤ 2000000000) (hi0 : i0 < 2 * Z.n) (rp1 : rg (0) (4) p1) : Met l yX5_ask (wk (Cond.code yX5_ask cX5_ask 4 none)) rm_kask (va_Pc [.ref (Z.ad 5 i0), .int p1, .int p2, .int p3] (cPre G Z X g)) (cQv G Z X (fun g1 => mFr [67, 108, 111, 164, 173, 176, 177, 178, 544, 576, 768] g g1 ∧ True)) 0 0 (cAd Z) := by
  refine Met.ofW (cc := cX5_ask) (maxL := 4) (ret := none) (by decide) rfl ?_
  intro p e s m args below meth c s₁ B hml hv
  obtain ⟨rfl, hv⟩ := hv
  have hr := B.returns
  have hlocks := B.notSynchronized
  obtain ⟨x, L⟩ := c_start B rfl (fun w h => wk_in h) hv
  have hl := lv_entry ([.ref (Z.ad 5 i0), .int p1, .int p2, .int p3]) (n := 4) (Nat.le_of_ble_eq_true rfl)
  rw [lg_entry_eq]
  generalize (lg_sl ([.ref (Z.ad 5 i0), .int p1, .int p2, .int p3]) ++ List.replicate (4 - (lg_sl ([.ref (Z.ad 5 i0), .int p1, .int p2, .int p3])).length) Slot.unset).toArray = ls at hl ⊢
  exact w_kask x hml L hX i0 p1 p2 p3 hi0 rp1 hl (fun pc' ls' g1 H1 locs1 hdg L hp => c_vret x L hr hlocks (Int.le_refl _) hp hdg)

def rm_kpoll : Room := { frames := 4, cells := 0, slots := 0, locals := 96 }
theorem hd_kpoll : yX5_poll.cls = cRn 5 ∧ yX5_poll.cls ≠ "java/lang/invoke/MethodHandle" ∧ yX5_poll.cls ≠ "java/lang/invoke/VarHandle" ∧ (parseMethodDescriptor yX5_poll.desc).map (fun d => d.parameters.length) = some 1 := by decide +kernel
set_option maxHeartbeats 4000000 in
set_option maxRecDepth 100000 in
theorem w_kpoll {p : Program} {l : Launch} {e : Env} {s : State} {m : MethodId} {args : Array Value} {below : List Frame} {meth : Method} {c : Code} {H : Heap} {locs : List Loc} {Q : State → Prop} {ls : Array Slot} {G : cG} {Z : cZ} {A : Nat → Prop} {g : mSt} {H0 : Heap} {X : Int} (x : cX p c cX5_poll s args (wk (Cond.code yX5_poll cX5_poll 2 none)) m G Z A RX5 H0) (hml : c.maxLocals = 2) (L : cL G Z A H0 X g H locs) (hX : 0 ≤ X ∧ X ≤ 2000000000) (i0 : Nat) (p1 : Int32) (hi0 : i0 < 2 * Z.n) (hl : lv_has ls 2 [(0, .ref (Z.ad 5 i0)), (1, .int p1)]) (hQ : ∀ (pc' : Nat) (ls' : Array Slot) (g1 : mSt) (H1 : Heap) (locs1 : List Loc), decode cX5_poll pc' = .ok (.return_, 1) → cL G Z A H0 X g1 H1 locs1 → (mFr [67, 108, 111, 168, 178, 179, 544, 576, 768] g g1 ∧ True) → W p l e rm_kpoll s m args below meth c H1 locs1 0 0 Q (F0 m pc' ls' [])) : W p l e rm_kpoll s m args below meth c H locs 0 0 Q (F0 m 0 ls []) := by
  have hx := x.1
  have hb := x.2.1
  have hz := x.2.2.2.2.2.2.2.1
  have hzn := hz.1
  have hal0 : Z.al 5 i0 := hz.2 5 i0 (show i0 < 2 * Z.n from hi0)
  refine lv_aload_n hx hb dX5_poll_0 rfl (lv_at hl 0 rfl) ?_
  refine lv_dup hx hb dX5_poll_1 rfl ?_
  refine c_geti x L 5 i0 8 168 hal0 rfl rfl (wk_in kf_X5_43) dX5_poll_2 (fun v1 ev1 wv1 => ?_)
  have rv1 : rg (-2147483648) (2147483647) v1 := rg_any v1
  refine lv_iconst (v := 1) hx hb dX5_poll_5 (by decide) ?_
  refine lv_iadd hx hb dX5_poll_6 ?_
  refine lv_topi (fun v2 ev2 => ?_)
  have rv2 : rg (-2147483648) (2147483647) v2 := rg_any v2
  refine c_puti x L 5 i0 8 168 hal0 rfl rfl ⟨rfl, by decide +kernel⟩ (wk_in kf_X5_43) dX5_poll_7 (rg_any v2) (fun g3 H3 k3 eg3 L3 => ?_)
  refine lv_aload_n hx hb dX5_poll_10 rfl (lv_at hl 0 rfl) ?_
  refine lv_iconst (v := 0) hx hb dX5_poll_11 (by decide) ?_
  refine c_puti x L3 5 i0 19 179 hal0 rfl rfl ⟨rfl, by decide +kernel⟩ (wk_in kf_X5_69) dX5_poll_12 (rg_any (0 : Int32)) (fun g4 H4 k4 eg4 L4 => ?_)
  refine lv_aload_n hx hb dX5_poll_15 rfl (lv_at hl 0 rfl) ?_
  refine lv_iload_n hx hb dX5_poll_16 rfl (lv_at hl 1 rfl) ?_
  refine c_puti x L4 5 i0 18 178 hal0 rfl rfl ⟨rfl, by decide +kernel⟩ (wk_in kf_X5_78) dX5_poll_17 (rg_any p1) (fun g5 H5 k5 eg5 L5 => ?_)
  refine lv_aload_n hx hb dX5_poll_20 rfl (lv_at hl 0 rfl) ?_
  have ho6 := cOut_lt (n := Z.n) (i := i0) (by omega)
  have al7 : Z.al 3 (cOut Z.n i0) := hz.2 3 (cOut Z.n i0) (show (cOut Z.n i0) < 2 * Z.n from (by omega))
  refine c_getr (a := Z.ad 3 (cOut Z.n i0)) x L5 5 i0 0 hal0 rfl rfl (wk_in kf_X5_30) dX5_poll_21 ?_
  refine lv_aload_n hx hb dX5_poll_24 rfl (lv_at hl 0 rfl) ?_
  refine c_geti x L5 5 i0 8 168 hal0 rfl rfl (wk_in kf_X5_43) dX5_poll_25 (fun v8 ev8 wv8 => ?_)
  refine m_top (((mm_up (mm_up (mm_st eg3) eg4 rfl) eg5 rfl)).trans ev8.symm) ?_
  refine c_cv (As := [.int v2]) (rest := []) x hml L5 3 (cOut Z.n i0) al7 rfl (c_kword l X g5 (cOut Z.n i0) v2 hX (show (cOut Z.n i0) < 2 * Z.n from (by omega))) (wk_V kd_X3_word kl_X5_102 ki_X3_word ks_X3_X3_word kn_X3) rfl ⟨rfl, rfl⟩ hd_kword ⟨Nat.le_of_ble_eq_true rfl, Nat.le_of_ble_eq_true rfl⟩ rfl hl.1 rfl (lv_room (Nat.le_of_ble_eq_true rfl)) dX5_poll_28 (fun  g9 H9 k9 hp9 L9 => ?_)
  refine lv_aload_n hx hb dX5_poll_31 rfl (lv_at hl 0 rfl) ?_
  refine c_getr (a := Z.ad 3 (cOut Z.n i0)) x L9 5 i0 0 hal0 rfl rfl (wk_in kf_X5_30) dX5_poll_32 ?_
  refine lv_bipush (v := 10) hx hb dX5_poll_35 (by decide) ?_
  refine lv_aload_n hx hb dX5_poll_37 rfl (lv_at hl 0 rfl) ?_
  refine c_geti x L9 5 i0 5 165 hal0 rfl rfl (wk_in kf_X5_34) dX5_poll_38 (fun v10 ev10 wv10 => ?_)
  have rv10 : rg (0) (16777223) v10 := clj_165 wv10
  refine c_cv (As := [.int (10 : Int32), .int v10]) (rest := []) x hml L9 3 (cOut Z.n i0) al7 rfl (c_ksendUnit l X g9 (cOut Z.n i0) (10 : Int32) v10 hX (show (cOut Z.n i0) < 2 * Z.n from (by omega))) (wk_V kd_X3_sendUnit kl_X5_96 ki_X3_sendUnit ks_X3_X3_sendUnit kn_X3) rfl ⟨rfl, rfl⟩ hd_ksendUnit ⟨Nat.le_of_ble_eq_true rfl, Nat.le_of_ble_eq_true rfl⟩ rfl hl.1 rfl (lv_room (Nat.le_of_ble_eq_true rfl)) dX5_poll_41 (fun  g11 H11 k11 hp11 L11 => ?_)
  exact hQ _ _ _ _ _ dX5_poll_44 L11 ⟨(mFr.tr (mFr.tr (mFr.upE (mFr.upE (mFr.upE mFr.rf eg3 rfl) eg4 rfl) eg5 rfl) hp9.1 rfl) hp11.1 rfl), trivial⟩
theorem c_kpoll (l : Launch) {G : cG} {Z : cZ} (X : Int) (g : mSt) (i0 : Nat) (p1 : Int32) (hX : 0 ≤ X ∧ X ≤ 2000000000) (hi0 : i0 < 2 * Z.n) : Met l yX5_poll (wk (Cond.code yX5_poll cX5_poll 2 none)) rm_kpoll (va_Pc [.ref (Z.ad 5 i0), .int p1] (cPre G Z X g)) (cQv G Z X (fun g1 => mFr [67, 108, 111, 168, 178, 179, 544, 576, 768] g g1 ∧ True)) 0 0 (cAd Z) := by
  refine Met.ofW (cc := cX5_poll) (maxL := 2) (ret := none) (by decide) rfl ?_
  intro p e s m args below meth c s₁ B hml hv
  obtain ⟨rfl, hv⟩ := hv
  have hr := B.returns
  have hlocks := B.notSynchronized
  obtain ⟨x, L⟩ := c_start B rfl (fun w h => wk_in h) hv
  have hl := lv_entry ([.ref (Z.ad 5 i0), .int p1]) (n := 2) (Nat.le_of_ble_eq_true rfl)
  rw [lg_entry_eq]
  generalize (lg_sl ([.ref (Z.ad 5 i0), .int p1]) ++ List.replicate (2 - (lg_sl ([.ref (Z.ad 5 i0), .int p1])).length) Slot.unset).toArray = ls at hl ⊢
  exact w_kpoll x hml L hX i0 p1 hi0 hl (fun pc' ls' g1 H1 locs1 hdg L hp => c_vret x L hr hlocks (Int.le_refl _) hp hdg)

def rm_ktimers : Room := { frames := 5, cells := 0, slots := 0, locals := 117 }
theorem hd_ktimers : yX5_timers.cls = cRn 5 ∧ yX5_timers.cls ≠ "java/lang/invoke/MethodHandle" ∧ yX5_timers.cls ≠ "java/lang/invoke/VarHandle" ∧ (parseMethodDescriptor yX5_timers.desc).map (fun d => d.parameters.length) = some 1 := by decide +kernel
set_option maxHeartbeats 4000000 in
set_option maxRecDepth 100000 in
theorem w_ktimers {p : Program} {l : Launch} {e : Env} {s : State} {m : MethodId} {args : Array Value} {below : List Frame} {meth : Method} {c : Code} {H : Heap} {locs : List Loc} {Q : State → Prop} {ls : Array Slot} {G : cG} {Z : cZ} {A : Nat → Prop} {g : mSt} {H0 : Heap} {X : Int} (x : cX p c cX5_timers s args (wk (Cond.code yX5_timers cX5_timers 4 (some .boolean))) m G Z A RX5 H0) (hml : c.maxLocals = 4) (L : cL G Z A H0 X g H locs) (hX : 0 ≤ X ∧ X ≤ 2000000000) (i0 : Nat) (p1 : Int32) (hi0 : i0 < 2 * Z.n) (hl : lv_has ls 4 [(0, .ref (Z.ad 5 i0)), (1, .int p1)]) (hQ : ∀ (pc' : Nat) (ls' : Array Slot) (r : Int32) (g1 : mSt) (H1 : Heap) (locs1 : List Loc), decode cX5_timers pc' = .ok (.ireturn, 1) → cL G Z A H0 X g1 H1 locs1 → (mFr [67, 108, 111, 164, 165, 166, 167, 168, 169, 170, 171, 172, 177, 178, 179, 197, 198, 421, 422, 544, 576, 768, 864, 928, 1280, 1344] g g1 ∧ rg (0) (1) r ∧ True) → W p l e rm_ktimers s m args below meth c H1 locs1 0 0 Q (F0 m pc' ls' [.int r])) : W p l e rm_ktimers s m args below meth c H locs 0 0 Q (F0 m 0 ls []) := by
  have hx := x.1
  have hb := x.2.1
  have hz := x.2.2.2.2.2.2.2.1
  have hzn := hz.1
  have hal0 : Z.al 5 i0 := hz.2 5 i0 (show i0 < 2 * Z.n from hi0)
  refine lv_aload_n hx hb dX5_timers_0 rfl (lv_at hl 0 rfl) ?_
  refine c_geti x L 5 i0 4 164 hal0 rfl rfl (wk_in kf_X5_26) dX5_timers_1 (fun v1 ev1 wv1 => ?_)
  have rv1 : rg (0) (4) v1 := clj_164 wv1
  refine lv_if_ne (tgt := 9) hx hb dX5_timers_4 (by decide) (fun c4_2 => ?_) (fun c4_2 => ?_)
  · skip
    have q3 : rg (1) (4) v1 := rg_neL c4_2 rv1 kc_0
    refine lv_iconst (v := 0) hx hb dX5_timers_9 (by decide) ?_
    refine lv_istore_n (lv' := [(2, .int (0 : Int32)), (0, .ref (Z.ad 5 i0)), (1, .int p1)]) hx hb dX5_timers_10 rfl hl (by decide) rfl (fun ls hl => ?_)
    refine lv_aload_n hx hb dX5_timers_11 rfl (lv_at hl 1 rfl) ?_
    refine c_geti x L 5 i0 4 164 hal0 rfl rfl (wk_in kf_X5_26) dX5_timers_12 (fun v4 ev4 wv4 => ?_)
    refine m_top ((ev1).trans ev4.symm) ?_
    refine lv_iconst (v := 2) hx hb dX5_timers_15 (by decide) ?_
    have j116_6 : ∀ (a116_2_5 : Int32) (g6 : mSt) (H6 : Heap) (k6 : List Loc) (ls : Array Slot), mFr [67, 108, 111, 168, 177, 178, 179, 544, 576, 768] g g6 → cL G Z A H0 X g6 H6 k6 → rg (0) (1) a116_2_5 → lv_has ls 4 [(0, .ref (Z.ad 5 i0)), (2, .int a116_2_5)] → W p l e rm_ktimers s m args below meth c H6 k6 0 0 Q (F0 m 116 ls []) := by
      intro a116_2_5 g6 H6 k6 ls hF6 L6 ra116_2_5 hl
      refine lv_iload_n hx hb dX5_timers_116 rfl (lv_at hl 1 rfl) ?_
      have j133_7 : ∀ (g7 : mSt) (H7 : Heap) (k7 : List Loc) (ls : Array Slot), mFr [67, 108, 111, 164, 165, 166, 167, 168, 169, 170, 171, 172, 179, 197, 198, 421, 422, 544, 576, 768, 864, 928, 1280, 1344] g6 g7 → cL G Z A H0 X g7 H7 k7 → lv_has ls 4 [(0, .ref (Z.ad 5 i0)), (2, .int a116_2_5)] → W p l e rm_ktimers s m args below meth c H7 k7 0 0 Q (F0 m 133 ls []) := by
        intro  g7 H7 k7 ls hF7 L7  hl
        refine lv_iload_n hx hb dX5_timers_133 rfl (lv_at hl 1 rfl) ?_
        exact hQ _ _ a116_2_5 _ _ _ dX5_timers_134 L7 ⟨(mFr.tr (mFr.tr mFr.rf hF6 rfl) hF7 rfl), rg_w ra116_2_5 rfl, trivial⟩
      refine lv_if_eq (tgt := 133) hx hb dX5_timers_117 (by decide) (fun c117_8 => ?_) (fun c117_8 => ?_)
      · skip
        have q9 : rg (0) (0) a116_2_5 := (rg_eq c117_8 ra116_2_5 kc_0).1
        exact j133_7  g6 _ _ ls mFr.rf L6  (lv_sub hl [0, 1] rfl)
      · skip
        have q10 : rg (1) (1) a116_2_5 := rg_neL c117_8 ra116_2_5 kc_0
        refine lv_aload_n hx hb dX5_timers_120 rfl (lv_at hl 0 rfl) ?_
        have ho11 := cOut_lt (n := Z.n) (i := i0) (by omega)
        have al12 : Z.al 3 (cOut Z.n i0) := hz.2 3 (cOut Z.n i0) (show (cOut Z.n i0) < 2 * Z.n from (by omega))
        refine c_getr (a := Z.ad 3 (cOut Z.n i0)) x L6 5 i0 0 hal0 rfl rfl (wk_in kf_X5_30) dX5_timers_121 ?_
        refine lv_iconst (v := 3) hx hb dX5_timers_124 (by decide) ?_
        refine lv_iconst (v := 1) hx hb dX5_timers_125 (by decide) ?_
        refine c_cv (As := [.int (3 : Int32), .int (1 : Int32)]) (rest := []) x hml L6 3 (cOut Z.n i0) al12 rfl (c_ksendUnit l X g6 (cOut Z.n i0) (3 : Int32) (1 : Int32) hX (show (cOut Z.n i0) < 2 * Z.n from (by omega))) (wk_V kd_X3_sendUnit kl_X5_96 ki_X3_sendUnit ks_X3_X3_sendUnit kn_X3) rfl ⟨rfl, rfl⟩ hd_ksendUnit ⟨Nat.le_of_ble_eq_true rfl, Nat.le_of_ble_eq_true rfl⟩ rfl hl.1 rfl (lv_room (Nat.le_of_ble_eq_true rfl)) dX5_timers_126 (fun  g13 H13 k13 hp13 L13 => ?_)
        refine lv_aload_n hx hb dX5_timers_129 rfl (lv_at hl 0 rfl) ?_
        refine c_cv (As := []) (rest := []) x hml L13 5 i0 hal0 rfl (c_kcut l X g13 i0 hX (show i0 < 2 * Z.n from (by omega))) (wk_V kd_X5_cut kl_X5_108 ki_X5_cut ks_X5_X5_cut kn_X5) rfl ⟨rfl, rfl⟩ hd_kcut ⟨Nat.le_of_ble_eq_true rfl, Nat.le_of_ble_eq_true rfl⟩ rfl hl.1 rfl (lv_room (Nat.le_of_ble_eq_true rfl)) dX5_timers_130 (fun  g14 H14 k14 hp14 L14 => ?_)
        exact j133_7  g14 _ _ ls (mFr.tr (mFr.tr mFr.rf hp13.1 rfl) hp14.1 rfl) L14  (lv_sub hl [0, 1] rfl)
    refine lv_icmp_eq (tgt := 69) hx hb dX5_timers_16 (by decide) (fun c16_15 => ?_) (fun c16_15 => ?_)
    · skip
      have q16 : rg (2) (2) v1 := (rg_eq c16_15 q3 kc_2).1
      refine lv_iload_n hx hb dX5_timers_69 rfl (lv_at hl 2 rfl) ?_
      refine lv_aload_n hx hb dX5_timers_70 rfl (lv_at hl 1 rfl) ?_
      refine c_geti x L 5 i0 20 180 hal0 rfl rfl (wk_in kf_X5_81) dX5_timers_71 (fun v17 ev17 wv17 => ?_)
      have rv17 : rg (-2147483648) (2147483647) v17 := rg_any v17
      refine lv_isub hx hb dX5_timers_74 ?_
      refine lv_topi (fun v18 ev18 => ?_)
      have rv18 : rg (-2147483648) (2147483647) v18 := rg_any v18
      refine lv_bipush (v := 30) hx hb dX5_timers_75 (by decide) ?_
      refine lv_icmp_lt (tgt := 85) hx hb dX5_timers_77 (by decide) (fun c77_19 => ?_) (fun c77_19 => ?_)
      · skip
        have q20 : rg (-2147483648) (29) v18 := (rg_lt c77_19 rv18 kc_30).1
        refine lv_iload_n hx hb dX5_timers_85 rfl (lv_at hl 2 rfl) ?_
        refine lv_aload_n hx hb dX5_timers_86 rfl (lv_at hl 1 rfl) ?_
        refine c_geti x L 5 i0 18 178 hal0 rfl rfl (wk_in kf_X5_78) dX5_timers_87 (fun v21 ev21 wv21 => ?_)
        have rv21 : rg (-2147483648) (2147483647) v21 := rg_any v21
        refine lv_isub hx hb dX5_timers_90 ?_
        refine lv_topi (fun v22 ev22 => ?_)
        have rv22 : rg (-2147483648) (2147483647) v22 := rg_any v22
        refine lv_aload_n hx hb dX5_timers_91 rfl (lv_at hl 1 rfl) ?_
        refine c_geti x L 5 i0 5 165 hal0 rfl rfl (wk_in kf_X5_34) dX5_timers_92 (fun v23 ev23 wv23 => ?_)
        have rv23 : rg (0) (16777223) v23 := clj_165 wv23
        refine lv_aload_n hx hb dX5_timers_95 rfl (lv_at hl 1 rfl) ?_
        refine c_geti x L 5 i0 6 166 hal0 rfl rfl (wk_in kf_X5_37) dX5_timers_96 (fun v24 ev24 wv24 => ?_)
        have rv24 : rg (0) (16777215) v24 := clj_166 wv24
        have j108_26 : ∀ (b108_1_25 : Int32) (g26 : mSt) (H26 : Heap) (k26 : List Loc) (ls : Array Slot), mFr [] g g26 → cL G Z A H0 X g26 H26 k26 → rg (4) (20) b108_1_25 → lv_has ls 4 [(0, .ref (Z.ad 5 i0)), (1, .int p1), (2, .int (0 : Int32))] → W p l e rm_ktimers s m args below meth c H26 k26 0 0 Q (F0 m 108 ls [.int b108_1_25, .int v22]) := by
          intro b108_1_25 g26 H26 k26 ls hF26 L26 rb108_1_25 hl
          refine lv_icmp_lt (tgt := 116) hx hb dX5_timers_108 (by decide) (fun c108_27 => ?_) (fun c108_27 => ?_)
          · skip
            have q28 : rg (-2147483648) (19) v22 := (rg_lt c108_27 rv22 rb108_1_25).1
            exact j116_6 (0 : Int32) g26 _ _ ls (mFr.tr mFr.rf hF26 rfl) L26 (rg_w kc_0 rfl) (lv_sub hl [0, 2] rfl)
          · skip
            have q29 : rg (4) (2147483647) v22 := (rg_le (rg_nlt c108_27) rb108_1_25 rv22).2
            refine lv_aload_n hx hb dX5_timers_111 rfl (lv_at hl 0 rfl) ?_
            refine lv_iload_n hx hb dX5_timers_112 rfl (lv_at hl 1 rfl) ?_
            refine c_cv (As := [.int p1]) (rest := []) x hml L26 5 i0 hal0 rfl (c_kpoll l X g26 i0 p1 hX (show i0 < 2 * Z.n from (by omega))) (wk_V kd_X5_poll kl_X5_105 ki_X5_poll ks_X5_X5_poll kn_X5) rfl ⟨rfl, rfl⟩ hd_kpoll ⟨Nat.le_of_ble_eq_true rfl, Nat.le_of_ble_eq_true rfl⟩ rfl hl.1 rfl (lv_room (Nat.le_of_ble_eq_true rfl)) dX5_timers_113 (fun  g30 H30 k30 hp30 L30 => ?_)
            exact j116_6 (0 : Int32) g30 _ _ ls (mFr.tr (mFr.tr mFr.rf hF26 rfl) hp30.1 rfl) L30 (rg_w kc_0 rfl) (lv_sub hl [0, 2] rfl)
        refine lv_icmp_le (tgt := 106) hx hb dX5_timers_99 (by decide) (fun c99_31 => ?_) (fun c99_31 => ?_)
        · skip
          have q32 : rg (0) (16777215) v23 := (rg_le c99_31 rv23 rv24).1
          refine lv_bipush (v := 20) hx hb dX5_timers_106 (by decide) ?_
          exact j108_26 (20 : Int32) g _ _ ls mFr.rf L (rg_w kc_20 rfl) (lv_sub hl [1, 2, 0] rfl)
        · skip
          have q33 : rg (1) (16777223) v23 := (rg_lt (rg_nle c99_31) rv24 rv23).2
          refine lv_iconst (v := 4) hx hb dX5_timers_102 (by decide) ?_
          refine lv_goto (tgt := 108) hx hb dX5_timers_103 (by decide) ?_
          exact j108_26 (4 : Int32) g _ _ ls mFr.rf L (rg_w kc_4 rfl) (lv_sub hl [1, 2, 0] rfl)
      · skip
        have q34 : rg (30) (2147483647) v18 := (rg_le (rg_nlt c77_19) kc_30 rv18).2
        refine lv_iconst (v := 1) hx hb dX5_timers_80 (by decide) ?_
        refine lv_istore_n (lv' := [(2, .int (1 : Int32)), (0, .ref (Z.ad 5 i0)), (1, .int p1)]) hx hb dX5_timers_81 rfl hl (by decide) rfl (fun ls hl => ?_)
        refine lv_goto (tgt := 116) hx hb dX5_timers_82 (by decide) ?_
        exact j116_6 (1 : Int32) g _ _ ls mFr.rf L (rg_w kc_1 rfl) (lv_sub hl [1, 0] rfl)
    · skip
      refine lv_iload_n hx hb dX5_timers_19 rfl (lv_at hl 2 rfl) ?_
      refine lv_aload_n hx hb dX5_timers_20 rfl (lv_at hl 1 rfl) ?_
      refine c_geti x L 5 i0 18 178 hal0 rfl rfl (wk_in kf_X5_78) dX5_timers_21 (fun v35 ev35 wv35 => ?_)
      have rv35 : rg (-2147483648) (2147483647) v35 := rg_any v35
      refine lv_isub hx hb dX5_timers_24 ?_
      refine lv_topi (fun v36 ev36 => ?_)
      have rv36 : rg (-2147483648) (2147483647) v36 := rg_any v36
      refine lv_iconst (v := 5) hx hb dX5_timers_25 (by decide) ?_
      have j34_38 : ∀ (b34_0_37 : Int32) (g38 : mSt) (H38 : Heap) (k38 : List Loc) (ls : Array Slot), mFr [] g g38 → cL G Z A H0 X g38 H38 k38 → rg (0) (1) b34_0_37 → lv_has ls 4 [(0, .ref (Z.ad 5 i0)), (1, .int p1)] → W p l e rm_ktimers s m args below meth c H38 k38 0 0 Q (F0 m 34 ls [.int b34_0_37]) := by
        intro b34_0_37 g38 H38 k38 ls hF38 L38 rb34_0_37 hl
        refine lv_istore_n (lv' := [(3, .int b34_0_37), (0, .ref (Z.ad 5 i0)), (1, .int p1)]) hx hb dX5_timers_34 rfl hl (by decide) rfl (fun ls hl => ?_)
        refine lv_iload_n hx hb dX5_timers_35 rfl (lv_at hl 0 rfl) ?_
        have j52_40 : ∀ (b52_0_39 : Int32) (g40 : mSt) (H40 : Heap) (k40 : List Loc) (ls : Array Slot), mFr [] g38 g40 → cL G Z A H0 X g40 H40 k40 → rg (0) (1) b52_0_39 → lv_has ls 4 [(0, .ref (Z.ad 5 i0)), (1, .int p1), (3, .int b34_0_37)] → W p l e rm_ktimers s m args below meth c H40 k40 0 0 Q (F0 m 52 ls [.int b52_0_39]) := by
          intro b52_0_39 g40 H40 k40 ls hF40 L40 rb52_0_39 hl
          refine lv_istore_n (lv' := [(2, .int b52_0_39), (0, .ref (Z.ad 5 i0)), (1, .int p1), (3, .int b34_0_37)]) hx hb dX5_timers_52 rfl hl (by decide) rfl (fun ls hl => ?_)
          refine lv_iload_n hx hb dX5_timers_53 rfl (lv_at hl 3 rfl) ?_
          have j66_41 : ∀ (g41 : mSt) (H41 : Heap) (k41 : List Loc) (ls : Array Slot), mFr [67, 108, 111, 177, 178, 544, 576, 768] g40 g41 → cL G Z A H0 X g41 H41 k41 → lv_has ls 4 [(0, .ref (Z.ad 5 i0)), (2, .int b52_0_39)] → W p l e rm_ktimers s m args below meth c H41 k41 0 0 Q (F0 m 66 ls []) := by
            intro  g41 H41 k41 ls hF41 L41  hl
            refine lv_goto (tgt := 116) hx hb dX5_timers_66 (by decide) ?_
            exact j116_6 b52_0_39 g41 _ _ ls (mFr.tr (mFr.tr (mFr.tr mFr.rf hF38 rfl) hF40 rfl) hF41 rfl) L41 (rg_w rb52_0_39 rfl) (lv_sub hl [0, 1] rfl)
          refine lv_if_eq (tgt := 66) hx hb dX5_timers_54 (by decide) (fun c54_42 => ?_) (fun c54_42 => ?_)
          · skip
            have q43 : rg (0) (0) b34_0_37 := (rg_eq c54_42 rb34_0_37 kc_0).1
            exact j66_41  g40 _ _ ls mFr.rf L40  (lv_sub hl [1, 0] rfl)
          · skip
            have q44 : rg (1) (1) b34_0_37 := rg_neL c54_42 rb34_0_37 kc_0
            refine lv_iload_n hx hb dX5_timers_57 rfl (lv_at hl 0 rfl) ?_
            refine lv_if_ne (tgt := 66) hx hb dX5_timers_58 (by decide) (fun c58_45 => ?_) (fun c58_45 => ?_)
            · skip
              have q46 : rg (1) (1) b52_0_39 := rg_neL c58_45 rb52_0_39 kc_0
              exact j66_41  g40 _ _ ls mFr.rf L40  (lv_sub hl [1, 0] rfl)
            · skip
              have q47 : rg (0) (0) b52_0_39 := (rg_eq c58_45 rb52_0_39 kc_0).1
              refine lv_aload_n hx hb dX5_timers_61 rfl (lv_at hl 1 rfl) ?_
              refine lv_iload_n hx hb dX5_timers_62 rfl (lv_at hl 2 rfl) ?_
              refine c_cv (As := [.int p1]) (rest := []) x hml L40 5 i0 hal0 rfl (c_kaskAgain l X g40 i0 p1 hX (show i0 < 2 * Z.n from (by omega))) (wk_V kd_X5_askAgain kl_X5_93 ki_X5_askAgain ks_X5_X5_askAgain kn_X5) rfl ⟨rfl, rfl⟩ hd_kaskAgain ⟨Nat.le_of_ble_eq_true rfl, Nat.le_of_ble_eq_true rfl⟩ rfl hl.1 rfl (lv_room (Nat.le_of_ble_eq_true rfl)) dX5_timers_63 (fun  g48 H48 k48 hp48 L48 => ?_)
              exact j66_41  g48 _ _ ls (mFr.tr mFr.rf hp48.1 rfl) L48  (lv_sub hl [1, 0] rfl)
        have j51_49 : ∀ (g49 : mSt) (H49 : Heap) (k49 : List Loc) (ls : Array Slot), mFr [] g38 g49 → cL G Z A H0 X g49 H49 k49 → lv_has ls 4 [(0, .ref (Z.ad 5 i0)), (1, .int p1), (3, .int b34_0_37)] → W p l e rm_ktimers s m args below meth c H49 k49 0 0 Q (F0 m 51 ls []) := by
          intro  g49 H49 k49 ls hF49 L49  hl
          refine lv_iconst (v := 0) hx hb dX5_timers_51 (by decide) ?_
          exact j52_40 (0 : Int32) g49 _ _ ls (mFr.tr mFr.rf hF49 rfl) L49 (rg_w kc_0 rfl) (lv_sub hl [0, 1, 2] rfl)
        refine lv_if_eq (tgt := 51) hx hb dX5_timers_36 (by decide) (fun c36_50 => ?_) (fun c36_50 => ?_)
        · skip
          have q51 : rg (0) (0) b34_0_37 := (rg_eq c36_50 rb34_0_37 kc_0).1
          exact j51_49  g38 _ _ ls mFr.rf L38  (lv_sub hl [1, 2, 0] rfl)
        · skip
          have q52 : rg (1) (1) b34_0_37 := rg_neL c36_50 rb34_0_37 kc_0
          refine lv_aload_n hx hb dX5_timers_39 rfl (lv_at hl 1 rfl) ?_
          refine c_geti x L38 5 i0 17 177 hal0 rfl rfl (wk_in kf_X5_87) dX5_timers_40 (fun v53 ev53 wv53 => ?_)
          have rv53 : rg (-2147483648) (2147483647) v53 := rg_any v53
          refine lv_iconst (v := 4) hx hb dX5_timers_43 (by decide) ?_
          refine lv_icmp_lt (tgt := 51) hx hb dX5_timers_44 (by decide) (fun c44_54 => ?_) (fun c44_54 => ?_)
          · skip
            have q55 : rg (-2147483648) (3) v53 := (rg_lt c44_54 rv53 kc_4).1
            exact j51_49  g38 _ _ ls mFr.rf L38  (lv_sub hl [1, 2, 0] rfl)
          · skip
            have q56 : rg (4) (2147483647) v53 := (rg_le (rg_nlt c44_54) kc_4 rv53).2
            refine lv_iconst (v := 1) hx hb dX5_timers_47 (by decide) ?_
            refine lv_goto (tgt := 52) hx hb dX5_timers_48 (by decide) ?_
            exact j52_40 (1 : Int32) g38 _ _ ls mFr.rf L38 (rg_w kc_1 rfl) (lv_sub hl [1, 2, 0] rfl)
      refine lv_icmp_lt (tgt := 33) hx hb dX5_timers_26 (by decide) (fun c26_57 => ?_) (fun c26_57 => ?_)
      · skip
        have q58 : rg (-2147483648) (4) v36 := (rg_lt c26_57 rv36 kc_5).1
        refine lv_iconst (v := 0) hx hb dX5_timers_33 (by decide) ?_
        exact j34_38 (0 : Int32) g _ _ ls mFr.rf L (rg_w kc_0 rfl) (lv_sub hl [1, 2] rfl)
      · skip
        have q59 : rg (5) (2147483647) v36 := (rg_le (rg_nlt c26_57) kc_5 rv36).2
        refine lv_iconst (v := 1) hx hb dX5_timers_29 (by decide) ?_
        refine lv_goto (tgt := 34) hx hb dX5_timers_30 (by decide) ?_
        exact j34_38 (1 : Int32) g _ _ ls mFr.rf L (rg_w kc_1 rfl) (lv_sub hl [1, 2] rfl)
  · skip
    have q60 : rg (0) (0) v1 := (rg_eq c4_2 rv1 kc_0).1
    refine lv_iconst (v := 0) hx hb dX5_timers_7 (by decide) ?_
    exact hQ _ _ (0 : Int32) _ _ _ dX5_timers_8 L ⟨mFr.rf, rg_w kc_0 rfl, trivial⟩
theorem c_ktimers (l : Launch) {G : cG} {Z : cZ} (X : Int) (g : mSt) (i0 : Nat) (p1 : Int32) (hX : 0 ≤ X ∧ X ≤ 2000000000) (hi0 : i0 < 2 * Z.n) : Met l yX5_timers (wk (Cond.code yX5_timers cX5_timers 4 (some .boolean))) rm_ktimers (va_Pc [.ref (Z.ad 5 i0), .int p1] (cPre G Z X g)) (cQi G Z X (fun r g1 => mFr [67, 108, 111, 164, 165, 166, 167, 168, 169, 170, 171, 172, 177, 178, 179, 197, 198, 421, 422, 544, 576, 768, 864, 928, 1280, 1344] g g1 ∧ rg (0) (1) r ∧ True)) 0 0 (cAd Z) := by
  refine Met.ofW (cc := cX5_timers) (maxL := 4) (ret := (some .boolean)) (by decide) rfl ?_
  intro p e s m args below meth c s₁ B hml hv
  obtain ⟨rfl, hv⟩ := hv
  have hr := B.returns
  have hlocks := B.notSynchronized
  obtain ⟨x, L⟩ := c_start B rfl (fun w h => wk_in h) hv
  have hl := lv_entry ([.ref (Z.ad 5 i0), .int p1]) (n := 4) (Nat.le_of_ble_eq_true rfl)
  rw [lg_entry_eq]
  generalize (lg_sl ([.ref (Z.ad 5 i0), .int p1]) ++ List.replicate (4 - (lg_sl ([.ref (Z.ad 5 i0), .int p1])).length) Slot.unset).toArray = ls at hl ⊢
  exact w_ktimers x hml L hX i0 p1 hi0 hl (fun pc' ls' r g1 H1 locs1 hdg L hp => c_zret x L hr hlocks (nar01 (rg_w hp.2.1 rfl)) (Int.le_refl _) hp hdg)
