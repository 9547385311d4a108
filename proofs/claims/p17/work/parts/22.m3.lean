def rm_messageCell : Room := { frames := 11, cells := 0, slots := 0, locals := 272 }
theorem hd_messageCell : yX12_messageCell.cls = RX12 ∧ yX12_messageCell.cls ≠ "java/lang/invoke/MethodHandle" ∧ yX12_messageCell.cls ≠ "java/lang/invoke/VarHandle" ∧ (parseMethodDescriptor yX12_messageCell.desc).map (fun d => d.parameters.length) = some 3 := by decide +kernel
set_option maxHeartbeats 4000000 in
set_option maxRecDepth 100000 in
theorem w_messageCell {p : Program} {l : Launch} {e : Env} {s : State} {m : MethodId} {args : Array Value} {below : List Frame} {meth : Method} {c : Code} {H : Heap} {locs : List Loc} {Q : State → Prop} {ls : Array Slot} {G : mG} {h0 : Nat} {ad : Nat → Nat} {g : mSt} {H0 : Heap} {nn X : Int} (x : mX p c cX12_messageCell s args (wm (Cond.code yX12_messageCell cX12_messageCell 7 none)) m G h0 ad) (hml : c.maxLocals = 7) (L : mL G h0 ad H0 nn X g H locs) (hnn : 2 ≤ nn ∧ nn ≤ 4) (hX : 0 ≤ X ∧ X ≤ 2000000000) (p1 : Int32) (p2 : Int32) (p3 : Int32) (hJ : mJ nn [] g) (rp1 : rg (0) (7) p1) (np1 : p1.toInt < 2 * nn) (rp2 : rg (0) (371) p2) (hl : lv_has ls 7 [(0, .ref h0), (1, .int p1), (2, .int p2), (3, .int p3)]) (hQ : ∀ (pc' : Nat) (ls' : Array Slot) (g1 : mSt) (H1 : Heap) (locs1 : List Loc), decode cX12_messageCell pc' = .ok (.return_, 1) → mL G h0 ad H0 nn X g1 H1 locs1 → (mFr [4, 5, 7, 8, 9, 10, 11, 30, 31, 32, 33, 34, 40, 41, 42, 43, 44, 45, 46, 47, 48, 49, 50, 51, 52, 53, 54, 55, 56, 57, 58, 59, 60, 64, 65, 66, 67, 68, 69, 70, 71, 72, 73, 74, 75, 76, 77, 78, 79, 80, 81, 86, 87, 89, 90, 91] g g1 ∧ mJ nn [] g1 ∧ True) → W p l e rm_messageCell s m args below meth c H1 locs1 0 0 Q (F0 m pc' ls' [])) : W p l e rm_messageCell s m args below meth c H locs 0 0 Q (F0 m 0 ls []) := by
  have hx := x.1
  have hb := x.2.1
  refine lv_sipush (v := 240) hx hb dX12_messageCell_0 (by decide) ?_
  refine lv_iload_n hx hb dX12_messageCell_3 rfl (lv_at hl 1 rfl) ?_
  refine lv_imul hx hb dX12_messageCell_4 ?_
  refine lv_topi (fun v1 ev1 => ?_)
  have rv1 : rg (0) (1680) v1 := (rg_mulL ev1 kc_240 rp1 rfl).1
  have tv1 := (rg_mulL ev1 kc_240 rp1 rfl).2
  have b480v1 : v1.toInt < 480 * nn := by have := np1; have : (240 : Int32).toInt = 240 := (by decide); omega
  refine lv_bipush (v := 48) hx hb dX12_messageCell_5 (by decide) ?_
  refine lv_aload_n hx hb dX12_messageCell_7 rfl (lv_at hl 0 rfl) ?_
  refine m_geta x L 32 rfl rfl (wm_in uf_86) dX12_messageCell_8 ?_
  refine lv_iload_n hx hb dX12_messageCell_11 rfl (lv_at hl 1 rfl) ?_
  refine m_ld x L 32 rfl rp1 rfl dX12_messageCell_12 (fun v2 ev2 wv2 => ?_)
  have rv2 : rg (0) (5) v2 := lj_32 wv2
  have rjv2 : rg (0) (4) v2 := mJ_r32 hJ ev2 rv2
  refine lv_imul hx hb dX12_messageCell_13 ?_
  refine lv_topi (fun v3 ev3 => ?_)
  have rv3 : rg (0) (192) v3 := (rg_mulL ev3 kc_48 rjv2 rfl).1
  refine lv_iadd hx hb dX12_messageCell_14 ?_
  refine lv_topi (fun v4 ev4 => ?_)
  have rv4 : rg (0) (1872) v4 := (rg_add ev4 rv1 rv3 rfl).1
  have tv4 := (rg_add ev4 rv1 rv3 rfl).2
  refine lv_istore (lv' := [(4, .int v4), (0, .ref h0), (1, .int p1), (2, .int p2), (3, .int p3)]) hx hb dX12_messageCell_15 hl (by decide) rfl (fun ls hl => ?_)
  refine lv_iconst (v := 0) hx hb dX12_messageCell_17 (by decide) ?_
  refine lv_istore (lv' := [(5, .int (0 : Int32)), (4, .int v4), (0, .ref h0), (1, .int p1), (2, .int p2), (3, .int p3)]) hx hb dX12_messageCell_18 hl (by decide) rfl (fun ls hl => ?_)
  have j20_6 : ∀ (n : Nat) (a20_5_5 : Int32) (g6 : mSt) (H6 : Heap) (k6 : List Loc) (ls : Array Slot), mFr [31] g g6 → mL G h0 ad H0 nn X g6 H6 k6 → mJ nn [] g6 → rg (0) (48) a20_5_5 → lv_has ls 7 [(0, .ref h0), (1, .int p1), (2, .int p2), (3, .int p3), (4, .int v4), (5, .int a20_5_5)] → ((48 : Int) - a20_5_5.toInt).toNat = n → W p l e rm_messageCell s m args below meth c H6 k6 0 0 Q (F0 m 20 ls []) := by
    intro n
    induction n using Nat.strongRecOn with
    | _ n ih6 =>
      intro a20_5_5 g6 H6 k6 ls hF6 L6 hJ6 ra20_5_5 hl hn6
      subst hn6
      refine lv_iload hx hb dX12_messageCell_20 (lv_at hl 5 rfl) ?_
      refine lv_bipush (v := 48) hx hb dX12_messageCell_22 (by decide) ?_
      refine lv_icmp_ge (tgt := 54) hx hb dX12_messageCell_24 (by decide) (fun c24_7 => ?_) (fun c24_7 => ?_)
      · skip
        have q8 : rg (48) (48) a20_5_5 := (rg_le c24_7 kc_48 ra20_5_5).2
        refine lv_aload_n hx hb dX12_messageCell_54 rfl (lv_at hl 0 rfl) ?_
        refine m_geta x L6 32 rfl rfl (wm_in uf_86) dX12_messageCell_55 ?_
        refine lv_iload_n hx hb dX12_messageCell_58 rfl (lv_at hl 1 rfl) ?_
        refine lv_dup2_11 hx hb dX12_messageCell_59 rfl rfl ?_
        refine m_ld x L6 32 rfl rp1 rfl dX12_messageCell_60 (fun v9 ev9 wv9 => ?_)
        refine m_top (((mm_fr ev2 hF6 rfl)).trans ev9.symm) ?_
        refine lv_iconst (v := 1) hx hb dX12_messageCell_61 (by decide) ?_
        refine lv_iadd hx hb dX12_messageCell_62 ?_
        refine lv_topi (fun v10 ev10 => ?_)
        have rv10 : rg (1) (5) v10 := (rg_add ev10 rjv2 kc_1 rfl).1
        refine m_st x L6 32 rfl rp1 rfl (rj_32 (rg_w rv10 rfl)) dX12_messageCell_63 (fun g11 H11 k11 eg11 L11 => ?_)
        refine lv_iload_n hx hb dX12_messageCell_64 rfl (lv_at hl 3 rfl) ?_
        refine lv_iconst (v := 2) hx hb dX12_messageCell_65 (by decide) ?_
        refine lv_irem hx hb dX12_messageCell_66 (by decide) ?_
        refine lv_topi (fun v12 ev12 => ?_)
        have rv12 : rg (-2147483648) (2147483647) v12 := rg_any v12
        refine lv_iconst (v := 1) hx hb dX12_messageCell_67 (by decide) ?_
        refine lv_icmp_ne (tgt := 167) hx hb dX12_messageCell_68 (by decide) (fun c68_13 => ?_) (fun c68_13 => ?_)
        · skip
          refine lv_aload_n hx hb dX12_messageCell_167 rfl (lv_at hl 0 rfl) ?_
          refine m_geta x L11 32 rfl rfl (wm_in uf_86) dX12_messageCell_168 ?_
          refine lv_iload_n hx hb dX12_messageCell_171 rfl (lv_at hl 1 rfl) ?_
          refine m_ld x L11 32 rfl rp1 rfl dX12_messageCell_172 (fun v14 ev14 wv14 => ?_)
          refine m_top (((mm_st eg11)).trans ev14.symm) ?_
          refine lv_iconst (v := 5) hx hb dX12_messageCell_173 (by decide) ?_
          refine lv_icmp_ne (tgt := 194) hx hb dX12_messageCell_174 (by decide) (fun c174_15 => ?_) (fun c174_15 => ?_)
          · skip
            have q16 : rg (1) (4) v10 := rg_neH c174_15 rv10 kc_5
            exact hQ _ _ _ _ _ dX12_messageCell_194 L11 ⟨(mFr.upE (mFr.tr mFr.rf hF6 rfl) eg11 rfl), (mJ_32 hJ6 eg11 q16 rfl), trivial⟩
          · skip
            have q17 : rg (5) (5) v10 := (rg_eq c174_15 rv10 kc_5).1
            refine lv_aload_n hx hb dX12_messageCell_177 rfl (lv_at hl 0 rfl) ?_
            refine m_geta x L11 32 rfl rfl (wm_in uf_86) dX12_messageCell_178 ?_
            refine lv_iload_n hx hb dX12_messageCell_181 rfl (lv_at hl 1 rfl) ?_
            refine lv_iconst (v := 0) hx hb dX12_messageCell_182 (by decide) ?_
            refine m_st x L11 32 rfl rp1 rfl (rj_32 (rg_w kc_0 rfl)) dX12_messageCell_183 (fun g18 H18 k18 eg18 L18 => ?_)
            have hJ19 := mJ_32 hJ6 (up2_up2 eg11 eg18) kc_0 rfl
            refine lv_aload_n hx hb dX12_messageCell_184 rfl (lv_at hl 0 rfl) ?_
            refine m_geta x L18 30 rfl rfl (wm_in uf_80) dX12_messageCell_185 ?_
            refine lv_iload_n hx hb dX12_messageCell_188 rfl (lv_at hl 1 rfl) ?_
            refine lv_dup2_11 hx hb dX12_messageCell_189 rfl rfl ?_
            refine m_ld x L18 30 rfl rp1 rfl dX12_messageCell_190 (fun v20 ev20 wv20 => ?_)
            have rv20 : rg (-2147483648) (2147483647) v20 := lj_30 wv20
            refine lv_iconst (v := 1) hx hb dX12_messageCell_191 (by decide) ?_
            refine lv_iadd hx hb dX12_messageCell_192 ?_
            refine lv_topi (fun v21 ev21 => ?_)
            have rv21 : rg (-2147483648) (2147483647) v21 := rg_any v21
            refine m_st x L18 30 rfl rp1 rfl (rj_30 (rg_any v21)) dX12_messageCell_193 (fun g22 H22 k22 eg22 L22 => ?_)
            exact hQ _ _ _ _ _ dX12_messageCell_194 L22 ⟨(mFr.upE (mFr.upE (mFr.upE (mFr.tr mFr.rf hF6 rfl) eg11 rfl) eg18 rfl) eg22 rfl), (mJ_up hJ19 eg22 rfl), trivial⟩
        · skip
          have q23 : rg (1) (1) v12 := (rg_eq c68_13 rv12 kc_1).1
          refine lv_bipush (v := 48) hx hb dX12_messageCell_71 (by decide) ?_
          refine lv_aload_n hx hb dX12_messageCell_73 rfl (lv_at hl 0 rfl) ?_
          refine m_geta x L11 32 rfl rfl (wm_in uf_86) dX12_messageCell_74 ?_
          refine lv_iload_n hx hb dX12_messageCell_77 rfl (lv_at hl 1 rfl) ?_
          refine m_ld x L11 32 rfl rp1 rfl dX12_messageCell_78 (fun v24 ev24 wv24 => ?_)
          refine m_top (((mm_st eg11)).trans ev24.symm) ?_
          refine lv_imul hx hb dX12_messageCell_79 ?_
          refine lv_topi (fun v25 ev25 => ?_)
          have rv25 : rg (48) (240) v25 := (rg_mulL ev25 kc_48 rv10 rfl).1
          refine lv_istore (lv' := [(5, .int v25), (0, .ref h0), (1, .int p1), (2, .int p2), (3, .int p3), (4, .int v4)]) hx hb dX12_messageCell_80 hl (by decide) rfl (fun ls hl => ?_)
          refine lv_aload_n hx hb dX12_messageCell_82 rfl (lv_at hl 1 rfl) ?_
          refine m_geta x L11 32 rfl rfl (wm_in uf_86) dX12_messageCell_83 ?_
          refine lv_iload_n hx hb dX12_messageCell_86 rfl (lv_at hl 2 rfl) ?_
          refine lv_iconst (v := 0) hx hb dX12_messageCell_87 (by decide) ?_
          refine m_st x L11 32 rfl rp1 rfl (rj_32 (rg_w kc_0 rfl)) dX12_messageCell_88 (fun g26 H26 k26 eg26 L26 => ?_)
          have hJ27 := mJ_32 hJ6 (up2_up2 eg11 eg26) kc_0 rfl
          refine lv_iconst (v := 0) hx hb dX12_messageCell_89 (by decide) ?_
          refine lv_istore (lv' := [(6, .int (0 : Int32)), (5, .int v25), (0, .ref h0), (1, .int p1), (2, .int p2), (3, .int p3), (4, .int v4)]) hx hb dX12_messageCell_90 hl (by decide) rfl (fun ls hl => ?_)
          have j92_29 : ∀ (n : Nat) (a92_6_28 : Int32) (g29 : mSt) (H29 : Heap) (k29 : List Loc) (ls : Array Slot), mFr [33] g26 g29 → mL G h0 ad H0 nn X g29 H29 k29 → mJ nn [] g29 → rg (0) (240) a92_6_28 → lv_has ls 7 [(0, .ref h0), (1, .int p1), (5, .int v25), (6, .int a92_6_28)] → ((240 : Int) - a92_6_28.toInt).toNat = n → W p l e rm_messageCell s m args below meth c H29 k29 0 0 Q (F0 m 92 ls []) := by
            intro n
            induction n using Nat.strongRecOn with
            | _ n ih29 =>
              intro a92_6_28 g29 H29 k29 ls hF29 L29 hJ29 ra92_6_28 hl hn29
              subst hn29
              refine lv_iload hx hb dX12_messageCell_92 (lv_at hl 3 rfl) ?_
              refine lv_iload hx hb dX12_messageCell_94 (lv_at hl 2 rfl) ?_
              refine lv_icmp_ge (tgt := 125) hx hb dX12_messageCell_96 (by decide) (fun c96_30 => ?_) (fun c96_30 => ?_)
              · skip
                have q31 : rg (48) (240) a92_6_28 := (rg_le c96_30 rv25 ra92_6_28).2
                refine lv_aload_n hx hb dX12_messageCell_125 rfl (lv_at hl 0 rfl) ?_
                refine lv_aload_n hx hb dX12_messageCell_126 rfl (lv_at hl 0 rfl) ?_
                refine lv_iload hx hb dX12_messageCell_127 (lv_at hl 2 rfl) ?_
                refine m_ci (As := [.int v25]) (rest := [.ref h0]) x hml L29 (c_checkWhole l nn X g29 v25 hnn hX (rg_w rv25 rfl)) (wm_V uc_checkWhole ul_354 ui_checkWhole us_checkWhole u_init) rfl ⟨rfl, rfl⟩ hd_checkWhole ⟨Nat.le_of_ble_eq_true rfl, Nat.le_of_ble_eq_true rfl⟩ rfl hl.1 rfl (lv_room (Nat.le_of_ble_eq_true rfl)) dX12_messageCell_129 (fun v33 g32 H32 k32 hp32 L32 => ?_)
                have rv33 : rg (0) (200) v33 := hp32.2.1
                refine m_puti x L32 34 rfl fi_34 (wm_in uf_357) dX12_messageCell_132 (rj_34 (rg_w rv33 rfl)) (fun g34 H34 k34 eg34 L34 => ?_)
                refine lv_aload_n hx hb dX12_messageCell_135 rfl (lv_at hl 0 rfl) ?_
                refine m_geti x L34 34 rfl rfl (wm_in uf_357) dX12_messageCell_136 (fun v35 ev35 wv35 => ?_)
                refine m_top (((mm_st eg34)).trans ev35.symm) ?_
                have j164_36 : ∀ (g36 : mSt) (H36 : Heap) (k36 : List Loc) (ls : Array Slot), mFr [4, 5, 7, 8, 9, 10, 11, 30, 33, 40, 41, 42, 43, 44, 45, 46, 47, 48, 49, 50, 51, 52, 53, 54, 55, 56, 57, 58, 59, 60, 64, 65, 66, 67, 68, 69, 70, 71, 72, 73, 74, 75, 76, 77, 78, 79, 80, 81, 86, 87, 89, 90, 91] g34 g36 → mL G h0 ad H0 nn X g36 H36 k36 → mJ nn [] g36 → lv_has ls 7 [(0, .ref h0)] → W p l e rm_messageCell s m args below meth c H36 k36 0 0 Q (F0 m 164 ls []) := by
                  intro  g36 H36 k36 ls hF36 L36 hJ36  hl
                  refine lv_goto (tgt := 194) hx hb dX12_messageCell_164 (by decide) ?_
                  exact hQ _ _ _ _ _ dX12_messageCell_194 L36 ⟨(mFr.tr (mFr.upE (mFr.tr (mFr.tr (mFr.upE (mFr.upE (mFr.tr mFr.rf hF6 rfl) eg11 rfl) eg26 rfl) hF29 rfl) hp32.1 rfl) eg34 rfl) hF36 rfl), hJ36, trivial⟩
                refine lv_if_ne (tgt := 155) hx hb dX12_messageCell_139 (by decide) (fun c139_37 => ?_) (fun c139_37 => ?_)
                · skip
                  have q38 : rg (1) (200) v33 := rg_neL c139_37 rv33 kc_0
                  refine lv_aload_n hx hb dX12_messageCell_155 rfl (lv_at hl 0 rfl) ?_
                  refine lv_aload_n hx hb dX12_messageCell_156 rfl (lv_at hl 0 rfl) ?_
                  refine lv_iload_n hx hb dX12_messageCell_157 rfl (lv_at hl 1 rfl) ?_
                  refine m_ci (As := [.int p1]) (rest := [.ref h0]) x hml L34 (c_sideOf l nn X g34 p1 hnn hX (rg_w rp1 rfl) np1) (wm_V uc_sideOf ul_360 ui_sideOf us_sideOf u_init) rfl ⟨rfl, rfl⟩ hd_sideOf ⟨Nat.le_of_ble_eq_true rfl, Nat.le_of_ble_eq_true rfl⟩ rfl hl.1 rfl (lv_room (Nat.le_of_ble_eq_true rfl)) dX12_messageCell_158 (fun v40 g39 H39 k39 hp39 L39 => ?_)
                  have rv40 : rg (0) (7) v40 := hp39.2.1
                  refine m_cv (As := [.int v40]) (rest := []) x hml L39 (c_unit l nn X g39 v40 hnn hX (mJ_fr (mJ_up (mJ_fr hJ29 hp32.1 rfl) eg34 rfl) hp39.1 rfl) (rg_w rv40 rfl) hp39.2.2) (wm_V uc_unit ul_363 ui_unit us_unit u_init) rfl ⟨rfl, rfl⟩ hd_unit ⟨Nat.le_of_ble_eq_true rfl, Nat.le_of_ble_eq_true rfl⟩ rfl hl.1 rfl (lv_room (Nat.le_of_ble_eq_true rfl)) dX12_messageCell_161 (fun  g41 H41 k41 hp41 L41 => ?_)
                  exact j164_36  g41 _ _ ls (mFr.tr (mFr.tr mFr.rf hp39.1 rfl) hp41.1 rfl) L41 hp41.2.1 (lv_sub hl [0] rfl)
                · skip
                  have q42 : rg (0) (0) v33 := (rg_eq c139_37 rv33 kc_0).1
                  refine lv_aload_n hx hb dX12_messageCell_142 rfl (lv_at hl 0 rfl) ?_
                  refine m_geta x L34 30 rfl rfl (wm_in uf_80) dX12_messageCell_143 ?_
                  refine lv_iload_n hx hb dX12_messageCell_146 rfl (lv_at hl 1 rfl) ?_
                  refine lv_dup2_11 hx hb dX12_messageCell_147 rfl rfl ?_
                  refine m_ld x L34 30 rfl rp1 rfl dX12_messageCell_148 (fun v43 ev43 wv43 => ?_)
                  have rv43 : rg (-2147483648) (2147483647) v43 := lj_30 wv43
                  refine lv_iconst (v := 1) hx hb dX12_messageCell_149 (by decide) ?_
                  refine lv_iadd hx hb dX12_messageCell_150 ?_
                  refine lv_topi (fun v44 ev44 => ?_)
                  have rv44 : rg (-2147483648) (2147483647) v44 := rg_any v44
                  refine m_st x L34 30 rfl rp1 rfl (rj_30 (rg_any v44)) dX12_messageCell_151 (fun g45 H45 k45 eg45 L45 => ?_)
                  refine lv_goto (tgt := 164) hx hb dX12_messageCell_152 (by decide) ?_
                  exact j164_36  g45 _ _ ls (mFr.upE mFr.rf eg45 rfl) L45 (mJ_up (mJ_up (mJ_fr hJ29 hp32.1 rfl) eg34 rfl) eg45 rfl) (lv_sub hl [0] rfl)
              · skip
                have q46 : rg (0) (239) a92_6_28 := (rg_lt (rg_nle c96_30) ra92_6_28 rv25).1
                refine lv_aload_n hx hb dX12_messageCell_99 rfl (lv_at hl 0 rfl) ?_
                refine m_geta x L29 33 rfl rfl (wm_in uf_89) dX12_messageCell_100 ?_
                refine lv_iload hx hb dX12_messageCell_103 (lv_at hl 3 rfl) ?_
                refine lv_aload_n hx hb dX12_messageCell_105 rfl (lv_at hl 0 rfl) ?_
                refine m_geta x L29 31 rfl rfl (wm_in uf_83) dX12_messageCell_106 ?_
                refine lv_sipush (v := 240) hx hb dX12_messageCell_109 (by decide) ?_
                refine lv_iload_n hx hb dX12_messageCell_112 rfl (lv_at hl 1 rfl) ?_
                refine lv_imul hx hb dX12_messageCell_113 ?_
                refine m_top ev1 ?_
                refine lv_iload hx hb dX12_messageCell_114 (lv_at hl 3 rfl) ?_
                refine lv_iadd hx hb dX12_messageCell_116 ?_
                refine lv_topi (fun v47 ev47 => ?_)
                have rv47 : rg (0) (1919) v47 := (rg_add ev47 rv1 q46 rfl).1
                have tv47 := (rg_add ev47 rv1 q46 rfl).2
                refine m_ld x L29 31 rfl rv47 rfl dX12_messageCell_117 (fun v48 ev48 wv48 => ?_)
                have rv48 : rg (-2147483648) (2147483647) v48 := lj_31 wv48
                refine m_st x L29 33 rfl q46 rfl (rj_33 (rg_any v48)) dX12_messageCell_118 (fun g49 H49 k49 eg49 L49 => ?_)
                obtain ⟨v50, ev50, fv50⟩ := inc_ex a92_6_28 (1) (1 : Int32) (by decide)
                have rv50 : rg (1) (240) v50 := (rg_add ev50 q46 kc_1 rfl).1
                have tv50 := (rg_add ev50 q46 kc_1 rfl).2
                refine lv_iinc (v := v50) (lv' := [(6, .int v50), (0, .ref h0), (1, .int p1), (5, .int v25)]) hx hb dX12_messageCell_119 hl (k := 3) rfl fv50 (by decide) rfl (fun ls hl => ?_)
                refine lv_goto (tgt := 92) hx hb dX12_messageCell_122 (by decide) ?_
                exact ih29 _ (ms_up tv50 kc_1 q46 rfl rfl) v50 g49 _ _ ls (mFr.upE hF29 eg49 rfl) L49 (mJ_up hJ29 eg49 rfl) (rg_w rv50 rfl) (lv_sub hl [1, 2, 3, 0] rfl) rfl
          exact j92_29 _ (0 : Int32) g26 _ _ ls mFr.rf L26 hJ27 (rg_w kc_0 rfl) (lv_sub hl [2, 3, 1, 0] rfl) rfl
      · skip
        have q51 : rg (0) (47) a20_5_5 := (rg_lt (rg_nle c24_7) ra20_5_5 kc_48).1
        refine lv_aload_n hx hb dX12_messageCell_27 rfl (lv_at hl 0 rfl) ?_
        refine m_geta x L6 31 rfl rfl (wm_in uf_83) dX12_messageCell_28 ?_
        refine lv_iload hx hb dX12_messageCell_31 (lv_at hl 4 rfl) ?_
        refine lv_iload hx hb dX12_messageCell_33 (lv_at hl 5 rfl) ?_
        refine lv_iadd hx hb dX12_messageCell_35 ?_
        refine lv_topi (fun v52 ev52 => ?_)
        have rv52 : rg (0) (1919) v52 := (rg_add ev52 rv4 q51 rfl).1
        refine lv_aload_n hx hb dX12_messageCell_36 rfl (lv_at hl 0 rfl) ?_
        refine m_geta x L6 26 rfl rfl (wm_in uf_68) dX12_messageCell_37 ?_
        refine lv_iload_n hx hb dX12_messageCell_40 rfl (lv_at hl 2 rfl) ?_
        refine lv_iconst (v := 5) hx hb dX12_messageCell_41 (by decide) ?_
        refine lv_iadd hx hb dX12_messageCell_42 ?_
        refine lv_topi (fun v53 ev53 => ?_)
        have rv53 : rg (5) (376) v53 := (rg_add ev53 rp2 kc_5 rfl).1
        refine lv_iload hx hb dX12_messageCell_43 (lv_at hl 5 rfl) ?_
        refine lv_iadd hx hb dX12_messageCell_45 ?_
        refine lv_topi (fun v54 ev54 => ?_)
        have rv54 : rg (5) (423) v54 := (rg_add ev54 rv53 q51 rfl).1
        refine m_ld x L6 26 rfl rv54 rfl dX12_messageCell_46 (fun v55 ev55 wv55 => ?_)
        have rv55 : rg (-2147483648) (2147483647) v55 := lj_26 wv55
        refine m_st x L6 31 rfl rv52 rfl (rj_31 (rg_any v55)) dX12_messageCell_47 (fun g56 H56 k56 eg56 L56 => ?_)
        obtain ⟨v57, ev57, fv57⟩ := inc_ex a20_5_5 (1) (1 : Int32) (by decide)
        have rv57 : rg (1) (48) v57 := (rg_add ev57 q51 kc_1 rfl).1
        have tv57 := (rg_add ev57 q51 kc_1 rfl).2
        refine lv_iinc (v := v57) (lv' := [(5, .int v57), (0, .ref h0), (1, .int p1), (2, .int p2), (3, .int p3), (4, .int v4)]) hx hb dX12_messageCell_48 hl (k := 5) rfl fv57 (by decide) rfl (fun ls hl => ?_)
        refine lv_goto (tgt := 20) hx hb dX12_messageCell_51 (by decide) ?_
        exact ih6 _ (ms_up tv57 kc_1 q51 rfl rfl) v57 g56 _ _ ls (mFr.upE hF6 eg56 rfl) L56 (mJ_up hJ6 eg56 rfl) (rg_w rv57 rfl) (lv_sub hl [1, 2, 3, 4, 5, 0] rfl) rfl
  exact j20_6 _ (0 : Int32) g _ _ ls mFr.rf L hJ (rg_w kc_0 rfl) (lv_sub hl [2, 3, 4, 5, 1, 0] rfl) rfl
theorem c_messageCell (l : Launch) {G : mG} {h0 : Nat} {ad : Nat → Nat} (nn X : Int) (g : mSt) (p1 : Int32) (p2 : Int32) (p3 : Int32) (hnn : 2 ≤ nn ∧ nn ≤ 4) (hX : 0 ≤ X ∧ X ≤ 2000000000) (hJ : mJ nn [] g) (rp1 : rg (0) (7) p1) (np1 : p1.toInt < 2 * nn) (rp2 : rg (0) (371) p2) : Met l yX12_messageCell (wm (Cond.code yX12_messageCell cX12_messageCell 7 none)) rm_messageCell (va_Pc [.ref h0, .int p1, .int p2, .int p3] (mPre G h0 ad nn X g)) (mQv G h0 ad nn X (fun g1 => mFr [4, 5, 7, 8, 9, 10, 11, 30, 31, 32, 33, 34, 40, 41, 42, 43, 44, 45, 46, 47, 48, 49, 50, 51, 52, 53, 54, 55, 56, 57, 58, 59, 60, 64, 65, 66, 67, 68, 69, 70, 71, 72, 73, 74, 75, 76, 77, 78, 79, 80, 81, 86, 87, 89, 90, 91] g g1 ∧ mJ nn [] g1 ∧ True)) 0 0 (mA h0 ad) := by
  refine Met.ofW (cc := cX12_messageCell) (maxL := 7) (ret := none) (by decide) rfl ?_
  intro p e s m args below meth c s₁ B hml hv
  obtain ⟨rfl, hv⟩ := hv
  have hr := B.returns
  have hlocks := B.notSynchronized
  obtain ⟨x, L⟩ := m_start B rfl wm_X hv
  have hl := lv_entry ([.ref h0, .int p1, .int p2, .int p3]) (n := 7) (Nat.le_of_ble_eq_true rfl)
  rw [lg_entry_eq]
  generalize (lg_sl ([.ref h0, .int p1, .int p2, .int p3]) ++ List.replicate (7 - (lg_sl ([.ref h0, .int p1, .int p2, .int p3])).length) Slot.unset).toArray = ls at hl ⊢
  exact w_messageCell x hml L hnn hX p1 p2 p3 hJ rp1 np1 rp2 hl (fun pc' ls' g1 H1 locs1 hdg L hp => m_vret x L hr hlocks (Int.le_refl _) hp hdg)

def rm_dealWith : Room := { frames := 12, cells := 0, slots := 0, locals := 298 }
theorem hd_dealWith : yX12_dealWith.cls = RX12 ∧ yX12_dealWith.cls ≠ "java/lang/invoke/MethodHandle" ∧ yX12_dealWith.cls ≠ "java/lang/invoke/VarHandle" ∧ (parseMethodDescriptor yX12_dealWith.desc).map (fun d => d.parameters.length) = some 2 := by decide +kernel
set_option maxHeartbeats 4000000 in
set_option maxRecDepth 100000 in
theorem w_dealWith {p : Program} {l : Launch} {e : Env} {s : State} {m : MethodId} {args : Array Value} {below : List Frame} {meth : Method} {c : Code} {H : Heap} {locs : List Loc} {Q : State → Prop} {ls : Array Slot} {G : mG} {h0 : Nat} {ad : Nat → Nat} {g : mSt} {H0 : Heap} {nn X : Int} (x : mX p c cX12_dealWith s args (wm (Cond.code yX12_dealWith cX12_dealWith 6 none)) m G h0 ad) (hml : c.maxLocals = 6) (L : mL G h0 ad H0 nn X g H locs) (hnn : 2 ≤ nn ∧ nn ≤ 4) (hX : 0 ≤ X ∧ (X + 1) ≤ 2000000000) (p1 : Int32) (p2 : Int32) (hJ : mJ nn [] g) (rp1 : rg (0) (7) p1) (np1 : p1.toInt < 2 * nn) (rp2 : rg (0) (371) p2) (hl : lv_has ls 6 [(0, .ref h0), (1, .int p1), (2, .int p2)]) (hQ : ∀ (pc' : Nat) (ls' : Array Slot) (g1 : mSt) (H1 : Heap) (locs1 : List Loc), decode cX12_dealWith pc' = .ok (.return_, 1) → mL G h0 ad H0 nn (X + 1) g1 H1 locs1 → (mFr [4, 5, 7, 8, 9, 10, 11, 30, 31, 32, 33, 34, 35, 36, 37, 38, 39, 40, 41, 42, 43, 44, 45, 46, 47, 48, 49, 50, 51, 52, 53, 54, 55, 56, 57, 58, 59, 60, 64, 65, 66, 67, 68, 69, 70, 71, 72, 73, 74, 75, 76, 77, 78, 79, 80, 81, 86, 87, 88, 89, 90, 91] g g1 ∧ mJ nn [] g1 ∧ True) → W p l e rm_dealWith s m args below meth c H1 locs1 0 0 Q (F0 m pc' ls' [])) : W p l e rm_dealWith s m args below meth c H locs 0 0 Q (F0 m 0 ls []) := by
  have hx := x.1
  have hb := x.2.1
  have up1 : (0 : Int) ≤ p1.toInt ∧ p1.toInt ≤ 7 := rp1
  have up2 : (0 : Int) ≤ p2.toInt ∧ p2.toInt ≤ 371 := rp2
  refine lv_aload_n hx hb dX12_dealWith_0 rfl (lv_at hl 0 rfl) ?_
  refine m_geta x L 26 rfl rfl (wm_in uf_68) dX12_dealWith_1 ?_
  refine lv_iload_n hx hb dX12_dealWith_4 rfl (lv_at hl 2 rfl) ?_
  refine m_ld x L 26 rfl rp2 rfl dX12_dealWith_5 (fun v1 ev1 wv1 => ?_)
  have rv1 : rg (-2147483648) (2147483647) v1 := lj_26 wv1
  have uv1 : (-2147483648 : Int) ≤ v1.toInt ∧ v1.toInt ≤ 2147483647 := rv1
  have sv1 : v1.toInt = (g 26 p2.toNatClampNeg).toInt := congrArg Int32.toInt (ev1.trans (congrFun ((show mFr [4, 5, 7, 8, 9, 10, 11, 30, 31, 32, 33, 34, 35, 36, 37, 38, 39, 40, 41, 42, 43, 44, 45, 46, 47, 48, 49, 50, 51, 52, 53, 54, 55, 56, 57, 58, 59, 60, 64, 65, 66, 67, 68, 69, 70, 71, 72, 73, 74, 75, 76, 77, 78, 79, 80, 81, 86, 87, 88, 89, 90, 91] g g from mFr.rf).at 26 rfl) _))
  refine lv_bipush (v := 15) hx hb dX12_dealWith_6 (by decide) ?_
  refine lv_iand hx hb dX12_dealWith_8 ?_
  refine lv_topi (fun v2 ev2 => ?_)
  have rv2 : rg (0) (15) v2 := rg_and ev2 4 15 (by decide) rfl
  have uv2 : (0 : Int) ≤ v2.toInt ∧ v2.toInt ≤ 15 := rv2
  refine lv_iconst (v := 4) hx hb dX12_dealWith_9 (by decide) ?_
  refine lv_ishl hx hb dX12_dealWith_10 ?_
  refine lv_topi (fun v3 ev3 => ?_)
  have rv3 : rg (-2147483648) (2147483647) v3 := rg_any v3
  have uv3 : (-2147483648 : Int) ≤ v3.toInt ∧ v3.toInt ≤ 2147483647 := rv3
  refine lv_aload_n hx hb dX12_dealWith_11 rfl (lv_at hl 0 rfl) ?_
  refine m_geta x L 26 rfl rfl (wm_in uf_68) dX12_dealWith_12 ?_
  refine lv_iload_n hx hb dX12_dealWith_15 rfl (lv_at hl 2 rfl) ?_
  refine lv_iconst (v := 1) hx hb dX12_dealWith_16 (by decide) ?_
  refine lv_iadd hx hb dX12_dealWith_17 ?_
  refine lv_topi (fun v4 ev4 => ?_)
  have rv4 : rg (1) (372) v4 := (rg_add ev4 rp2 kc_1 rfl).1
  have tv4 := (rg_add ev4 rp2 kc_1 rfl).2
  have y5 : (1 : Int32).toInt = 1 := by decide
  have uv4 : (1 : Int) ≤ v4.toInt ∧ v4.toInt ≤ 372 := rv4
  refine m_ld x L 26 rfl rv4 rfl dX12_dealWith_18 (fun v6 ev6 wv6 => ?_)
  have rv6 : rg (-2147483648) (2147483647) v6 := lj_26 wv6
  have uv6 : (-2147483648 : Int) ≤ v6.toInt ∧ v6.toInt ≤ 2147483647 := rv6
  have sv6 : v6.toInt = (g 26 v4.toNatClampNeg).toInt := congrArg Int32.toInt (ev6.trans (congrFun ((show mFr [4, 5, 7, 8, 9, 10, 11, 30, 31, 32, 33, 34, 35, 36, 37, 38, 39, 40, 41, 42, 43, 44, 45, 46, 47, 48, 49, 50, 51, 52, 53, 54, 55, 56, 57, 58, 59, 60, 64, 65, 66, 67, 68, 69, 70, 71, 72, 73, 74, 75, 76, 77, 78, 79, 80, 81, 86, 87, 88, 89, 90, 91] g g from mFr.rf).at 26 rfl) _))
  refine lv_iconst (v := 4) hx hb dX12_dealWith_19 (by decide) ?_
  refine lv_ishr hx hb dX12_dealWith_20 ?_
  refine lv_topi (fun v7 ev7 => ?_)
  have rv7 : rg (-2147483648) (2147483647) v7 := rg_any v7
  have uv7 : (-2147483648 : Int) ≤ v7.toInt ∧ v7.toInt ≤ 2147483647 := rv7
  refine lv_ior hx hb dX12_dealWith_21 ?_
  refine lv_topi (fun v8 ev8 => ?_)
  have rv8 : rg (-2147483648) (2147483647) v8 := rg_any v8
  have uv8 : (-2147483648 : Int) ≤ v8.toInt ∧ v8.toInt ≤ 2147483647 := rv8
  refine lv_istore_n (lv' := [(3, .int v8), (0, .ref h0), (1, .int p1), (2, .int p2)]) hx hb dX12_dealWith_22 rfl hl (by decide) rfl (fun ls hl => ?_)
  refine lv_aload_n hx hb dX12_dealWith_23 rfl (lv_at hl 1 rfl) ?_
  refine m_geta x L 26 rfl rfl (wm_in uf_68) dX12_dealWith_24 ?_
  refine lv_iload_n hx hb dX12_dealWith_27 rfl (lv_at hl 3 rfl) ?_
  refine lv_iconst (v := 1) hx hb dX12_dealWith_28 (by decide) ?_
  refine lv_iadd hx hb dX12_dealWith_29 ?_
  refine m_top ev4 ?_
  refine m_ld x L 26 rfl rv4 rfl dX12_dealWith_30 (fun v9 ev9 wv9 => ?_)
  refine m_top ((ev6).trans ev9.symm) ?_
  refine lv_bipush (v := 15) hx hb dX12_dealWith_31 (by decide) ?_
  refine lv_iand hx hb dX12_dealWith_33 ?_
  refine lv_topi (fun v10 ev10 => ?_)
  have rv10 : rg (0) (15) v10 := rg_and ev10 4 15 (by decide) rfl
  have uv10 : (0 : Int) ≤ v10.toInt ∧ v10.toInt ≤ 15 := rv10
  refine lv_bipush (v := 12) hx hb dX12_dealWith_34 (by decide) ?_
  refine lv_ishl hx hb dX12_dealWith_36 ?_
  refine lv_topi (fun v11 ev11 => ?_)
  have rv11 : rg (-2147483648) (2147483647) v11 := rg_any v11
  have uv11 : (-2147483648 : Int) ≤ v11.toInt ∧ v11.toInt ≤ 2147483647 := rv11
  refine lv_aload_n hx hb dX12_dealWith_37 rfl (lv_at hl 1 rfl) ?_
  refine m_geta x L 26 rfl rfl (wm_in uf_68) dX12_dealWith_38 ?_
  refine lv_iload_n hx hb dX12_dealWith_41 rfl (lv_at hl 3 rfl) ?_
  refine lv_iconst (v := 2) hx hb dX12_dealWith_42 (by decide) ?_
  refine lv_iadd hx hb dX12_dealWith_43 ?_
  refine lv_topi (fun v12 ev12 => ?_)
  have rv12 : rg (2) (373) v12 := (rg_add ev12 rp2 kc_2 rfl).1
  have tv12 := (rg_add ev12 rp2 kc_2 rfl).2
  have y13 : (2 : Int32).toInt = 2 := by decide
  have uv12 : (2 : Int) ≤ v12.toInt ∧ v12.toInt ≤ 373 := rv12
  refine m_ld x L 26 rfl rv12 rfl dX12_dealWith_44 (fun v14 ev14 wv14 => ?_)
  have rv14 : rg (-2147483648) (2147483647) v14 := lj_26 wv14
  have uv14 : (-2147483648 : Int) ≤ v14.toInt ∧ v14.toInt ≤ 2147483647 := rv14
  have sv14 : v14.toInt = (g 26 v12.toNatClampNeg).toInt := congrArg Int32.toInt (ev14.trans (congrFun ((show mFr [4, 5, 7, 8, 9, 10, 11, 30, 31, 32, 33, 34, 35, 36, 37, 38, 39, 40, 41, 42, 43, 44, 45, 46, 47, 48, 49, 50, 51, 52, 53, 54, 55, 56, 57, 58, 59, 60, 64, 65, 66, 67, 68, 69, 70, 71, 72, 73, 74, 75, 76, 77, 78, 79, 80, 81, 86, 87, 88, 89, 90, 91] g g from mFr.rf).at 26 rfl) _))
  refine lv_iconst (v := 4) hx hb dX12_dealWith_45 (by decide) ?_
  refine lv_ishl hx hb dX12_dealWith_46 ?_
  refine lv_topi (fun v15 ev15 => ?_)
  have rv15 : rg (-2147483648) (2147483647) v15 := rg_any v15
  have uv15 : (-2147483648 : Int) ≤ v15.toInt ∧ v15.toInt ≤ 2147483647 := rv15
  refine lv_ior hx hb dX12_dealWith_47 ?_
  refine lv_topi (fun v16 ev16 => ?_)
  have rv16 : rg (-2147483648) (2147483647) v16 := rg_any v16
  have uv16 : (-2147483648 : Int) ≤ v16.toInt ∧ v16.toInt ≤ 2147483647 := rv16
  refine lv_aload_n hx hb dX12_dealWith_48 rfl (lv_at hl 1 rfl) ?_
  refine m_geta x L 26 rfl rfl (wm_in uf_68) dX12_dealWith_49 ?_
  refine lv_iload_n hx hb dX12_dealWith_52 rfl (lv_at hl 3 rfl) ?_
  refine lv_iconst (v := 3) hx hb dX12_dealWith_53 (by decide) ?_
  refine lv_iadd hx hb dX12_dealWith_54 ?_
  refine lv_topi (fun v17 ev17 => ?_)
  have rv17 : rg (3) (374) v17 := (rg_add ev17 rp2 kc_3 rfl).1
  have tv17 := (rg_add ev17 rp2 kc_3 rfl).2
  have y18 : (3 : Int32).toInt = 3 := by decide
  have uv17 : (3 : Int) ≤ v17.toInt ∧ v17.toInt ≤ 374 := rv17
  refine m_ld x L 26 rfl rv17 rfl dX12_dealWith_55 (fun v19 ev19 wv19 => ?_)
  have rv19 : rg (-2147483648) (2147483647) v19 := lj_26 wv19
  have uv19 : (-2147483648 : Int) ≤ v19.toInt ∧ v19.toInt ≤ 2147483647 := rv19
  have sv19 : v19.toInt = (g 26 v17.toNatClampNeg).toInt := congrArg Int32.toInt (ev19.trans (congrFun ((show mFr [4, 5, 7, 8, 9, 10, 11, 30, 31, 32, 33, 34, 35, 36, 37, 38, 39, 40, 41, 42, 43, 44, 45, 46, 47, 48, 49, 50, 51, 52, 53, 54, 55, 56, 57, 58, 59, 60, 64, 65, 66, 67, 68, 69, 70, 71, 72, 73, 74, 75, 76, 77, 78, 79, 80, 81, 86, 87, 88, 89, 90, 91] g g from mFr.rf).at 26 rfl) _))
  refine lv_iconst (v := 4) hx hb dX12_dealWith_56 (by decide) ?_
  refine lv_ishr hx hb dX12_dealWith_57 ?_
  refine lv_topi (fun v20 ev20 => ?_)
  have rv20 : rg (-2147483648) (2147483647) v20 := rg_any v20
  have uv20 : (-2147483648 : Int) ≤ v20.toInt ∧ v20.toInt ≤ 2147483647 := rv20
  refine lv_ior hx hb dX12_dealWith_58 ?_
  refine lv_topi (fun v21 ev21 => ?_)
  have rv21 : rg (-2147483648) (2147483647) v21 := rg_any v21
  have uv21 : (-2147483648 : Int) ≤ v21.toInt ∧ v21.toInt ≤ 2147483647 := rv21
  refine lv_istore (lv' := [(4, .int v21), (3, .int v8), (0, .ref h0), (1, .int p1), (2, .int p2)]) hx hb dX12_dealWith_59 hl (by decide) rfl (fun ls hl => ?_)
  refine lv_aload_n hx hb dX12_dealWith_61 rfl (lv_at hl 2 rfl) ?_
  refine m_geta x L 26 rfl rfl (wm_in uf_68) dX12_dealWith_62 ?_
  refine lv_iload_n hx hb dX12_dealWith_65 rfl (lv_at hl 4 rfl) ?_
  refine lv_iconst (v := 3) hx hb dX12_dealWith_66 (by decide) ?_
  refine lv_iadd hx hb dX12_dealWith_67 ?_
  refine m_top ev17 ?_
  refine m_ld x L 26 rfl rv17 rfl dX12_dealWith_68 (fun v22 ev22 wv22 => ?_)
  refine m_top ((ev19).trans ev22.symm) ?_
  refine lv_iconst (v := 1) hx hb dX12_dealWith_69 (by decide) ?_
  refine lv_ishr hx hb dX12_dealWith_70 ?_
  refine lv_topi (fun v23 ev23 => ?_)
  have rv23 : rg (-2147483648) (2147483647) v23 := rg_any v23
  have uv23 : (-2147483648 : Int) ≤ v23.toInt ∧ v23.toInt ≤ 2147483647 := rv23
  refine lv_bipush (v := 7) hx hb dX12_dealWith_71 (by decide) ?_
  refine lv_iand hx hb dX12_dealWith_73 ?_
  refine lv_topi (fun v24 ev24 => ?_)
  have rv24 : rg (0) (7) v24 := rg_and ev24 3 7 (by decide) rfl
  have uv24 : (0 : Int) ≤ v24.toInt ∧ v24.toInt ≤ 7 := rv24
  refine lv_istore (lv' := [(5, .int v24), (4, .int v21), (3, .int v8), (0, .ref h0), (1, .int p1), (2, .int p2)]) hx hb dX12_dealWith_74 hl (by decide) rfl (fun ls hl => ?_)
  refine lv_iload_n hx hb dX12_dealWith_76 rfl (lv_at hl 2 rfl) ?_
  have j86_25 : ∀ (g25 : mSt) (H25 : Heap) (k25 : List Loc) (ls : Array Slot), mFr [] g g25 → mL G h0 ad H0 nn X g25 H25 k25 → mJ nn [] g25 → lv_has ls 6 [(0, .ref h0), (1, .int p1), (2, .int p2), (3, .int v8), (4, .int v21), (5, .int v24)] → W p l e rm_dealWith s m args below meth c H25 k25 0 0 Q (F0 m 86 ls []) := by
    intro  g25 H25 k25 ls hF25 L25 hJ25  hl
    refine lv_iload_n hx hb dX12_dealWith_86 rfl (lv_at hl 3 rfl) ?_
    have j153_26 : ∀ (g26 : mSt) (H26 : Heap) (k26 : List Loc) (ls : Array Slot), mFr [4, 5, 7, 8, 9, 10, 11, 30, 31, 32, 33, 34, 35, 36, 37, 38, 39, 40, 41, 42, 43, 44, 45, 46, 47, 48, 49, 50, 51, 52, 53, 54, 55, 56, 57, 58, 59, 60, 64, 65, 66, 67, 68, 69, 70, 71, 72, 73, 74, 75, 76, 77, 78, 79, 80, 81, 86, 87, 88, 89, 90, 91] g25 g26 → mL G h0 ad H0 nn (X + 1) g26 H26 k26 → mJ nn [] g26 → lv_has ls 6 [(0, .ref h0)] → W p l e rm_dealWith s m args below meth c H26 k26 0 0 Q (F0 m 153 ls []) := by
      intro  g26 H26 k26 ls hF26 L26 hJ26  hl
      exact hQ _ _ _ _ _ dX12_dealWith_153 L26 ⟨(mFr.tr (mFr.tr mFr.rf hF25 rfl) hF26 rfl), hJ26, trivial⟩
    have j107_27 : ∀ (g27 : mSt) (H27 : Heap) (k27 : List Loc) (ls : Array Slot), mFr [] g25 g27 → mL G h0 ad H0 nn X g27 H27 k27 → mJ nn [] g27 → lv_has ls 6 [(0, .ref h0), (1, .int p1), (2, .int p2), (3, .int v8), (4, .int v21), (5, .int v24)] → W p l e rm_dealWith s m args below meth c H27 k27 0 0 Q (F0 m 107 ls []) := by
      intro  g27 H27 k27 ls hF27 L27 hJ27  hl
      refine lv_iload_n hx hb dX12_dealWith_107 rfl (lv_at hl 3 rfl) ?_
      refine lv_if_eq (tgt := 124) hx hb dX12_dealWith_108 (by decide) (fun c108_28 => ?_) (fun c108_28 => ?_)
      · skip
        have ic108_28 := congrArg Int32.toInt c108_28
        have y29 : (0 : Int32).toInt = 0 := by decide
        have q30 : rg (0) (0) v8 := (rg_eq c108_28 rv8 kc_0).1
        have uq30 : (0 : Int) ≤ v8.toInt ∧ v8.toInt ≤ 0 := q30
        refine lv_iload_n hx hb dX12_dealWith_124 rfl (lv_at hl 1 rfl) ?_
        refine lv_iconst (v := 2) hx hb dX12_dealWith_125 (by decide) ?_
        refine lv_irem hx hb dX12_dealWith_126 (by decide) ?_
        refine lv_topi (fun v31 ev31 => ?_)
        have rv31 : rg (0) (1) v31 := (rg_rem ev31 rp1 kc_2 rfl).1
        have tv31 := (rg_rem ev31 rp1 kc_2 rfl).2
        have y32 : (2 : Int32).toInt = 2 := by decide
        have uv31 : (0 : Int) ≤ v31.toInt ∧ v31.toInt ≤ 1 := rv31
        refine lv_if_ne (tgt := 143) hx hb dX12_dealWith_127 (by decide) (fun c127_33 => ?_) (fun c127_33 => ?_)
        · skip
          have ic127_33 : v31.toInt ≠ (0 : Int32).toInt := fun z => c127_33 (Int32.toInt_inj.mp z)
          have y34 : (0 : Int32).toInt = 0 := by decide
          have q35 : rg (1) (1) v31 := rg_neL c127_33 rv31 kc_0
          have uq35 : (1 : Int) ≤ v31.toInt ∧ v31.toInt ≤ 1 := q35
          have q36 : rg (1) (7) p1 := ⟨by omega, by omega⟩
          refine lv_aload_n hx hb dX12_dealWith_143 rfl (lv_at hl 0 rfl) ?_
          refine lv_iload_n hx hb dX12_dealWith_144 rfl (lv_at hl 1 rfl) ?_
          refine lv_iload_n hx hb dX12_dealWith_145 rfl (lv_at hl 2 rfl) ?_
          refine lv_iload hx hb dX12_dealWith_146 (lv_at hl 4 rfl) ?_
          refine lv_iload hx hb dX12_dealWith_148 (lv_at hl 5 rfl) ?_
          refine m_cv (As := [.int p1, .int p2, .int v21, .int v24]) (rest := []) x hml L27 (c_endCell l nn X g27 p1 p2 v21 v24 hnn ⟨by omega, by omega⟩ hJ27 (rg_w q36 rfl) (rg_w rp2 rfl)) (wm_V uc_endCell ul_351 ui_endCell us_endCell u_init) rfl ⟨rfl, rfl⟩ hd_endCell ⟨Nat.le_of_ble_eq_true rfl, Nat.le_of_ble_eq_true rfl⟩ rfl hl.1 rfl (lv_room (Nat.le_of_ble_eq_true rfl)) dX12_dealWith_150 (fun  g37 H37 k37 hp37 L37 => ?_)
          exact j153_26  g37 _ _ ls (mFr.tr (mFr.tr mFr.rf hF27 rfl) hp37.1 rfl) L37 hp37.2.1 (lv_sub hl [0] rfl)
        · skip
          have ic127_33 := congrArg Int32.toInt c127_33
          have y38 : (0 : Int32).toInt = 0 := by decide
          have q39 : rg (0) (0) v31 := (rg_eq c127_33 rv31 kc_0).1
          have uq39 : (0 : Int) ≤ v31.toInt ∧ v31.toInt ≤ 0 := q39
          refine lv_aload_n hx hb dX12_dealWith_130 rfl (lv_at hl 0 rfl) ?_
          refine lv_iload_n hx hb dX12_dealWith_131 rfl (lv_at hl 1 rfl) ?_
          refine lv_iload_n hx hb dX12_dealWith_132 rfl (lv_at hl 2 rfl) ?_
          refine lv_iload hx hb dX12_dealWith_133 (lv_at hl 4 rfl) ?_
          refine lv_iload hx hb dX12_dealWith_135 (lv_at hl 5 rfl) ?_
          refine m_cv (As := [.int p1, .int p2, .int v21, .int v24]) (rest := []) x hml L27 (c_switchCell l nn X g27 p1 p2 v21 v24 hnn ⟨by omega, by omega⟩ (rg_w rp1 rfl) (rg_w rp2 rfl)) (wm_V uc_switchCell ul_347 ui_switchCell us_switchCell u_init) rfl ⟨rfl, rfl⟩ hd_switchCell ⟨Nat.le_of_ble_eq_true rfl, Nat.le_of_ble_eq_true rfl⟩ rfl hl.1 rfl (lv_room (Nat.le_of_ble_eq_true rfl)) dX12_dealWith_137 (fun  g40 H40 k40 hp40 L40 => ?_)
          refine lv_goto (tgt := 153) hx hb dX12_dealWith_140 (by decide) ?_
          exact j153_26  g40 _ _ ls (mFr.tr (mFr.tr mFr.rf hF27 rfl) hp40.1 rfl) (mL.mono L40 (by omega)) (mJ_fr hJ27 hp40.1 rfl) (lv_sub hl [0] rfl)
      · skip
        have ic108_28 : v8.toInt ≠ (0 : Int32).toInt := fun z => c108_28 (Int32.toInt_inj.mp z)
        have y41 : (0 : Int32).toInt = 0 := by decide
        refine lv_aload_n hx hb dX12_dealWith_111 rfl (lv_at hl 0 rfl) ?_
        refine m_geta x L27 8 rfl rfl (wm_in uf_23) dX12_dealWith_112 ?_
        refine lv_iload_n hx hb dX12_dealWith_115 rfl (lv_at hl 1 rfl) ?_
        refine lv_dup2_11 hx hb dX12_dealWith_116 rfl rfl ?_
        refine m_ld x L27 8 rfl rp1 rfl dX12_dealWith_117 (fun v42 ev42 wv42 => ?_)
        have rv42 : rg (-2147483648) (2147483647) v42 := lj_8 wv42
        have uv42 : (-2147483648 : Int) ≤ v42.toInt ∧ v42.toInt ≤ 2147483647 := rv42
        refine lv_iconst (v := 1) hx hb dX12_dealWith_118 (by decide) ?_
        refine lv_iadd hx hb dX12_dealWith_119 ?_
        refine lv_topi (fun v43 ev43 => ?_)
        have rv43 : rg (-2147483648) (2147483647) v43 := rg_any v43
        have uv43 : (-2147483648 : Int) ≤ v43.toInt ∧ v43.toInt ≤ 2147483647 := rv43
        refine m_st x L27 8 rfl rp1 rfl (rj_8 (rg_any v43)) dX12_dealWith_120 (fun g44 H44 k44 eg44 L44 => ?_)
        refine lv_goto (tgt := 153) hx hb dX12_dealWith_121 (by decide) ?_
        exact j153_26  g44 _ _ ls (mFr.upE (mFr.tr mFr.rf hF27 rfl) eg44 rfl) (mL.mono L44 (by omega)) (mJ_up hJ27 eg44 rfl) (lv_sub hl [0] rfl)
    refine lv_if_ne (tgt := 107) hx hb dX12_dealWith_87 (by decide) (fun c87_45 => ?_) (fun c87_45 => ?_)
    · skip
      have ic87_45 : v8.toInt ≠ (0 : Int32).toInt := fun z => c87_45 (Int32.toInt_inj.mp z)
      have y46 : (0 : Int32).toInt = 0 := by decide
      exact j107_27  g25 _ _ ls mFr.rf L25 hJ25 (lv_sub hl [0, 1, 2, 3, 4, 5] rfl)
    · skip
      have ic87_45 := congrArg Int32.toInt c87_45
      have y47 : (0 : Int32).toInt = 0 := by decide
      have q48 : rg (0) (0) v8 := (rg_eq c87_45 rv8 kc_0).1
      have uq48 : (0 : Int) ≤ v8.toInt ∧ v8.toInt ≤ 0 := q48
      refine lv_iload hx hb dX12_dealWith_90 (lv_at hl 4 rfl) ?_
      refine lv_iconst (v := 5) hx hb dX12_dealWith_92 (by decide) ?_
      refine lv_icmp_ne (tgt := 107) hx hb dX12_dealWith_93 (by decide) (fun c93_49 => ?_) (fun c93_49 => ?_)
      · skip
        have ic93_49 : v21.toInt ≠ (5 : Int32).toInt := fun z => c93_49 (Int32.toInt_inj.mp z)
        have y50 : (5 : Int32).toInt = 5 := by decide
        exact j107_27  g25 _ _ ls mFr.rf L25 hJ25 (lv_sub hl [0, 1, 2, 3, 4, 5] rfl)
      · skip
        have ic93_49 := congrArg Int32.toInt c93_49
        have y51 : (5 : Int32).toInt = 5 := by decide
        have q52 : rg (5) (5) v21 := (rg_eq c93_49 rv21 kc_5).1
        have uq52 : (5 : Int) ≤ v21.toInt ∧ v21.toInt ≤ 5 := q52
        refine lv_aload_n hx hb dX12_dealWith_96 rfl (lv_at hl 0 rfl) ?_
        refine lv_iload_n hx hb dX12_dealWith_97 rfl (lv_at hl 1 rfl) ?_
        refine lv_iload_n hx hb dX12_dealWith_98 rfl (lv_at hl 2 rfl) ?_
        refine lv_iload hx hb dX12_dealWith_99 (lv_at hl 5 rfl) ?_
        refine m_cv (As := [.int p1, .int p2, .int v24]) (rest := []) x hml L25 (c_messageCell l nn X g25 p1 p2 v24 hnn ⟨by omega, by omega⟩ hJ25 (rg_w rp1 rfl) np1 (rg_w rp2 rfl)) (wm_V uc_messageCell ul_344 ui_messageCell us_messageCell u_init) rfl ⟨rfl, rfl⟩ hd_messageCell ⟨Nat.le_of_ble_eq_true rfl, Nat.le_of_ble_eq_true rfl⟩ rfl hl.1 rfl (lv_room (Nat.le_of_ble_eq_true rfl)) dX12_dealWith_101 (fun  g53 H53 k53 hp53 L53 => ?_)
        refine lv_goto (tgt := 153) hx hb dX12_dealWith_104 (by decide) ?_
        exact j153_26  g53 _ _ ls (mFr.tr mFr.rf hp53.1 rfl) (mL.mono L53 (by omega)) hp53.2.1 (lv_sub hl [0] rfl)
  refine lv_if_ne (tgt := 86) hx hb dX12_dealWith_77 (by decide) (fun c77_54 => ?_) (fun c77_54 => ?_)
  · skip
    have ic77_54 : v8.toInt ≠ (0 : Int32).toInt := fun z => c77_54 (Int32.toInt_inj.mp z)
    have y55 : (0 : Int32).toInt = 0 := by decide
    exact j86_25  g _ _ ls mFr.rf L hJ (lv_sub hl [3, 4, 5, 2, 1, 0] rfl)
  · skip
    have ic77_54 := congrArg Int32.toInt c77_54
    have y56 : (0 : Int32).toInt = 0 := by decide
    have q57 : rg (0) (0) v8 := (rg_eq c77_54 rv8 kc_0).1
    have uq57 : (0 : Int) ≤ v8.toInt ∧ v8.toInt ≤ 0 := q57
    refine lv_iload hx hb dX12_dealWith_80 (lv_at hl 1 rfl) ?_
    refine lv_if_ne (tgt := 86) hx hb dX12_dealWith_82 (by decide) (fun c82_58 => ?_) (fun c82_58 => ?_)
    · skip
      have ic82_58 : v21.toInt ≠ (0 : Int32).toInt := fun z => c82_58 (Int32.toInt_inj.mp z)
      have y59 : (0 : Int32).toInt = 0 := by decide
      exact j86_25  g _ _ ls mFr.rf L hJ (lv_sub hl [3, 4, 5, 2, 1, 0] rfl)
    · skip
      have ic82_58 := congrArg Int32.toInt c82_58
      have y60 : (0 : Int32).toInt = 0 := by decide
      have q61 : rg (0) (0) v21 := (rg_eq c82_58 rv21 kc_0).1
      have uq61 : (0 : Int) ≤ v21.toInt ∧ v21.toInt ≤ 0 := q61
      exact hQ _ _ _ _ _ dX12_dealWith_85 (mL.mono L (by omega)) ⟨mFr.rf, hJ, trivial⟩
theorem c_dealWith (l : Launch) {G : mG} {h0 : Nat} {ad : Nat → Nat} (nn X : Int) (g : mSt) (p1 : Int32) (p2 : Int32) (hnn : 2 ≤ nn ∧ nn ≤ 4) (hX : 0 ≤ X ∧ (X + 1) ≤ 2000000000) (hJ : mJ nn [] g) (rp1 : rg (0) (7) p1) (np1 : p1.toInt < 2 * nn) (rp2 : rg (0) (371) p2) : Met l yX12_dealWith (wm (Cond.code yX12_dealWith cX12_dealWith 6 none)) rm_dealWith (va_Pc [.ref h0, .int p1, .int p2] (mPre G h0 ad nn X g)) (mQv G h0 ad nn (X + 1) (fun g1 => mFr [4, 5, 7, 8, 9, 10, 11, 30, 31, 32, 33, 34, 35, 36, 37, 38, 39, 40, 41, 42, 43, 44, 45, 46, 47, 48, 49, 50, 51, 52, 53, 54, 55, 56, 57, 58, 59, 60, 64, 65, 66, 67, 68, 69, 70, 71, 72, 73, 74, 75, 76, 77, 78, 79, 80, 81, 86, 87, 88, 89, 90, 91] g g1 ∧ mJ nn [] g1 ∧ True)) 0 0 (mA h0 ad) := by
  refine Met.ofW (cc := cX12_dealWith) (maxL := 6) (ret := none) (by decide) rfl ?_
  intro p e s m args below meth c s₁ B hml hv
  obtain ⟨rfl, hv⟩ := hv
  have hr := B.returns
  have hlocks := B.notSynchronized
  obtain ⟨x, L⟩ := m_start B rfl wm_X hv
  have hl := lv_entry ([.ref h0, .int p1, .int p2]) (n := 6) (Nat.le_of_ble_eq_true rfl)
  rw [lg_entry_eq]
  generalize (lg_sl ([.ref h0, .int p1, .int p2]) ++ List.replicate (6 - (lg_sl ([.ref h0, .int p1, .int p2])).length) Slot.unset).toArray = ls at hl ⊢
  exact w_dealWith x hml L hnn hX p1 p2 hJ rp1 np1 rp2 hl (fun pc' ls' g1 H1 locs1 hdg L hp => m_vret x L hr hlocks (Int.le_refl _) hp hdg)

def rm_octet : Room := { frames := 13, cells := 0, slots := 0, locals := 323 }
theorem hd_octet : yX12_octet.cls = RX12 ∧ yX12_octet.cls ≠ "java/lang/invoke/MethodHandle" ∧ yX12_octet.cls ≠ "java/lang/invoke/VarHandle" ∧ (parseMethodDescriptor yX12_octet.desc).map (fun d => d.parameters.length) = some 2 := by decide +kernel
set_option maxHeartbeats 4000000 in
set_option maxRecDepth 100000 in
theorem w_octet {p : Program} {l : Launch} {e : Env} {s : State} {m : MethodId} {args : Array Value} {below : List Frame} {meth : Method} {c : Code} {H : Heap} {locs : List Loc} {Q : State → Prop} {ls : Array Slot} {G : mG} {h0 : Nat} {ad : Nat → Nat} {g : mSt} {H0 : Heap} {nn X : Int} (x : mX p c cX12_octet s args (wm (Cond.code yX12_octet cX12_octet 5 none)) m G h0 ad) (hml : c.maxLocals = 5) (L : mL G h0 ad H0 nn X g H locs) (hnn : 2 ≤ nn ∧ nn ≤ 4) (hX : 0 ≤ X ∧ (X + 1) ≤ 2000000000) (p1 : Int32) (p2 : Int32) (hJ : mJ nn [] g) (rp1 : rg (0) (7) p1) (np1 : p1.toInt < 2 * nn) (hl : lv_has ls 5 [(0, .ref h0), (1, .int p1), (2, .int p2)]) (hQ : ∀ (pc' : Nat) (ls' : Array Slot) (g1 : mSt) (H1 : Heap) (locs1 : List Loc), decode cX12_octet pc' = .ok (.return_, 1) → mL G h0 ad H0 nn (X + 1) g1 H1 locs1 → (mFr [4, 5, 7, 8, 9, 10, 11, 21, 22, 23, 24, 25, 26, 27, 28, 29, 30, 31, 32, 33, 34, 35, 36, 37, 38, 39, 40, 41, 42, 43, 44, 45, 46, 47, 48, 49, 50, 51, 52, 53, 54, 55, 56, 57, 58, 59, 60, 64, 65, 66, 67, 68, 69, 70, 71, 72, 73, 74, 75, 76, 77, 78, 79, 80, 81, 86, 87, 88, 89, 90, 91] g g1 ∧ mJ nn [] g1 ∧ True) → W p l e rm_octet s m args below meth c H1 locs1 0 0 Q (F0 m pc' ls' [])) : W p l e rm_octet s m args below meth c H locs 0 0 Q (F0 m 0 ls []) := by
  have hx := x.1
  have hb := x.2.1
  have up1 : (0 : Int) ≤ p1.toInt ∧ p1.toInt ≤ 7 := rp1
  have up2 : (-2147483648 : Int) ≤ p2.toInt ∧ p2.toInt ≤ 2147483647 := (rg_any p2)
  refine lv_bipush (v := 53) hx hb dX12_octet_0 (by decide) ?_
  refine lv_iload_n hx hb dX12_octet_2 rfl (lv_at hl 1 rfl) ?_
  refine lv_imul hx hb dX12_octet_3 ?_
  refine lv_topi (fun v1 ev1 => ?_)
  have rv1 : rg (0) (371) v1 := (rg_mulL ev1 kc_53 rp1 rfl).1
  have tv1 := (rg_mulL ev1 kc_53 rp1 rfl).2
  have y2 : (53 : Int32).toInt = 53 := by decide
  have b106v1 : v1.toInt < 106 * nn := by have := np1; have : (53 : Int32).toInt = 53 := (by decide); omega
  have uv1 : (0 : Int) ≤ v1.toInt ∧ v1.toInt ≤ 371 := rv1
  refine lv_istore_n (lv' := [(3, .int v1), (0, .ref h0), (1, .int p1), (2, .int p2)]) hx hb dX12_octet_4 rfl hl (by decide) rfl (fun ls hl => ?_)
  refine lv_aload_n hx hb dX12_octet_5 rfl (lv_at hl 1 rfl) ?_
  refine m_geta x L 21 rfl rfl (wm_in uf_53) dX12_octet_6 ?_
  refine lv_iload_n hx hb dX12_octet_9 rfl (lv_at hl 2 rfl) ?_
  refine m_ld x L 21 rfl rp1 rfl dX12_octet_10 (fun v3 ev3 wv3 => ?_)
  have rv3 : rg (0) (2) v3 := lj_21 wv3
  have uv3 : (0 : Int) ≤ v3.toInt ∧ v3.toInt ≤ 2 := rv3
  have sv3 := congrArg Int32.toInt ev3
  refine lv_if_ne (tgt := 141) hx hb dX12_octet_11 (by decide) (fun c11_4 => ?_) (fun c11_4 => ?_)
  · skip
    have ic11_4 : v3.toInt ≠ (0 : Int32).toInt := fun z => c11_4 (Int32.toInt_inj.mp z)
    have y5 : (0 : Int32).toInt = 0 := by decide
    have q6 : rg (1) (2) v3 := rg_neL c11_4 rv3 kc_0
    have uq6 : (1 : Int) ≤ v3.toInt ∧ v3.toInt ≤ 2 := q6
    refine lv_aload_n hx hb dX12_octet_141 rfl (lv_at hl 1 rfl) ?_
    refine m_geta x L 26 rfl rfl (wm_in uf_68) dX12_octet_142 ?_
    refine lv_iload_n hx hb dX12_octet_145 rfl (lv_at hl 0 rfl) ?_
    refine lv_aload_n hx hb dX12_octet_146 rfl (lv_at hl 1 rfl) ?_
    refine m_geta x L 22 rfl rfl (wm_in uf_56) dX12_octet_147 ?_
    refine lv_iload_n hx hb dX12_octet_150 rfl (lv_at hl 2 rfl) ?_
    refine m_ld x L 22 rfl rp1 rfl dX12_octet_151 (fun v7 ev7 wv7 => ?_)
    have rv7 : rg (0) (53) v7 := lj_22 wv7
    have rrv7 : rg (0) (52) v7 := mJ_r22b hJ ev7 rv7
    have uv7 : (0 : Int) ≤ v7.toInt ∧ v7.toInt ≤ 52 := rrv7
    have sv7 := congrArg Int32.toInt ev7
    refine lv_iadd hx hb dX12_octet_152 ?_
    refine lv_topi (fun v8 ev8 => ?_)
    have rv8 : rg (0) (423) v8 := (rg_add ev8 rv1 rrv7 rfl).1
    have tv8 := (rg_add ev8 rv1 rrv7 rfl).2
    have uv8 : (0 : Int) ≤ v8.toInt ∧ v8.toInt ≤ 423 := rv8
    refine lv_iload_n hx hb dX12_octet_153 rfl (lv_at hl 3 rfl) ?_
    refine m_st x L 26 rfl rv8 rfl (rj_26 (rg_any p2)) dX12_octet_154 (fun g9 H9 k9 eg9 L9 => ?_)
    refine lv_aload_n hx hb dX12_octet_155 rfl (lv_at hl 1 rfl) ?_
    refine m_geta x L9 22 rfl rfl (wm_in uf_56) dX12_octet_156 ?_
    refine lv_iload_n hx hb dX12_octet_159 rfl (lv_at hl 2 rfl) ?_
    refine lv_dup2_11 hx hb dX12_octet_160 rfl rfl ?_
    refine m_ld x L9 22 rfl rp1 rfl dX12_octet_161 (fun v10 ev10 wv10 => ?_)
    refine m_top (((mm_up ev7 eg9 rfl)).trans ev10.symm) ?_
    refine lv_iconst (v := 1) hx hb dX12_octet_162 (by decide) ?_
    refine lv_iadd hx hb dX12_octet_163 ?_
    refine lv_topi (fun v11 ev11 => ?_)
    have rv11 : rg (1) (53) v11 := (rg_add ev11 rrv7 kc_1 rfl).1
    have tv11 := (rg_add ev11 rrv7 kc_1 rfl).2
    have y12 : (1 : Int32).toInt = 1 := by decide
    have uv11 : (1 : Int) ≤ v11.toInt ∧ v11.toInt ≤ 53 := rv11
    refine m_st x L9 22 rfl rp1 rfl (rj_22 (rg_w rv11 rfl)) dX12_octet_164 (fun g13 H13 k13 eg13 L13 => ?_)
    have hz21 : 1 ≤ (g9 21 p1.toNatClampNeg).toInt := by rw [← (mm_up ev3 eg9 rfl)]; omega
    refine lv_aload_n hx hb dX12_octet_165 rfl (lv_at hl 1 rfl) ?_
    refine m_geta x L13 22 rfl rfl (wm_in uf_56) dX12_octet_166 ?_
    refine lv_iload_n hx hb dX12_octet_169 rfl (lv_at hl 2 rfl) ?_
    refine m_ld x L13 22 rfl rp1 rfl dX12_octet_170 (fun v14 ev14 wv14 => ?_)
    refine m_top (((mm_st eg13)).trans ev14.symm) ?_
    refine lv_iconst (v := 5) hx hb dX12_octet_171 (by decide) ?_
    refine lv_icmp_ne (tgt := 184) hx hb dX12_octet_172 (by decide) (fun c172_15 => ?_) (fun c172_15 => ?_)
    · skip
      have ic172_15 : v11.toInt ≠ (5 : Int32).toInt := fun z => c172_15 (Int32.toInt_inj.mp z)
      have y16 : (5 : Int32).toInt = 5 := by decide
      refine lv_aload_n hx hb dX12_octet_184 rfl (lv_at hl 1 rfl) ?_
      refine m_geta x L13 22 rfl rfl (wm_in uf_56) dX12_octet_185 ?_
      refine lv_iload_n hx hb dX12_octet_188 rfl (lv_at hl 2 rfl) ?_
      refine m_ld x L13 22 rfl rp1 rfl dX12_octet_189 (fun v17 ev17 wv17 => ?_)
      refine m_top (((mm_st eg13)).trans ev17.symm) ?_
      refine lv_bipush (v := 53) hx hb dX12_octet_190 (by decide) ?_
      refine lv_icmp_ne (tgt := 228) hx hb dX12_octet_192 (by decide) (fun c192_18 => ?_) (fun c192_18 => ?_)
      · skip
        have ic192_18 : v11.toInt ≠ (53 : Int32).toInt := fun z => c192_18 (Int32.toInt_inj.mp z)
        have y19 : (53 : Int32).toInt = 53 := by decide
        have q20 : rg (1) (52) v11 := rg_neH c192_18 rv11 kc_53
        have uq20 : (1 : Int) ≤ v11.toInt ∧ v11.toInt ≤ 52 := q20
        exact hQ _ _ _ _ _ dX12_octet_228 (mL.mono L13 (by omega)) ⟨(mFr.upE (mFr.upE mFr.rf eg9 rfl) eg13 rfl), (mJ_22 (mJ_up hJ eg9 rfl) eg13 q20 rfl (fun q => absurd q (by omega))), trivial⟩
      · skip
        have ic192_18 := congrArg Int32.toInt c192_18
        have y21 : (53 : Int32).toInt = 53 := by decide
        have q22 : rg (53) (53) v11 := (rg_eq c192_18 rv11 kc_53).1
        have uq22 : (53 : Int) ≤ v11.toInt ∧ v11.toInt ≤ 53 := q22
        refine lv_aload_n hx hb dX12_octet_195 rfl (lv_at hl 1 rfl) ?_
        refine m_geta x L13 22 rfl rfl (wm_in uf_56) dX12_octet_196 ?_
        refine lv_iload_n hx hb dX12_octet_199 rfl (lv_at hl 2 rfl) ?_
        refine lv_iconst (v := 0) hx hb dX12_octet_200 (by decide) ?_
        refine m_st x L13 22 rfl rp1 rfl (rj_22 (rg_w kc_0 rfl)) dX12_octet_201 (fun g23 H23 k23 eg23 L23 => ?_)
        have hJ24 := mJ_22 (mJ_up hJ eg9 rfl) (up2_up2 eg13 eg23) kc_0 rfl (fun q => absurd q (by omega))
        refine lv_aload_n hx hb dX12_octet_202 rfl (lv_at hl 1 rfl) ?_
        refine m_geta x L23 25 rfl rfl (wm_in uf_65) dX12_octet_203 ?_
        refine lv_iload_n hx hb dX12_octet_206 rfl (lv_at hl 2 rfl) ?_
        refine m_ld x L23 25 rfl rp1 rfl dX12_octet_207 (fun v25 ev25 wv25 => ?_)
        have rv25 : rg (-2147483648) (2147483647) v25 := lj_25 wv25
        have uv25 : (-2147483648 : Int) ≤ v25.toInt ∧ v25.toInt ≤ 2147483647 := rv25
        refine lv_iconst (v := 1) hx hb dX12_octet_208 (by decide) ?_
        refine lv_icmp_ne (tgt := 228) hx hb dX12_octet_209 (by decide) (fun c209_26 => ?_) (fun c209_26 => ?_)
        · skip
          have ic209_26 : v25.toInt ≠ (1 : Int32).toInt := fun z => c209_26 (Int32.toInt_inj.mp z)
          have y27 : (1 : Int32).toInt = 1 := by decide
          exact hQ _ _ _ _ _ dX12_octet_228 (mL.mono L23 (by omega)) ⟨(mFr.upE (mFr.upE (mFr.upE mFr.rf eg9 rfl) eg13 rfl) eg23 rfl), hJ24, trivial⟩
        · skip
          have ic209_26 := congrArg Int32.toInt c209_26
          have y28 : (1 : Int32).toInt = 1 := by decide
          have q29 : rg (1) (1) v25 := (rg_eq c209_26 rv25 kc_1).1
          have uq29 : (1 : Int) ≤ v25.toInt ∧ v25.toInt ≤ 1 := q29
          refine lv_aload_n hx hb dX12_octet_212 rfl (lv_at hl 1 rfl) ?_
          refine m_geta x L23 27 rfl rfl (wm_in uf_71) dX12_octet_213 ?_
          refine lv_iload_n hx hb dX12_octet_216 rfl (lv_at hl 2 rfl) ?_
          refine lv_dup2_11 hx hb dX12_octet_217 rfl rfl ?_
          refine m_ld x L23 27 rfl rp1 rfl dX12_octet_218 (fun v30 ev30 wv30 => ?_)
          have rv30 : rg (-2147483648) (2147483647) v30 := lj_27 wv30
          have uv30 : (-2147483648 : Int) ≤ v30.toInt ∧ v30.toInt ≤ 2147483647 := rv30
          refine lv_iconst (v := 1) hx hb dX12_octet_219 (by decide) ?_
          refine lv_iadd hx hb dX12_octet_220 ?_
          refine lv_topi (fun v31 ev31 => ?_)
          have rv31 : rg (-2147483648) (2147483647) v31 := rg_any v31
          have uv31 : (-2147483648 : Int) ≤ v31.toInt ∧ v31.toInt ≤ 2147483647 := rv31
          refine m_st x L23 27 rfl rp1 rfl (rj_27 (rg_any v31)) dX12_octet_221 (fun g32 H32 k32 eg32 L32 => ?_)
          refine lv_aload_n hx hb dX12_octet_222 rfl (lv_at hl 1 rfl) ?_
          refine lv_iload_n hx hb dX12_octet_223 rfl (lv_at hl 2 rfl) ?_
          refine lv_iload_n hx hb dX12_octet_224 rfl (lv_at hl 0 rfl) ?_
          refine m_cv (As := [.int p1, .int v1]) (rest := []) x hml L32 (c_dealWith l nn X g32 p1 v1 hnn ⟨by omega, by omega⟩ (mJ_up hJ24 eg32 rfl) (rg_w rp1 rfl) np1 (rg_w rv1 rfl)) (wm_V uc_dealWith ul_338 ui_dealWith us_dealWith u_init) rfl ⟨rfl, rfl⟩ hd_dealWith ⟨Nat.le_of_ble_eq_true rfl, Nat.le_of_ble_eq_true rfl⟩ rfl hl.1 rfl (lv_room (Nat.le_of_ble_eq_true rfl)) dX12_octet_225 (fun  g33 H33 k33 hp33 L33 => ?_)
          exact hQ _ _ _ _ _ dX12_octet_228 L33 ⟨(mFr.tr (mFr.upE (mFr.upE (mFr.upE (mFr.upE mFr.rf eg9 rfl) eg13 rfl) eg23 rfl) eg32 rfl) hp33.1 rfl), hp33.2.1, trivial⟩
    · skip
      have ic172_15 := congrArg Int32.toInt c172_15
      have y34 : (5 : Int32).toInt = 5 := by decide
      have q35 : rg (5) (5) v11 := (rg_eq c172_15 rv11 kc_5).1
      have uq35 : (5 : Int) ≤ v11.toInt ∧ v11.toInt ≤ 5 := q35
      refine lv_aload_n hx hb dX12_octet_175 rfl (lv_at hl 1 rfl) ?_
      refine lv_iload_n hx hb dX12_octet_176 rfl (lv_at hl 2 rfl) ?_
      refine lv_iload_n hx hb dX12_octet_177 rfl (lv_at hl 0 rfl) ?_
      refine m_cv (As := [.int p1, .int v1]) (rest := []) x hml L13 (c_judge l nn X g13 p1 v1 hnn ⟨by omega, by omega⟩ (mJ_22 (mJ_up hJ eg9 rfl) eg13 q35 rfl (fun q => absurd q (by omega))) (rg_w rp1 rfl) (rg_w rv1 rfl)) (wm_V uc_judge ul_335 ui_judge us_judge u_init) rfl ⟨rfl, rfl⟩ hd_judge ⟨Nat.le_of_ble_eq_true rfl, Nat.le_of_ble_eq_true rfl⟩ rfl hl.1 rfl (lv_room (Nat.le_of_ble_eq_true rfl)) dX12_octet_178 (fun  g36 H36 k36 hp36 L36 => ?_)
      refine lv_goto (tgt := 228) hx hb dX12_octet_181 (by decide) ?_
      exact hQ _ _ _ _ _ dX12_octet_228 (mL.mono L36 (by omega)) ⟨(mFr.tr (mFr.upE (mFr.upE mFr.rf eg9 rfl) eg13 rfl) hp36.1 rfl), hp36.2.1, trivial⟩
  · skip
    have ic11_4 := congrArg Int32.toInt c11_4
    have y37 : (0 : Int32).toInt = 0 := by decide
    have q38 : rg (0) (0) v3 := (rg_eq c11_4 rv3 kc_0).1
    have uq38 : (0 : Int) ≤ v3.toInt ∧ v3.toInt ≤ 0 := q38
    refine lv_aload_n hx hb dX12_octet_14 rfl (lv_at hl 1 rfl) ?_
    refine m_geta x L 22 rfl rfl (wm_in uf_56) dX12_octet_15 ?_
    refine lv_iload_n hx hb dX12_octet_18 rfl (lv_at hl 2 rfl) ?_
    refine m_ld x L 22 rfl rp1 rfl dX12_octet_19 (fun v39 ev39 wv39 => ?_)
    have rv39 : rg (0) (53) v39 := lj_22 wv39
    have rrv39 : rg (0) (5) v39 := mJ_r22 hJ ev39 rv39 ev3 (by omega)
    have uv39 : (0 : Int) ≤ v39.toInt ∧ v39.toInt ≤ 5 := rrv39
    have sv39 := congrArg Int32.toInt ev39
    refine lv_iconst (v := 5) hx hb dX12_octet_20 (by decide) ?_
    have j66_40 : ∀ (g40 : mSt) (H40 : Heap) (k40 : List Loc) (ls : Array Slot), mFr [22, 26] g g40 → mL G h0 ad H0 nn X g40 H40 k40 → mJ nn [] g40 → rg (0) (4) (g40 22 p1.toNatClampNeg) → lv_has ls 5 [(0, .ref h0), (1, .int p1), (2, .int p2), (3, .int v1)] → W p l e rm_octet s m args below meth c H40 k40 0 0 Q (F0 m 66 ls []) := by
      intro  g40 H40 k40 ls hF40 L40 hJ40  hm40_0 hl
      obtain ⟨z40_0, ez40_0⟩ : ∃ y : Int32, y = g40 22 p1.toNatClampNeg := ⟨_, rfl⟩
      have rz40_0 : rg (0) (4) z40_0 := rg_eqv ez40_0.symm hm40_0
      have uz40_0 : (0 : Int) ≤ z40_0.toInt ∧ z40_0.toInt ≤ 4 := rz40_0
      have sz40_0 := congrArg Int32.toInt ez40_0
      refine lv_aload_n hx hb dX12_octet_66 rfl (lv_at hl 0 rfl) ?_
      refine m_geta x L40 26 rfl rfl (wm_in uf_68) dX12_octet_67 ?_
      refine lv_iload_n hx hb dX12_octet_70 rfl (lv_at hl 3 rfl) ?_
      refine lv_aload_n hx hb dX12_octet_71 rfl (lv_at hl 0 rfl) ?_
      refine m_geta x L40 22 rfl rfl (wm_in uf_56) dX12_octet_72 ?_
      refine lv_iload_n hx hb dX12_octet_75 rfl (lv_at hl 1 rfl) ?_
      refine m_ld x L40 22 rfl rp1 rfl dX12_octet_76 (fun v41 ev41 wv41 => ?_)
      refine m_top ((ez40_0).trans ev41.symm) ?_
      refine lv_iadd hx hb dX12_octet_77 ?_
      refine lv_topi (fun v42 ev42 => ?_)
      have rv42 : rg (0) (375) v42 := (rg_add ev42 rv1 rz40_0 rfl).1
      have tv42 := (rg_add ev42 rv1 rz40_0 rfl).2
      have uv42 : (0 : Int) ≤ v42.toInt ∧ v42.toInt ≤ 375 := rv42
      refine lv_iload_n hx hb dX12_octet_78 rfl (lv_at hl 2 rfl) ?_
      refine m_st x L40 26 rfl rv42 rfl (rj_26 (rg_any p2)) dX12_octet_79 (fun g43 H43 k43 eg43 L43 => ?_)
      refine lv_aload_n hx hb dX12_octet_80 rfl (lv_at hl 0 rfl) ?_
      refine m_geta x L43 22 rfl rfl (wm_in uf_56) dX12_octet_81 ?_
      refine lv_iload_n hx hb dX12_octet_84 rfl (lv_at hl 1 rfl) ?_
      refine lv_dup2_11 hx hb dX12_octet_85 rfl rfl ?_
      refine m_ld x L43 22 rfl rp1 rfl dX12_octet_86 (fun v44 ev44 wv44 => ?_)
      refine m_top (((mm_up ez40_0 eg43 rfl)).trans ev44.symm) ?_
      refine lv_iconst (v := 1) hx hb dX12_octet_87 (by decide) ?_
      refine lv_iadd hx hb dX12_octet_88 ?_
      refine lv_topi (fun v45 ev45 => ?_)
      have rv45 : rg (1) (5) v45 := (rg_add ev45 rz40_0 kc_1 rfl).1
      have tv45 := (rg_add ev45 rz40_0 kc_1 rfl).2
      have y46 : (1 : Int32).toInt = 1 := by decide
      have uv45 : (1 : Int) ≤ v45.toInt ∧ v45.toInt ≤ 5 := rv45
      refine m_st x L43 22 rfl rp1 rfl (rj_22 (rg_w rv45 rfl)) dX12_octet_89 (fun g47 H47 k47 eg47 L47 => ?_)
      have hJ48 := mJ_22 (mJ_up hJ40 eg43 rfl) eg47 rv45 rfl (fun _ => Int.le_trans rv45.2 (by decide))
      refine lv_aload_n hx hb dX12_octet_90 rfl (lv_at hl 0 rfl) ?_
      refine m_geta x L47 22 rfl rfl (wm_in uf_56) dX12_octet_91 ?_
      refine lv_iload_n hx hb dX12_octet_94 rfl (lv_at hl 1 rfl) ?_
      refine m_ld x L47 22 rfl rp1 rfl dX12_octet_95 (fun v49 ev49 wv49 => ?_)
      refine m_top (((mm_st eg47)).trans ev49.symm) ?_
      refine lv_iconst (v := 5) hx hb dX12_octet_96 (by decide) ?_
      refine lv_icmp_ne (tgt := 140) hx hb dX12_octet_97 (by decide) (fun c97_50 => ?_) (fun c97_50 => ?_)
      · skip
        have ic97_50 : v45.toInt ≠ (5 : Int32).toInt := fun z => c97_50 (Int32.toInt_inj.mp z)
        have y51 : (5 : Int32).toInt = 5 := by decide
        have q52 : rg (1) (4) v45 := rg_neH c97_50 rv45 kc_5
        have uq52 : (1 : Int) ≤ v45.toInt ∧ v45.toInt ≤ 4 := q52
        exact hQ _ _ _ _ _ dX12_octet_140 (mL.mono L47 (by omega)) ⟨(mFr.upE (mFr.upE (mFr.tr mFr.rf hF40 rfl) eg43 rfl) eg47 rfl), hJ48, trivial⟩
      · skip
        have ic97_50 := congrArg Int32.toInt c97_50
        have y53 : (5 : Int32).toInt = 5 := by decide
        have q54 : rg (5) (5) v45 := (rg_eq c97_50 rv45 kc_5).1
        have uq54 : (5 : Int) ≤ v45.toInt ∧ v45.toInt ≤ 5 := q54
        refine lv_aload_n hx hb dX12_octet_100 rfl (lv_at hl 0 rfl) ?_
        refine lv_iload_n hx hb dX12_octet_101 rfl (lv_at hl 3 rfl) ?_
        refine m_ci (As := [.int v1]) (rest := []) x hml L47 (c_octetsOf l nn X g47 v1 hnn ⟨by omega, by omega⟩ (rg_w rv1 rfl)) (wm_V uc_octetsOf ul_332 ui_octetsOf us_octetsOf u_init) rfl ⟨rfl, rfl⟩ hd_octetsOf ⟨Nat.le_of_ble_eq_true rfl, Nat.le_of_ble_eq_true rfl⟩ rfl hl.1 rfl (lv_room (Nat.le_of_ble_eq_true rfl)) dX12_octet_102 (fun v56 g55 H55 k55 hp55 L55 => ?_)
        have rv56 : rg (-2147483648) (2147483647) v56 := hp55.2.1
        have uv56 : (-2147483648 : Int) ≤ v56.toInt ∧ v56.toInt ≤ 2147483647 := rv56
        refine pf_call (va_runS (As := [.int v56]) (rest := []) ⟨hx, hb, hml, x.2.2.2.2.1, x.2.2.1⟩ (c_hm l v56) (va_cwS 1 x.2.2.1 (wm_T ut_hecOf ul_267 u_init us_hecOf') rfl rfl rfl (by decide +kernel) ⟨Nat.le_of_ble_eq_true rfl, Nat.le_of_ble_eq_true rfl⟩) ⟨fun _ _ _ _ q => q, fun _ _ _ => ⟨rfl, trivial⟩⟩ rfl rfl hl.1 rfl (lv_room (Nat.le_of_ble_eq_true rfl)) dX12_octet_105 ⟨Nat.le_of_ble_eq_true rfl, Nat.le_of_ble_eq_true rfl⟩) ?_
        refine lv_topi (fun v57 ev57 => ?_)
        have rv57 : rg (-2147483648) (2147483647) v57 := rg_any v57
        refine lv_aload_n hx hb dX12_octet_108 rfl (lv_at hl 0 rfl) ?_
        refine m_geta x L55 26 rfl rfl (wm_in uf_68) dX12_octet_109 ?_
        refine lv_iload_n hx hb dX12_octet_112 rfl (lv_at hl 3 rfl) ?_
        refine lv_iconst (v := 4) hx hb dX12_octet_113 (by decide) ?_
        refine lv_iadd hx hb dX12_octet_114 ?_
        refine lv_topi (fun v58 ev58 => ?_)
        have rv58 : rg (4) (375) v58 := (rg_add ev58 rv1 kc_4 rfl).1
        have tv58 := (rg_add ev58 rv1 kc_4 rfl).2
        have y59 : (4 : Int32).toInt = 4 := by decide
        have uv58 : (4 : Int) ≤ v58.toInt ∧ v58.toInt ≤ 375 := rv58
        refine m_ld x L55 26 rfl rv58 rfl dX12_octet_115 (fun v60 ev60 wv60 => ?_)
        have rv60 : rg (-2147483648) (2147483647) v60 := lj_26 wv60
        have uv60 : (-2147483648 : Int) ≤ v60.toInt ∧ v60.toInt ≤ 2147483647 := rv60
        refine lv_icmp_ne (tgt := 140) hx hb dX12_octet_116 (by decide) (fun c116_61 => ?_) (fun c116_61 => ?_)
        · skip
          have ic116_61 : v57.toInt ≠ v60.toInt := fun z => c116_61 (Int32.toInt_inj.mp z)
          exact hQ _ _ _ _ _ dX12_octet_140 (mL.mono L55 (by omega)) ⟨(mFr.tr (mFr.upE (mFr.upE (mFr.tr mFr.rf hF40 rfl) eg43 rfl) eg47 rfl) hp55.1 rfl), (mJ_fr hJ48 hp55.1 rfl), trivial⟩
        · skip
          have ic116_61 := congrArg Int32.toInt c116_61
          refine lv_aload_n hx hb dX12_octet_119 rfl (lv_at hl 0 rfl) ?_
          refine m_geta x L55 21 rfl rfl (wm_in uf_53) dX12_octet_120 ?_
          refine lv_iload_n hx hb dX12_octet_123 rfl (lv_at hl 1 rfl) ?_
          refine lv_iconst (v := 1) hx hb dX12_octet_124 (by decide) ?_
          refine m_st x L55 21 rfl rp1 rfl (rj_21 (rg_w kc_1 rfl)) dX12_octet_125 (fun g62 H62 k62 eg62 L62 => ?_)
          have hJ63 := mJ_21n (mJ_fr hJ48 hp55.1 rfl) eg62 kc_1 rfl
          refine lv_aload_n hx hb dX12_octet_126 rfl (lv_at hl 0 rfl) ?_
          refine m_geta x L62 23 rfl rfl (wm_in uf_59) dX12_octet_127 ?_
          refine lv_iload_n hx hb dX12_octet_130 rfl (lv_at hl 1 rfl) ?_
          refine lv_iconst (v := 1) hx hb dX12_octet_131 (by decide) ?_
          refine m_st x L62 23 rfl rp1 rfl (rj_23 (rg_any (1 : Int32))) dX12_octet_132 (fun g64 H64 k64 eg64 L64 => ?_)
          refine lv_aload_n hx hb dX12_octet_133 rfl (lv_at hl 0 rfl) ?_
          refine m_geta x L64 25 rfl rfl (wm_in uf_65) dX12_octet_134 ?_
          refine lv_iload_n hx hb dX12_octet_137 rfl (lv_at hl 1 rfl) ?_
          refine lv_iconst (v := 0) hx hb dX12_octet_138 (by decide) ?_
          refine m_st x L64 25 rfl rp1 rfl (rj_25 (rg_any (0 : Int32))) dX12_octet_139 (fun g65 H65 k65 eg65 L65 => ?_)
          exact hQ _ _ _ _ _ dX12_octet_140 (mL.mono L65 (by omega)) ⟨(mFr.upE (mFr.upE (mFr.upE (mFr.tr (mFr.upE (mFr.upE (mFr.tr mFr.rf hF40 rfl) eg43 rfl) eg47 rfl) hp55.1 rfl) eg62 rfl) eg64 rfl) eg65 rfl), (mJ_up (mJ_up hJ63 eg64 rfl) eg65 rfl), trivial⟩
    refine lv_icmp_ne (tgt := 66) hx hb dX12_octet_21 (by decide) (fun c21_66 => ?_) (fun c21_66 => ?_)
    · skip
      have ic21_66 : v39.toInt ≠ (5 : Int32).toInt := fun z => c21_66 (Int32.toInt_inj.mp z)
      have y67 : (5 : Int32).toInt = 5 := by decide
      have q68 : rg (0) (4) v39 := rg_neH c21_66 rrv39 kc_5
      have uq68 : (0 : Int) ≤ v39.toInt ∧ v39.toInt ≤ 4 := q68
      exact j66_40  g _ _ ls mFr.rf L hJ (rg_eqv ev39 (rg_w q68 rfl)) (lv_sub hl [1, 2, 3, 0] rfl)
    · skip
      have ic21_66 := congrArg Int32.toInt c21_66
      have y69 : (5 : Int32).toInt = 5 := by decide
      have q70 : rg (5) (5) v39 := (rg_eq c21_66 rrv39 kc_5).1
      have uq70 : (5 : Int) ≤ v39.toInt ∧ v39.toInt ≤ 5 := q70
      refine lv_iconst (v := 0) hx hb dX12_octet_24 (by decide) ?_
      refine lv_istore (lv' := [(4, .int (0 : Int32)), (3, .int v1), (0, .ref h0), (1, .int p1), (2, .int p2)]) hx hb dX12_octet_25 hl (by decide) rfl (fun ls hl => ?_)
      have j27_72 : ∀ (n : Nat) (a27_4_71 : Int32) (g72 : mSt) (H72 : Heap) (k72 : List Loc) (ls : Array Slot), mFr [26] g g72 → mL G h0 ad H0 nn X g72 H72 k72 → mJ nn [] g72 → rg (0) (4) a27_4_71 → lv_has ls 5 [(0, .ref h0), (1, .int p1), (2, .int p2), (3, .int v1), (4, .int a27_4_71)] → ((4 : Int) - a27_4_71.toInt).toNat = n → W p l e rm_octet s m args below meth c H72 k72 0 0 Q (F0 m 27 ls []) := by
        intro n
        induction n using Nat.strongRecOn with
        | _ n ih72 =>
          intro a27_4_71 g72 H72 k72 ls hF72 L72 hJ72 ra27_4_71 hl hn72
          subst hn72
          have ua27_4_71 : (0 : Int) ≤ a27_4_71.toInt ∧ a27_4_71.toInt ≤ 4 := ra27_4_71
          refine lv_iload hx hb dX12_octet_27 (lv_at hl 4 rfl) ?_
          refine lv_iconst (v := 4) hx hb dX12_octet_29 (by decide) ?_
          refine lv_icmp_ge (tgt := 59) hx hb dX12_octet_30 (by decide) (fun c30_73 => ?_) (fun c30_73 => ?_)
          · skip
            have ic30_73 := Int32.le_iff_toInt_le.mp c30_73
            have q74 : rg (4) (4) a27_4_71 := (rg_le c30_73 kc_4 ra27_4_71).2
            have uq74 : (4 : Int) ≤ a27_4_71.toInt ∧ a27_4_71.toInt ≤ 4 := q74
            refine lv_aload_n hx hb dX12_octet_59 rfl (lv_at hl 0 rfl) ?_
            refine m_geta x L72 22 rfl rfl (wm_in uf_56) dX12_octet_60 ?_
            refine lv_iload_n hx hb dX12_octet_63 rfl (lv_at hl 1 rfl) ?_
            refine lv_iconst (v := 4) hx hb dX12_octet_64 (by decide) ?_
            refine m_st x L72 22 rfl rp1 rfl (rj_22 (rg_w kc_4 rfl)) dX12_octet_65 (fun g75 H75 k75 eg75 L75 => ?_)
            have hJ76 := mJ_22 hJ72 eg75 kc_4 rfl (fun _ => Int.le_trans kc_4.2 (by decide))
            exact j66_40  g75 _ _ ls (mFr.upE (mFr.tr mFr.rf hF72 rfl) eg75 rfl) L75 hJ76 (rg_eqv (mm_st eg75) (rg_w kc_4 rfl)) (lv_sub hl [0, 1, 2, 3] rfl)
          · skip
            have ic30_73 := Int32.lt_iff_toInt_lt.mp (rg_nle c30_73)
            have q77 : rg (0) (3) a27_4_71 := (rg_lt (rg_nle c30_73) ra27_4_71 kc_4).1
            have uq77 : (0 : Int) ≤ a27_4_71.toInt ∧ a27_4_71.toInt ≤ 3 := q77
            refine lv_aload_n hx hb dX12_octet_33 rfl (lv_at hl 0 rfl) ?_
            refine m_geta x L72 26 rfl rfl (wm_in uf_68) dX12_octet_34 ?_
            refine lv_iload_n hx hb dX12_octet_37 rfl (lv_at hl 3 rfl) ?_
            refine lv_iload hx hb dX12_octet_38 (lv_at hl 4 rfl) ?_
            refine lv_iadd hx hb dX12_octet_40 ?_
            refine lv_topi (fun v78 ev78 => ?_)
            have rv78 : rg (0) (374) v78 := (rg_add ev78 rv1 q77 rfl).1
            have tv78 := (rg_add ev78 rv1 q77 rfl).2
            have uv78 : (0 : Int) ≤ v78.toInt ∧ v78.toInt ≤ 374 := rv78
            refine lv_aload_n hx hb dX12_octet_41 rfl (lv_at hl 0 rfl) ?_
            refine m_geta x L72 26 rfl rfl (wm_in uf_68) dX12_octet_42 ?_
            refine lv_iload_n hx hb dX12_octet_45 rfl (lv_at hl 3 rfl) ?_
            refine lv_iload hx hb dX12_octet_46 (lv_at hl 4 rfl) ?_
            refine lv_iadd hx hb dX12_octet_48 ?_
            refine m_top ev78 ?_
            refine lv_iconst (v := 1) hx hb dX12_octet_49 (by decide) ?_
            refine lv_iadd hx hb dX12_octet_50 ?_
            refine lv_topi (fun v79 ev79 => ?_)
            have rv79 : rg (1) (375) v79 := (rg_add ev79 rv78 kc_1 rfl).1
            have tv79 := (rg_add ev79 rv78 kc_1 rfl).2
            have y80 : (1 : Int32).toInt = 1 := by decide
            have uv79 : (1 : Int) ≤ v79.toInt ∧ v79.toInt ≤ 375 := rv79
            refine m_ld x L72 26 rfl rv79 rfl dX12_octet_51 (fun v81 ev81 wv81 => ?_)
            have rv81 : rg (-2147483648) (2147483647) v81 := lj_26 wv81
            have uv81 : (-2147483648 : Int) ≤ v81.toInt ∧ v81.toInt ≤ 2147483647 := rv81
            refine m_st x L72 26 rfl rv78 rfl (rj_26 (rg_any v81)) dX12_octet_52 (fun g82 H82 k82 eg82 L82 => ?_)
            obtain ⟨v83, ev83, fv83⟩ := inc_ex a27_4_71 (1) (1 : Int32) (by decide)
            have rv83 : rg (1) (4) v83 := (rg_add ev83 q77 kc_1 rfl).1
            have tv83 := (rg_add ev83 q77 kc_1 rfl).2
            have yv83 : (1 : Int32).toInt = 1 := by decide
            refine lv_iinc (v := v83) (lv' := [(4, .int v83), (0, .ref h0), (1, .int p1), (2, .int p2), (3, .int v1)]) hx hb dX12_octet_53 hl (k := 4) rfl fv83 (by decide) rfl (fun ls hl => ?_)
            refine lv_goto (tgt := 27) hx hb dX12_octet_56 (by decide) ?_
            exact ih72 _ (ms_up tv83 kc_1 q77 rfl rfl) v83 g82 _ _ ls (mFr.upE hF72 eg82 rfl) L82 (mJ_up hJ72 eg82 rfl) (rg_w rv83 rfl) (lv_sub hl [1, 2, 3, 4, 0] rfl) rfl
      have y84 : (0 : Int32).toInt = 0 := by decide
      exact j27_72 _ (0 : Int32) g _ _ ls mFr.rf L hJ (rg_w kc_0 rfl) (lv_sub hl [2, 3, 4, 1, 0] rfl) rfl
theorem c_octet (l : Launch) {G : mG} {h0 : Nat} {ad : Nat → Nat} (nn X : Int) (g : mSt) (p1 : Int32) (p2 : Int32) (hnn : 2 ≤ nn ∧ nn ≤ 4) (hX : 0 ≤ X ∧ (X + 1) ≤ 2000000000) (hJ : mJ nn [] g) (rp1 : rg (0) (7) p1) (np1 : p1.toInt < 2 * nn) : Met l yX12_octet (wm (Cond.code yX12_octet cX12_octet 5 none)) rm_octet (va_Pc [.ref h0, .int p1, .int p2] (mPre G h0 ad nn X g)) (mQv G h0 ad nn (X + 1) (fun g1 => mFr [4, 5, 7, 8, 9, 10, 11, 21, 22, 23, 24, 25, 26, 27, 28, 29, 30, 31, 32, 33, 34, 35, 36, 37, 38, 39, 40, 41, 42, 43, 44, 45, 46, 47, 48, 49, 50, 51, 52, 53, 54, 55, 56, 57, 58, 59, 60, 64, 65, 66, 67, 68, 69, 70, 71, 72, 73, 74, 75, 76, 77, 78, 79, 80, 81, 86, 87, 88, 89, 90, 91] g g1 ∧ mJ nn [] g1 ∧ True)) 0 0 (mA h0 ad) := by
  refine Met.ofW (cc := cX12_octet) (maxL := 5) (ret := none) (by decide) rfl ?_
  intro p e s m args below meth c s₁ B hml hv
  obtain ⟨rfl, hv⟩ := hv
  have hr := B.returns
  have hlocks := B.notSynchronized
  obtain ⟨x, L⟩ := m_start B rfl wm_X hv
  have hl := lv_entry ([.ref h0, .int p1, .int p2]) (n := 5) (Nat.le_of_ble_eq_true rfl)
  rw [lg_entry_eq]
  generalize (lg_sl ([.ref h0, .int p1, .int p2]) ++ List.replicate (5 - (lg_sl ([.ref h0, .int p1, .int p2])).length) Slot.unset).toArray = ls at hl ⊢
  exact w_octet x hml L hnn hX p1 p2 hJ rp1 np1 hl (fun pc' ls' g1 H1 locs1 hdg L hp => m_vret x L hr hlocks (Int.le_refl _) hp hdg)

def rm_sendCells : Room := { frames := 3, cells := 0, slots := 0, locals := 70 }
theorem hd_sendCells : yX12_sendCells.cls = RX12 ∧ yX12_sendCells.cls ≠ "java/lang/invoke/MethodHandle" ∧ yX12_sendCells.cls ≠ "java/lang/invoke/VarHandle" ∧ (parseMethodDescriptor yX12_sendCells.desc).map (fun d => d.parameters.length) = some 2 := by decide +kernel
set_option maxHeartbeats 4000000 in
set_option maxRecDepth 100000 in
theorem w_sendCells {p : Program} {l : Launch} {e : Env} {s : State} {m : MethodId} {args : Array Value} {below : List Frame} {meth : Method} {c : Code} {H : Heap} {locs : List Loc} {Q : State → Prop} {ls : Array Slot} {G : mG} {h0 : Nat} {ad : Nat → Nat} {g : mSt} {H0 : Heap} {nn X : Int} (x : mX p c cX12_sendCells s args (wm (Cond.code yX12_sendCells cX12_sendCells 6 none)) m G h0 ad) (hml : c.maxLocals = 6) (L : mL G h0 ad H0 nn X g H locs) (hnn : 2 ≤ nn ∧ nn ≤ 4) (hX : 0 ≤ X ∧ X ≤ 2000000000) (p1 : Int32) (p2 : Int32) (hJ : mJ nn [] g) (rp1 : rg (0) (159) p1) (rp2 : rg (0) (3) p2) (hl : lv_has ls 6 [(0, .ref h0), (1, .int p1), (2, .int p2)]) (hQ : ∀ (pc' : Nat) (ls' : Array Slot) (g1 : mSt) (H1 : Heap) (locs1 : List Loc), decode cX12_sendCells pc' = .ok (.return_, 1) → mL G h0 ad H0 nn X g1 H1 locs1 → (mFr [4, 5, 7, 8, 9, 10, 11, 84, 85, 86, 87] g g1 ∧ mJ nn [] g1 ∧ True) → W p l e rm_sendCells s m args below meth c H1 locs1 0 0 Q (F0 m pc' ls' [])) : W p l e rm_sendCells s m args below meth c H locs 0 0 Q (F0 m 0 ls []) := by
  have hx := x.1
  have hb := x.2.1
  have up1 : (0 : Int) ≤ p1.toInt ∧ p1.toInt ≤ 159 := rp1
  have up2 : (0 : Int) ≤ p2.toInt ∧ p2.toInt ≤ 3 := rp2
  refine lv_iconst (v := 0) hx hb dX12_sendCells_0 (by decide) ?_
  refine lv_istore_n (lv' := [(3, .int (0 : Int32)), (0, .ref h0), (1, .int p1), (2, .int p2)]) hx hb dX12_sendCells_1 rfl hl (by decide) rfl (fun ls hl => ?_)
  have j2_2 : ∀ (n : Nat) (a2_3_1 : Int32) (g2 : mSt) (H2 : Heap) (k2 : List Loc) (ls : Array Slot), mFr [4, 5, 7, 8, 9, 10, 11, 84, 85, 86, 87] g g2 → mL G h0 ad H0 nn X g2 H2 k2 → mJ nn [] g2 → rg (0) (2147483647) a2_3_1 → lv_has ls 6 [(0, .ref h0), (1, .int p1), (2, .int p2), (3, .int a2_3_1)] → ((2147483647 : Int) - a2_3_1.toInt).toNat = n → W p l e rm_sendCells s m args below meth c H2 k2 0 0 Q (F0 m 2 ls []) := by
    intro n
    induction n using Nat.strongRecOn with
    | _ n ih2 =>
      intro a2_3_1 g2 H2 k2 ls hF2 L2 hJ2 ra2_3_1 hl hn2
      subst hn2
      have ua2_3_1 : (0 : Int) ≤ a2_3_1.toInt ∧ a2_3_1.toInt ≤ 2147483647 := ra2_3_1
      refine lv_iload_n hx hb dX12_sendCells_2 rfl (lv_at hl 3 rfl) ?_
      refine lv_aload_n hx hb dX12_sendCells_3 rfl (lv_at hl 0 rfl) ?_
      refine m_geta x L2 72 rfl rfl (wm_in uf_204) dX12_sendCells_4 ?_
      refine lv_iload_n hx hb dX12_sendCells_7 rfl (lv_at hl 1 rfl) ?_
      refine m_ld x L2 72 rfl rp1 rfl dX12_sendCells_8 (fun v3 ev3 wv3 => ?_)
      have rv3 : rg (-2147483648) (2147483647) v3 := lj_72 wv3
      have uv3 : (-2147483648 : Int) ≤ v3.toInt ∧ v3.toInt ≤ 2147483647 := rv3
      have sv3 : v3.toInt = (g 72 p1.toNatClampNeg).toInt := congrArg Int32.toInt (ev3.trans (congrFun ((show mFr [4, 5, 7, 8, 9, 10, 11, 84, 85, 86, 87] g g2 from (mFr.tr mFr.rf hF2 rfl)).at 72 rfl) _))
      have j163_4 : ∀ (g4 : mSt) (H4 : Heap) (k4 : List Loc) (ls : Array Slot), mFr [] g2 g4 → mL G h0 ad H0 nn X g4 H4 k4 → mJ nn [] g4 → lv_has ls 6 [(0, .ref h0)] → W p l e rm_sendCells s m args below meth c H4 k4 0 0 Q (F0 m 163 ls []) := by
        intro  g4 H4 k4 ls hF4 L4 hJ4  hl
        exact hQ _ _ _ _ _ dX12_sendCells_163 L4 ⟨(mFr.tr (mFr.tr mFr.rf hF2 rfl) hF4 rfl), hJ4, trivial⟩
      refine lv_icmp_ge (tgt := 163) hx hb dX12_sendCells_9 (by decide) (fun c9_5 => ?_) (fun c9_5 => ?_)
      · skip
        have ic9_5 := Int32.le_iff_toInt_le.mp c9_5
        exact j163_4  g2 _ _ ls mFr.rf L2 hJ2 (lv_sub hl [0] rfl)
      · skip
        have ic9_5 := Int32.lt_iff_toInt_lt.mp (rg_nle c9_5)
        have q6 : rg (0) (2147483646) a2_3_1 := (rg_lt (rg_nle c9_5) ra2_3_1 rv3).1
        have uq6 : (0 : Int) ≤ a2_3_1.toInt ∧ a2_3_1.toInt ≤ 2147483646 := q6
        have q7 : rg (1) (2147483647) v3 := (rg_lt (rg_nle c9_5) ra2_3_1 rv3).2
        have uq7 : (1 : Int) ≤ v3.toInt ∧ v3.toInt ≤ 2147483647 := q7
        refine lv_aload_n hx hb dX12_sendCells_12 rfl (lv_at hl 0 rfl) ?_
        refine m_geta x L2 86 rfl rfl (wm_in uf_244) dX12_sendCells_13 ?_
        refine lv_iload_n hx hb dX12_sendCells_16 rfl (lv_at hl 1 rfl) ?_
        refine m_ld x L2 86 rfl rp1 rfl dX12_sendCells_17 (fun v8 ev8 wv8 => ?_)
        have rv8 : rg (0) (4) v8 := lj_86 wv8
        have uv8 : (0 : Int) ≤ v8.toInt ∧ v8.toInt ≤ 4 := rv8
        refine lv_if_le (tgt := 163) hx hb dX12_sendCells_18 (by decide) (fun c18_9 => ?_) (fun c18_9 => ?_)
        · skip
          have ic18_9 := Int32.le_iff_toInt_le.mp c18_9
          have q10 : rg (0) (0) v8 := (rg_le c18_9 rv8 kc_0).1
          have uq10 : (0 : Int) ≤ v8.toInt ∧ v8.toInt ≤ 0 := q10
          exact j163_4  g2 _ _ ls mFr.rf L2 hJ2 (lv_sub hl [0] rfl)
        · skip
          have ic18_9 := Int32.lt_iff_toInt_lt.mp (rg_nle c18_9)
          have q11 : rg (1) (4) v8 := (rg_lt (rg_nle c18_9) kc_0 rv8).2
          have uq11 : (1 : Int) ≤ v8.toInt ∧ v8.toInt ≤ 4 := q11
          refine lv_iconst (v := 4) hx hb dX12_sendCells_21 (by decide) ?_
          refine lv_iload_n hx hb dX12_sendCells_22 rfl (lv_at hl 1 rfl) ?_
          refine lv_imul hx hb dX12_sendCells_23 ?_
          refine lv_topi (fun v12 ev12 => ?_)
          have rv12 : rg (0) (636) v12 := (rg_mulL ev12 kc_4 rp1 rfl).1
          have tv12 := (rg_mulL ev12 kc_4 rp1 rfl).2
          have y13 : (4 : Int32).toInt = 4 := by decide
          have uv12 : (0 : Int) ≤ v12.toInt ∧ v12.toInt ≤ 636 := rv12
          refine lv_istore (lv' := [(4, .int v12), (0, .ref h0), (1, .int p1), (2, .int p2), (3, .int a2_3_1)]) hx hb dX12_sendCells_24 hl (by decide) rfl (fun ls hl => ?_)
          refine lv_aload_n hx hb dX12_sendCells_26 rfl (lv_at hl 1 rfl) ?_
          refine lv_aload_n hx hb dX12_sendCells_27 rfl (lv_at hl 1 rfl) ?_
          refine m_geta x L2 85 rfl rfl (wm_in uf_241) dX12_sendCells_28 ?_
          refine lv_iload hx hb dX12_sendCells_31 (lv_at hl 0 rfl) ?_
          refine m_ld x L2 85 rfl rv12 rfl dX12_sendCells_33 (fun v14 ev14 wv14 => ?_)
          have rv14 : rg (0) (200) v14 := lj_85 wv14
          have uv14 : (0 : Int) ≤ v14.toInt ∧ v14.toInt ≤ 200 := rv14
          refine m_puti x L2 11 rfl fi_11 (wm_in uf_279) dX12_sendCells_34 (rj_11 (rg_w rv14 rfl)) (fun g15 H15 k15 eg15 L15 => ?_)
          refine lv_iconst (v := 0) hx hb dX12_sendCells_37 (by decide) ?_
          refine lv_istore (lv' := [(5, .int (0 : Int32)), (4, .int v12), (0, .ref h0), (1, .int p1), (2, .int p2), (3, .int a2_3_1)]) hx hb dX12_sendCells_38 hl (by decide) rfl (fun ls hl => ?_)
          have j40_17 : ∀ (n : Nat) (a40_5_16 : Int32) (g17 : mSt) (H17 : Heap) (k17 : List Loc) (ls : Array Slot), mFr [10] g15 g17 → mL G h0 ad H0 nn X g17 H17 k17 → mJ nn [] g17 → rg (0) (200) a40_5_16 → lv_has ls 6 [(0, .ref h0), (1, .int p1), (2, .int p2), (3, .int a2_3_1), (4, .int v12), (5, .int a40_5_16)] → ((200 : Int) - a40_5_16.toInt).toNat = n → W p l e rm_sendCells s m args below meth c H17 k17 0 0 Q (F0 m 40 ls []) := by
            intro n
            induction n using Nat.strongRecOn with
            | _ n ih17 =>
              intro a40_5_16 g17 H17 k17 ls hF17 L17 hJ17 ra40_5_16 hl hn17
              subst hn17
              have ua40_5_16 : (0 : Int) ≤ a40_5_16.toInt ∧ a40_5_16.toInt ≤ 200 := ra40_5_16
              refine lv_iload hx hb dX12_sendCells_40 (lv_at hl 5 rfl) ?_
              refine lv_aload_n hx hb dX12_sendCells_42 rfl (lv_at hl 0 rfl) ?_
              refine m_geti x L17 11 rfl rfl (wm_in uf_279) dX12_sendCells_43 (fun v18 ev18 wv18 => ?_)
              refine m_top (((mm_fr (mm_st eg15) hF17 rfl)).trans ev18.symm) ?_
              refine lv_icmp_ge (tgt := 76) hx hb dX12_sendCells_46 (by decide) (fun c46_19 => ?_) (fun c46_19 => ?_)
              · skip
                have ic46_19 := Int32.le_iff_toInt_le.mp c46_19
                refine lv_aload_n hx hb dX12_sendCells_76 rfl (lv_at hl 0 rfl) ?_
                refine m_cv (As := []) (rest := []) x hml L17 (c_closeFrame l nn X g17 hnn hX (rg_eqv (mm_fr (mm_st eg15) hF17 rfl) (rg_w rv14 rfl))) (wm_V uc_closeFrame ul_282 ui_closeFrame us_closeFrame u_init) rfl ⟨rfl, rfl⟩ hd_closeFrame ⟨Nat.le_of_ble_eq_true rfl, Nat.le_of_ble_eq_true rfl⟩ rfl hl.1 rfl (lv_room (Nat.le_of_ble_eq_true rfl)) dX12_sendCells_77 (fun  g20 H20 k20 hp20 L20 => ?_)
                refine lv_aload_n hx hb dX12_sendCells_80 rfl (lv_at hl 0 rfl) ?_
                refine m_geti x L20 11 rfl rfl (wm_in uf_279) dX12_sendCells_81 (fun v21 ev21 wv21 => ?_)
                refine m_top (((mm_fr (mm_fr (mm_st eg15) hF17 rfl) hp20.1 rfl)).trans ev21.symm) ?_
                refine pf_call (va_runS (As := [.int v14]) (rest := []) ⟨hx, hb, hml, x.2.2.2.2.1, x.2.2.1⟩ (c_co l v14) (va_cwS 1 x.2.2.1 (wm_T ut_cellsOf ul_285 u_init us_co) rfl rfl rfl (by decide +kernel) ⟨Nat.le_of_ble_eq_true rfl, Nat.le_of_ble_eq_true rfl⟩) ⟨fun _ _ _ _ q => q, fun _ _ _ => ⟨rfl, trivial⟩⟩ rfl rfl hl.1 rfl (lv_room (Nat.le_of_ble_eq_true rfl)) dX12_sendCells_84 ⟨Nat.le_of_ble_eq_true rfl, Nat.le_of_ble_eq_true rfl⟩) ?_
                refine lv_topi (fun v22 ev22 => ?_)
                have rv22 : rg (1) (5) v22 := rg_co ev22 rv14 rfl
                refine lv_istore (lv' := [(5, .int v22), (0, .ref h0), (1, .int p1), (2, .int p2), (3, .int a2_3_1), (4, .int v12)]) hx hb dX12_sendCells_87 hl (by decide) rfl (fun ls hl => ?_)
                have hco := co_val ev22 rv14 rfl
                refine lv_aload_n hx hb dX12_sendCells_89 rfl (lv_at hl 1 rfl) ?_
                refine lv_aload_n hx hb dX12_sendCells_90 rfl (lv_at hl 1 rfl) ?_
                refine m_geta x L20 87 rfl rfl (wm_in uf_247) dX12_sendCells_91 ?_
                refine lv_iload_n hx hb dX12_sendCells_94 rfl (lv_at hl 2 rfl) ?_
                refine m_ld x L20 87 rfl rp1 rfl dX12_sendCells_95 (fun v23 ev23 wv23 => ?_)
                have rv23 : rg (0) (5) v23 := lj_87 wv23
                have hjlv23 := jO_lt (mJ_fr hJ17 hp20.1 rfl) (show v12.toNatClampNeg = 4 * p1.toNatClampNeg from (by show v12.toInt.toNat = 4 * p1.toInt.toNat; omega)) (mm_fr (mm_fr (mm_up ev14 eg15 rfl) hF17 rfl) hp20.1 rfl) ev23 (mm_fr (mm_fr (mm_up ev8 eg15 rfl) hF17 rfl) hp20.1 rfl) (by omega)
                have rrv23 : rg (0) (4) v23 := ⟨rv23.1, by omega⟩
                have uv23 : (0 : Int) ≤ v23.toInt ∧ v23.toInt ≤ 4 := rrv23
                refine lv_aload_n hx hb dX12_sendCells_96 rfl (lv_at hl 1 rfl) ?_
                refine m_geta x L20 71 rfl rfl (wm_in uf_201) dX12_sendCells_97 ?_
                refine lv_iload_n hx hb dX12_sendCells_100 rfl (lv_at hl 2 rfl) ?_
                refine m_ld x L20 71 rfl rp1 rfl dX12_sendCells_101 (fun v24 ev24 wv24 => ?_)
                have rv24 : rg (-2147483648) (2147483647) v24 := lj_71 wv24
                have uv24 : (-2147483648 : Int) ≤ v24.toInt ∧ v24.toInt ≤ 2147483647 := rv24
                have sv24 : v24.toInt = (g 71 p1.toNatClampNeg).toInt := congrArg Int32.toInt (ev24.trans (congrFun ((show mFr [4, 5, 7, 8, 9, 10, 11, 84, 85, 86, 87] g g20 from (mFr.tr (mFr.tr (mFr.upE (mFr.tr mFr.rf hF2 rfl) eg15 rfl) hF17 rfl) hp20.1 rfl)).at 71 rfl) _))
                refine lv_aload_n hx hb dX12_sendCells_102 rfl (lv_at hl 1 rfl) ?_
                refine m_geta x L20 87 rfl rfl (wm_in uf_247) dX12_sendCells_103 ?_
                refine lv_iload_n hx hb dX12_sendCells_106 rfl (lv_at hl 2 rfl) ?_
                refine m_ld x L20 87 rfl rp1 rfl dX12_sendCells_107 (fun v25 ev25 wv25 => ?_)
                refine m_top ((ev23).trans ev25.symm) ?_
                refine lv_iload hx hb dX12_sendCells_108 (lv_at hl 0 rfl) ?_
                refine lv_iconst (v := 1) hx hb dX12_sendCells_110 (by decide) ?_
                refine lv_isub hx hb dX12_sendCells_111 ?_
                refine lv_topi (fun v26 ev26 => ?_)
                have rv26 : rg (0) (4) v26 := (rg_sub ev26 rv22 kc_1 rfl).1
                have tv26 := (rg_sub ev26 rv22 kc_1 rfl).2
                have y27 : (1 : Int32).toInt = 1 := by decide
                have uv26 : (0 : Int) ≤ v26.toInt ∧ v26.toInt ≤ 4 := rv26
                refine lv_icmp_ne (tgt := 119) hx hb dX12_sendCells_112 (by decide) (fun c112_28 => ?_) (fun c112_28 => ?_)
                · skip
                  have ic112_28 : v23.toInt ≠ v26.toInt := fun z => c112_28 (Int32.toInt_inj.mp z)
                  refine lv_iconst (v := 0) hx hb dX12_sendCells_119 (by decide) ?_
                  refine m_cv (As := [.int v23, .int v24, .int (0 : Int32)]) (rest := []) x hml L20 (c_layCell l nn X g20 v23 v24 (0 : Int32) hnn hX (rg_w rrv23 rfl) (rg_w kc_0 rfl)) (wm_V uc_layCell ul_305 ui_layCell us_layCell u_init) rfl ⟨rfl, rfl⟩ hd_layCell ⟨Nat.le_of_ble_eq_true rfl, Nat.le_of_ble_eq_true rfl⟩ rfl hl.1 rfl (lv_room (Nat.le_of_ble_eq_true rfl)) dX12_sendCells_120 (fun  g29 H29 k29 hp29 L29 => ?_)
                  refine lv_aload_n hx hb dX12_sendCells_123 rfl (lv_at hl 1 rfl) ?_
                  refine lv_iconst (v := 2) hx hb dX12_sendCells_124 (by decide) ?_
                  refine lv_iload_n hx hb dX12_sendCells_125 rfl (lv_at hl 3 rfl) ?_
                  refine lv_imul hx hb dX12_sendCells_126 ?_
                  refine lv_topi (fun v30 ev30 => ?_)
                  have rv30 : rg (0) (6) v30 := (rg_mulL ev30 kc_2 rp2 rfl).1
                  have tv30 := (rg_mulL ev30 kc_2 rp2 rfl).2
                  have y31 : (2 : Int32).toInt = 2 := by decide
                  have uv30 : (0 : Int) ≤ v30.toInt ∧ v30.toInt ≤ 6 := rv30
                  refine lv_iconst (v := 1) hx hb dX12_sendCells_127 (by decide) ?_
                  refine m_cv (As := [.int v30, .int (1 : Int32)]) (rest := []) x hml L29 (c_addCell l nn X g29 v30 (1 : Int32) hnn hX (rg_w rv30 rfl) (rg_w kc_1 rfl)) (wm_V uc_addCell ul_309 ui_addCell us_addCell u_init) rfl ⟨rfl, rfl⟩ hd_addCell ⟨Nat.le_of_ble_eq_true rfl, Nat.le_of_ble_eq_true rfl⟩ rfl hl.1 rfl (lv_room (Nat.le_of_ble_eq_true rfl)) dX12_sendCells_128 (fun  g32 H32 k32 hp32 L32 => ?_)
                  refine lv_aload_n hx hb dX12_sendCells_131 rfl (lv_at hl 1 rfl) ?_
                  refine m_geta x L32 87 rfl rfl (wm_in uf_247) dX12_sendCells_132 ?_
                  refine lv_iload_n hx hb dX12_sendCells_135 rfl (lv_at hl 2 rfl) ?_
                  refine lv_dup2_11 hx hb dX12_sendCells_136 rfl rfl ?_
                  refine m_ld x L32 87 rfl rp1 rfl dX12_sendCells_137 (fun v33 ev33 wv33 => ?_)
                  refine m_top (((mm_fr (mm_fr ev23 hp29.1 rfl) hp32.1 rfl)).trans ev33.symm) ?_
                  refine lv_iconst (v := 1) hx hb dX12_sendCells_138 (by decide) ?_
                  refine lv_iadd hx hb dX12_sendCells_139 ?_
                  refine lv_topi (fun v34 ev34 => ?_)
                  have rv34 : rg (1) (5) v34 := (rg_add ev34 rrv23 kc_1 rfl).1
                  have tv34 := (rg_add ev34 rrv23 kc_1 rfl).2
                  have y35 : (1 : Int32).toInt = 1 := by decide
                  have uv34 : (1 : Int) ≤ v34.toInt ∧ v34.toInt ≤ 5 := rv34
                  refine m_st x L32 87 rfl rp1 rfl (rj_87 (rg_w rv34 rfl)) dX12_sendCells_140 (fun g36 H36 k36 eg36 L36 => ?_)
                  refine lv_aload_n hx hb dX12_sendCells_141 rfl (lv_at hl 1 rfl) ?_
                  refine m_geta x L36 87 rfl rfl (wm_in uf_247) dX12_sendCells_142 ?_
                  refine lv_iload_n hx hb dX12_sendCells_145 rfl (lv_at hl 2 rfl) ?_
                  refine m_ld x L36 87 rfl rp1 rfl dX12_sendCells_146 (fun v37 ev37 wv37 => ?_)
                  refine m_top (((mm_st eg36)).trans ev37.symm) ?_
                  refine lv_iload hx hb dX12_sendCells_147 (lv_at hl 0 rfl) ?_
                  refine lv_icmp_ne (tgt := 157) hx hb dX12_sendCells_149 (by decide) (fun c149_38 => ?_) (fun c149_38 => ?_)
                  · skip
                    have ic149_38 : v34.toInt ≠ v22.toInt := fun z => c149_38 (Int32.toInt_inj.mp z)
                    have hJ39 := mJ_87 (mJ_fr (mJ_fr (mJ_fr hJ17 hp20.1 rfl) hp29.1 rfl) hp32.1 rfl) eg36 (by rw [← (mm_fr (mm_fr (mm_fr (mm_fr (mm_up ev8 eg15 rfl) hF17 rfl) hp20.1 rfl) hp29.1 rfl) hp32.1 rfl)]; omega) (by rw [show 4 * p1.toNatClampNeg = v12.toNatClampNeg from (by show 4 * p1.toInt.toNat = v12.toInt.toNat; omega), ← (mm_fr (mm_fr (mm_fr (mm_fr (mm_up ev14 eg15 rfl) hF17 rfl) hp20.1 rfl) hp29.1 rfl) hp32.1 rfl)]; omega)
                    obtain ⟨v40, ev40, fv40⟩ := inc_ex a2_3_1 (1) (1 : Int32) (by decide)
                    have rv40 : rg (1) (2147483647) v40 := (rg_add ev40 q6 kc_1 rfl).1
                    have tv40 := (rg_add ev40 q6 kc_1 rfl).2
                    have yv40 : (1 : Int32).toInt = 1 := by decide
                    refine lv_iinc (v := v40) (lv' := [(3, .int v40), (5, .int v22), (0, .ref h0), (1, .int p1), (2, .int p2), (4, .int v12)]) hx hb dX12_sendCells_157 hl (k := 4) rfl fv40 (by decide) rfl (fun ls hl => ?_)
                    refine lv_goto (tgt := 2) hx hb dX12_sendCells_160 (by decide) ?_
                    exact ih2 _ (ms_up tv40 kc_1 q6 rfl rfl) v40 g36 _ _ ls (mFr.upE (mFr.tr (mFr.tr (mFr.tr (mFr.tr (mFr.upE hF2 eg15 rfl) hF17 rfl) hp20.1 rfl) hp29.1 rfl) hp32.1 rfl) eg36 rfl) L36 hJ39 (rg_w rv40 rfl) (lv_sub hl [2, 3, 4, 0] rfl) rfl
                  · skip
                    have ic149_38 := congrArg Int32.toInt c149_38
                    refine lv_aload_n hx hb dX12_sendCells_152 rfl (lv_at hl 1 rfl) ?_
                    refine lv_iload_n hx hb dX12_sendCells_153 rfl (lv_at hl 2 rfl) ?_
                    refine m_cv (As := [.int p1]) (rest := []) x hml L36 (c_dropFirst l nn X g36 p1 hnn hX (mJ_87z (mJ_fr (mJ_fr (mJ_fr hJ17 hp20.1 rfl) hp29.1 rfl) hp32.1 rfl) (fun k => (lj_85 (L32.2.2 85 k)).1) (up2_up2 eg36 rfl)) (rg_w rp1 rfl) (rg_eqv (mm_up (mm_fr (mm_fr (mm_fr (mm_fr (mm_up ev8 eg15 rfl) hF17 rfl) hp20.1 rfl) hp29.1 rfl) hp32.1 rfl) eg36 rfl) (rg_w q11 rfl))) (wm_V uc_dropFirst ul_562 ui_dropFirst us_dropFirst u_init) rfl ⟨rfl, rfl⟩ hd_dropFirst ⟨Nat.le_of_ble_eq_true rfl, Nat.le_of_ble_eq_true rfl⟩ rfl hl.1 rfl (lv_room (Nat.le_of_ble_eq_true rfl)) dX12_sendCells_154 (fun  g41 H41 k41 hp41 L41 => ?_)
                    obtain ⟨v42, ev42, fv42⟩ := inc_ex a2_3_1 (1) (1 : Int32) (by decide)
                    have rv42 : rg (1) (2147483647) v42 := (rg_add ev42 q6 kc_1 rfl).1
                    have tv42 := (rg_add ev42 q6 kc_1 rfl).2
                    have yv42 : (1 : Int32).toInt = 1 := by decide
                    refine lv_iinc (v := v42) (lv' := [(3, .int v42), (5, .int v22), (0, .ref h0), (1, .int p1), (2, .int p2), (4, .int v12)]) hx hb dX12_sendCells_157 hl (k := 4) rfl fv42 (by decide) rfl (fun ls hl => ?_)
                    refine lv_goto (tgt := 2) hx hb dX12_sendCells_160 (by decide) ?_
                    exact ih2 _ (ms_up tv42 kc_1 q6 rfl rfl) v42 g41 _ _ ls (mFr.tr (mFr.upE (mFr.tr (mFr.tr (mFr.tr (mFr.tr (mFr.upE hF2 eg15 rfl) hF17 rfl) hp20.1 rfl) hp29.1 rfl) hp32.1 rfl) eg36 rfl) hp41.1 rfl) L41 hp41.2.1 (rg_w rv42 rfl) (lv_sub hl [2, 3, 4, 0] rfl) rfl
                · skip
                  have ic112_28 := congrArg Int32.toInt c112_28
                  refine lv_iconst (v := 1) hx hb dX12_sendCells_115 (by decide) ?_
                  refine lv_goto (tgt := 120) hx hb dX12_sendCells_116 (by decide) ?_
                  refine m_cv (As := [.int v23, .int v24, .int (1 : Int32)]) (rest := []) x hml L20 (c_layCell l nn X g20 v23 v24 (1 : Int32) hnn hX (rg_w rrv23 rfl) (rg_w kc_1 rfl)) (wm_V uc_layCell ul_305 ui_layCell us_layCell u_init) rfl ⟨rfl, rfl⟩ hd_layCell ⟨Nat.le_of_ble_eq_true rfl, Nat.le_of_ble_eq_true rfl⟩ rfl hl.1 rfl (lv_room (Nat.le_of_ble_eq_true rfl)) dX12_sendCells_120 (fun  g43 H43 k43 hp43 L43 => ?_)
                  refine lv_aload_n hx hb dX12_sendCells_123 rfl (lv_at hl 1 rfl) ?_
                  refine lv_iconst (v := 2) hx hb dX12_sendCells_124 (by decide) ?_
                  refine lv_iload_n hx hb dX12_sendCells_125 rfl (lv_at hl 3 rfl) ?_
                  refine lv_imul hx hb dX12_sendCells_126 ?_
                  refine lv_topi (fun v44 ev44 => ?_)
                  have rv44 : rg (0) (6) v44 := (rg_mulL ev44 kc_2 rp2 rfl).1
                  have tv44 := (rg_mulL ev44 kc_2 rp2 rfl).2
                  have y45 : (2 : Int32).toInt = 2 := by decide
                  have uv44 : (0 : Int) ≤ v44.toInt ∧ v44.toInt ≤ 6 := rv44
                  refine lv_iconst (v := 1) hx hb dX12_sendCells_127 (by decide) ?_
                  refine m_cv (As := [.int v44, .int (1 : Int32)]) (rest := []) x hml L43 (c_addCell l nn X g43 v44 (1 : Int32) hnn hX (rg_w rv44 rfl) (rg_w kc_1 rfl)) (wm_V uc_addCell ul_309 ui_addCell us_addCell u_init) rfl ⟨rfl, rfl⟩ hd_addCell ⟨Nat.le_of_ble_eq_true rfl, Nat.le_of_ble_eq_true rfl⟩ rfl hl.1 rfl (lv_room (Nat.le_of_ble_eq_true rfl)) dX12_sendCells_128 (fun  g46 H46 k46 hp46 L46 => ?_)
                  refine lv_aload_n hx hb dX12_sendCells_131 rfl (lv_at hl 1 rfl) ?_
                  refine m_geta x L46 87 rfl rfl (wm_in uf_247) dX12_sendCells_132 ?_
                  refine lv_iload_n hx hb dX12_sendCells_135 rfl (lv_at hl 2 rfl) ?_
                  refine lv_dup2_11 hx hb dX12_sendCells_136 rfl rfl ?_
                  refine m_ld x L46 87 rfl rp1 rfl dX12_sendCells_137 (fun v47 ev47 wv47 => ?_)
                  refine m_top (((mm_fr (mm_fr ev23 hp43.1 rfl) hp46.1 rfl)).trans ev47.symm) ?_
                  refine lv_iconst (v := 1) hx hb dX12_sendCells_138 (by decide) ?_
                  refine lv_iadd hx hb dX12_sendCells_139 ?_
                  refine lv_topi (fun v48 ev48 => ?_)
                  have rv48 : rg (1) (5) v48 := (rg_add ev48 rrv23 kc_1 rfl).1
                  have tv48 := (rg_add ev48 rrv23 kc_1 rfl).2
                  have y49 : (1 : Int32).toInt = 1 := by decide
                  have uv48 : (1 : Int) ≤ v48.toInt ∧ v48.toInt ≤ 5 := rv48
                  refine m_st x L46 87 rfl rp1 rfl (rj_87 (rg_w rv48 rfl)) dX12_sendCells_140 (fun g50 H50 k50 eg50 L50 => ?_)
                  refine lv_aload_n hx hb dX12_sendCells_141 rfl (lv_at hl 1 rfl) ?_
                  refine m_geta x L50 87 rfl rfl (wm_in uf_247) dX12_sendCells_142 ?_
                  refine lv_iload_n hx hb dX12_sendCells_145 rfl (lv_at hl 2 rfl) ?_
                  refine m_ld x L50 87 rfl rp1 rfl dX12_sendCells_146 (fun v51 ev51 wv51 => ?_)
                  refine m_top (((mm_st eg50)).trans ev51.symm) ?_
                  refine lv_iload hx hb dX12_sendCells_147 (lv_at hl 0 rfl) ?_
                  refine lv_icmp_ne (tgt := 157) hx hb dX12_sendCells_149 (by decide) (fun c149_52 => ?_) (fun c149_52 => ?_)
                  · skip
                    have ic149_52 : v48.toInt ≠ v22.toInt := fun z => c149_52 (Int32.toInt_inj.mp z)
                    have hJ53 := mJ_87 (mJ_fr (mJ_fr (mJ_fr hJ17 hp20.1 rfl) hp43.1 rfl) hp46.1 rfl) eg50 (by rw [← (mm_fr (mm_fr (mm_fr (mm_fr (mm_up ev8 eg15 rfl) hF17 rfl) hp20.1 rfl) hp43.1 rfl) hp46.1 rfl)]; omega) (by rw [show 4 * p1.toNatClampNeg = v12.toNatClampNeg from (by show 4 * p1.toInt.toNat = v12.toInt.toNat; omega), ← (mm_fr (mm_fr (mm_fr (mm_fr (mm_up ev14 eg15 rfl) hF17 rfl) hp20.1 rfl) hp43.1 rfl) hp46.1 rfl)]; omega)
                    obtain ⟨v54, ev54, fv54⟩ := inc_ex a2_3_1 (1) (1 : Int32) (by decide)
                    have rv54 : rg (1) (2147483647) v54 := (rg_add ev54 q6 kc_1 rfl).1
                    have tv54 := (rg_add ev54 q6 kc_1 rfl).2
                    have yv54 : (1 : Int32).toInt = 1 := by decide
                    refine lv_iinc (v := v54) (lv' := [(3, .int v54), (5, .int v22), (0, .ref h0), (1, .int p1), (2, .int p2), (4, .int v12)]) hx hb dX12_sendCells_157 hl (k := 4) rfl fv54 (by decide) rfl (fun ls hl => ?_)
                    refine lv_goto (tgt := 2) hx hb dX12_sendCells_160 (by decide) ?_
                    exact ih2 _ (ms_up tv54 kc_1 q6 rfl rfl) v54 g50 _ _ ls (mFr.upE (mFr.tr (mFr.tr (mFr.tr (mFr.tr (mFr.upE hF2 eg15 rfl) hF17 rfl) hp20.1 rfl) hp43.1 rfl) hp46.1 rfl) eg50 rfl) L50 hJ53 (rg_w rv54 rfl) (lv_sub hl [2, 3, 4, 0] rfl) rfl
                  · skip
                    have ic149_52 := congrArg Int32.toInt c149_52
                    refine lv_aload_n hx hb dX12_sendCells_152 rfl (lv_at hl 1 rfl) ?_
                    refine lv_iload_n hx hb dX12_sendCells_153 rfl (lv_at hl 2 rfl) ?_
                    refine m_cv (As := [.int p1]) (rest := []) x hml L50 (c_dropFirst l nn X g50 p1 hnn hX (mJ_87z (mJ_fr (mJ_fr (mJ_fr hJ17 hp20.1 rfl) hp43.1 rfl) hp46.1 rfl) (fun k => (lj_85 (L46.2.2 85 k)).1) (up2_up2 eg50 rfl)) (rg_w rp1 rfl) (rg_eqv (mm_up (mm_fr (mm_fr (mm_fr (mm_fr (mm_up ev8 eg15 rfl) hF17 rfl) hp20.1 rfl) hp43.1 rfl) hp46.1 rfl) eg50 rfl) (rg_w q11 rfl))) (wm_V uc_dropFirst ul_562 ui_dropFirst us_dropFirst u_init) rfl ⟨rfl, rfl⟩ hd_dropFirst ⟨Nat.le_of_ble_eq_true rfl, Nat.le_of_ble_eq_true rfl⟩ rfl hl.1 rfl (lv_room (Nat.le_of_ble_eq_true rfl)) dX12_sendCells_154 (fun  g55 H55 k55 hp55 L55 => ?_)
                    obtain ⟨v56, ev56, fv56⟩ := inc_ex a2_3_1 (1) (1 : Int32) (by decide)
                    have rv56 : rg (1) (2147483647) v56 := (rg_add ev56 q6 kc_1 rfl).1
                    have tv56 := (rg_add ev56 q6 kc_1 rfl).2
                    have yv56 : (1 : Int32).toInt = 1 := by decide
                    refine lv_iinc (v := v56) (lv' := [(3, .int v56), (5, .int v22), (0, .ref h0), (1, .int p1), (2, .int p2), (4, .int v12)]) hx hb dX12_sendCells_157 hl (k := 4) rfl fv56 (by decide) rfl (fun ls hl => ?_)
                    refine lv_goto (tgt := 2) hx hb dX12_sendCells_160 (by decide) ?_
                    exact ih2 _ (ms_up tv56 kc_1 q6 rfl rfl) v56 g55 _ _ ls (mFr.tr (mFr.upE (mFr.tr (mFr.tr (mFr.tr (mFr.tr (mFr.upE hF2 eg15 rfl) hF17 rfl) hp20.1 rfl) hp43.1 rfl) hp46.1 rfl) eg50 rfl) hp55.1 rfl) L55 hp55.2.1 (rg_w rv56 rfl) (lv_sub hl [2, 3, 4, 0] rfl) rfl
              · skip
                have ic46_19 := Int32.lt_iff_toInt_lt.mp (rg_nle c46_19)
                have q57 : rg (0) (199) a40_5_16 := (rg_lt (rg_nle c46_19) ra40_5_16 rv14).1
                have uq57 : (0 : Int) ≤ a40_5_16.toInt ∧ a40_5_16.toInt ≤ 199 := q57
                have q58 : rg (1) (200) v14 := (rg_lt (rg_nle c46_19) ra40_5_16 rv14).2
                have uq58 : (1 : Int) ≤ v14.toInt ∧ v14.toInt ≤ 200 := q58
                refine lv_aload_n hx hb dX12_sendCells_49 rfl (lv_at hl 0 rfl) ?_
                refine m_geta x L17 10 rfl rfl (wm_in uf_29) dX12_sendCells_50 ?_
                refine lv_iload hx hb dX12_sendCells_53 (lv_at hl 5 rfl) ?_
                refine lv_aload_n hx hb dX12_sendCells_55 rfl (lv_at hl 0 rfl) ?_
                refine m_geta x L17 84 rfl rfl (wm_in uf_238) dX12_sendCells_56 ?_
                refine lv_sipush (v := 200) hx hb dX12_sendCells_59 (by decide) ?_
                refine lv_iload hx hb dX12_sendCells_62 (lv_at hl 4 rfl) ?_
                refine lv_imul hx hb dX12_sendCells_64 ?_
                refine lv_topi (fun v59 ev59 => ?_)
                have rv59 : rg (0) (127200) v59 := (rg_mulL ev59 kc_200 rv12 rfl).1
                have tv59 := (rg_mulL ev59 kc_200 rv12 rfl).2
                have y60 : (200 : Int32).toInt = 200 := by decide
                have uv59 : (0 : Int) ≤ v59.toInt ∧ v59.toInt ≤ 127200 := rv59
                refine lv_iload hx hb dX12_sendCells_65 (lv_at hl 5 rfl) ?_
                refine lv_iadd hx hb dX12_sendCells_67 ?_
                refine lv_topi (fun v61 ev61 => ?_)
                have rv61 : rg (0) (127399) v61 := (rg_add ev61 rv59 q57 rfl).1
                have tv61 := (rg_add ev61 rv59 q57 rfl).2
                have uv61 : (0 : Int) ≤ v61.toInt ∧ v61.toInt ≤ 127399 := rv61
                refine m_ld x L17 84 rfl rv61 rfl dX12_sendCells_68 (fun v62 ev62 wv62 => ?_)
                have rv62 : rg (-2147483648) (2147483647) v62 := lj_84 wv62
                have uv62 : (-2147483648 : Int) ≤ v62.toInt ∧ v62.toInt ≤ 2147483647 := rv62
                refine m_st x L17 10 rfl q57 rfl (rj_10 (rg_any v62)) dX12_sendCells_69 (fun g63 H63 k63 eg63 L63 => ?_)
                obtain ⟨v64, ev64, fv64⟩ := inc_ex a40_5_16 (1) (1 : Int32) (by decide)
                have rv64 : rg (1) (200) v64 := (rg_add ev64 q57 kc_1 rfl).1
                have tv64 := (rg_add ev64 q57 kc_1 rfl).2
                have yv64 : (1 : Int32).toInt = 1 := by decide
                refine lv_iinc (v := v64) (lv' := [(5, .int v64), (0, .ref h0), (1, .int p1), (2, .int p2), (3, .int a2_3_1), (4, .int v12)]) hx hb dX12_sendCells_70 hl (k := 5) rfl fv64 (by decide) rfl (fun ls hl => ?_)
                refine lv_goto (tgt := 40) hx hb dX12_sendCells_73 (by decide) ?_
                exact ih17 _ (ms_up tv64 kc_1 q57 rfl rfl) v64 g63 _ _ ls (mFr.upE hF17 eg63 rfl) L63 (mJ_up hJ17 eg63 rfl) (rg_w rv64 rfl) (lv_sub hl [1, 2, 3, 4, 5, 0] rfl) rfl
          have y65 : (0 : Int32).toInt = 0 := by decide
          exact j40_17 _ (0 : Int32) g15 _ _ ls mFr.rf L15 (mJ_up hJ2 eg15 rfl) (rg_w kc_0 rfl) (lv_sub hl [2, 3, 4, 5, 1, 0] rfl) rfl
  have y66 : (0 : Int32).toInt = 0 := by decide
  exact j2_2 _ (0 : Int32) g _ _ ls mFr.rf L hJ (rg_w kc_0 rfl) (lv_sub hl [1, 2, 3, 0] rfl) rfl
theorem c_sendCells (l : Launch) {G : mG} {h0 : Nat} {ad : Nat → Nat} (nn X : Int) (g : mSt) (p1 : Int32) (p2 : Int32) (hnn : 2 ≤ nn ∧ nn ≤ 4) (hX : 0 ≤ X ∧ X ≤ 2000000000) (hJ : mJ nn [] g) (rp1 : rg (0) (159) p1) (rp2 : rg (0) (3) p2) : Met l yX12_sendCells (wm (Cond.code yX12_sendCells cX12_sendCells 6 none)) rm_sendCells (va_Pc [.ref h0, .int p1, .int p2] (mPre G h0 ad nn X g)) (mQv G h0 ad nn X (fun g1 => mFr [4, 5, 7, 8, 9, 10, 11, 84, 85, 86, 87] g g1 ∧ mJ nn [] g1 ∧ True)) 0 0 (mA h0 ad) := by
  refine Met.ofW (cc := cX12_sendCells) (maxL := 6) (ret := none) (by decide) rfl ?_
  intro p e s m args below meth c s₁ B hml hv
  obtain ⟨rfl, hv⟩ := hv
  have hr := B.returns
  have hlocks := B.notSynchronized
  obtain ⟨x, L⟩ := m_start B rfl wm_X hv
  have hl := lv_entry ([.ref h0, .int p1, .int p2]) (n := 6) (Nat.le_of_ble_eq_true rfl)
  rw [lg_entry_eq]
  generalize (lg_sl ([.ref h0, .int p1, .int p2]) ++ List.replicate (6 - (lg_sl ([.ref h0, .int p1, .int p2])).length) Slot.unset).toArray = ls at hl ⊢
  exact w_sendCells x hml L hnn hX p1 p2 hJ rp1 rp2 hl (fun pc' ls' g1 H1 locs1 hdg L hp => m_vret x L hr hlocks (Int.le_refl _) hp hdg)

def rm_oneTick : Room := { frames := 14, cells := 0, slots := 0, locals := 347 }
theorem hd_oneTick : yX12_oneTick.cls = RX12 ∧ yX12_oneTick.cls ≠ "java/lang/invoke/MethodHandle" ∧ yX12_oneTick.cls ≠ "java/lang/invoke/VarHandle" ∧ (parseMethodDescriptor yX12_oneTick.desc).map (fun d => d.parameters.length) = some 0 := by decide +kernel
set_option maxHeartbeats 4000000 in
set_option maxRecDepth 100000 in
theorem w_oneTick {p : Program} {l : Launch} {e : Env} {s : State} {m : MethodId} {args : Array Value} {below : List Frame} {meth : Method} {c : Code} {H : Heap} {locs : List Loc} {Q : State → Prop} {ls : Array Slot} {G : mG} {h0 : Nat} {ad : Nat → Nat} {g : mSt} {H0 : Heap} {nn X : Int} (x : mX p c cX12_oneTick s args (wm (Cond.code yX12_oneTick cX12_oneTick 5 none)) m G h0 ad) (hml : c.maxLocals = 5) (L : mL G h0 ad H0 nn X g H locs) (hnn : 2 ≤ nn ∧ nn ≤ 4) (hX : 0 ≤ X ∧ (X + 1696) ≤ 2000000000) (hJ : mJ nn [] g) (hl : lv_has ls 5 [(0, .ref h0)]) (hQ : ∀ (pc' : Nat) (ls' : Array Slot) (g1 : mSt) (H1 : Heap) (locs1 : List Loc), decode cX12_oneTick pc' = .ok (.return_, 1) → mL G h0 ad H0 nn (X + 1696) g1 H1 locs1 → (mFr [1, 4, 5, 6, 7, 8, 9, 10, 11, 12, 13, 14, 15, 16, 17, 18, 19, 20, 21, 22, 23, 24, 25, 26, 27, 28, 29, 30, 31, 32, 33, 34, 35, 36, 37, 38, 39, 40, 41, 42, 43, 44, 45, 46, 47, 48, 49, 50, 51, 52, 53, 54, 55, 56, 57, 58, 59, 60, 61, 62, 63, 64, 65, 66, 67, 68, 69, 70, 71, 72, 73, 74, 75, 76, 77, 78, 79, 80, 81, 84, 85, 86, 87, 88, 89, 90, 91] g g1 ∧ mJ nn [] g1 ∧ True) → W p l e rm_oneTick s m args below meth c H1 locs1 0 0 Q (F0 m pc' ls' [])) : W p l e rm_oneTick s m args below meth c H locs 0 0 Q (F0 m 0 ls []) := by
  have hx := x.1
  have hb := x.2.1
  refine lv_aload_n hx hb dX12_oneTick_0 rfl (lv_at hl 0 rfl) ?_
  refine lv_dup hx hb dX12_oneTick_1 rfl ?_
  refine m_geti x L 1 rfl rfl (wm_in uf_378) dX12_oneTick_2 (fun v1 ev1 wv1 => ?_)
  have rv1 : rg (-2147483648) (2147483647) v1 := lj_1 wv1
  have uv1 : (-2147483648 : Int) ≤ v1.toInt ∧ v1.toInt ≤ 2147483647 := rv1
  have sv1 := congrArg Int32.toInt ev1
  refine lv_iconst (v := 1) hx hb dX12_oneTick_5 (by decide) ?_
  refine lv_iadd hx hb dX12_oneTick_6 ?_
  refine lv_topi (fun v2 ev2 => ?_)
  have rv2 : rg (-2147483648) (2147483647) v2 := rg_any v2
  have uv2 : (-2147483648 : Int) ≤ v2.toInt ∧ v2.toInt ≤ 2147483647 := rv2
  refine m_puti x L 1 rfl fi_1 (wm_in uf_378) dX12_oneTick_7 (rj_1 (rg_any v2)) (fun g3 H3 k3 eg3 L3 => ?_)
  refine lv_iconst (v := 0) hx hb dX12_oneTick_10 (by decide) ?_
  refine lv_istore_n (lv' := [(1, .int (0 : Int32)), (0, .ref h0)]) hx hb dX12_oneTick_11 rfl hl (by decide) rfl (fun ls hl => ?_)
  have j12_5 : ∀ (n : Nat) (a12_1_4 : Int32) (g5 : mSt) (H5 : Heap) (k5 : List Loc) (ls : Array Slot), mFr [4, 5, 7, 8, 9, 10, 11, 40, 41, 42, 43, 44, 45, 46, 47, 48, 49, 52, 53, 56, 57, 58, 59, 60, 61, 62, 63, 64, 67, 68, 74, 75, 76, 77, 86, 87, 89, 90, 91] g3 g5 → mL G h0 ad H0 nn X g5 H5 k5 → mJ nn [] g5 → rg (0) (8) a12_1_4 → lv_has ls 5 [(0, .ref h0), (1, .int a12_1_4)] → ((8 : Int) - a12_1_4.toInt).toNat = n → W p l e rm_oneTick s m args below meth c H5 k5 0 0 Q (F0 m 12 ls []) := by
    intro n
    induction n using Nat.strongRecOn with
    | _ n ih5 =>
      intro a12_1_4 g5 H5 k5 ls hF5 L5 hJ5 ra12_1_4 hl hn5
      subst hn5
      have ua12_1_4 : (0 : Int) ≤ a12_1_4.toInt ∧ a12_1_4.toInt ≤ 8 := ra12_1_4
      refine lv_iload_n hx hb dX12_oneTick_12 rfl (lv_at hl 1 rfl) ?_
      refine lv_iconst (v := 2) hx hb dX12_oneTick_13 (by decide) ?_
      refine lv_aload_n hx hb dX12_oneTick_14 rfl (lv_at hl 0 rfl) ?_
      refine m_geti x L5 0 rfl rfl (wm_in uf_260) dX12_oneTick_15 (fun v6 ev6 wv6 => ?_)
      have rv6 : rg 2 4 v6 := rg_nn hnn wv6
      have tv6 : v6.toInt = nn := rg_n0 wv6
      have lv6 : v6.toInt = 1 * nn + 0 := by omega
      have uv6 : (2 : Int) ≤ v6.toInt ∧ v6.toInt ≤ 4 := rv6
      have sv6 : v6.toInt = (g 0 0).toInt := congrArg Int32.toInt (ev6.trans (congrFun ((show mFr [1, 4, 5, 6, 7, 8, 9, 10, 11, 12, 13, 14, 15, 16, 17, 18, 19, 20, 21, 22, 23, 24, 25, 26, 27, 28, 29, 30, 31, 32, 33, 34, 35, 36, 37, 38, 39, 40, 41, 42, 43, 44, 45, 46, 47, 48, 49, 50, 51, 52, 53, 54, 55, 56, 57, 58, 59, 60, 61, 62, 63, 64, 65, 66, 67, 68, 69, 70, 71, 72, 73, 74, 75, 76, 77, 78, 79, 80, 81, 84, 85, 86, 87, 88, 89, 90, 91] g g5 from (mFr.tr (mFr.upE mFr.rf eg3 rfl) hF5 rfl)).at 0 rfl) _))
      refine lv_imul hx hb dX12_oneTick_18 ?_
      refine lv_topi (fun v7 ev7 => ?_)
      have rv7 : rg (4) (8) v7 := (rg_mulL ev7 kc_2 rv6 rfl).1
      have tv7 := (rg_mulL ev7 kc_2 rv6 rfl).2
      have y8 : (2 : Int32).toInt = 2 := by decide
      have lv7 : v7.toInt = 2 * nn + 0 := by have := lv6; have : (2 : Int32).toInt = 2 := (by decide); omega
      have uv7 : (4 : Int) ≤ v7.toInt ∧ v7.toInt ≤ 8 := rv7
      refine lv_icmp_ge (tgt := 43) hx hb dX12_oneTick_19 (by decide) (fun c19_9 => ?_) (fun c19_9 => ?_)
      · skip
        have ic19_9 := Int32.le_iff_toInt_le.mp c19_9
        have q10 : rg (4) (8) a12_1_4 := (rg_le c19_9 rv7 ra12_1_4).2
        have uq10 : (4 : Int) ≤ a12_1_4.toInt ∧ a12_1_4.toInt ≤ 8 := q10
        refine lv_iconst (v := 0) hx hb dX12_oneTick_43 (by decide) ?_
        refine lv_istore_n (lv' := [(1, .int (0 : Int32)), (0, .ref h0)]) hx hb dX12_oneTick_44 rfl hl (by decide) rfl (fun ls hl => ?_)
        have j45_12 : ∀ (n : Nat) (a45_1_11 : Int32) (g12 : mSt) (H12 : Heap) (k12 : List Loc) (ls : Array Slot), mFr [4, 5, 7, 8, 9, 10, 11, 84, 85, 86, 87] g5 g12 → mL G h0 ad H0 nn X g12 H12 k12 → mJ nn [] g12 → rg (0) (4) a45_1_11 → lv_has ls 5 [(0, .ref h0), (1, .int a45_1_11)] → ((4 : Int) - a45_1_11.toInt).toNat = n → W p l e rm_oneTick s m args below meth c H12 k12 0 0 Q (F0 m 45 ls []) := by
          intro n
          induction n using Nat.strongRecOn with
          | _ n ih12 =>
            intro a45_1_11 g12 H12 k12 ls hF12 L12 hJ12 ra45_1_11 hl hn12
            subst hn12
            have ua45_1_11 : (0 : Int) ≤ a45_1_11.toInt ∧ a45_1_11.toInt ≤ 4 := ra45_1_11
            refine lv_iload_n hx hb dX12_oneTick_45 rfl (lv_at hl 1 rfl) ?_
            refine lv_aload_n hx hb dX12_oneTick_46 rfl (lv_at hl 0 rfl) ?_
            refine m_geti x L12 0 rfl rfl (wm_in uf_260) dX12_oneTick_47 (fun v13 ev13 wv13 => ?_)
            refine m_top (((mm_fr ev6 hF12 rfl)).trans ev13.symm) ?_
            refine lv_icmp_ge (tgt := 98) hx hb dX12_oneTick_50 (by decide) (fun c50_14 => ?_) (fun c50_14 => ?_)
            · skip
              have ic50_14 := Int32.le_iff_toInt_le.mp c50_14
              have q15 : rg (2) (4) a45_1_11 := (rg_le c50_14 rv6 ra45_1_11).2
              have uq15 : (2 : Int) ≤ a45_1_11.toInt ∧ a45_1_11.toInt ≤ 4 := q15
              refine lv_iconst (v := 0) hx hb dX12_oneTick_98 (by decide) ?_
              refine lv_istore_n (lv' := [(1, .int (0 : Int32)), (0, .ref h0)]) hx hb dX12_oneTick_99 rfl hl (by decide) rfl (fun ls hl => ?_)
              have j100_17 : ∀ (n : Nat) (a100_1_16 : Int32) (g17 : mSt) (H17 : Heap) (k17 : List Loc) (ls : Array Slot), mFr [6, 7, 12, 13, 14, 15, 16, 17, 18, 19, 20] g12 g17 → mL G h0 ad H0 nn X g17 H17 k17 → mJ nn [] g17 → rg (0) (8) a100_1_16 → lv_has ls 5 [(0, .ref h0), (1, .int a100_1_16)] → ((8 : Int) - a100_1_16.toInt).toNat = n → W p l e rm_oneTick s m args below meth c H17 k17 0 0 Q (F0 m 100 ls []) := by
                intro n
                induction n using Nat.strongRecOn with
                | _ n ih17 =>
                  intro a100_1_16 g17 H17 k17 ls hF17 L17 hJ17 ra100_1_16 hl hn17
                  subst hn17
                  have ua100_1_16 : (0 : Int) ≤ a100_1_16.toInt ∧ a100_1_16.toInt ≤ 8 := ra100_1_16
                  refine lv_iload_n hx hb dX12_oneTick_100 rfl (lv_at hl 1 rfl) ?_
                  refine lv_iconst (v := 2) hx hb dX12_oneTick_101 (by decide) ?_
                  refine lv_aload_n hx hb dX12_oneTick_102 rfl (lv_at hl 0 rfl) ?_
                  refine m_geti x L17 0 rfl rfl (wm_in uf_260) dX12_oneTick_103 (fun v18 ev18 wv18 => ?_)
                  refine m_top (((mm_fr (mm_fr ev6 hF12 rfl) hF17 rfl)).trans ev18.symm) ?_
                  refine lv_imul hx hb dX12_oneTick_106 ?_
                  refine m_top ev7 ?_
                  refine lv_icmp_ge (tgt := 135) hx hb dX12_oneTick_107 (by decide) (fun c107_19 => ?_) (fun c107_19 => ?_)
                  · skip
                    have ic107_19 := Int32.le_iff_toInt_le.mp c107_19
                    have q20 : rg (4) (8) a100_1_16 := (rg_le c107_19 rv7 ra100_1_16).2
                    have uq20 : (4 : Int) ≤ a100_1_16.toInt ∧ a100_1_16.toInt ≤ 8 := q20
                    refine lv_iconst (v := 0) hx hb dX12_oneTick_135 (by decide) ?_
                    refine lv_istore_n (lv' := [(1, .int (0 : Int32)), (0, .ref h0)]) hx hb dX12_oneTick_136 rfl hl (by decide) rfl (fun ls hl => ?_)
                    have j137_22 : ∀ (n : Nat) (a137_1_21 : Int32) (g22 : mSt) (H22 : Heap) (k22 : List Loc) (ls : Array Slot), mFr [4, 5, 7, 8, 9, 10, 11, 21, 22, 23, 24, 25, 26, 27, 28, 29, 30, 31, 32, 33, 34, 35, 36, 37, 38, 39, 40, 41, 42, 43, 44, 45, 46, 47, 48, 49, 50, 51, 52, 53, 54, 55, 56, 57, 58, 59, 60, 64, 65, 66, 67, 68, 69, 70, 71, 72, 73, 74, 75, 76, 77, 78, 79, 80, 81, 86, 87, 88, 89, 90, 91] g17 g22 → mL G h0 ad H0 nn (X + (212 * a137_1_21.toInt)) g22 H22 k22 → mJ nn [] g22 → rg (0) (8) a137_1_21 → lv_has ls 5 [(0, .ref h0), (1, .int a137_1_21)] → ((8 : Int) - a137_1_21.toInt).toNat = n → W p l e rm_oneTick s m args below meth c H22 k22 0 0 Q (F0 m 137 ls []) := by
                      intro n
                      induction n using Nat.strongRecOn with
                      | _ n ih22 =>
                        intro a137_1_21 g22 H22 k22 ls hF22 L22 hJ22 ra137_1_21 hl hn22
                        subst hn22
                        have ua137_1_21 : (0 : Int) ≤ a137_1_21.toInt ∧ a137_1_21.toInt ≤ 8 := ra137_1_21
                        refine lv_iload_n hx hb dX12_oneTick_137 rfl (lv_at hl 1 rfl) ?_
                        refine lv_iconst (v := 2) hx hb dX12_oneTick_138 (by decide) ?_
                        refine lv_aload_n hx hb dX12_oneTick_139 rfl (lv_at hl 0 rfl) ?_
                        refine m_geti x L22 0 rfl rfl (wm_in uf_260) dX12_oneTick_140 (fun v23 ev23 wv23 => ?_)
                        refine m_top (((mm_fr (mm_fr (mm_fr ev6 hF12 rfl) hF17 rfl) hF22 rfl)).trans ev23.symm) ?_
                        refine lv_imul hx hb dX12_oneTick_143 ?_
                        refine m_top ev7 ?_
                        refine lv_icmp_ge (tgt := 213) hx hb dX12_oneTick_144 (by decide) (fun c144_24 => ?_) (fun c144_24 => ?_)
                        · skip
                          have ic144_24 := Int32.le_iff_toInt_le.mp c144_24
                          have q25 : rg (4) (8) a137_1_21 := (rg_le c144_24 rv7 ra137_1_21).2
                          have uq25 : (4 : Int) ≤ a137_1_21.toInt ∧ a137_1_21.toInt ≤ 8 := q25
                          exact hQ _ _ _ _ _ dX12_oneTick_213 (mL.mono L22 (by omega)) ⟨(mFr.tr (mFr.tr (mFr.tr (mFr.tr (mFr.upE mFr.rf eg3 rfl) hF5 rfl) hF12 rfl) hF17 rfl) hF22 rfl), hJ22, trivial⟩
                        · skip
                          have b2a137_1_21_26 : a137_1_21.toInt < 2 * nn := by have := Int32.lt_iff_toInt_lt.mp (rg_nle c144_24); have := lv7; omega
                          have ic144_24 := Int32.lt_iff_toInt_lt.mp (rg_nle c144_24)
                          have q27 : rg (0) (7) a137_1_21 := (rg_lt (rg_nle c144_24) ra137_1_21 rv7).1
                          have uq27 : (0 : Int) ≤ a137_1_21.toInt ∧ a137_1_21.toInt ≤ 7 := q27
                          refine lv_iconst (v := 0) hx hb dX12_oneTick_147 (by decide) ?_
                          refine lv_istore_n (lv' := [(2, .int (0 : Int32)), (0, .ref h0), (1, .int a137_1_21)]) hx hb dX12_oneTick_148 rfl hl (by decide) rfl (fun ls hl => ?_)
                          have j149_29 : ∀ (n : Nat) (a149_2_28 : Int32) (g29 : mSt) (H29 : Heap) (k29 : List Loc) (ls : Array Slot), mFr [4, 5, 7, 8, 9, 10, 11, 21, 22, 23, 24, 25, 26, 27, 28, 29, 30, 31, 32, 33, 34, 35, 36, 37, 38, 39, 40, 41, 42, 43, 44, 45, 46, 47, 48, 49, 50, 51, 52, 53, 54, 55, 56, 57, 58, 59, 60, 64, 65, 66, 67, 68, 69, 70, 71, 72, 73, 74, 75, 76, 77, 78, 79, 80, 81, 86, 87, 88, 89, 90, 91] g22 g29 → mL G h0 ad H0 nn (X + (212 * a137_1_21.toInt + 53 * a149_2_28.toInt)) g29 H29 k29 → mJ nn [] g29 → rg (0) (4) a149_2_28 → lv_has ls 5 [(0, .ref h0), (1, .int a137_1_21), (2, .int a149_2_28)] → ((4 : Int) - a149_2_28.toInt).toNat = n → W p l e rm_oneTick s m args below meth c H29 k29 0 0 Q (F0 m 149 ls []) := by
                            intro n
                            induction n using Nat.strongRecOn with
                            | _ n ih29 =>
                              intro a149_2_28 g29 H29 k29 ls hF29 L29 hJ29 ra149_2_28 hl hn29
                              subst hn29
                              have ua149_2_28 : (0 : Int) ≤ a149_2_28.toInt ∧ a149_2_28.toInt ≤ 4 := ra149_2_28
                              refine lv_iload_n hx hb dX12_oneTick_149 rfl (lv_at hl 2 rfl) ?_
                              refine lv_iconst (v := 4) hx hb dX12_oneTick_150 (by decide) ?_
                              refine lv_icmp_ge (tgt := 207) hx hb dX12_oneTick_151 (by decide) (fun c151_30 => ?_) (fun c151_30 => ?_)
                              · skip
                                have ic151_30 := Int32.le_iff_toInt_le.mp c151_30
                                have q31 : rg (4) (4) a149_2_28 := (rg_le c151_30 kc_4 ra149_2_28).2
                                have uq31 : (4 : Int) ≤ a149_2_28.toInt ∧ a149_2_28.toInt ≤ 4 := q31
                                obtain ⟨v32, ev32, fv32⟩ := inc_ex a137_1_21 (1) (1 : Int32) (by decide)
                                have rv32 : rg (1) (8) v32 := (rg_add ev32 q27 kc_1 rfl).1
                                have tv32 := (rg_add ev32 q27 kc_1 rfl).2
                                have yv32 : (1 : Int32).toInt = 1 := by decide
                                refine lv_iinc (v := v32) (lv' := [(1, .int v32), (0, .ref h0), (2, .int a149_2_28)]) hx hb dX12_oneTick_207 hl (k := 1) rfl fv32 (by decide) rfl (fun ls hl => ?_)
                                refine lv_goto (tgt := 137) hx hb dX12_oneTick_210 (by decide) ?_
                                exact ih22 _ (ms_up tv32 kc_1 q27 rfl rfl) v32 g29 _ _ ls (mFr.tr hF22 hF29 rfl) (mL.mono L29 (by omega)) hJ29 (rg_w rv32 rfl) (lv_sub hl [1, 0] rfl) rfl
                              · skip
                                have ic151_30 := Int32.lt_iff_toInt_lt.mp (rg_nle c151_30)
                                have q33 : rg (0) (3) a149_2_28 := (rg_lt (rg_nle c151_30) ra149_2_28 kc_4).1
                                have uq33 : (0 : Int) ≤ a149_2_28.toInt ∧ a149_2_28.toInt ≤ 3 := q33
                                refine lv_bipush (v := 53) hx hb dX12_oneTick_154 (by decide) ?_
                                refine lv_iconst (v := 4) hx hb dX12_oneTick_156 (by decide) ?_
                                refine lv_iload_n hx hb dX12_oneTick_157 rfl (lv_at hl 1 rfl) ?_
                                refine lv_imul hx hb dX12_oneTick_158 ?_
                                refine lv_topi (fun v34 ev34 => ?_)
                                have rv34 : rg (0) (28) v34 := (rg_mulL ev34 kc_4 q27 rfl).1
                                have tv34 := (rg_mulL ev34 kc_4 q27 rfl).2
                                have y35 : (4 : Int32).toInt = 4 := by decide
                                have b8v34 : v34.toInt < 8 * nn := by have := b2a137_1_21_26; have : (4 : Int32).toInt = 4 := (by decide); omega
                                have uv34 : (0 : Int) ≤ v34.toInt ∧ v34.toInt ≤ 28 := rv34
                                refine lv_iload_n hx hb dX12_oneTick_159 rfl (lv_at hl 2 rfl) ?_
                                refine lv_iadd hx hb dX12_oneTick_160 ?_
                                refine lv_topi (fun v36 ev36 => ?_)
                                have rv36 : rg (0) (31) v36 := (rg_add ev36 rv34 q33 rfl).1
                                have tv36 := (rg_add ev36 rv34 q33 rfl).2
                                have uv36 : (0 : Int) ≤ v36.toInt ∧ v36.toInt ≤ 31 := rv36
                                refine lv_imul hx hb dX12_oneTick_161 ?_
                                refine lv_topi (fun v37 ev37 => ?_)
                                have rv37 : rg (0) (1643) v37 := (rg_mulL ev37 kc_53 rv36 rfl).1
                                have tv37 := (rg_mulL ev37 kc_53 rv36 rfl).2
                                have y38 : (53 : Int32).toInt = 53 := by decide
                                have uv37 : (0 : Int) ≤ v37.toInt ∧ v37.toInt ≤ 1643 := rv37
                                refine lv_istore_n (lv' := [(3, .int v37), (0, .ref h0), (1, .int a137_1_21), (2, .int a149_2_28)]) hx hb dX12_oneTick_162 rfl hl (by decide) rfl (fun ls hl => ?_)
                                refine lv_iconst (v := 0) hx hb dX12_oneTick_163 (by decide) ?_
                                refine lv_istore (lv' := [(4, .int (0 : Int32)), (3, .int v37), (0, .ref h0), (1, .int a137_1_21), (2, .int a149_2_28)]) hx hb dX12_oneTick_164 hl (by decide) rfl (fun ls hl => ?_)
                                have j166_40 : ∀ (n : Nat) (a166_4_39 : Int32) (g40 : mSt) (H40 : Heap) (k40 : List Loc) (ls : Array Slot), mFr [4, 5, 7, 8, 9, 10, 11, 21, 22, 23, 24, 25, 26, 27, 28, 29, 30, 31, 32, 33, 34, 35, 36, 37, 38, 39, 40, 41, 42, 43, 44, 45, 46, 47, 48, 49, 50, 51, 52, 53, 54, 55, 56, 57, 58, 59, 60, 64, 65, 66, 67, 68, 69, 70, 71, 72, 73, 74, 75, 76, 77, 78, 79, 80, 81, 86, 87, 88, 89, 90, 91] g29 g40 → mL G h0 ad H0 nn (X + (212 * a137_1_21.toInt + 53 * a149_2_28.toInt + a166_4_39.toInt)) g40 H40 k40 → mJ nn [] g40 → rg (0) (53) a166_4_39 → lv_has ls 5 [(0, .ref h0), (1, .int a137_1_21), (2, .int a149_2_28), (3, .int v37), (4, .int a166_4_39)] → ((53 : Int) - a166_4_39.toInt).toNat = n → W p l e rm_oneTick s m args below meth c H40 k40 0 0 Q (F0 m 166 ls []) := by
                                  intro n
                                  induction n using Nat.strongRecOn with
                                  | _ n ih40 =>
                                    intro a166_4_39 g40 H40 k40 ls hF40 L40 hJ40 ra166_4_39 hl hn40
                                    subst hn40
                                    have ua166_4_39 : (0 : Int) ≤ a166_4_39.toInt ∧ a166_4_39.toInt ≤ 53 := ra166_4_39
                                    refine lv_iload hx hb dX12_oneTick_166 (lv_at hl 4 rfl) ?_
                                    refine lv_aload_n hx hb dX12_oneTick_168 rfl (lv_at hl 0 rfl) ?_
                                    refine m_geta x L40 18 rfl rfl (wm_in uf_50) dX12_oneTick_169 ?_
                                    refine lv_iconst (v := 4) hx hb dX12_oneTick_172 (by decide) ?_
                                    refine lv_iload_n hx hb dX12_oneTick_173 rfl (lv_at hl 1 rfl) ?_
                                    refine lv_imul hx hb dX12_oneTick_174 ?_
                                    refine m_top ev34 ?_
                                    refine lv_iload_n hx hb dX12_oneTick_175 rfl (lv_at hl 2 rfl) ?_
                                    refine lv_iadd hx hb dX12_oneTick_176 ?_
                                    refine m_top ev36 ?_
                                    refine m_ld x L40 18 rfl rv36 rfl dX12_oneTick_177 (fun v41 ev41 wv41 => ?_)
                                    have rv41 : rg (0) (53) v41 := lj_18 wv41
                                    have uv41 : (0 : Int) ≤ v41.toInt ∧ v41.toInt ≤ 53 := rv41
                                    refine lv_icmp_ge (tgt := 201) hx hb dX12_oneTick_178 (by decide) (fun c178_42 => ?_) (fun c178_42 => ?_)
                                    · skip
                                      have ic178_42 := Int32.le_iff_toInt_le.mp c178_42
                                      obtain ⟨v43, ev43, fv43⟩ := inc_ex a149_2_28 (1) (1 : Int32) (by decide)
                                      have rv43 : rg (1) (4) v43 := (rg_add ev43 q33 kc_1 rfl).1
                                      have tv43 := (rg_add ev43 q33 kc_1 rfl).2
                                      have yv43 : (1 : Int32).toInt = 1 := by decide
                                      refine lv_iinc (v := v43) (lv' := [(2, .int v43), (0, .ref h0), (1, .int a137_1_21), (3, .int v37), (4, .int a166_4_39)]) hx hb dX12_oneTick_201 hl (k := 2) rfl fv43 (by decide) rfl (fun ls hl => ?_)
                                      refine lv_goto (tgt := 149) hx hb dX12_oneTick_204 (by decide) ?_
                                      exact ih29 _ (ms_up tv43 kc_1 q33 rfl rfl) v43 g40 _ _ ls (mFr.tr hF29 hF40 rfl) (mL.mono L40 (by omega)) hJ40 (rg_w rv43 rfl) (lv_sub hl [1, 2, 0] rfl) rfl
                                    · skip
                                      have ic178_42 := Int32.lt_iff_toInt_lt.mp (rg_nle c178_42)
                                      have q44 : rg (0) (52) a166_4_39 := (rg_lt (rg_nle c178_42) ra166_4_39 rv41).1
                                      have uq44 : (0 : Int) ≤ a166_4_39.toInt ∧ a166_4_39.toInt ≤ 52 := q44
                                      have q45 : rg (1) (53) v41 := (rg_lt (rg_nle c178_42) ra166_4_39 rv41).2
                                      have uq45 : (1 : Int) ≤ v41.toInt ∧ v41.toInt ≤ 53 := q45
                                      refine lv_aload_n hx hb dX12_oneTick_181 rfl (lv_at hl 0 rfl) ?_
                                      refine lv_iload_n hx hb dX12_oneTick_182 rfl (lv_at hl 1 rfl) ?_
                                      refine lv_aload_n hx hb dX12_oneTick_183 rfl (lv_at hl 0 rfl) ?_
                                      refine m_geta x L40 17 rfl rfl (wm_in uf_47) dX12_oneTick_184 ?_
                                      refine lv_iload_n hx hb dX12_oneTick_187 rfl (lv_at hl 3 rfl) ?_
                                      refine lv_iload hx hb dX12_oneTick_188 (lv_at hl 4 rfl) ?_
                                      refine lv_iadd hx hb dX12_oneTick_190 ?_
                                      refine lv_topi (fun v46 ev46 => ?_)
                                      have rv46 : rg (0) (1695) v46 := (rg_add ev46 rv37 q44 rfl).1
                                      have tv46 := (rg_add ev46 rv37 q44 rfl).2
                                      have uv46 : (0 : Int) ≤ v46.toInt ∧ v46.toInt ≤ 1695 := rv46
                                      refine m_ld x L40 17 rfl rv46 rfl dX12_oneTick_191 (fun v47 ev47 wv47 => ?_)
                                      have rv47 : rg (-2147483648) (2147483647) v47 := lj_17 wv47
                                      have uv47 : (-2147483648 : Int) ≤ v47.toInt ∧ v47.toInt ≤ 2147483647 := rv47
                                      refine m_cv (As := [.int a137_1_21, .int v47]) (rest := []) x hml L40 (c_octet l nn (X + (212 * a137_1_21.toInt + 53 * a149_2_28.toInt + a166_4_39.toInt)) g40 a137_1_21 v47 hnn ⟨by omega, by omega⟩ hJ40 (rg_w q27 rfl) b2a137_1_21_26) (wm_V uc_octet ul_580 ui_octet us_octet u_init) rfl ⟨rfl, rfl⟩ hd_octet ⟨Nat.le_of_ble_eq_true rfl, Nat.le_of_ble_eq_true rfl⟩ rfl hl.1 rfl (lv_room (Nat.le_of_ble_eq_true rfl)) dX12_oneTick_192 (fun  g48 H48 k48 hp48 L48 => ?_)
                                      obtain ⟨v49, ev49, fv49⟩ := inc_ex a166_4_39 (1) (1 : Int32) (by decide)
                                      have rv49 : rg (1) (53) v49 := (rg_add ev49 q44 kc_1 rfl).1
                                      have tv49 := (rg_add ev49 q44 kc_1 rfl).2
                                      have yv49 : (1 : Int32).toInt = 1 := by decide
                                      refine lv_iinc (v := v49) (lv' := [(4, .int v49), (0, .ref h0), (1, .int a137_1_21), (2, .int a149_2_28), (3, .int v37)]) hx hb dX12_oneTick_195 hl (k := 4) rfl fv49 (by decide) rfl (fun ls hl => ?_)
                                      refine lv_goto (tgt := 166) hx hb dX12_oneTick_198 (by decide) ?_
                                      exact ih40 _ (ms_up tv49 kc_1 q44 rfl rfl) v49 g48 _ _ ls (mFr.tr hF40 hp48.1 rfl) (mL.mono L48 (by omega)) hp48.2.1 (rg_w rv49 rfl) (lv_sub hl [1, 2, 3, 4, 0] rfl) rfl
                                have y50 : (0 : Int32).toInt = 0 := by decide
                                exact j166_40 _ (0 : Int32) g29 _ _ ls mFr.rf (mL.mono L29 (by omega)) hJ29 (rg_w kc_0 rfl) (lv_sub hl [2, 3, 4, 1, 0] rfl) rfl
                          have y51 : (0 : Int32).toInt = 0 := by decide
                          exact j149_29 _ (0 : Int32) g22 _ _ ls mFr.rf (mL.mono L22 (by omega)) hJ22 (rg_w kc_0 rfl) (lv_sub hl [1, 2, 0] rfl) rfl
                    have y52 : (0 : Int32).toInt = 0 := by decide
                    exact j137_22 _ (0 : Int32) g17 _ _ ls mFr.rf (mL.mono L17 (by omega)) hJ17 (rg_w kc_0 rfl) (lv_sub hl [1, 0] rfl) rfl
                  · skip
                    have b2a100_1_16_53 : a100_1_16.toInt < 2 * nn := by have := Int32.lt_iff_toInt_lt.mp (rg_nle c107_19); have := lv7; omega
                    have ic107_19 := Int32.lt_iff_toInt_lt.mp (rg_nle c107_19)
                    have q54 : rg (0) (7) a100_1_16 := (rg_lt (rg_nle c107_19) ra100_1_16 rv7).1
                    have uq54 : (0 : Int) ≤ a100_1_16.toInt ∧ a100_1_16.toInt ≤ 7 := q54
                    refine lv_iconst (v := 0) hx hb dX12_oneTick_110 (by decide) ?_
                    refine lv_istore_n (lv' := [(2, .int (0 : Int32)), (0, .ref h0), (1, .int a100_1_16)]) hx hb dX12_oneTick_111 rfl hl (by decide) rfl (fun ls hl => ?_)
                    have j112_56 : ∀ (n : Nat) (a112_2_55 : Int32) (g56 : mSt) (H56 : Heap) (k56 : List Loc) (ls : Array Slot), mFr [6, 7, 12, 13, 14, 15, 16, 17, 18, 19, 20] g17 g56 → mL G h0 ad H0 nn X g56 H56 k56 → mJ nn [] g56 → rg (0) (4) a112_2_55 → lv_has ls 5 [(0, .ref h0), (1, .int a100_1_16), (2, .int a112_2_55)] → ((4 : Int) - a112_2_55.toInt).toNat = n → W p l e rm_oneTick s m args below meth c H56 k56 0 0 Q (F0 m 112 ls []) := by
                      intro n
                      induction n using Nat.strongRecOn with
                      | _ n ih56 =>
                        intro a112_2_55 g56 H56 k56 ls hF56 L56 hJ56 ra112_2_55 hl hn56
                        subst hn56
                        have ua112_2_55 : (0 : Int) ≤ a112_2_55.toInt ∧ a112_2_55.toInt ≤ 4 := ra112_2_55
                        refine lv_iload_n hx hb dX12_oneTick_112 rfl (lv_at hl 2 rfl) ?_
                        refine lv_iconst (v := 4) hx hb dX12_oneTick_113 (by decide) ?_
                        refine lv_icmp_ge (tgt := 129) hx hb dX12_oneTick_114 (by decide) (fun c114_57 => ?_) (fun c114_57 => ?_)
                        · skip
                          have ic114_57 := Int32.le_iff_toInt_le.mp c114_57
                          have q58 : rg (4) (4) a112_2_55 := (rg_le c114_57 kc_4 ra112_2_55).2
                          have uq58 : (4 : Int) ≤ a112_2_55.toInt ∧ a112_2_55.toInt ≤ 4 := q58
                          obtain ⟨v59, ev59, fv59⟩ := inc_ex a100_1_16 (1) (1 : Int32) (by decide)
                          have rv59 : rg (1) (8) v59 := (rg_add ev59 q54 kc_1 rfl).1
                          have tv59 := (rg_add ev59 q54 kc_1 rfl).2
                          have yv59 : (1 : Int32).toInt = 1 := by decide
                          refine lv_iinc (v := v59) (lv' := [(1, .int v59), (0, .ref h0), (2, .int a112_2_55)]) hx hb dX12_oneTick_129 hl (k := 1) rfl fv59 (by decide) rfl (fun ls hl => ?_)
                          refine lv_goto (tgt := 100) hx hb dX12_oneTick_132 (by decide) ?_
                          exact ih17 _ (ms_up tv59 kc_1 q54 rfl rfl) v59 g56 _ _ ls (mFr.tr hF17 hF56 rfl) L56 hJ56 (rg_w rv59 rfl) (lv_sub hl [1, 0] rfl) rfl
                        · skip
                          have ic114_57 := Int32.lt_iff_toInt_lt.mp (rg_nle c114_57)
                          have q60 : rg (0) (3) a112_2_55 := (rg_lt (rg_nle c114_57) ra112_2_55 kc_4).1
                          have uq60 : (0 : Int) ≤ a112_2_55.toInt ∧ a112_2_55.toInt ≤ 3 := q60
                          refine lv_aload_n hx hb dX12_oneTick_117 rfl (lv_at hl 0 rfl) ?_
                          refine lv_iload_n hx hb dX12_oneTick_118 rfl (lv_at hl 1 rfl) ?_
                          refine lv_iload_n hx hb dX12_oneTick_119 rfl (lv_at hl 2 rfl) ?_
                          refine m_cv (As := [.int a100_1_16, .int a112_2_55]) (rest := []) x hml L56 (c_putOne l nn X g56 a100_1_16 a112_2_55 hnn ⟨by omega, by omega⟩ hJ56 (rg_w q54 rfl) (rg_w q60 rfl)) (wm_V uc_putOne ul_577 ui_putOne us_putOne u_init) rfl ⟨rfl, rfl⟩ hd_putOne ⟨Nat.le_of_ble_eq_true rfl, Nat.le_of_ble_eq_true rfl⟩ rfl hl.1 rfl (lv_room (Nat.le_of_ble_eq_true rfl)) dX12_oneTick_120 (fun  g61 H61 k61 hp61 L61 => ?_)
                          obtain ⟨v62, ev62, fv62⟩ := inc_ex a112_2_55 (1) (1 : Int32) (by decide)
                          have rv62 : rg (1) (4) v62 := (rg_add ev62 q60 kc_1 rfl).1
                          have tv62 := (rg_add ev62 q60 kc_1 rfl).2
                          have yv62 : (1 : Int32).toInt = 1 := by decide
                          refine lv_iinc (v := v62) (lv' := [(2, .int v62), (0, .ref h0), (1, .int a100_1_16)]) hx hb dX12_oneTick_123 hl (k := 2) rfl fv62 (by decide) rfl (fun ls hl => ?_)
                          refine lv_goto (tgt := 112) hx hb dX12_oneTick_126 (by decide) ?_
                          exact ih56 _ (ms_up tv62 kc_1 q60 rfl rfl) v62 g61 _ _ ls (mFr.tr hF56 hp61.1 rfl) L61 hp61.2.1 (rg_w rv62 rfl) (lv_sub hl [1, 2, 0] rfl) rfl
                    have y63 : (0 : Int32).toInt = 0 := by decide
                    exact j112_56 _ (0 : Int32) g17 _ _ ls mFr.rf L17 hJ17 (rg_w kc_0 rfl) (lv_sub hl [1, 2, 0] rfl) rfl
              have y64 : (0 : Int32).toInt = 0 := by decide
              exact j100_17 _ (0 : Int32) g12 _ _ ls mFr.rf L12 hJ12 (rg_w kc_0 rfl) (lv_sub hl [1, 0] rfl) rfl
            · skip
              have b1a45_1_11_65 : a45_1_11.toInt < 1 * nn := by have := Int32.lt_iff_toInt_lt.mp (rg_nle c50_14); have := lv6; omega
              have ic50_14 := Int32.lt_iff_toInt_lt.mp (rg_nle c50_14)
              have q66 : rg (0) (3) a45_1_11 := (rg_lt (rg_nle c50_14) ra45_1_11 rv6).1
              have uq66 : (0 : Int) ≤ a45_1_11.toInt ∧ a45_1_11.toInt ≤ 3 := q66
              refine lv_bipush (v := 40) hx hb dX12_oneTick_53 (by decide) ?_
              refine lv_iload_n hx hb dX12_oneTick_55 rfl (lv_at hl 1 rfl) ?_
              refine lv_imul hx hb dX12_oneTick_56 ?_
              refine lv_topi (fun v67 ev67 => ?_)
              have rv67 : rg (0) (120) v67 := (rg_mulL ev67 kc_40 q66 rfl).1
              have tv67 := (rg_mulL ev67 kc_40 q66 rfl).2
              have y68 : (40 : Int32).toInt = 40 := by decide
              have b40v67 : v67.toInt < 40 * nn := by have := b1a45_1_11_65; have : (40 : Int32).toInt = 40 := (by decide); omega
              have uv67 : (0 : Int) ≤ v67.toInt ∧ v67.toInt ≤ 120 := rv67
              refine lv_istore_n (lv' := [(2, .int v67), (0, .ref h0), (1, .int a45_1_11)]) hx hb dX12_oneTick_57 rfl hl (by decide) rfl (fun ls hl => ?_)
              have j58_70 : ∀ (n : Nat) (a58_2_69 : Int32) (g70 : mSt) (H70 : Heap) (k70 : List Loc) (ls : Array Slot), mFr [4, 5, 7, 8, 9, 10, 11, 84, 85, 86, 87] g12 g70 → mL G h0 ad H0 nn X g70 H70 k70 → mJ nn [] g70 → rg (0) (160) a58_2_69 → lv_has ls 5 [(0, .ref h0), (1, .int a45_1_11), (2, .int a58_2_69)] → ((160 : Int) - a58_2_69.toInt).toNat = n → W p l e rm_oneTick s m args below meth c H70 k70 0 0 Q (F0 m 58 ls []) := by
                intro n
                induction n using Nat.strongRecOn with
                | _ n ih70 =>
                  intro a58_2_69 g70 H70 k70 ls hF70 L70 hJ70 ra58_2_69 hl hn70
                  subst hn70
                  have ua58_2_69 : (0 : Int) ≤ a58_2_69.toInt ∧ a58_2_69.toInt ≤ 160 := ra58_2_69
                  refine lv_iload_n hx hb dX12_oneTick_58 rfl (lv_at hl 2 rfl) ?_
                  refine lv_bipush (v := 40) hx hb dX12_oneTick_59 (by decide) ?_
                  refine lv_iload_n hx hb dX12_oneTick_61 rfl (lv_at hl 1 rfl) ?_
                  refine lv_imul hx hb dX12_oneTick_62 ?_
                  refine m_top ev67 ?_
                  refine lv_bipush (v := 40) hx hb dX12_oneTick_63 (by decide) ?_
                  refine lv_iadd hx hb dX12_oneTick_65 ?_
                  refine lv_topi (fun v71 ev71 => ?_)
                  have rv71 : rg (40) (160) v71 := (rg_add ev71 rv67 kc_40 rfl).1
                  have tv71 := (rg_add ev71 rv67 kc_40 rfl).2
                  have y72 : (40 : Int32).toInt = 40 := by decide
                  have uv71 : (40 : Int) ≤ v71.toInt ∧ v71.toInt ≤ 160 := rv71
                  refine lv_icmp_ge (tgt := 92) hx hb dX12_oneTick_66 (by decide) (fun c66_73 => ?_) (fun c66_73 => ?_)
                  · skip
                    have ic66_73 := Int32.le_iff_toInt_le.mp c66_73
                    have q74 : rg (40) (160) a58_2_69 := (rg_le c66_73 rv71 ra58_2_69).2
                    have uq74 : (40 : Int) ≤ a58_2_69.toInt ∧ a58_2_69.toInt ≤ 160 := q74
                    obtain ⟨v75, ev75, fv75⟩ := inc_ex a45_1_11 (1) (1 : Int32) (by decide)
                    have rv75 : rg (1) (4) v75 := (rg_add ev75 q66 kc_1 rfl).1
                    have tv75 := (rg_add ev75 q66 kc_1 rfl).2
                    have yv75 : (1 : Int32).toInt = 1 := by decide
                    refine lv_iinc (v := v75) (lv' := [(1, .int v75), (0, .ref h0), (2, .int a58_2_69)]) hx hb dX12_oneTick_92 hl (k := 1) rfl fv75 (by decide) rfl (fun ls hl => ?_)
                    refine lv_goto (tgt := 45) hx hb dX12_oneTick_95 (by decide) ?_
                    exact ih12 _ (ms_up tv75 kc_1 q66 rfl rfl) v75 g70 _ _ ls (mFr.tr hF12 hF70 rfl) L70 hJ70 (rg_w rv75 rfl) (lv_sub hl [1, 0] rfl) rfl
                  · skip
                    have ic66_73 := Int32.lt_iff_toInt_lt.mp (rg_nle c66_73)
                    have q76 : rg (0) (159) a58_2_69 := (rg_lt (rg_nle c66_73) ra58_2_69 rv71).1
                    have uq76 : (0 : Int) ≤ a58_2_69.toInt ∧ a58_2_69.toInt ≤ 159 := q76
                    refine lv_aload_n hx hb dX12_oneTick_69 rfl (lv_at hl 0 rfl) ?_
                    refine m_geta x L70 68 rfl rfl (wm_in uf_192) dX12_oneTick_70 ?_
                    refine lv_iload_n hx hb dX12_oneTick_73 rfl (lv_at hl 2 rfl) ?_
                    refine m_ld x L70 68 rfl q76 rfl dX12_oneTick_74 (fun v77 ev77 wv77 => ?_)
                    have rv77 : rg (0) (11) v77 := lj_68 wv77
                    have uv77 : (0 : Int) ≤ v77.toInt ∧ v77.toInt ≤ 11 := rv77
                    refine lv_bipush (v := 10) hx hb dX12_oneTick_75 (by decide) ?_
                    have j86_78 : ∀ (g78 : mSt) (H78 : Heap) (k78 : List Loc) (ls : Array Slot), mFr [4, 5, 7, 8, 9, 10, 11, 84, 85, 86, 87] g70 g78 → mL G h0 ad H0 nn X g78 H78 k78 → mJ nn [] g78 → lv_has ls 5 [(0, .ref h0), (1, .int a45_1_11), (2, .int a58_2_69)] → W p l e rm_oneTick s m args below meth c H78 k78 0 0 Q (F0 m 86 ls []) := by
                      intro  g78 H78 k78 ls hF78 L78 hJ78  hl
                      obtain ⟨v79, ev79, fv79⟩ := inc_ex a58_2_69 (1) (1 : Int32) (by decide)
                      have rv79 : rg (1) (160) v79 := (rg_add ev79 q76 kc_1 rfl).1
                      have tv79 := (rg_add ev79 q76 kc_1 rfl).2
                      have yv79 : (1 : Int32).toInt = 1 := by decide
                      refine lv_iinc (v := v79) (lv' := [(2, .int v79), (0, .ref h0), (1, .int a45_1_11)]) hx hb dX12_oneTick_86 hl (k := 2) rfl fv79 (by decide) rfl (fun ls hl => ?_)
                      refine lv_goto (tgt := 58) hx hb dX12_oneTick_89 (by decide) ?_
                      exact ih70 _ (ms_up tv79 kc_1 q76 rfl rfl) v79 g78 _ _ ls (mFr.tr hF70 hF78 rfl) L78 hJ78 (rg_w rv79 rfl) (lv_sub hl [1, 2, 0] rfl) rfl
                    refine lv_icmp_ne (tgt := 86) hx hb dX12_oneTick_77 (by decide) (fun c77_80 => ?_) (fun c77_80 => ?_)
                    · skip
                      have ic77_80 : v77.toInt ≠ (10 : Int32).toInt := fun z => c77_80 (Int32.toInt_inj.mp z)
                      have y81 : (10 : Int32).toInt = 10 := by decide
                      exact j86_78  g70 _ _ ls mFr.rf L70 hJ70 (lv_sub hl [0, 1, 2] rfl)
                    · skip
                      have ic77_80 := congrArg Int32.toInt c77_80
                      have y82 : (10 : Int32).toInt = 10 := by decide
                      have q83 : rg (10) (10) v77 := (rg_eq c77_80 rv77 kc_10).1
                      have uq83 : (10 : Int) ≤ v77.toInt ∧ v77.toInt ≤ 10 := q83
                      refine lv_aload_n hx hb dX12_oneTick_80 rfl (lv_at hl 0 rfl) ?_
                      refine lv_iload_n hx hb dX12_oneTick_81 rfl (lv_at hl 2 rfl) ?_
                      refine lv_iload_n hx hb dX12_oneTick_82 rfl (lv_at hl 1 rfl) ?_
                      refine m_cv (As := [.int a58_2_69, .int a45_1_11]) (rest := []) x hml L70 (c_sendCells l nn X g70 a58_2_69 a45_1_11 hnn ⟨by omega, by omega⟩ hJ70 (rg_w q76 rfl) (rg_w q66 rfl)) (wm_V uc_sendCells ul_574 ui_sendCells us_sendCells u_init) rfl ⟨rfl, rfl⟩ hd_sendCells ⟨Nat.le_of_ble_eq_true rfl, Nat.le_of_ble_eq_true rfl⟩ rfl hl.1 rfl (lv_room (Nat.le_of_ble_eq_true rfl)) dX12_oneTick_83 (fun  g84 H84 k84 hp84 L84 => ?_)
                      exact j86_78  g84 _ _ ls (mFr.tr mFr.rf hp84.1 rfl) L84 hp84.2.1 (lv_sub hl [0, 1, 2] rfl)
              exact j58_70 _ v67 g12 _ _ ls mFr.rf L12 hJ12 (rg_w rv67 rfl) (lv_sub hl [1, 2, 0] rfl) rfl
        have y85 : (0 : Int32).toInt = 0 := by decide
        exact j45_12 _ (0 : Int32) g5 _ _ ls mFr.rf L5 hJ5 (rg_w kc_0 rfl) (lv_sub hl [1, 0] rfl) rfl
      · skip
        have b2a12_1_4_86 : a12_1_4.toInt < 2 * nn := by have := Int32.lt_iff_toInt_lt.mp (rg_nle c19_9); have := lv7; omega
        have ic19_9 := Int32.lt_iff_toInt_lt.mp (rg_nle c19_9)
        have q87 : rg (0) (7) a12_1_4 := (rg_lt (rg_nle c19_9) ra12_1_4 rv7).1
        have uq87 : (0 : Int) ≤ a12_1_4.toInt ∧ a12_1_4.toInt ≤ 7 := q87
        refine lv_aload_n hx hb dX12_oneTick_22 rfl (lv_at hl 0 rfl) ?_
        refine lv_iload_n hx hb dX12_oneTick_23 rfl (lv_at hl 1 rfl) ?_
        refine m_cv (As := [.int a12_1_4]) (rest := []) x hml L5 (c_lineTimers l nn X g5 a12_1_4 hnn ⟨by omega, by omega⟩ hJ5 (rg_w q87 rfl) b2a12_1_4_86) (wm_V uc_lineTimers ul_565 ui_lineTimers us_lineTimers u_init) rfl ⟨rfl, rfl⟩ hd_lineTimers ⟨Nat.le_of_ble_eq_true rfl, Nat.le_of_ble_eq_true rfl⟩ rfl hl.1 rfl (lv_room (Nat.le_of_ble_eq_true rfl)) dX12_oneTick_24 (fun  g88 H88 k88 hp88 L88 => ?_)
        refine lv_aload_n hx hb dX12_oneTick_27 rfl (lv_at hl 0 rfl) ?_
        refine lv_iload_n hx hb dX12_oneTick_28 rfl (lv_at hl 1 rfl) ?_
        refine m_cv (As := [.int a12_1_4]) (rest := []) x hml L88 (c_callTimers l nn X g88 a12_1_4 hnn ⟨by omega, by omega⟩ hp88.2.1 (rg_w q87 rfl)) (wm_V uc_callTimers ul_568 ui_callTimers us_callTimers u_init) rfl ⟨rfl, rfl⟩ hd_callTimers ⟨Nat.le_of_ble_eq_true rfl, Nat.le_of_ble_eq_true rfl⟩ rfl hl.1 rfl (lv_room (Nat.le_of_ble_eq_true rfl)) dX12_oneTick_29 (fun  g89 H89 k89 hp89 L89 => ?_)
        refine lv_aload_n hx hb dX12_oneTick_32 rfl (lv_at hl 0 rfl) ?_
        refine lv_iload_n hx hb dX12_oneTick_33 rfl (lv_at hl 1 rfl) ?_
        refine m_cv (As := [.int a12_1_4]) (rest := []) x hml L89 (c_lineTurn l nn X g89 a12_1_4 hnn ⟨by omega, by omega⟩ (rg_w q87 rfl) b2a12_1_4_86) (wm_V uc_lineTurn ul_571 ui_lineTurn us_lineTurn u_init) rfl ⟨rfl, rfl⟩ hd_lineTurn ⟨Nat.le_of_ble_eq_true rfl, Nat.le_of_ble_eq_true rfl⟩ rfl hl.1 rfl (lv_room (Nat.le_of_ble_eq_true rfl)) dX12_oneTick_34 (fun  g90 H90 k90 hp90 L90 => ?_)
        obtain ⟨v91, ev91, fv91⟩ := inc_ex a12_1_4 (1) (1 : Int32) (by decide)
        have rv91 : rg (1) (8) v91 := (rg_add ev91 q87 kc_1 rfl).1
        have tv91 := (rg_add ev91 q87 kc_1 rfl).2
        have yv91 : (1 : Int32).toInt = 1 := by decide
        refine lv_iinc (v := v91) (lv' := [(1, .int v91), (0, .ref h0)]) hx hb dX12_oneTick_37 hl (k := 1) rfl fv91 (by decide) rfl (fun ls hl => ?_)
        refine lv_goto (tgt := 12) hx hb dX12_oneTick_40 (by decide) ?_
        exact ih5 _ (ms_up tv91 kc_1 q87 rfl rfl) v91 g90 _ _ ls (mFr.tr (mFr.tr (mFr.tr hF5 hp88.1 rfl) hp89.1 rfl) hp90.1 rfl) L90 (mJ_fr hp89.2.1 hp90.1 rfl) (rg_w rv91 rfl) (lv_sub hl [1, 0] rfl) rfl
  have y92 : (0 : Int32).toInt = 0 := by decide
  exact j12_5 _ (0 : Int32) g3 _ _ ls mFr.rf L3 (mJ_up hJ eg3 rfl) (rg_w kc_0 rfl) (lv_sub hl [1, 0] rfl) rfl
theorem c_oneTick (l : Launch) {G : mG} {h0 : Nat} {ad : Nat → Nat} (nn X : Int) (g : mSt) (hnn : 2 ≤ nn ∧ nn ≤ 4) (hX : 0 ≤ X ∧ (X + 1696) ≤ 2000000000) (hJ : mJ nn [] g) : Met l yX12_oneTick (wm (Cond.code yX12_oneTick cX12_oneTick 5 none)) rm_oneTick (va_Pc [.ref h0] (mPre G h0 ad nn X g)) (mQv G h0 ad nn (X + 1696) (fun g1 => mFr [1, 4, 5, 6, 7, 8, 9, 10, 11, 12, 13, 14, 15, 16, 17, 18, 19, 20, 21, 22, 23, 24, 25, 26, 27, 28, 29, 30, 31, 32, 33, 34, 35, 36, 37, 38, 39, 40, 41, 42, 43, 44, 45, 46, 47, 48, 49, 50, 51, 52, 53, 54, 55, 56, 57, 58, 59, 60, 61, 62, 63, 64, 65, 66, 67, 68, 69, 70, 71, 72, 73, 74, 75, 76, 77, 78, 79, 80, 81, 84, 85, 86, 87, 88, 89, 90, 91] g g1 ∧ mJ nn [] g1 ∧ True)) 0 0 (mA h0 ad) := by
  refine Met.ofW (cc := cX12_oneTick) (maxL := 5) (ret := none) (by decide) rfl ?_
  intro p e s m args below meth c s₁ B hml hv
  obtain ⟨rfl, hv⟩ := hv
  have hr := B.returns
  have hlocks := B.notSynchronized
  obtain ⟨x, L⟩ := m_start B rfl wm_X hv
  have hl := lv_entry ([.ref h0]) (n := 5) (Nat.le_of_ble_eq_true rfl)
  rw [lg_entry_eq]
  generalize (lg_sl ([.ref h0]) ++ List.replicate (5 - (lg_sl ([.ref h0])).length) Slot.unset).toArray = ls at hl ⊢
  exact w_oneTick x hml L hnn hX hJ hl (fun pc' ls' g1 H1 locs1 hdg L hp => m_vret x L hr hlocks (Int.le_refl _) hp hdg)

def rm_tick : Room := { frames := 15, cells := 0, slots := 0, locals := 371 }
theorem hd_tick : yX12_tick.cls = RX12 ∧ yX12_tick.cls ≠ "java/lang/invoke/MethodHandle" ∧ yX12_tick.cls ≠ "java/lang/invoke/VarHandle" ∧ (parseMethodDescriptor yX12_tick.desc).map (fun d => d.parameters.length) = some 1 := by decide +kernel
set_option maxHeartbeats 4000000 in
set_option maxRecDepth 100000 in
theorem w_tick {p : Program} {l : Launch} {e : Env} {s : State} {m : MethodId} {args : Array Value} {below : List Frame} {meth : Method} {c : Code} {H : Heap} {locs : List Loc} {Q : State → Prop} {ls : Array Slot} {G : mG} {h0 : Nat} {ad : Nat → Nat} {g : mSt} {H0 : Heap} {nn X : Int} (x : mX p c cX12_tick s args (wm (Cond.code yX12_tick cX12_tick 3 (some .int))) m G h0 ad) (hml : c.maxLocals = 3) (L : mL G h0 ad H0 nn X g H locs) (hnn : 2 ≤ nn ∧ nn ≤ 4) (hX : 0 ≤ X ∧ (X + 84800) ≤ 2000000000) (p1 : Int32) (hJ : mJ nn [] g) (hl : lv_has ls 3 [(0, .ref h0), (1, .int p1)]) (hQ : ∀ (pc' : Nat) (ls' : Array Slot) (r : Int32) (g1 : mSt) (H1 : Heap) (locs1 : List Loc), decode cX12_tick pc' = .ok (.ireturn, 1) → mL G h0 ad H0 nn (X + 84800) g1 H1 locs1 → (mFr [1, 4, 5, 6, 7, 8, 9, 10, 11, 12, 13, 14, 15, 16, 17, 18, 19, 20, 21, 22, 23, 24, 25, 26, 27, 28, 29, 30, 31, 32, 33, 34, 35, 36, 37, 38, 39, 40, 41, 42, 43, 44, 45, 46, 47, 48, 49, 50, 51, 52, 53, 54, 55, 56, 57, 58, 59, 60, 61, 62, 63, 64, 65, 66, 67, 68, 69, 70, 71, 72, 73, 74, 75, 76, 77, 78, 79, 80, 81, 84, 85, 86, 87, 88, 89, 90, 91] g g1 ∧ rg (-2147483648) (2147483647) r ∧ mJ nn [] g1 ∧ True) → W p l e rm_tick s m args below meth c H1 locs1 0 0 Q (F0 m pc' ls' [.int r])) : W p l e rm_tick s m args below meth c H locs 0 0 Q (F0 m 0 ls []) := by
  have hx := x.1
  have hb := x.2.1
  have up1 : (-2147483648 : Int) ≤ p1.toInt ∧ p1.toInt ≤ 2147483647 := (rg_any p1)
  refine lv_iload_n hx hb dX12_tick_0 rfl (lv_at hl 1 rfl) ?_
  refine lv_iconst (v := 1) hx hb dX12_tick_1 (by decide) ?_
  have j11_1 : ∀ (g1 : mSt) (H1 : Heap) (k1 : List Loc) (ls : Array Slot), mFr [] g g1 → mL G h0 ad H0 nn X g1 H1 k1 → mJ nn [] g1 → lv_has ls 3 [(0, .ref h0)] → W p l e rm_tick s m args below meth c H1 k1 0 0 Q (F0 m 11 ls []) := by
    intro  g1 H1 k1 ls hF1 L1 hJ1  hl
    refine lv_iconst (v := (-1)) hx hb dX12_tick_11 (by decide) ?_
    exact hQ _ _ (-1 : Int32) _ _ _ dX12_tick_12 (mL.mono L1 (by omega)) ⟨(mFr.tr mFr.rf hF1 rfl), rg_w kc_m1 rfl, hJ1, trivial⟩
  refine lv_icmp_lt (tgt := 11) hx hb dX12_tick_2 (by decide) (fun c2_2 => ?_) (fun c2_2 => ?_)
  · skip
    have ic2_2 := Int32.lt_iff_toInt_lt.mp c2_2
    have q3 : rg (-2147483648) (0) p1 := (rg_lt c2_2 (rg_any p1) kc_1).1
    have uq3 : (-2147483648 : Int) ≤ p1.toInt ∧ p1.toInt ≤ 0 := q3
    exact j11_1  g _ _ ls mFr.rf L hJ (lv_sub hl [0] rfl)
  · skip
    have ic2_2 := Int32.le_iff_toInt_le.mp (rg_nlt c2_2)
    have q4 : rg (1) (2147483647) p1 := (rg_le (rg_nlt c2_2) kc_1 (rg_any p1)).2
    have uq4 : (1 : Int) ≤ p1.toInt ∧ p1.toInt ≤ 2147483647 := q4
    refine lv_iload_n hx hb dX12_tick_5 rfl (lv_at hl 1 rfl) ?_
    refine lv_bipush (v := 50) hx hb dX12_tick_6 (by decide) ?_
    refine lv_icmp_le (tgt := 13) hx hb dX12_tick_8 (by decide) (fun c8_5 => ?_) (fun c8_5 => ?_)
    · skip
      have ic8_5 := Int32.le_iff_toInt_le.mp c8_5
      have q6 : rg (1) (50) p1 := (rg_le c8_5 q4 kc_50).1
      have uq6 : (1 : Int) ≤ p1.toInt ∧ p1.toInt ≤ 50 := q6
      refine lv_iconst (v := 0) hx hb dX12_tick_13 (by decide) ?_
      refine lv_istore_n (lv' := [(2, .int (0 : Int32)), (0, .ref h0), (1, .int p1)]) hx hb dX12_tick_14 rfl hl (by decide) rfl (fun ls hl => ?_)
      have j15_8 : ∀ (n : Nat) (a15_2_7 : Int32) (g8 : mSt) (H8 : Heap) (k8 : List Loc) (ls : Array Slot), mFr [1, 4, 5, 6, 7, 8, 9, 10, 11, 12, 13, 14, 15, 16, 17, 18, 19, 20, 21, 22, 23, 24, 25, 26, 27, 28, 29, 30, 31, 32, 33, 34, 35, 36, 37, 38, 39, 40, 41, 42, 43, 44, 45, 46, 47, 48, 49, 50, 51, 52, 53, 54, 55, 56, 57, 58, 59, 60, 61, 62, 63, 64, 65, 66, 67, 68, 69, 70, 71, 72, 73, 74, 75, 76, 77, 78, 79, 80, 81, 84, 85, 86, 87, 88, 89, 90, 91] g g8 → mL G h0 ad H0 nn (X + (1696 * a15_2_7.toInt)) g8 H8 k8 → mJ nn [] g8 → rg (0) (50) a15_2_7 → lv_has ls 3 [(0, .ref h0), (1, .int p1), (2, .int a15_2_7)] → ((50 : Int) - a15_2_7.toInt).toNat = n → W p l e rm_tick s m args below meth c H8 k8 0 0 Q (F0 m 15 ls []) := by
        intro n
        induction n using Nat.strongRecOn with
        | _ n ih8 =>
          intro a15_2_7 g8 H8 k8 ls hF8 L8 hJ8 ra15_2_7 hl hn8
          subst hn8
          have ua15_2_7 : (0 : Int) ≤ a15_2_7.toInt ∧ a15_2_7.toInt ≤ 50 := ra15_2_7
          refine lv_iload_n hx hb dX12_tick_15 rfl (lv_at hl 2 rfl) ?_
          refine lv_iload_n hx hb dX12_tick_16 rfl (lv_at hl 1 rfl) ?_
          refine lv_icmp_ge (tgt := 30) hx hb dX12_tick_17 (by decide) (fun c17_9 => ?_) (fun c17_9 => ?_)
          · skip
            have ic17_9 := Int32.le_iff_toInt_le.mp c17_9
            have q10 : rg (1) (50) a15_2_7 := (rg_le c17_9 q6 ra15_2_7).2
            have uq10 : (1 : Int) ≤ a15_2_7.toInt ∧ a15_2_7.toInt ≤ 50 := q10
            refine lv_aload_n hx hb dX12_tick_30 rfl (lv_at hl 0 rfl) ?_
            refine m_geti x L8 1 rfl rfl (wm_in uf_378) dX12_tick_31 (fun v11 ev11 wv11 => ?_)
            have rv11 : rg (-2147483648) (2147483647) v11 := lj_1 wv11
            have uv11 : (-2147483648 : Int) ≤ v11.toInt ∧ v11.toInt ≤ 2147483647 := rv11
            exact hQ _ _ v11 _ _ _ dX12_tick_34 (mL.mono L8 (by omega)) ⟨(mFr.tr mFr.rf hF8 rfl), rg_w rv11 rfl, hJ8, trivial⟩
          · skip
            have ic17_9 := Int32.lt_iff_toInt_lt.mp (rg_nle c17_9)
            have q12 : rg (0) (49) a15_2_7 := (rg_lt (rg_nle c17_9) ra15_2_7 q6).1
            have uq12 : (0 : Int) ≤ a15_2_7.toInt ∧ a15_2_7.toInt ≤ 49 := q12
            refine lv_aload_n hx hb dX12_tick_20 rfl (lv_at hl 0 rfl) ?_
            refine m_cv (As := []) (rest := []) x hml L8 (c_oneTick l nn (X + (1696 * a15_2_7.toInt)) g8 hnn ⟨by omega, by omega⟩ hJ8) (wm_V uc_oneTick ul_583 ui_oneTick us_oneTick u_init) rfl ⟨rfl, rfl⟩ hd_oneTick ⟨Nat.le_of_ble_eq_true rfl, Nat.le_of_ble_eq_true rfl⟩ rfl hl.1 rfl (lv_room (Nat.le_of_ble_eq_true rfl)) dX12_tick_21 (fun  g13 H13 k13 hp13 L13 => ?_)
            obtain ⟨v14, ev14, fv14⟩ := inc_ex a15_2_7 (1) (1 : Int32) (by decide)
            have rv14 : rg (1) (50) v14 := (rg_add ev14 q12 kc_1 rfl).1
            have tv14 := (rg_add ev14 q12 kc_1 rfl).2
            have yv14 : (1 : Int32).toInt = 1 := by decide
            refine lv_iinc (v := v14) (lv' := [(2, .int v14), (0, .ref h0), (1, .int p1)]) hx hb dX12_tick_24 hl (k := 2) rfl fv14 (by decide) rfl (fun ls hl => ?_)
            refine lv_goto (tgt := 15) hx hb dX12_tick_27 (by decide) ?_
            exact ih8 _ (ms_up tv14 kc_1 q12 rfl rfl) v14 g13 _ _ ls (mFr.tr hF8 hp13.1 rfl) (mL.mono L13 (by omega)) hp13.2.1 (rg_w rv14 rfl) (lv_sub hl [1, 2, 0] rfl) rfl
      have y15 : (0 : Int32).toInt = 0 := by decide
      exact j15_8 _ (0 : Int32) g _ _ ls mFr.rf (mL.mono L (by omega)) hJ (rg_w kc_0 rfl) (lv_sub hl [1, 2, 0] rfl) rfl
    · skip
      have ic8_5 := Int32.lt_iff_toInt_lt.mp (rg_nle c8_5)
      have q16 : rg (51) (2147483647) p1 := (rg_lt (rg_nle c8_5) kc_50 q4).2
      have uq16 : (51 : Int) ≤ p1.toInt ∧ p1.toInt ≤ 2147483647 := q16
      exact j11_1  g _ _ ls mFr.rf L hJ (lv_sub hl [0] rfl)
theorem c_tick (l : Launch) {G : mG} {h0 : Nat} {ad : Nat → Nat} (nn X : Int) (g : mSt) (p1 : Int32) (hnn : 2 ≤ nn ∧ nn ≤ 4) (hX : 0 ≤ X ∧ (X + 84800) ≤ 2000000000) (hJ : mJ nn [] g) : Met l yX12_tick (wm (Cond.code yX12_tick cX12_tick 3 (some .int))) rm_tick (va_Pc [.ref h0, .int p1] (mPre G h0 ad nn X g)) (mQi G h0 ad nn (X + 84800) (fun r g1 => mFr [1, 4, 5, 6, 7, 8, 9, 10, 11, 12, 13, 14, 15, 16, 17, 18, 19, 20, 21, 22, 23, 24, 25, 26, 27, 28, 29, 30, 31, 32, 33, 34, 35, 36, 37, 38, 39, 40, 41, 42, 43, 44, 45, 46, 47, 48, 49, 50, 51, 52, 53, 54, 55, 56, 57, 58, 59, 60, 61, 62, 63, 64, 65, 66, 67, 68, 69, 70, 71, 72, 73, 74, 75, 76, 77, 78, 79, 80, 81, 84, 85, 86, 87, 88, 89, 90, 91] g g1 ∧ rg (-2147483648) (2147483647) r ∧ mJ nn [] g1 ∧ True)) 0 0 (mA h0 ad) := by
  refine Met.ofW (cc := cX12_tick) (maxL := 3) (ret := (some .int)) (by decide) rfl ?_
  intro p e s m args below meth c s₁ B hml hv
  obtain ⟨rfl, hv⟩ := hv
  have hr := B.returns
  have hlocks := B.notSynchronized
  obtain ⟨x, L⟩ := m_start B rfl wm_X hv
  have hl := lv_entry ([.ref h0, .int p1]) (n := 3) (Nat.le_of_ble_eq_true rfl)
  rw [lg_entry_eq]
  generalize (lg_sl ([.ref h0, .int p1]) ++ List.replicate (3 - (lg_sl ([.ref h0, .int p1])).length) Slot.unset).toArray = ls at hl ⊢
  exact w_tick x hml L hnn hX p1 hJ hl (fun pc' ls' r g1 H1 locs1 hdg L hp => m_iret x L hr hlocks (Int.le_refl _) hp hdg)
