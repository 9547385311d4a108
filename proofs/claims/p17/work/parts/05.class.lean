def rm_wb : Room := { frames := 1, cells := 0, slots := 0, locals := 23 }
def rm_hd : Room := { frames := 2, cells := 0, slots := 0, locals := 45 }
/-- the class's static table, as the Statement gives it at the start -/
def hc_P (U : State) : Prop := ∃ t : Nat, va_Z RX11 "HEC_STEPS" "[I" (.ref t) (fun _ => False) U U.heap ∧ va_T .int t 16 (fun j => .int (hc_T j)) (fun _ => False) U U.heap
theorem hc_P.moved {u U : State} (hvm : u.vm.Alike U.vm) (hh : U.heap = u.heap) (h : hc_P u) : hc_P U := by
  obtain ⟨t, hz, ht⟩ := h
  exact ⟨t, by rw [hh]; exact hz.moved hvm, by rw [hh]; exact ht.moved hvm⟩
theorem hc_in (x : Int32) : vp_in (x &&& 15) 16 := pk_andIn x 4 (by decide) (by decide)
set_option maxHeartbeats 4000000 in
set_option maxRecDepth 100000 in
theorem c_bc (l : Launch) (x : Int32) : Met l yJ6_bitCount_0f7a4 wsJ6_bitCount_0f7a4 rm0 (va_Pc [.int x] (fun _ => True)) (pf_Q (bc x)) 0 0 (fun _ => False) := by
  refine Met.ofW (cc := cJ6_bitCount_0f7a4) (maxL := 1) (ret := some .int) (by decide) rfl ?_
  intro p e s m args below meth c s₁ B hml hv
  obtain ⟨rfl, -⟩ := hv
  have hx := B.exec
  have hb := B.bytes
  have hr := B.returns
  have hts := atoms_spec (ws := wsJ6_bitCount_0f7a4) B.pre
  have hown : s.vm.findClass RJ6 = some m.cls := findClass_of_methodNamed B.named
  have hlocks := B.notSynchronized
  have hl := lv_entry ([.int x]) (n := 1) (Nat.le_of_ble_eq_true rfl)
  rw [lg_entry_eq]
  generalize (lg_sl ([.int x]) ++ List.replicate (1 - (lg_sl ([.int x])).length) Slot.unset).toArray = ls at hl ⊢
  have hl : lv_has ls 1 [(0, .int x)] := hl
  refine lv_iload_n hx hb dJ6_bitCount_0f7a4_0 rfl (lv_at hl 0 rfl) ?_
  refine lv_iload_n hx hb dJ6_bitCount_0f7a4_1 rfl (lv_at hl 0 rfl) ?_
  refine lv_iconst (v := 1) hx hb dJ6_bitCount_0f7a4_2 (by decide) ?_
  refine lv_iushr hx hb dJ6_bitCount_0f7a4_3 rfl ?_
  refine lv_ldcw (v := 1431655765) hx hb hown (hts (.constant RJ6 265 1431655765) (by decide +kernel)) dJ6_bitCount_0f7a4_4 ?_
  refine lv_iand hx hb dJ6_bitCount_0f7a4_7 ?_
  refine lv_isub hx hb dJ6_bitCount_0f7a4_8 ?_
  refine lv_topi (fun v1 ev1 => ?_)
  refine lv_istore_n (lv' := [(0, .int v1)]) hx hb dJ6_bitCount_0f7a4_9 rfl hl (by decide) rfl (fun ls hl => ?_)
  refine lv_iload_n hx hb dJ6_bitCount_0f7a4_10 rfl (lv_at hl 0 rfl) ?_
  refine lv_ldcw (v := 858993459) hx hb hown (hts (.constant RJ6 266 858993459) (by decide +kernel)) dJ6_bitCount_0f7a4_11 ?_
  refine lv_iand hx hb dJ6_bitCount_0f7a4_14 ?_
  refine lv_iload_n hx hb dJ6_bitCount_0f7a4_15 rfl (lv_at hl 0 rfl) ?_
  refine lv_iconst (v := 2) hx hb dJ6_bitCount_0f7a4_16 (by decide) ?_
  refine lv_iushr hx hb dJ6_bitCount_0f7a4_17 rfl ?_
  refine lv_ldcw (v := 858993459) hx hb hown (hts (.constant RJ6 266 858993459) (by decide +kernel)) dJ6_bitCount_0f7a4_18 ?_
  refine lv_iand hx hb dJ6_bitCount_0f7a4_21 ?_
  refine lv_iadd hx hb dJ6_bitCount_0f7a4_22 ?_
  refine lv_topi (fun v2 ev2 => ?_)
  refine lv_istore_n (lv' := [(0, .int v2)]) hx hb dJ6_bitCount_0f7a4_23 rfl hl (by decide) rfl (fun ls hl => ?_)
  refine lv_iload_n hx hb dJ6_bitCount_0f7a4_24 rfl (lv_at hl 0 rfl) ?_
  refine lv_iload_n hx hb dJ6_bitCount_0f7a4_25 rfl (lv_at hl 0 rfl) ?_
  refine lv_iconst (v := 4) hx hb dJ6_bitCount_0f7a4_26 (by decide) ?_
  refine lv_iushr hx hb dJ6_bitCount_0f7a4_27 rfl ?_
  refine lv_iadd hx hb dJ6_bitCount_0f7a4_28 ?_
  refine lv_ldcw (v := 252645135) hx hb hown (hts (.constant RJ6 267 252645135) (by decide +kernel)) dJ6_bitCount_0f7a4_29 ?_
  refine lv_iand hx hb dJ6_bitCount_0f7a4_32 ?_
  refine lv_topi (fun v3 ev3 => ?_)
  refine lv_istore_n (lv' := [(0, .int v3)]) hx hb dJ6_bitCount_0f7a4_33 rfl hl (by decide) rfl (fun ls hl => ?_)
  refine lv_iload_n hx hb dJ6_bitCount_0f7a4_34 rfl (lv_at hl 0 rfl) ?_
  refine lv_iload_n hx hb dJ6_bitCount_0f7a4_35 rfl (lv_at hl 0 rfl) ?_
  refine lv_bipush (v := 8) hx hb dJ6_bitCount_0f7a4_36 (by decide) ?_
  refine lv_iushr hx hb dJ6_bitCount_0f7a4_38 rfl ?_
  refine lv_iadd hx hb dJ6_bitCount_0f7a4_39 ?_
  refine lv_topi (fun v4 ev4 => ?_)
  refine lv_istore_n (lv' := [(0, .int v4)]) hx hb dJ6_bitCount_0f7a4_40 rfl hl (by decide) rfl (fun ls hl => ?_)
  refine lv_iload_n hx hb dJ6_bitCount_0f7a4_41 rfl (lv_at hl 0 rfl) ?_
  refine lv_iload_n hx hb dJ6_bitCount_0f7a4_42 rfl (lv_at hl 0 rfl) ?_
  refine lv_bipush (v := 16) hx hb dJ6_bitCount_0f7a4_43 (by decide) ?_
  refine lv_iushr hx hb dJ6_bitCount_0f7a4_45 rfl ?_
  refine lv_iadd hx hb dJ6_bitCount_0f7a4_46 ?_
  refine lv_topi (fun v5 ev5 => ?_)
  refine lv_istore_n (lv' := [(0, .int v5)]) hx hb dJ6_bitCount_0f7a4_47 rfl hl (by decide) rfl (fun ls hl => ?_)
  refine lv_iload_n hx hb dJ6_bitCount_0f7a4_48 rfl (lv_at hl 0 rfl) ?_
  refine lv_bipush (v := 63) hx hb dJ6_bitCount_0f7a4_49 (by decide) ?_
  refine lv_iand hx hb dJ6_bitCount_0f7a4_51 ?_
  subst ev1; subst ev2; subst ev3; subst ev4; subst ev5
  exact W.iret hx hb hr (fun t ht _ => ⟨rfl, ht⟩) (fun q h => by cases h) dJ6_bitCount_0f7a4_52
set_option maxHeartbeats 4000000 in
set_option maxRecDepth 100000 in
theorem c_nl (l : Launch) (x : Int32) : Met l yJ6_numberOfLeadingZeros_0f7a4 wsJ6_numberOfLeadingZeros_0f7a4 rm0 (va_Pc [.int x] (fun _ => True)) (pf_Q (nl x)) 0 0 (fun _ => False) := by
  refine Met.ofW (cc := cJ6_numberOfLeadingZeros_0f7a4) (maxL := 2) (ret := some .int) (by decide) rfl ?_
  intro p e s m args below meth c s₁ B hml hv
  obtain ⟨rfl, -⟩ := hv
  have hx := B.exec
  have hb := B.bytes
  have hr := B.returns
  have hts := atoms_spec (ws := wsJ6_numberOfLeadingZeros_0f7a4) B.pre
  have hown : s.vm.findClass RJ6 = some m.cls := findClass_of_methodNamed B.named
  have hlocks := B.notSynchronized
  have hl := lv_entry ([.int x]) (n := 2) (Nat.le_of_ble_eq_true rfl)
  rw [lg_entry_eq]
  generalize (lg_sl ([.int x]) ++ List.replicate (2 - (lg_sl ([.int x])).length) Slot.unset).toArray = ls at hl ⊢
  have hl : lv_has ls 2 [(0, .int x)] := hl
  refine lv_iload_n hx hb dJ6_numberOfLeadingZeros_0f7a4_0 rfl (lv_at hl 0 rfl) ?_
  refine lv_if_gt (tgt := 15) hx hb dJ6_numberOfLeadingZeros_0f7a4_1 (by decide) (fun c1 => ?_) (fun c1 => ?_)
  · refine lv_bipush (v := 31) hx hb dJ6_numberOfLeadingZeros_0f7a4_15 (by decide) ?_
    refine lv_topi (fun v2 ev2 => ?_)
    refine lv_istore_n (lv' := [(1, .int v2), (0, .int x)]) hx hb dJ6_numberOfLeadingZeros_0f7a4_17 rfl hl (by decide) rfl (fun ls hl => ?_)
    refine lv_iload_n hx hb dJ6_numberOfLeadingZeros_0f7a4_18 rfl (lv_at hl 1 rfl) ?_
    refine lv_ldcw (v := 65536) hx hb hown (hts (.constant RJ6 264 65536) (by decide +kernel)) dJ6_numberOfLeadingZeros_0f7a4_19 ?_
    refine lv_icmp_lt (tgt := 33) hx hb dJ6_numberOfLeadingZeros_0f7a4_22 (by decide) (fun c22 => ?_) (fun c22 => ?_)
    · refine lv_iload_n hx hb dJ6_numberOfLeadingZeros_0f7a4_33 rfl (lv_at hl 1 rfl) ?_
      refine lv_sipush (v := 256) hx hb dJ6_numberOfLeadingZeros_0f7a4_34 (by decide) ?_
      refine lv_icmp_lt (tgt := 48) hx hb dJ6_numberOfLeadingZeros_0f7a4_37 (by decide) (fun c37 => ?_) (fun c37 => ?_)
      · refine lv_iload_n hx hb dJ6_numberOfLeadingZeros_0f7a4_48 rfl (lv_at hl 1 rfl) ?_
        refine lv_bipush (v := 16) hx hb dJ6_numberOfLeadingZeros_0f7a4_49 (by decide) ?_
        refine lv_icmp_lt (tgt := 61) hx hb dJ6_numberOfLeadingZeros_0f7a4_51 (by decide) (fun c51 => ?_) (fun c51 => ?_)
        · refine lv_iload_n hx hb dJ6_numberOfLeadingZeros_0f7a4_61 rfl (lv_at hl 1 rfl) ?_
          refine lv_iconst (v := 4) hx hb dJ6_numberOfLeadingZeros_0f7a4_62 (by decide) ?_
          refine lv_icmp_lt (tgt := 73) hx hb dJ6_numberOfLeadingZeros_0f7a4_63 (by decide) (fun c63 => ?_) (fun c63 => ?_)
          · refine lv_iload_n hx hb dJ6_numberOfLeadingZeros_0f7a4_73 rfl (lv_at hl 0 rfl) ?_
            refine lv_iload_n hx hb dJ6_numberOfLeadingZeros_0f7a4_74 rfl (lv_at hl 1 rfl) ?_
            refine lv_iconst (v := 1) hx hb dJ6_numberOfLeadingZeros_0f7a4_75 (by decide) ?_
            refine lv_iushr hx hb dJ6_numberOfLeadingZeros_0f7a4_76 rfl ?_
            refine lv_isub hx hb dJ6_numberOfLeadingZeros_0f7a4_77 ?_
            subst ev2
            rw [show nl x = _ from ((if_pos c1).trans ((if_pos c22).trans ((if_pos c37).trans ((if_pos c51).trans ((if_pos c63).trans rfl)))))]
            exact W.iret hx hb hr (fun t ht _ => ⟨rfl, ht⟩) (fun q h => by cases h) dJ6_numberOfLeadingZeros_0f7a4_78
          · obtain ⟨v7, ev7⟩ : ∃ y : Int32, y = v2 + Int32.ofInt (-2) := ⟨_, rfl⟩
            refine lv_iinc (v := v7) (lv' := [(1, .int v7), (0, .int x)]) hx hb dJ6_numberOfLeadingZeros_0f7a4_66 hl (k := 0) rfl ev7.symm (by decide) rfl (fun ls hl => ?_)
            refine lv_iload_n hx hb dJ6_numberOfLeadingZeros_0f7a4_69 rfl (lv_at hl 1 rfl) ?_
            refine lv_iconst (v := 2) hx hb dJ6_numberOfLeadingZeros_0f7a4_70 (by decide) ?_
            refine lv_iushr hx hb dJ6_numberOfLeadingZeros_0f7a4_71 rfl ?_
            refine lv_topi (fun v8 ev8 => ?_)
            refine lv_istore_n (lv' := [(0, .int v8), (1, .int v7)]) hx hb dJ6_numberOfLeadingZeros_0f7a4_72 rfl hl (by decide) rfl (fun ls hl => ?_)
            refine lv_iload_n hx hb dJ6_numberOfLeadingZeros_0f7a4_73 rfl (lv_at hl 1 rfl) ?_
            refine lv_iload_n hx hb dJ6_numberOfLeadingZeros_0f7a4_74 rfl (lv_at hl 0 rfl) ?_
            refine lv_iconst (v := 1) hx hb dJ6_numberOfLeadingZeros_0f7a4_75 (by decide) ?_
            refine lv_iushr hx hb dJ6_numberOfLeadingZeros_0f7a4_76 rfl ?_
            refine lv_isub hx hb dJ6_numberOfLeadingZeros_0f7a4_77 ?_
            subst ev2; subst ev7; subst ev8
            rw [show nl x = _ from ((if_pos c1).trans ((if_pos c22).trans ((if_pos c37).trans ((if_pos c51).trans ((if_neg c63).trans rfl)))))]
            exact W.iret hx hb hr (fun t ht _ => ⟨rfl, ht⟩) (fun q h => by cases h) dJ6_numberOfLeadingZeros_0f7a4_78
        · obtain ⟨v9, ev9⟩ : ∃ y : Int32, y = v2 + Int32.ofInt (-4) := ⟨_, rfl⟩
          refine lv_iinc (v := v9) (lv' := [(1, .int v9), (0, .int x)]) hx hb dJ6_numberOfLeadingZeros_0f7a4_54 hl (k := 0) rfl ev9.symm (by decide) rfl (fun ls hl => ?_)
          refine lv_iload_n hx hb dJ6_numberOfLeadingZeros_0f7a4_57 rfl (lv_at hl 1 rfl) ?_
          refine lv_iconst (v := 4) hx hb dJ6_numberOfLeadingZeros_0f7a4_58 (by decide) ?_
          refine lv_iushr hx hb dJ6_numberOfLeadingZeros_0f7a4_59 rfl ?_
          refine lv_topi (fun v10 ev10 => ?_)
          refine lv_istore_n (lv' := [(0, .int v10), (1, .int v9)]) hx hb dJ6_numberOfLeadingZeros_0f7a4_60 rfl hl (by decide) rfl (fun ls hl => ?_)
          refine lv_iload_n hx hb dJ6_numberOfLeadingZeros_0f7a4_61 rfl (lv_at hl 0 rfl) ?_
          refine lv_iconst (v := 4) hx hb dJ6_numberOfLeadingZeros_0f7a4_62 (by decide) ?_
          refine lv_icmp_lt (tgt := 73) hx hb dJ6_numberOfLeadingZeros_0f7a4_63 (by decide) (fun c63 => ?_) (fun c63 => ?_)
          · refine lv_iload_n hx hb dJ6_numberOfLeadingZeros_0f7a4_73 rfl (lv_at hl 1 rfl) ?_
            refine lv_iload_n hx hb dJ6_numberOfLeadingZeros_0f7a4_74 rfl (lv_at hl 0 rfl) ?_
            refine lv_iconst (v := 1) hx hb dJ6_numberOfLeadingZeros_0f7a4_75 (by decide) ?_
            refine lv_iushr hx hb dJ6_numberOfLeadingZeros_0f7a4_76 rfl ?_
            refine lv_isub hx hb dJ6_numberOfLeadingZeros_0f7a4_77 ?_
            subst ev2; subst ev9; subst ev10
            rw [show nl x = _ from ((if_pos c1).trans ((if_pos c22).trans ((if_pos c37).trans ((if_neg c51).trans ((if_pos c63).trans rfl)))))]
            exact W.iret hx hb hr (fun t ht _ => ⟨rfl, ht⟩) (fun q h => by cases h) dJ6_numberOfLeadingZeros_0f7a4_78
          · obtain ⟨v12, ev12⟩ : ∃ y : Int32, y = v9 + Int32.ofInt (-2) := ⟨_, rfl⟩
            refine lv_iinc (v := v12) (lv' := [(1, .int v12), (0, .int v10)]) hx hb dJ6_numberOfLeadingZeros_0f7a4_66 hl (k := 1) rfl ev12.symm (by decide) rfl (fun ls hl => ?_)
            refine lv_iload_n hx hb dJ6_numberOfLeadingZeros_0f7a4_69 rfl (lv_at hl 1 rfl) ?_
            refine lv_iconst (v := 2) hx hb dJ6_numberOfLeadingZeros_0f7a4_70 (by decide) ?_
            refine lv_iushr hx hb dJ6_numberOfLeadingZeros_0f7a4_71 rfl ?_
            refine lv_topi (fun v13 ev13 => ?_)
            refine lv_istore_n (lv' := [(0, .int v13), (1, .int v12)]) hx hb dJ6_numberOfLeadingZeros_0f7a4_72 rfl hl (by decide) rfl (fun ls hl => ?_)
            refine lv_iload_n hx hb dJ6_numberOfLeadingZeros_0f7a4_73 rfl (lv_at hl 1 rfl) ?_
            refine lv_iload_n hx hb dJ6_numberOfLeadingZeros_0f7a4_74 rfl (lv_at hl 0 rfl) ?_
            refine lv_iconst (v := 1) hx hb dJ6_numberOfLeadingZeros_0f7a4_75 (by decide) ?_
            refine lv_iushr hx hb dJ6_numberOfLeadingZeros_0f7a4_76 rfl ?_
            refine lv_isub hx hb dJ6_numberOfLeadingZeros_0f7a4_77 ?_
            subst ev2; subst ev9; subst ev10; subst ev12; subst ev13
            rw [show nl x = _ from ((if_pos c1).trans ((if_pos c22).trans ((if_pos c37).trans ((if_neg c51).trans ((if_neg c63).trans rfl)))))]
            exact W.iret hx hb hr (fun t ht _ => ⟨rfl, ht⟩) (fun q h => by cases h) dJ6_numberOfLeadingZeros_0f7a4_78
      · obtain ⟨v14, ev14⟩ : ∃ y : Int32, y = v2 + Int32.ofInt (-8) := ⟨_, rfl⟩
        refine lv_iinc (v := v14) (lv' := [(1, .int v14), (0, .int x)]) hx hb dJ6_numberOfLeadingZeros_0f7a4_40 hl (k := 0) rfl ev14.symm (by decide) rfl (fun ls hl => ?_)
        refine lv_iload_n hx hb dJ6_numberOfLeadingZeros_0f7a4_43 rfl (lv_at hl 1 rfl) ?_
        refine lv_bipush (v := 8) hx hb dJ6_numberOfLeadingZeros_0f7a4_44 (by decide) ?_
        refine lv_iushr hx hb dJ6_numberOfLeadingZeros_0f7a4_46 rfl ?_
        refine lv_topi (fun v15 ev15 => ?_)
        refine lv_istore_n (lv' := [(0, .int v15), (1, .int v14)]) hx hb dJ6_numberOfLeadingZeros_0f7a4_47 rfl hl (by decide) rfl (fun ls hl => ?_)
        refine lv_iload_n hx hb dJ6_numberOfLeadingZeros_0f7a4_48 rfl (lv_at hl 0 rfl) ?_
        refine lv_bipush (v := 16) hx hb dJ6_numberOfLeadingZeros_0f7a4_49 (by decide) ?_
        refine lv_icmp_lt (tgt := 61) hx hb dJ6_numberOfLeadingZeros_0f7a4_51 (by decide) (fun c51 => ?_) (fun c51 => ?_)
        · refine lv_iload_n hx hb dJ6_numberOfLeadingZeros_0f7a4_61 rfl (lv_at hl 0 rfl) ?_
          refine lv_iconst (v := 4) hx hb dJ6_numberOfLeadingZeros_0f7a4_62 (by decide) ?_
          refine lv_icmp_lt (tgt := 73) hx hb dJ6_numberOfLeadingZeros_0f7a4_63 (by decide) (fun c63 => ?_) (fun c63 => ?_)
          · refine lv_iload_n hx hb dJ6_numberOfLeadingZeros_0f7a4_73 rfl (lv_at hl 1 rfl) ?_
            refine lv_iload_n hx hb dJ6_numberOfLeadingZeros_0f7a4_74 rfl (lv_at hl 0 rfl) ?_
            refine lv_iconst (v := 1) hx hb dJ6_numberOfLeadingZeros_0f7a4_75 (by decide) ?_
            refine lv_iushr hx hb dJ6_numberOfLeadingZeros_0f7a4_76 rfl ?_
            refine lv_isub hx hb dJ6_numberOfLeadingZeros_0f7a4_77 ?_
            subst ev2; subst ev14; subst ev15
            rw [show nl x = _ from ((if_pos c1).trans ((if_pos c22).trans ((if_neg c37).trans ((if_pos c51).trans ((if_pos c63).trans rfl)))))]
            exact W.iret hx hb hr (fun t ht _ => ⟨rfl, ht⟩) (fun q h => by cases h) dJ6_numberOfLeadingZeros_0f7a4_78
          · obtain ⟨v18, ev18⟩ : ∃ y : Int32, y = v14 + Int32.ofInt (-2) := ⟨_, rfl⟩
            refine lv_iinc (v := v18) (lv' := [(1, .int v18), (0, .int v15)]) hx hb dJ6_numberOfLeadingZeros_0f7a4_66 hl (k := 1) rfl ev18.symm (by decide) rfl (fun ls hl => ?_)
            refine lv_iload_n hx hb dJ6_numberOfLeadingZeros_0f7a4_69 rfl (lv_at hl 1 rfl) ?_
            refine lv_iconst (v := 2) hx hb dJ6_numberOfLeadingZeros_0f7a4_70 (by decide) ?_
            refine lv_iushr hx hb dJ6_numberOfLeadingZeros_0f7a4_71 rfl ?_
            refine lv_topi (fun v19 ev19 => ?_)
            refine lv_istore_n (lv' := [(0, .int v19), (1, .int v18)]) hx hb dJ6_numberOfLeadingZeros_0f7a4_72 rfl hl (by decide) rfl (fun ls hl => ?_)
            refine lv_iload_n hx hb dJ6_numberOfLeadingZeros_0f7a4_73 rfl (lv_at hl 1 rfl) ?_
            refine lv_iload_n hx hb dJ6_numberOfLeadingZeros_0f7a4_74 rfl (lv_at hl 0 rfl) ?_
            refine lv_iconst (v := 1) hx hb dJ6_numberOfLeadingZeros_0f7a4_75 (by decide) ?_
            refine lv_iushr hx hb dJ6_numberOfLeadingZeros_0f7a4_76 rfl ?_
            refine lv_isub hx hb dJ6_numberOfLeadingZeros_0f7a4_77 ?_
            subst ev2; subst ev14; subst ev15; subst ev18; subst ev19
            rw [show nl x = _ from ((if_pos c1).trans ((if_pos c22).trans ((if_neg c37).trans ((if_pos c51).trans ((if_neg c63).trans rfl)))))]
            exact W.iret hx hb hr (fun t ht _ => ⟨rfl, ht⟩) (fun q h => by cases h) dJ6_numberOfLeadingZeros_0f7a4_78
        · obtain ⟨v20, ev20⟩ : ∃ y : Int32, y = v14 + Int32.ofInt (-4) := ⟨_, rfl⟩
          refine lv_iinc (v := v20) (lv' := [(1, .int v20), (0, .int v15)]) hx hb dJ6_numberOfLeadingZeros_0f7a4_54 hl (k := 1) rfl ev20.symm (by decide) rfl (fun ls hl => ?_)
          refine lv_iload_n hx hb dJ6_numberOfLeadingZeros_0f7a4_57 rfl (lv_at hl 1 rfl) ?_
          refine lv_iconst (v := 4) hx hb dJ6_numberOfLeadingZeros_0f7a4_58 (by decide) ?_
          refine lv_iushr hx hb dJ6_numberOfLeadingZeros_0f7a4_59 rfl ?_
          refine lv_topi (fun v21 ev21 => ?_)
          refine lv_istore_n (lv' := [(0, .int v21), (1, .int v20)]) hx hb dJ6_numberOfLeadingZeros_0f7a4_60 rfl hl (by decide) rfl (fun ls hl => ?_)
          refine lv_iload_n hx hb dJ6_numberOfLeadingZeros_0f7a4_61 rfl (lv_at hl 0 rfl) ?_
          refine lv_iconst (v := 4) hx hb dJ6_numberOfLeadingZeros_0f7a4_62 (by decide) ?_
          refine lv_icmp_lt (tgt := 73) hx hb dJ6_numberOfLeadingZeros_0f7a4_63 (by decide) (fun c63 => ?_) (fun c63 => ?_)
          · refine lv_iload_n hx hb dJ6_numberOfLeadingZeros_0f7a4_73 rfl (lv_at hl 1 rfl) ?_
            refine lv_iload_n hx hb dJ6_numberOfLeadingZeros_0f7a4_74 rfl (lv_at hl 0 rfl) ?_
            refine lv_iconst (v := 1) hx hb dJ6_numberOfLeadingZeros_0f7a4_75 (by decide) ?_
            refine lv_iushr hx hb dJ6_numberOfLeadingZeros_0f7a4_76 rfl ?_
            refine lv_isub hx hb dJ6_numberOfLeadingZeros_0f7a4_77 ?_
            subst ev2; subst ev14; subst ev15; subst ev20; subst ev21
            rw [show nl x = _ from ((if_pos c1).trans ((if_pos c22).trans ((if_neg c37).trans ((if_neg c51).trans ((if_pos c63).trans rfl)))))]
            exact W.iret hx hb hr (fun t ht _ => ⟨rfl, ht⟩) (fun q h => by cases h) dJ6_numberOfLeadingZeros_0f7a4_78
          · obtain ⟨v23, ev23⟩ : ∃ y : Int32, y = v20 + Int32.ofInt (-2) := ⟨_, rfl⟩
            refine lv_iinc (v := v23) (lv' := [(1, .int v23), (0, .int v21)]) hx hb dJ6_numberOfLeadingZeros_0f7a4_66 hl (k := 1) rfl ev23.symm (by decide) rfl (fun ls hl => ?_)
            refine lv_iload_n hx hb dJ6_numberOfLeadingZeros_0f7a4_69 rfl (lv_at hl 1 rfl) ?_
            refine lv_iconst (v := 2) hx hb dJ6_numberOfLeadingZeros_0f7a4_70 (by decide) ?_
            refine lv_iushr hx hb dJ6_numberOfLeadingZeros_0f7a4_71 rfl ?_
            refine lv_topi (fun v24 ev24 => ?_)
            refine lv_istore_n (lv' := [(0, .int v24), (1, .int v23)]) hx hb dJ6_numberOfLeadingZeros_0f7a4_72 rfl hl (by decide) rfl (fun ls hl => ?_)
            refine lv_iload_n hx hb dJ6_numberOfLeadingZeros_0f7a4_73 rfl (lv_at hl 1 rfl) ?_
            refine lv_iload_n hx hb dJ6_numberOfLeadingZeros_0f7a4_74 rfl (lv_at hl 0 rfl) ?_
            refine lv_iconst (v := 1) hx hb dJ6_numberOfLeadingZeros_0f7a4_75 (by decide) ?_
            refine lv_iushr hx hb dJ6_numberOfLeadingZeros_0f7a4_76 rfl ?_
            refine lv_isub hx hb dJ6_numberOfLeadingZeros_0f7a4_77 ?_
            subst ev2; subst ev14; subst ev15; subst ev20; subst ev21; subst ev23; subst ev24
            rw [show nl x = _ from ((if_pos c1).trans ((if_pos c22).trans ((if_neg c37).trans ((if_neg c51).trans ((if_neg c63).trans rfl)))))]
            exact W.iret hx hb hr (fun t ht _ => ⟨rfl, ht⟩) (fun q h => by cases h) dJ6_numberOfLeadingZeros_0f7a4_78
    · obtain ⟨v25, ev25⟩ : ∃ y : Int32, y = v2 + Int32.ofInt (-16) := ⟨_, rfl⟩
      refine lv_iinc (v := v25) (lv' := [(1, .int v25), (0, .int x)]) hx hb dJ6_numberOfLeadingZeros_0f7a4_25 hl (k := 0) rfl ev25.symm (by decide) rfl (fun ls hl => ?_)
      refine lv_iload_n hx hb dJ6_numberOfLeadingZeros_0f7a4_28 rfl (lv_at hl 1 rfl) ?_
      refine lv_bipush (v := 16) hx hb dJ6_numberOfLeadingZeros_0f7a4_29 (by decide) ?_
      refine lv_iushr hx hb dJ6_numberOfLeadingZeros_0f7a4_31 rfl ?_
      refine lv_topi (fun v26 ev26 => ?_)
      refine lv_istore_n (lv' := [(0, .int v26), (1, .int v25)]) hx hb dJ6_numberOfLeadingZeros_0f7a4_32 rfl hl (by decide) rfl (fun ls hl => ?_)
      refine lv_iload_n hx hb dJ6_numberOfLeadingZeros_0f7a4_33 rfl (lv_at hl 0 rfl) ?_
      refine lv_sipush (v := 256) hx hb dJ6_numberOfLeadingZeros_0f7a4_34 (by decide) ?_
      refine lv_icmp_lt (tgt := 48) hx hb dJ6_numberOfLeadingZeros_0f7a4_37 (by decide) (fun c37 => ?_) (fun c37 => ?_)
      · refine lv_iload_n hx hb dJ6_numberOfLeadingZeros_0f7a4_48 rfl (lv_at hl 0 rfl) ?_
        refine lv_bipush (v := 16) hx hb dJ6_numberOfLeadingZeros_0f7a4_49 (by decide) ?_
        refine lv_icmp_lt (tgt := 61) hx hb dJ6_numberOfLeadingZeros_0f7a4_51 (by decide) (fun c51 => ?_) (fun c51 => ?_)
        · refine lv_iload_n hx hb dJ6_numberOfLeadingZeros_0f7a4_61 rfl (lv_at hl 0 rfl) ?_
          refine lv_iconst (v := 4) hx hb dJ6_numberOfLeadingZeros_0f7a4_62 (by decide) ?_
          refine lv_icmp_lt (tgt := 73) hx hb dJ6_numberOfLeadingZeros_0f7a4_63 (by decide) (fun c63 => ?_) (fun c63 => ?_)
          · refine lv_iload_n hx hb dJ6_numberOfLeadingZeros_0f7a4_73 rfl (lv_at hl 1 rfl) ?_
            refine lv_iload_n hx hb dJ6_numberOfLeadingZeros_0f7a4_74 rfl (lv_at hl 0 rfl) ?_
            refine lv_iconst (v := 1) hx hb dJ6_numberOfLeadingZeros_0f7a4_75 (by decide) ?_
            refine lv_iushr hx hb dJ6_numberOfLeadingZeros_0f7a4_76 rfl ?_
            refine lv_isub hx hb dJ6_numberOfLeadingZeros_0f7a4_77 ?_
            subst ev2; subst ev25; subst ev26
            rw [show nl x = _ from ((if_pos c1).trans ((if_neg c22).trans ((if_pos c37).trans ((if_pos c51).trans ((if_pos c63).trans rfl)))))]
            exact W.iret hx hb hr (fun t ht _ => ⟨rfl, ht⟩) (fun q h => by cases h) dJ6_numberOfLeadingZeros_0f7a4_78
          · obtain ⟨v30, ev30⟩ : ∃ y : Int32, y = v25 + Int32.ofInt (-2) := ⟨_, rfl⟩
            refine lv_iinc (v := v30) (lv' := [(1, .int v30), (0, .int v26)]) hx hb dJ6_numberOfLeadingZeros_0f7a4_66 hl (k := 1) rfl ev30.symm (by decide) rfl (fun ls hl => ?_)
            refine lv_iload_n hx hb dJ6_numberOfLeadingZeros_0f7a4_69 rfl (lv_at hl 1 rfl) ?_
            refine lv_iconst (v := 2) hx hb dJ6_numberOfLeadingZeros_0f7a4_70 (by decide) ?_
            refine lv_iushr hx hb dJ6_numberOfLeadingZeros_0f7a4_71 rfl ?_
            refine lv_topi (fun v31 ev31 => ?_)
            refine lv_istore_n (lv' := [(0, .int v31), (1, .int v30)]) hx hb dJ6_numberOfLeadingZeros_0f7a4_72 rfl hl (by decide) rfl (fun ls hl => ?_)
            refine lv_iload_n hx hb dJ6_numberOfLeadingZeros_0f7a4_73 rfl (lv_at hl 1 rfl) ?_
            refine lv_iload_n hx hb dJ6_numberOfLeadingZeros_0f7a4_74 rfl (lv_at hl 0 rfl) ?_
            refine lv_iconst (v := 1) hx hb dJ6_numberOfLeadingZeros_0f7a4_75 (by decide) ?_
            refine lv_iushr hx hb dJ6_numberOfLeadingZeros_0f7a4_76 rfl ?_
            refine lv_isub hx hb dJ6_numberOfLeadingZeros_0f7a4_77 ?_
            subst ev2; subst ev25; subst ev26; subst ev30; subst ev31
            rw [show nl x = _ from ((if_pos c1).trans ((if_neg c22).trans ((if_pos c37).trans ((if_pos c51).trans ((if_neg c63).trans rfl)))))]
            exact W.iret hx hb hr (fun t ht _ => ⟨rfl, ht⟩) (fun q h => by cases h) dJ6_numberOfLeadingZeros_0f7a4_78
        · obtain ⟨v32, ev32⟩ : ∃ y : Int32, y = v25 + Int32.ofInt (-4) := ⟨_, rfl⟩
          refine lv_iinc (v := v32) (lv' := [(1, .int v32), (0, .int v26)]) hx hb dJ6_numberOfLeadingZeros_0f7a4_54 hl (k := 1) rfl ev32.symm (by decide) rfl (fun ls hl => ?_)
          refine lv_iload_n hx hb dJ6_numberOfLeadingZeros_0f7a4_57 rfl (lv_at hl 1 rfl) ?_
          refine lv_iconst (v := 4) hx hb dJ6_numberOfLeadingZeros_0f7a4_58 (by decide) ?_
          refine lv_iushr hx hb dJ6_numberOfLeadingZeros_0f7a4_59 rfl ?_
          refine lv_topi (fun v33 ev33 => ?_)
          refine lv_istore_n (lv' := [(0, .int v33), (1, .int v32)]) hx hb dJ6_numberOfLeadingZeros_0f7a4_60 rfl hl (by decide) rfl (fun ls hl => ?_)
          refine lv_iload_n hx hb dJ6_numberOfLeadingZeros_0f7a4_61 rfl (lv_at hl 0 rfl) ?_
          refine lv_iconst (v := 4) hx hb dJ6_numberOfLeadingZeros_0f7a4_62 (by decide) ?_
          refine lv_icmp_lt (tgt := 73) hx hb dJ6_numberOfLeadingZeros_0f7a4_63 (by decide) (fun c63 => ?_) (fun c63 => ?_)
          · refine lv_iload_n hx hb dJ6_numberOfLeadingZeros_0f7a4_73 rfl (lv_at hl 1 rfl) ?_
            refine lv_iload_n hx hb dJ6_numberOfLeadingZeros_0f7a4_74 rfl (lv_at hl 0 rfl) ?_
            refine lv_iconst (v := 1) hx hb dJ6_numberOfLeadingZeros_0f7a4_75 (by decide) ?_
            refine lv_iushr hx hb dJ6_numberOfLeadingZeros_0f7a4_76 rfl ?_
            refine lv_isub hx hb dJ6_numberOfLeadingZeros_0f7a4_77 ?_
            subst ev2; subst ev25; subst ev26; subst ev32; subst ev33
            rw [show nl x = _ from ((if_pos c1).trans ((if_neg c22).trans ((if_pos c37).trans ((if_neg c51).trans ((if_pos c63).trans rfl)))))]
            exact W.iret hx hb hr (fun t ht _ => ⟨rfl, ht⟩) (fun q h => by cases h) dJ6_numberOfLeadingZeros_0f7a4_78
          · obtain ⟨v35, ev35⟩ : ∃ y : Int32, y = v32 + Int32.ofInt (-2) := ⟨_, rfl⟩
            refine lv_iinc (v := v35) (lv' := [(1, .int v35), (0, .int v33)]) hx hb dJ6_numberOfLeadingZeros_0f7a4_66 hl (k := 1) rfl ev35.symm (by decide) rfl (fun ls hl => ?_)
            refine lv_iload_n hx hb dJ6_numberOfLeadingZeros_0f7a4_69 rfl (lv_at hl 1 rfl) ?_
            refine lv_iconst (v := 2) hx hb dJ6_numberOfLeadingZeros_0f7a4_70 (by decide) ?_
            refine lv_iushr hx hb dJ6_numberOfLeadingZeros_0f7a4_71 rfl ?_
            refine lv_topi (fun v36 ev36 => ?_)
            refine lv_istore_n (lv' := [(0, .int v36), (1, .int v35)]) hx hb dJ6_numberOfLeadingZeros_0f7a4_72 rfl hl (by decide) rfl (fun ls hl => ?_)
            refine lv_iload_n hx hb dJ6_numberOfLeadingZeros_0f7a4_73 rfl (lv_at hl 1 rfl) ?_
            refine lv_iload_n hx hb dJ6_numberOfLeadingZeros_0f7a4_74 rfl (lv_at hl 0 rfl) ?_
            refine lv_iconst (v := 1) hx hb dJ6_numberOfLeadingZeros_0f7a4_75 (by decide) ?_
            refine lv_iushr hx hb dJ6_numberOfLeadingZeros_0f7a4_76 rfl ?_
            refine lv_isub hx hb dJ6_numberOfLeadingZeros_0f7a4_77 ?_
            subst ev2; subst ev25; subst ev26; subst ev32; subst ev33; subst ev35; subst ev36
            rw [show nl x = _ from ((if_pos c1).trans ((if_neg c22).trans ((if_pos c37).trans ((if_neg c51).trans ((if_neg c63).trans rfl)))))]
            exact W.iret hx hb hr (fun t ht _ => ⟨rfl, ht⟩) (fun q h => by cases h) dJ6_numberOfLeadingZeros_0f7a4_78
      · obtain ⟨v37, ev37⟩ : ∃ y : Int32, y = v25 + Int32.ofInt (-8) := ⟨_, rfl⟩
        refine lv_iinc (v := v37) (lv' := [(1, .int v37), (0, .int v26)]) hx hb dJ6_numberOfLeadingZeros_0f7a4_40 hl (k := 1) rfl ev37.symm (by decide) rfl (fun ls hl => ?_)
        refine lv_iload_n hx hb dJ6_numberOfLeadingZeros_0f7a4_43 rfl (lv_at hl 1 rfl) ?_
        refine lv_bipush (v := 8) hx hb dJ6_numberOfLeadingZeros_0f7a4_44 (by decide) ?_
        refine lv_iushr hx hb dJ6_numberOfLeadingZeros_0f7a4_46 rfl ?_
        refine lv_topi (fun v38 ev38 => ?_)
        refine lv_istore_n (lv' := [(0, .int v38), (1, .int v37)]) hx hb dJ6_numberOfLeadingZeros_0f7a4_47 rfl hl (by decide) rfl (fun ls hl => ?_)
        refine lv_iload_n hx hb dJ6_numberOfLeadingZeros_0f7a4_48 rfl (lv_at hl 0 rfl) ?_
        refine lv_bipush (v := 16) hx hb dJ6_numberOfLeadingZeros_0f7a4_49 (by decide) ?_
        refine lv_icmp_lt (tgt := 61) hx hb dJ6_numberOfLeadingZeros_0f7a4_51 (by decide) (fun c51 => ?_) (fun c51 => ?_)
        · refine lv_iload_n hx hb dJ6_numberOfLeadingZeros_0f7a4_61 rfl (lv_at hl 0 rfl) ?_
          refine lv_iconst (v := 4) hx hb dJ6_numberOfLeadingZeros_0f7a4_62 (by decide) ?_
          refine lv_icmp_lt (tgt := 73) hx hb dJ6_numberOfLeadingZeros_0f7a4_63 (by decide) (fun c63 => ?_) (fun c63 => ?_)
          · refine lv_iload_n hx hb dJ6_numberOfLeadingZeros_0f7a4_73 rfl (lv_at hl 1 rfl) ?_
            refine lv_iload_n hx hb dJ6_numberOfLeadingZeros_0f7a4_74 rfl (lv_at hl 0 rfl) ?_
            refine lv_iconst (v := 1) hx hb dJ6_numberOfLeadingZeros_0f7a4_75 (by decide) ?_
            refine lv_iushr hx hb dJ6_numberOfLeadingZeros_0f7a4_76 rfl ?_
            refine lv_isub hx hb dJ6_numberOfLeadingZeros_0f7a4_77 ?_
            subst ev2; subst ev25; subst ev26; subst ev37; subst ev38
            rw [show nl x = _ from ((if_pos c1).trans ((if_neg c22).trans ((if_neg c37).trans ((if_pos c51).trans ((if_pos c63).trans rfl)))))]
            exact W.iret hx hb hr (fun t ht _ => ⟨rfl, ht⟩) (fun q h => by cases h) dJ6_numberOfLeadingZeros_0f7a4_78
          · obtain ⟨v41, ev41⟩ : ∃ y : Int32, y = v37 + Int32.ofInt (-2) := ⟨_, rfl⟩
            refine lv_iinc (v := v41) (lv' := [(1, .int v41), (0, .int v38)]) hx hb dJ6_numberOfLeadingZeros_0f7a4_66 hl (k := 1) rfl ev41.symm (by decide) rfl (fun ls hl => ?_)
            refine lv_iload_n hx hb dJ6_numberOfLeadingZeros_0f7a4_69 rfl (lv_at hl 1 rfl) ?_
            refine lv_iconst (v := 2) hx hb dJ6_numberOfLeadingZeros_0f7a4_70 (by decide) ?_
            refine lv_iushr hx hb dJ6_numberOfLeadingZeros_0f7a4_71 rfl ?_
            refine lv_topi (fun v42 ev42 => ?_)
            refine lv_istore_n (lv' := [(0, .int v42), (1, .int v41)]) hx hb dJ6_numberOfLeadingZeros_0f7a4_72 rfl hl (by decide) rfl (fun ls hl => ?_)
            refine lv_iload_n hx hb dJ6_numberOfLeadingZeros_0f7a4_73 rfl (lv_at hl 1 rfl) ?_
            refine lv_iload_n hx hb dJ6_numberOfLeadingZeros_0f7a4_74 rfl (lv_at hl 0 rfl) ?_
            refine lv_iconst (v := 1) hx hb dJ6_numberOfLeadingZeros_0f7a4_75 (by decide) ?_
            refine lv_iushr hx hb dJ6_numberOfLeadingZeros_0f7a4_76 rfl ?_
            refine lv_isub hx hb dJ6_numberOfLeadingZeros_0f7a4_77 ?_
            subst ev2; subst ev25; subst ev26; subst ev37; subst ev38; subst ev41; subst ev42
            rw [show nl x = _ from ((if_pos c1).trans ((if_neg c22).trans ((if_neg c37).trans ((if_pos c51).trans ((if_neg c63).trans rfl)))))]
            exact W.iret hx hb hr (fun t ht _ => ⟨rfl, ht⟩) (fun q h => by cases h) dJ6_numberOfLeadingZeros_0f7a4_78
        · obtain ⟨v43, ev43⟩ : ∃ y : Int32, y = v37 + Int32.ofInt (-4) := ⟨_, rfl⟩
          refine lv_iinc (v := v43) (lv' := [(1, .int v43), (0, .int v38)]) hx hb dJ6_numberOfLeadingZeros_0f7a4_54 hl (k := 1) rfl ev43.symm (by decide) rfl (fun ls hl => ?_)
          refine lv_iload_n hx hb dJ6_numberOfLeadingZeros_0f7a4_57 rfl (lv_at hl 1 rfl) ?_
          refine lv_iconst (v := 4) hx hb dJ6_numberOfLeadingZeros_0f7a4_58 (by decide) ?_
          refine lv_iushr hx hb dJ6_numberOfLeadingZeros_0f7a4_59 rfl ?_
          refine lv_topi (fun v44 ev44 => ?_)
          refine lv_istore_n (lv' := [(0, .int v44), (1, .int v43)]) hx hb dJ6_numberOfLeadingZeros_0f7a4_60 rfl hl (by decide) rfl (fun ls hl => ?_)
          refine lv_iload_n hx hb dJ6_numberOfLeadingZeros_0f7a4_61 rfl (lv_at hl 0 rfl) ?_
          refine lv_iconst (v := 4) hx hb dJ6_numberOfLeadingZeros_0f7a4_62 (by decide) ?_
          refine lv_icmp_lt (tgt := 73) hx hb dJ6_numberOfLeadingZeros_0f7a4_63 (by decide) (fun c63 => ?_) (fun c63 => ?_)
          · refine lv_iload_n hx hb dJ6_numberOfLeadingZeros_0f7a4_73 rfl (lv_at hl 1 rfl) ?_
            refine lv_iload_n hx hb dJ6_numberOfLeadingZeros_0f7a4_74 rfl (lv_at hl 0 rfl) ?_
            refine lv_iconst (v := 1) hx hb dJ6_numberOfLeadingZeros_0f7a4_75 (by decide) ?_
            refine lv_iushr hx hb dJ6_numberOfLeadingZeros_0f7a4_76 rfl ?_
            refine lv_isub hx hb dJ6_numberOfLeadingZeros_0f7a4_77 ?_
            subst ev2; subst ev25; subst ev26; subst ev37; subst ev38; subst ev43; subst ev44
            rw [show nl x = _ from ((if_pos c1).trans ((if_neg c22).trans ((if_neg c37).trans ((if_neg c51).trans ((if_pos c63).trans rfl)))))]
            exact W.iret hx hb hr (fun t ht _ => ⟨rfl, ht⟩) (fun q h => by cases h) dJ6_numberOfLeadingZeros_0f7a4_78
          · obtain ⟨v46, ev46⟩ : ∃ y : Int32, y = v43 + Int32.ofInt (-2) := ⟨_, rfl⟩
            refine lv_iinc (v := v46) (lv' := [(1, .int v46), (0, .int v44)]) hx hb dJ6_numberOfLeadingZeros_0f7a4_66 hl (k := 1) rfl ev46.symm (by decide) rfl (fun ls hl => ?_)
            refine lv_iload_n hx hb dJ6_numberOfLeadingZeros_0f7a4_69 rfl (lv_at hl 1 rfl) ?_
            refine lv_iconst (v := 2) hx hb dJ6_numberOfLeadingZeros_0f7a4_70 (by decide) ?_
            refine lv_iushr hx hb dJ6_numberOfLeadingZeros_0f7a4_71 rfl ?_
            refine lv_topi (fun v47 ev47 => ?_)
            refine lv_istore_n (lv' := [(0, .int v47), (1, .int v46)]) hx hb dJ6_numberOfLeadingZeros_0f7a4_72 rfl hl (by decide) rfl (fun ls hl => ?_)
            refine lv_iload_n hx hb dJ6_numberOfLeadingZeros_0f7a4_73 rfl (lv_at hl 1 rfl) ?_
            refine lv_iload_n hx hb dJ6_numberOfLeadingZeros_0f7a4_74 rfl (lv_at hl 0 rfl) ?_
            refine lv_iconst (v := 1) hx hb dJ6_numberOfLeadingZeros_0f7a4_75 (by decide) ?_
            refine lv_iushr hx hb dJ6_numberOfLeadingZeros_0f7a4_76 rfl ?_
            refine lv_isub hx hb dJ6_numberOfLeadingZeros_0f7a4_77 ?_
            subst ev2; subst ev25; subst ev26; subst ev37; subst ev38; subst ev43; subst ev44; subst ev46; subst ev47
            rw [show nl x = _ from ((if_pos c1).trans ((if_neg c22).trans ((if_neg c37).trans ((if_neg c51).trans ((if_neg c63).trans rfl)))))]
            exact W.iret hx hb hr (fun t ht _ => ⟨rfl, ht⟩) (fun q h => by cases h) dJ6_numberOfLeadingZeros_0f7a4_78
  · refine lv_iload_n hx hb dJ6_numberOfLeadingZeros_0f7a4_4 rfl (lv_at hl 0 rfl) ?_
    refine lv_if_ne (tgt := 13) hx hb dJ6_numberOfLeadingZeros_0f7a4_5 (by decide) (fun c5 => ?_) (fun c5 => ?_)
    · refine lv_iconst (v := 0) hx hb dJ6_numberOfLeadingZeros_0f7a4_13 (by decide) ?_
      skip
      rw [show nl x = _ from ((if_neg c1).trans ((if_neg c5).trans rfl))]
      exact W.iret hx hb hr (fun t ht _ => ⟨rfl, ht⟩) (fun q h => by cases h) dJ6_numberOfLeadingZeros_0f7a4_14
    · refine lv_bipush (v := 32) hx hb dJ6_numberOfLeadingZeros_0f7a4_8 (by decide) ?_
      refine lv_goto (tgt := 14) hx hb dJ6_numberOfLeadingZeros_0f7a4_10 (by decide) ?_
      skip
      rw [show nl x = _ from ((if_neg c1).trans ((if_pos c5).trans rfl))]
      exact W.iret hx hb hr (fun t ht _ => ⟨rfl, ht⟩) (fun q h => by cases h) dJ6_numberOfLeadingZeros_0f7a4_14
set_option maxHeartbeats 4000000 in
set_option maxRecDepth 100000 in
theorem hc_loop {p : Program} {l : Launch} {e : Env} {s : State} {m : MethodId} {args : Array Value} {below : List Frame} {meth : Method} {c : Code} {R : Room} (hx : p.tables.exec = Jvm.exec) (hb : c.code = cX11_hecOf) (hr : meth.sig.returnType = some .int) (hlocks : meth.locks = false) (hml : c.maxLocals = 4) (hown : s.vm.findClass RX11 = some m.cls) (hts : ∀ w ∈ wsX11_hecOf, w.before args s = true) (hP : hc_P s) (o : Int32) : ∀ (n : Nat), n < 9 → ∀ (r k : Int32), k = k4 n → ∀ (ls : Array Slot), lv_has ls 4 [(2, .int k), (1, .int r), (0, .int o)] → W p l e R s m args below meth c s.heap [] 0 0 (MQ below (pf_Q (hc_run o n r ^^^ 85)) args s 0 0 (fun _ => False)) (F0 m 5 ls []) := by
  obtain ⟨tb, hZ, hT⟩ := hP
  have hS : va_S (fun _ => False) s.heap s.heap [] := va_S.rf
  intro n
  induction n with
  | zero =>
    intro hn r k hk ls hl
    refine lv_iload_n hx hb dX11_hecOf_5 rfl (lv_at hl 0 rfl) ?_
    refine lv_if_lt (tgt := 40) hx hb dX11_hecOf_6 (by decide) (fun c6 => ?_) (fun c6 => ?_)
    · refine lv_iload_n hx hb dX11_hecOf_40 rfl (lv_at hl 1 rfl) ?_
      refine lv_bipush (v := 85) hx hb dX11_hecOf_41 (by decide) ?_
      refine lv_ixor hx hb dX11_hecOf_43 ?_
      exact W.iret hx hb hr (fun t ht _ => ⟨rfl, ht⟩) (fun q h => by cases h) dX11_hecOf_44
    · exact absurd ((k4_neg 0 hn).mpr rfl) (by rw [← hk]; assumption)
  | succ n ih =>
    intro hn r k hk ls hl
    have hnn : ¬ k < 0 := fun h => by rw [hk] at h; exact absurd ((k4_neg (n + 1) hn).mp h) (by omega)
    refine lv_iload_n hx hb dX11_hecOf_5 rfl (lv_at hl 0 rfl) ?_
    refine lv_if_lt (tgt := 40) hx hb dX11_hecOf_6 (by decide) (fun c6 => ?_) (fun c6 => ?_)
    · exact absurd (by assumption) hnn
    · refine lv_iload_n hx hb dX11_hecOf_9 rfl (lv_at hl 1 rfl) ?_
      refine lv_iconst (v := 4) hx hb dX11_hecOf_10 (by decide) ?_
      refine lv_iushr hx hb dX11_hecOf_11 rfl ?_
      refine lv_iload_n hx hb dX11_hecOf_12 rfl (lv_at hl 2 rfl) ?_
      refine lv_iload_n hx hb dX11_hecOf_13 rfl (lv_at hl 0 rfl) ?_
      refine lv_iushr hx hb dX11_hecOf_14 rfl ?_
      refine lv_ixor hx hb dX11_hecOf_15 ?_
      refine lv_bipush (v := 15) hx hb dX11_hecOf_16 (by decide) ?_
      refine lv_iand hx hb dX11_hecOf_18 ?_
      refine lv_topi (fun v2 ev2 => ?_)
      refine lv_istore_n (lv' := [(3, .int v2), (2, .int k), (1, .int r), (0, .int o)]) hx hb dX11_hecOf_19 rfl hl (by decide) rfl (fun ls hl => ?_)
      refine lv_iload_n hx hb dX11_hecOf_20 rfl (lv_at hl 2 rfl) ?_
      refine lv_iconst (v := 4) hx hb dX11_hecOf_21 (by decide) ?_
      refine lv_ishl hx hb dX11_hecOf_22 ?_
      refine lv_sipush (v := 255) hx hb dX11_hecOf_23 (by decide) ?_
      refine lv_iand hx hb dX11_hecOf_26 ?_
      refine va_gets hx hb hZ hS hown (hts (.fieldLink RX11 349 "CellSwitch" "HEC_STEPS" "[I") (by decide +kernel)) (fun _ h => h) dX11_hecOf_27 ?_
      refine lv_iload_n hx hb dX11_hecOf_30 rfl (lv_at hl 0 rfl) ?_
      refine va_ti hx hb hT hS (by rw [ev2]; exact hc_in _) rfl dX11_hecOf_31 ?_
      refine lv_ixor hx hb dX11_hecOf_32 ?_
      refine lv_topi (fun v3 ev3 => ?_)
      refine lv_istore_n (lv' := [(1, .int v3), (3, .int v2), (2, .int k), (0, .int o)]) hx hb dX11_hecOf_33 rfl hl (by decide) rfl (fun ls hl => ?_)
      obtain ⟨v4, ev4⟩ : ∃ y : Int32, y = k + Int32.ofInt (-4) := ⟨_, rfl⟩
      refine lv_iinc (v := v4) (lv' := [(2, .int v4), (1, .int v3), (3, .int v2), (0, .int o)]) hx hb dX11_hecOf_34 hl (k := 2) rfl ev4.symm (by decide) rfl (fun ls hl => ?_)
      refine lv_goto (tgt := 5) hx hb dX11_hecOf_37 (by decide) ?_
      have hs : v3 = hc_step o r (k4 (n + 1)) := by subst ev2; subst ev3; subst ev4; subst hk; rfl
      have hq : hc_run o (n + 1) r = hc_run o n v3 := by rw [hs]; rfl
      rw [hq]
      exact ih (by omega) v3 v4 (by rw [ev4, hk]; exact k4_succ n (by omega)) ls (lv_sub hl [0, 1, 3] rfl)
set_option maxHeartbeats 4000000 in
set_option maxRecDepth 100000 in
theorem c_hc (l : Launch) (o : Int32) : Met l yX11_hecOf wsX11_hecOf rm0 (va_Pc [.int o] hc_P) (pf_Q (hc o)) 0 0 (fun _ => False) := by
  refine Met.ofW (cc := cX11_hecOf) (maxL := 4) (ret := some .int) (by decide) rfl ?_
  intro p e s m args below meth c s₁ B hml hv
  obtain ⟨rfl, hP⟩ := hv
  have hx := B.exec
  have hb := B.bytes
  have hr := B.returns
  have hts := atoms_spec (ws := wsX11_hecOf) B.pre
  have hown : s.vm.findClass RX11 = some m.cls := findClass_of_methodNamed B.named
  have hlocks := B.notSynchronized
  have hl := lv_entry ([.int o]) (n := 4) (Nat.le_of_ble_eq_true rfl)
  rw [lg_entry_eq]
  generalize (lg_sl ([.int o]) ++ List.replicate (4 - (lg_sl ([.int o])).length) Slot.unset).toArray = ls at hl ⊢
  have hl : lv_has ls 4 [(0, .int o)] := hl
  refine lv_iconst (v := 0) hx hb dX11_hecOf_0 (by decide) ?_
  refine lv_topi (fun v1 ev1 => ?_)
  refine lv_istore_n (lv' := [(1, .int v1), (0, .int o)]) hx hb dX11_hecOf_1 rfl hl (by decide) rfl (fun ls hl => ?_)
  refine lv_bipush (v := 28) hx hb dX11_hecOf_2 (by decide) ?_
  refine lv_topi (fun v2 ev2 => ?_)
  refine lv_istore_n (lv' := [(2, .int v2), (1, .int v1), (0, .int o)]) hx hb dX11_hecOf_4 rfl hl (by decide) rfl (fun ls hl => ?_)
  subst ev1
  exact hc_loop hx hb hr hlocks hml hown hts hP o 8 (by decide) 0 v2 (by rw [ev2]; decide) ls (lv_sub hl [0, 1, 2] rfl)
set_option maxHeartbeats 4000000 in
set_option maxRecDepth 100000 in
theorem wb_loop {p : Program} {l : Launch} {e : Env} {s : State} {m : MethodId} {args : Array Value} {below : List Frame} {meth : Method} {c : Code}  (hx : p.tables.exec = Jvm.exec) (hb : c.code = cX11_wrongBit) (hr : meth.sig.returnType = some .int) (hlocks : meth.locks = false) (hml : c.maxLocals = 3) (hown : s.vm.findClass RX11 = some m.cls) (hts : ∀ w ∈ wsX11_wrongBit, w.before args s = true) (hP : hc_P s) (o h : Int32) : ∀ (n : Nat), n < 33 → ∀ (k : Int32), k = up 32 n → ∀ (ls : Array Slot), lv_has ls 3 [(2, .int k), (1, .int h), (0, .int o)] → W p l e rm_wb s m args below meth c s.heap [] 0 0 (MQ below (pf_Q (wb_run o h n)) args s 0 0 (fun _ => False)) (F0 m 2 ls []) := by
  intro n
  induction n with
  | zero =>
    intro hn k hk ls hl
    refine lv_iload_n hx hb dX11_wrongBit_2 rfl (lv_at hl 0 rfl) ?_
    refine lv_bipush (v := 32) hx hb dX11_wrongBit_3 (by decide) ?_
    refine lv_icmp_ge (tgt := 31) hx hb dX11_wrongBit_5 (by decide) (fun c5 => ?_) (fun c5 => ?_)
    · refine lv_iload_n hx hb dX11_wrongBit_31 rfl (lv_at hl 2 rfl) ?_
      refine pf_call (va_runS (As := [.int o]) (rest := []) ⟨hx, hb, hml, hown, hts⟩ (c_hc l o) (va_cwS 1 hts gX11_wrongBit_X11_hecOf rfl rfl rfl (by decide +kernel) ⟨Nat.le_of_ble_eq_true rfl, Nat.le_of_ble_eq_true rfl⟩) ⟨fun a U g mk q => ⟨q.1, hc_P.moved (u := U) (U := U.calling g mk a) (Vm.Alike.refl U.vm) rfl q.2⟩, fun U hU hW => ⟨rfl, hc_P.moved hW.alike hU hP⟩⟩ rfl rfl hl.1 rfl (lv_room (Nat.le_of_ble_eq_true rfl)) dX11_wrongBit_32 ⟨Nat.le_of_ble_eq_true rfl, Nat.le_of_ble_eq_true rfl⟩) ?_
      refine lv_iload_n hx hb dX11_wrongBit_35 rfl (lv_at hl 1 rfl) ?_
      refine lv_ixor hx hb dX11_wrongBit_36 ?_
      refine lv_topi (fun v2 ev2 => ?_)
      refine lv_istore_n (lv' := [(2, .int v2), (1, .int h), (0, .int o)]) hx hb dX11_wrongBit_37 rfl hl (by decide) rfl (fun ls hl => ?_)
      refine lv_iload_n hx hb dX11_wrongBit_38 rfl (lv_at hl 0 rfl) ?_
      refine pf_call (va_runS (As := [.int v2]) (rest := []) ⟨hx, hb, hml, hown, hts⟩ (c_bc l v2) (va_cwS 1 hts gX11_wrongBit_J6_bitCount_0f7a4 rfl rfl rfl (by decide +kernel) ⟨Nat.le_of_ble_eq_true rfl, Nat.le_of_ble_eq_true rfl⟩) ⟨fun _ _ _ _ q => q, fun _ _ _ => ⟨rfl, trivial⟩⟩ rfl rfl hl.1 rfl (lv_room (Nat.le_of_ble_eq_true rfl)) dX11_wrongBit_39 ⟨Nat.le_of_ble_eq_true rfl, Nat.le_of_ble_eq_true rfl⟩) ?_
      refine lv_iconst (v := 1) hx hb dX11_wrongBit_42 (by decide) ?_
      refine lv_icmp_ne (tgt := 59) hx hb dX11_wrongBit_43 (by decide) (fun c43 => ?_) (fun c43 => ?_)
      · refine lv_iconst (v := (-1)) hx hb dX11_wrongBit_59 (by decide) ?_
        subst ev2
        rw [show wb_run o h 0 = _ from (show wb_run o h 0 = wb_t (hc o ^^^ h) from rfl).trans ((if_neg c43).trans rfl)]
        exact W.iret hx hb hr (fun t ht _ => ⟨rfl, ht⟩) (fun q h => by cases h) dX11_wrongBit_60
      · refine lv_bipush (v := 32) hx hb dX11_wrongBit_46 (by decide) ?_
        refine lv_iload_n hx hb dX11_wrongBit_48 rfl (lv_at hl 0 rfl) ?_
        refine pf_call (va_runS (As := [.int v2]) (rest := [.int 32]) ⟨hx, hb, hml, hown, hts⟩ (c_nl l v2) (va_cwS 1 hts gX11_wrongBit_J6_numberOfLeadingZeros_0f7a4 rfl rfl rfl (by decide +kernel) ⟨Nat.le_of_ble_eq_true rfl, Nat.le_of_ble_eq_true rfl⟩) ⟨fun _ _ _ _ q => q, fun _ _ _ => ⟨rfl, trivial⟩⟩ rfl rfl hl.1 rfl (lv_room (Nat.le_of_ble_eq_true rfl)) dX11_wrongBit_49 ⟨Nat.le_of_ble_eq_true rfl, Nat.le_of_ble_eq_true rfl⟩) ?_
        refine lv_iadd hx hb dX11_wrongBit_52 ?_
        refine lv_bipush (v := 24) hx hb dX11_wrongBit_53 (by decide) ?_
        refine lv_isub hx hb dX11_wrongBit_55 ?_
        refine lv_goto (tgt := 60) hx hb dX11_wrongBit_56 (by decide) ?_
        subst ev2
        rw [show wb_run o h 0 = _ from (show wb_run o h 0 = wb_t (hc o ^^^ h) from rfl).trans ((if_pos c43).trans rfl)]
        exact W.iret hx hb hr (fun t ht _ => ⟨rfl, ht⟩) (fun q h => by cases h) dX11_wrongBit_60
    · exact absurd ((up32_ge 0 hn).mpr rfl) (by rw [← hk]; assumption)
  | succ n ih =>
    intro hn k hk ls hl
    have hnn : ¬ (32 : Int32) ≤ k := fun h => by rw [hk] at h; exact absurd ((up32_ge (n + 1) hn).mp h) (by omega)
    have hq : wb_run o h (n + 1) = (if hc (o ^^^ ((1 : Int32) <<< ((31 - k) &&& 31))) = h then k else wb_run o h n) := by rw [hk]; rfl
    refine lv_iload_n hx hb dX11_wrongBit_2 rfl (lv_at hl 0 rfl) ?_
    refine lv_bipush (v := 32) hx hb dX11_wrongBit_3 (by decide) ?_
    refine lv_icmp_ge (tgt := 31) hx hb dX11_wrongBit_5 (by decide) (fun c5 => ?_) (fun c5 => ?_)
    · exact absurd (by assumption) hnn
    · refine lv_iload_n hx hb dX11_wrongBit_8 rfl (lv_at hl 2 rfl) ?_
      refine lv_iconst (v := 1) hx hb dX11_wrongBit_9 (by decide) ?_
      refine lv_bipush (v := 31) hx hb dX11_wrongBit_10 (by decide) ?_
      refine lv_iload_n hx hb dX11_wrongBit_12 rfl (lv_at hl 0 rfl) ?_
      refine lv_isub hx hb dX11_wrongBit_13 ?_
      refine lv_ishl hx hb dX11_wrongBit_14 ?_
      refine lv_ixor hx hb dX11_wrongBit_15 ?_
      refine pf_call (va_runS (As := [.int (o ^^^ ((1 : Int32) <<< ((31 - k) &&& 31)))]) (rest := []) ⟨hx, hb, hml, hown, hts⟩ (c_hc l (o ^^^ ((1 : Int32) <<< ((31 - k) &&& 31)))) (va_cwS 1 hts gX11_wrongBit_X11_hecOf rfl rfl rfl (by decide +kernel) ⟨Nat.le_of_ble_eq_true rfl, Nat.le_of_ble_eq_true rfl⟩) ⟨fun a U g mk q => ⟨q.1, hc_P.moved (u := U) (U := U.calling g mk a) (Vm.Alike.refl U.vm) rfl q.2⟩, fun U hU hW => ⟨rfl, hc_P.moved hW.alike hU hP⟩⟩ rfl rfl hl.1 rfl (lv_room (Nat.le_of_ble_eq_true rfl)) dX11_wrongBit_16 ⟨Nat.le_of_ble_eq_true rfl, Nat.le_of_ble_eq_true rfl⟩) ?_
      refine lv_iload_n hx hb dX11_wrongBit_19 rfl (lv_at hl 1 rfl) ?_
      refine lv_icmp_ne (tgt := 25) hx hb dX11_wrongBit_20 (by decide) (fun c20 => ?_) (fun c20 => ?_)
      · obtain ⟨v3, ev3⟩ : ∃ y : Int32, y = k + Int32.ofInt (1) := ⟨_, rfl⟩
        refine lv_iinc (v := v3) (lv' := [(2, .int v3), (1, .int h), (0, .int o)]) hx hb dX11_wrongBit_25 hl (k := 0) rfl ev3.symm (by decide) rfl (fun ls hl => ?_)
        refine lv_goto (tgt := 2) hx hb dX11_wrongBit_28 (by decide) ?_
        rw [hq, if_neg c20]
        exact ih (by omega) v3 (by rw [ev3, hk]; exact up32_succ n (by omega)) ls (lv_sub hl [0, 1, 2] rfl)
      · refine lv_iload_n hx hb dX11_wrongBit_23 rfl (lv_at hl 0 rfl) ?_
        rw [hq, if_pos c20]
        exact W.iret hx hb hr (fun t ht _ => ⟨rfl, ht⟩) (fun q h => by cases h) dX11_wrongBit_24
set_option maxHeartbeats 4000000 in
set_option maxRecDepth 100000 in
theorem c_wb (l : Launch) (o h : Int32) : Met l yX11_wrongBit wsX11_wrongBit rm_wb (va_Pc [.int o, .int h] hc_P) (pf_Q (wb o h)) 0 0 (fun _ => False) := by
  refine Met.ofW (cc := cX11_wrongBit) (maxL := 3) (ret := some .int) (by decide) rfl ?_
  intro p e s m args below meth c s₁ B hml hv
  obtain ⟨rfl, hP⟩ := hv
  have hx := B.exec
  have hb := B.bytes
  have hr := B.returns
  have hts := atoms_spec (ws := wsX11_wrongBit) B.pre
  have hown : s.vm.findClass RX11 = some m.cls := findClass_of_methodNamed B.named
  have hlocks := B.notSynchronized
  have hl := lv_entry ([.int o, .int h]) (n := 3) (Nat.le_of_ble_eq_true rfl)
  rw [lg_entry_eq]
  generalize (lg_sl ([.int o, .int h]) ++ List.replicate (3 - (lg_sl ([.int o, .int h])).length) Slot.unset).toArray = ls at hl ⊢
  have hl : lv_has ls 3 [(0, .int o), (1, .int h)] := hl
  refine lv_iconst (v := 0) hx hb dX11_wrongBit_0 (by decide) ?_
  refine lv_topi (fun v1 ev1 => ?_)
  refine lv_istore_n (lv' := [(2, .int v1), (0, .int o), (1, .int h)]) hx hb dX11_wrongBit_1 rfl hl (by decide) rfl (fun ls hl => ?_)
  exact wb_loop hx hb hr hlocks hml hown hts hP o h 32 (by decide) v1 (by rw [ev1]; decide) ls (lv_sub hl [0, 2, 1] rfl)
set_option maxHeartbeats 4000000 in
set_option maxRecDepth 100000 in
/-- THE CLASS: header answers hd -/
theorem c_hd (l : Launch) (h0 : Nat) (o h w : Int32) : Met l yX11_header wsX11_header rm_hd (va_Pc [.ref h0, .int o, .int h, .int w] hc_P) (pf_Q (hd o h w)) 0 0 (fun _ => False) := by
  refine Met.ofW (cc := cX11_header) (maxL := 5) (ret := some .int) (by decide) rfl ?_
  intro p e s m args below meth c s₁ B hml hv
  obtain ⟨rfl, hP⟩ := hv
  have hx := B.exec
  have hb := B.bytes
  have hr := B.returns
  have hts := atoms_spec (ws := wsX11_header) B.pre
  have hown : s.vm.findClass RX11 = some m.cls := findClass_of_methodNamed B.named
  have hlocks := B.notSynchronized
  have hl := lv_entry ([.ref h0, .int o, .int h, .int w]) (n := 5) (Nat.le_of_ble_eq_true rfl)
  rw [lg_entry_eq]
  generalize (lg_sl ([.ref h0, .int o, .int h, .int w]) ++ List.replicate (5 - (lg_sl ([.ref h0, .int o, .int h, .int w])).length) Slot.unset).toArray = ls at hl ⊢
  have hl : lv_has ls 5 [(0, .ref h0), (1, .int o), (2, .int h), (3, .int w)] := hl
  refine lv_iload_n hx hb dX11_header_0 rfl (lv_at hl 3 rfl) ?_
  refine lv_if_ne (tgt := 9) hx hb dX11_header_1 (by decide) (fun c1 => ?_) (fun c1 => ?_)
  · refine lv_iload_n hx hb dX11_header_9 rfl (lv_at hl 3 rfl) ?_
    refine lv_iconst (v := 1) hx hb dX11_header_10 (by decide) ?_
    refine lv_icmp_eq (tgt := 16) hx hb dX11_header_11 (by decide) (fun c11 => ?_) (fun c11 => ?_)
    · refine lv_iload_n hx hb dX11_header_16 rfl (lv_at hl 2 rfl) ?_
      refine lv_if_lt (tgt := 27) hx hb dX11_header_17 (by decide) (fun c17 => ?_) (fun c17 => ?_)
      · refine lv_iconst (v := 0) hx hb dX11_header_27 (by decide) ?_
        skip
        rw [show hd o h w = _ from ((if_neg c1).trans ((if_pos c11).trans ((if_pos c17).trans rfl)))]
        exact W.iret hx hb hr (fun t ht _ => ⟨rfl, ht⟩) (fun q h => by cases h) dX11_header_28
      · refine lv_iload_n hx hb dX11_header_20 rfl (lv_at hl 2 rfl) ?_
        refine lv_sipush (v := 255) hx hb dX11_header_21 (by decide) ?_
        refine lv_icmp_le (tgt := 29) hx hb dX11_header_24 (by decide) (fun c24 => ?_) (fun c24 => ?_)
        · refine lv_iload_n hx hb dX11_header_29 rfl (lv_at hl 1 rfl) ?_
          refine pf_call (va_runS (As := [.int o]) (rest := []) ⟨hx, hb, hml, hown, hts⟩ (c_hc l o) (va_cwS 1 hts gX11_header_X11_hecOf rfl rfl rfl (by decide +kernel) ⟨Nat.le_of_ble_eq_true rfl, Nat.le_of_ble_eq_true rfl⟩) ⟨fun a U g mk q => ⟨q.1, hc_P.moved (u := U) (U := U.calling g mk a) (Vm.Alike.refl U.vm) rfl q.2⟩, fun U hU hW => ⟨rfl, hc_P.moved hW.alike hU hP⟩⟩ rfl rfl hl.1 rfl (lv_room (Nat.le_of_ble_eq_true rfl)) dX11_header_30 ⟨Nat.le_of_ble_eq_true rfl, Nat.le_of_ble_eq_true rfl⟩) ?_
          refine lv_iload_n hx hb dX11_header_33 rfl (lv_at hl 2 rfl) ?_
          refine lv_icmp_ne (tgt := 39) hx hb dX11_header_34 (by decide) (fun c34 => ?_) (fun c34 => ?_)
          · refine lv_iload_n hx hb dX11_header_39 rfl (lv_at hl 1 rfl) ?_
            refine lv_iload_n hx hb dX11_header_40 rfl (lv_at hl 2 rfl) ?_
            refine pf_call (va_runS (As := [.int o, .int h]) (rest := []) ⟨hx, hb, hml, hown, hts⟩ (c_wb l o h) (va_cwS 2 hts gX11_header_X11_wrongBit rfl rfl rfl (by decide +kernel) ⟨Nat.le_of_ble_eq_true rfl, Nat.le_of_ble_eq_true rfl⟩) ⟨fun a U g mk q => ⟨q.1, hc_P.moved (u := U) (U := U.calling g mk a) (Vm.Alike.refl U.vm) rfl q.2⟩, fun U hU hW => ⟨rfl, hc_P.moved hW.alike hU hP⟩⟩ rfl rfl hl.1 rfl (lv_room (Nat.le_of_ble_eq_true rfl)) dX11_header_41 ⟨Nat.le_of_ble_eq_true rfl, Nat.le_of_ble_eq_true rfl⟩) ?_
            refine lv_topi (fun v6 ev6 => ?_)
            refine lv_istore (lv' := [(4, .int v6), (0, .ref h0), (1, .int o), (2, .int h), (3, .int w)]) hx hb dX11_header_44 hl (by decide) rfl (fun ls hl => ?_)
            refine lv_iload hx hb dX11_header_46 (lv_at hl 0 rfl) ?_
            refine lv_if_ge (tgt := 55) hx hb dX11_header_48 (by decide) (fun c48 => ?_) (fun c48 => ?_)
            · refine lv_iload hx hb dX11_header_55 (lv_at hl 0 rfl) ?_
              refine lv_iconst (v := 2) hx hb dX11_header_57 (by decide) ?_
              refine lv_iadd hx hb dX11_header_58 ?_
              subst ev6
              rw [show hd o h w = _ from ((if_neg c1).trans ((if_pos c11).trans ((if_neg c17).trans ((if_pos c24).trans ((if_neg c34).trans ((if_pos c48).trans rfl))))))]
              exact W.iret hx hb hr (fun t ht _ => ⟨rfl, ht⟩) (fun q h => by cases h) dX11_header_59
            · refine lv_iconst (v := 0) hx hb dX11_header_51 (by decide) ?_
              refine lv_goto (tgt := 59) hx hb dX11_header_52 (by decide) ?_
              subst ev6
              rw [show hd o h w = _ from ((if_neg c1).trans ((if_pos c11).trans ((if_neg c17).trans ((if_pos c24).trans ((if_neg c34).trans ((if_neg c48).trans rfl))))))]
              exact W.iret hx hb hr (fun t ht _ => ⟨rfl, ht⟩) (fun q h => by cases h) dX11_header_59
          · refine lv_iconst (v := 1) hx hb dX11_header_37 (by decide) ?_
            skip
            rw [show hd o h w = _ from ((if_neg c1).trans ((if_pos c11).trans ((if_neg c17).trans ((if_pos c24).trans ((if_pos c34).trans rfl)))))]
            exact W.iret hx hb hr (fun t ht _ => ⟨rfl, ht⟩) (fun q h => by cases h) dX11_header_38
        · refine lv_iconst (v := 0) hx hb dX11_header_27 (by decide) ?_
          skip
          rw [show hd o h w = _ from ((if_neg c1).trans ((if_pos c11).trans ((if_neg c17).trans ((if_neg c24).trans rfl))))]
          exact W.iret hx hb hr (fun t ht _ => ⟨rfl, ht⟩) (fun q h => by cases h) dX11_header_28
    · refine lv_iconst (v := (-1)) hx hb dX11_header_14 (by decide) ?_
      skip
      rw [show hd o h w = _ from ((if_neg c1).trans ((if_neg c11).trans rfl))]
      exact W.iret hx hb hr (fun t ht _ => ⟨rfl, ht⟩) (fun q h => by cases h) dX11_header_15
  · refine lv_iload_n hx hb dX11_header_4 rfl (lv_at hl 1 rfl) ?_
    refine pf_call (va_runS (As := [.int o]) (rest := []) ⟨hx, hb, hml, hown, hts⟩ (c_hc l o) (va_cwS 1 hts gX11_header_X11_hecOf rfl rfl rfl (by decide +kernel) ⟨Nat.le_of_ble_eq_true rfl, Nat.le_of_ble_eq_true rfl⟩) ⟨fun a U g mk q => ⟨q.1, hc_P.moved (u := U) (U := U.calling g mk a) (Vm.Alike.refl U.vm) rfl q.2⟩, fun U hU hW => ⟨rfl, hc_P.moved hW.alike hU hP⟩⟩ rfl rfl hl.1 rfl (lv_room (Nat.le_of_ble_eq_true rfl)) dX11_header_5 ⟨Nat.le_of_ble_eq_true rfl, Nat.le_of_ble_eq_true rfl⟩) ?_
    skip
    rw [show hd o h w = _ from ((if_pos c1).trans rfl)]
    exact W.iret hx hb hr (fun t ht _ => ⟨rfl, ht⟩) (fun q h => by cases h) dX11_header_8
