def rm_rt : Room := { frames := 1, cells := 0, slots := 0, locals := 23 }
def rm_hm : Room := { frames := 2, cells := 0, slots := 0, locals := 47 }
set_option maxHeartbeats 4000000 in
set_option maxRecDepth 100000 in
theorem rt_loop {p : Program} {l : Launch} {e : Env} {s : State} {m : MethodId} {args : Array Value} {below : List Frame} {meth : Method} {c : Code}  (hx : p.tables.exec = Jvm.exec) (hb : c.code = cX12_rightness) (hr : meth.sig.returnType = some .int) (hlocks : meth.locks = false) (hml : c.maxLocals = 5) (hown : s.vm.findClass RX12 = some m.cls) (hts : ∀ w ∈ wsX12_rightness, w.before args s = true) (o h : Int32) : ∀ (n : Nat), n < 41 → ∀ (k : Int32), k = up 40 n → ∀ (ls : Array Slot), lv_has ls 5 [(2, .int k), (1, .int h), (0, .int o)] → W p l e rm_rt s m args below meth c s.heap [] 0 0 (MQ below (pf_Q (rt_run o h n)) args s 0 0 (fun _ => False)) (F0 m 12 ls []) := by
  intro n
  induction n with
  | zero =>
    intro hn k hk ls hl
    refine lv_iload_n hx hb dX12_rightness_12 rfl (lv_at hl 0 rfl) ?_
    refine lv_bipush (v := 40) hx hb dX12_rightness_13 (by decide) ?_
    refine lv_icmp_ge (tgt := 76) hx hb dX12_rightness_15 (by decide) (fun c15 => ?_) (fun c15 => ?_)
    · refine lv_iconst (v := 0) hx hb dX12_rightness_76 (by decide) ?_
      exact W.iret hx hb hr (fun t ht _ => ⟨rfl, ht⟩) (fun q h => by cases h) dX12_rightness_77
    · exact absurd ((up40_ge 0 hn).mpr rfl) (by rw [← hk]; assumption)
  | succ n ih =>
    intro hn k hk ls hl
    have hnn : ¬ (40 : Int32) ≤ k := fun h => by rw [hk] at h; exact absurd ((up40_ge (n + 1) hn).mp h) (by omega)
    refine lv_iload_n hx hb dX12_rightness_12 rfl (lv_at hl 0 rfl) ?_
    refine lv_bipush (v := 40) hx hb dX12_rightness_13 (by decide) ?_
    refine lv_icmp_ge (tgt := 76) hx hb dX12_rightness_15 (by decide) (fun c15 => ?_) (fun c15 => ?_)
    · exact absurd (by assumption) hnn
    · refine lv_iload_n hx hb dX12_rightness_18 rfl (lv_at hl 0 rfl) ?_
      refine lv_bipush (v := 32) hx hb dX12_rightness_19 (by decide) ?_
      refine lv_icmp_ge (tgt := 35) hx hb dX12_rightness_21 (by decide) (fun c21 => ?_) (fun c21 => ?_)
      · refine lv_iload_n hx hb dX12_rightness_35 rfl (lv_at hl 2 rfl) ?_
        refine lv_topi (fun v3 ev3 => ?_)
        refine lv_istore_n (lv' := [(3, .int v3), (2, .int k), (1, .int h), (0, .int o)]) hx hb dX12_rightness_36 rfl hl (by decide) rfl (fun ls hl => ?_)
        refine lv_iload_n hx hb dX12_rightness_37 rfl (lv_at hl 1 rfl) ?_
        refine lv_bipush (v := 32) hx hb dX12_rightness_38 (by decide) ?_
        refine lv_icmp_ge (tgt := 47) hx hb dX12_rightness_40 (by decide) (fun c40 => ?_) (fun c40 => ?_)
        · refine lv_iload_n hx hb dX12_rightness_47 rfl (lv_at hl 2 rfl) ?_
          refine lv_iconst (v := 1) hx hb dX12_rightness_48 (by decide) ?_
          refine lv_bipush (v := 39) hx hb dX12_rightness_49 (by decide) ?_
          refine lv_iload_n hx hb dX12_rightness_51 rfl (lv_at hl 1 rfl) ?_
          refine lv_isub hx hb dX12_rightness_52 ?_
          refine lv_ishl hx hb dX12_rightness_53 ?_
          refine lv_ixor hx hb dX12_rightness_54 ?_
          refine lv_topi (fun v5 ev5 => ?_)
          refine lv_istore (lv' := [(4, .int v5), (3, .int v3), (2, .int k), (1, .int h), (0, .int o)]) hx hb dX12_rightness_55 hl (by decide) rfl (fun ls hl => ?_)
          refine lv_iload_n hx hb dX12_rightness_57 rfl (lv_at hl 1 rfl) ?_
          refine pf_call (va_runS (As := [.int v3]) (rest := []) ⟨hx, hb, hml, hown, hts⟩ (c_hm l v3) (va_cwS 1 hts gX12_rightness_X12_hecOf rfl rfl rfl (by decide +kernel) ⟨Nat.le_of_ble_eq_true rfl, Nat.le_of_ble_eq_true rfl⟩) ⟨fun _ _ _ _ q => q, fun _ _ _ => ⟨rfl, trivial⟩⟩ rfl rfl hl.1 rfl (lv_room (Nat.le_of_ble_eq_true rfl)) dX12_rightness_58 ⟨Nat.le_of_ble_eq_true rfl, Nat.le_of_ble_eq_true rfl⟩) ?_
          refine lv_iload hx hb dX12_rightness_61 (lv_at hl 0 rfl) ?_
          refine lv_icmp_ne (tgt := 70) hx hb dX12_rightness_63 (by decide) (fun c63 => ?_) (fun c63 => ?_)
          · obtain ⟨v7, ev7⟩ : ∃ y : Int32, y = k + Int32.ofInt (1) := ⟨_, rfl⟩
            refine lv_iinc (v := v7) (lv' := [(2, .int v7), (4, .int v5), (3, .int v3), (1, .int h), (0, .int o)]) hx hb dX12_rightness_70 hl (k := 2) rfl ev7.symm (by decide) rfl (fun ls hl => ?_)
            refine lv_goto (tgt := 12) hx hb dX12_rightness_73 (by decide) ?_
            have h3 : v3 = rt_o o (up 40 (n + 1)) := by subst ev3; subst ev5; subst ev7; subst hk; exact (if_pos c21).symm
            have h4 : v5 = rt_h h (up 40 (n + 1)) := by subst ev3; subst ev5; subst ev7; subst hk; exact (if_pos c40).symm
            have hq : rt_run o h (n + 1) = (if hm v3 = v5 then 2 + up 40 (n + 1) else rt_run o h n) := by rw [h3, h4]; rfl
            rw [hq, if_neg c63]
            exact ih (by omega) v7 (by rw [ev7, hk]; exact up40_succ n (by omega)) ls (lv_sub hl [0, 3, 4] rfl)
          · refine lv_iconst (v := 2) hx hb dX12_rightness_66 (by decide) ?_
            refine lv_iload_n hx hb dX12_rightness_67 rfl (lv_at hl 2 rfl) ?_
            refine lv_iadd hx hb dX12_rightness_68 ?_
            have h3 : v3 = rt_o o (up 40 (n + 1)) := by subst ev3; subst ev5; subst hk; exact (if_pos c21).symm
            have h4 : v5 = rt_h h (up 40 (n + 1)) := by subst ev3; subst ev5; subst hk; exact (if_pos c40).symm
            have hq : rt_run o h (n + 1) = (if hm v3 = v5 then 2 + up 40 (n + 1) else rt_run o h n) := by rw [h3, h4]; rfl
            rw [hq, if_pos c63, ← hk]
            exact W.iret hx hb hr (fun t ht _ => ⟨rfl, ht⟩) (fun q h => by cases h) dX12_rightness_69
        · refine lv_iload_n hx hb dX12_rightness_43 rfl (lv_at hl 2 rfl) ?_
          refine lv_goto (tgt := 55) hx hb dX12_rightness_44 (by decide) ?_
          refine lv_topi (fun v8 ev8 => ?_)
          refine lv_istore (lv' := [(4, .int v8), (3, .int v3), (2, .int k), (1, .int h), (0, .int o)]) hx hb dX12_rightness_55 hl (by decide) rfl (fun ls hl => ?_)
          refine lv_iload_n hx hb dX12_rightness_57 rfl (lv_at hl 1 rfl) ?_
          refine pf_call (va_runS (As := [.int v3]) (rest := []) ⟨hx, hb, hml, hown, hts⟩ (c_hm l v3) (va_cwS 1 hts gX12_rightness_X12_hecOf rfl rfl rfl (by decide +kernel) ⟨Nat.le_of_ble_eq_true rfl, Nat.le_of_ble_eq_true rfl⟩) ⟨fun _ _ _ _ q => q, fun _ _ _ => ⟨rfl, trivial⟩⟩ rfl rfl hl.1 rfl (lv_room (Nat.le_of_ble_eq_true rfl)) dX12_rightness_58 ⟨Nat.le_of_ble_eq_true rfl, Nat.le_of_ble_eq_true rfl⟩) ?_
          refine lv_iload hx hb dX12_rightness_61 (lv_at hl 0 rfl) ?_
          refine lv_icmp_ne (tgt := 70) hx hb dX12_rightness_63 (by decide) (fun c63 => ?_) (fun c63 => ?_)
          · obtain ⟨v10, ev10⟩ : ∃ y : Int32, y = k + Int32.ofInt (1) := ⟨_, rfl⟩
            refine lv_iinc (v := v10) (lv' := [(2, .int v10), (4, .int v8), (3, .int v3), (1, .int h), (0, .int o)]) hx hb dX12_rightness_70 hl (k := 2) rfl ev10.symm (by decide) rfl (fun ls hl => ?_)
            refine lv_goto (tgt := 12) hx hb dX12_rightness_73 (by decide) ?_
            have h3 : v3 = rt_o o (up 40 (n + 1)) := by subst ev3; subst ev8; subst ev10; subst hk; exact (if_pos c21).symm
            have h4 : v8 = rt_h h (up 40 (n + 1)) := by subst ev3; subst ev8; subst ev10; subst hk; exact (if_neg c40).symm
            have hq : rt_run o h (n + 1) = (if hm v3 = v8 then 2 + up 40 (n + 1) else rt_run o h n) := by rw [h3, h4]; rfl
            rw [hq, if_neg c63]
            exact ih (by omega) v10 (by rw [ev10, hk]; exact up40_succ n (by omega)) ls (lv_sub hl [0, 3, 4] rfl)
          · refine lv_iconst (v := 2) hx hb dX12_rightness_66 (by decide) ?_
            refine lv_iload_n hx hb dX12_rightness_67 rfl (lv_at hl 2 rfl) ?_
            refine lv_iadd hx hb dX12_rightness_68 ?_
            have h3 : v3 = rt_o o (up 40 (n + 1)) := by subst ev3; subst ev8; subst hk; exact (if_pos c21).symm
            have h4 : v8 = rt_h h (up 40 (n + 1)) := by subst ev3; subst ev8; subst hk; exact (if_neg c40).symm
            have hq : rt_run o h (n + 1) = (if hm v3 = v8 then 2 + up 40 (n + 1) else rt_run o h n) := by rw [h3, h4]; rfl
            rw [hq, if_pos c63, ← hk]
            exact W.iret hx hb hr (fun t ht _ => ⟨rfl, ht⟩) (fun q h => by cases h) dX12_rightness_69
      · refine lv_iload_n hx hb dX12_rightness_24 rfl (lv_at hl 2 rfl) ?_
        refine lv_iconst (v := 1) hx hb dX12_rightness_25 (by decide) ?_
        refine lv_bipush (v := 31) hx hb dX12_rightness_26 (by decide) ?_
        refine lv_iload_n hx hb dX12_rightness_28 rfl (lv_at hl 0 rfl) ?_
        refine lv_isub hx hb dX12_rightness_29 ?_
        refine lv_ishl hx hb dX12_rightness_30 ?_
        refine lv_ixor hx hb dX12_rightness_31 ?_
        refine lv_goto (tgt := 36) hx hb dX12_rightness_32 (by decide) ?_
        refine lv_topi (fun v11 ev11 => ?_)
        refine lv_istore_n (lv' := [(3, .int v11), (2, .int k), (1, .int h), (0, .int o)]) hx hb dX12_rightness_36 rfl hl (by decide) rfl (fun ls hl => ?_)
        refine lv_iload_n hx hb dX12_rightness_37 rfl (lv_at hl 1 rfl) ?_
        refine lv_bipush (v := 32) hx hb dX12_rightness_38 (by decide) ?_
        refine lv_icmp_ge (tgt := 47) hx hb dX12_rightness_40 (by decide) (fun c40 => ?_) (fun c40 => ?_)
        · refine lv_iload_n hx hb dX12_rightness_47 rfl (lv_at hl 2 rfl) ?_
          refine lv_iconst (v := 1) hx hb dX12_rightness_48 (by decide) ?_
          refine lv_bipush (v := 39) hx hb dX12_rightness_49 (by decide) ?_
          refine lv_iload_n hx hb dX12_rightness_51 rfl (lv_at hl 1 rfl) ?_
          refine lv_isub hx hb dX12_rightness_52 ?_
          refine lv_ishl hx hb dX12_rightness_53 ?_
          refine lv_ixor hx hb dX12_rightness_54 ?_
          refine lv_topi (fun v13 ev13 => ?_)
          refine lv_istore (lv' := [(4, .int v13), (3, .int v11), (2, .int k), (1, .int h), (0, .int o)]) hx hb dX12_rightness_55 hl (by decide) rfl (fun ls hl => ?_)
          refine lv_iload_n hx hb dX12_rightness_57 rfl (lv_at hl 1 rfl) ?_
          refine pf_call (va_runS (As := [.int v11]) (rest := []) ⟨hx, hb, hml, hown, hts⟩ (c_hm l v11) (va_cwS 1 hts gX12_rightness_X12_hecOf rfl rfl rfl (by decide +kernel) ⟨Nat.le_of_ble_eq_true rfl, Nat.le_of_ble_eq_true rfl⟩) ⟨fun _ _ _ _ q => q, fun _ _ _ => ⟨rfl, trivial⟩⟩ rfl rfl hl.1 rfl (lv_room (Nat.le_of_ble_eq_true rfl)) dX12_rightness_58 ⟨Nat.le_of_ble_eq_true rfl, Nat.le_of_ble_eq_true rfl⟩) ?_
          refine lv_iload hx hb dX12_rightness_61 (lv_at hl 0 rfl) ?_
          refine lv_icmp_ne (tgt := 70) hx hb dX12_rightness_63 (by decide) (fun c63 => ?_) (fun c63 => ?_)
          · obtain ⟨v15, ev15⟩ : ∃ y : Int32, y = k + Int32.ofInt (1) := ⟨_, rfl⟩
            refine lv_iinc (v := v15) (lv' := [(2, .int v15), (4, .int v13), (3, .int v11), (1, .int h), (0, .int o)]) hx hb dX12_rightness_70 hl (k := 2) rfl ev15.symm (by decide) rfl (fun ls hl => ?_)
            refine lv_goto (tgt := 12) hx hb dX12_rightness_73 (by decide) ?_
            have h3 : v11 = rt_o o (up 40 (n + 1)) := by subst ev11; subst ev13; subst ev15; subst hk; exact (if_neg c21).symm
            have h4 : v13 = rt_h h (up 40 (n + 1)) := by subst ev11; subst ev13; subst ev15; subst hk; exact (if_pos c40).symm
            have hq : rt_run o h (n + 1) = (if hm v11 = v13 then 2 + up 40 (n + 1) else rt_run o h n) := by rw [h3, h4]; rfl
            rw [hq, if_neg c63]
            exact ih (by omega) v15 (by rw [ev15, hk]; exact up40_succ n (by omega)) ls (lv_sub hl [0, 3, 4] rfl)
          · refine lv_iconst (v := 2) hx hb dX12_rightness_66 (by decide) ?_
            refine lv_iload_n hx hb dX12_rightness_67 rfl (lv_at hl 2 rfl) ?_
            refine lv_iadd hx hb dX12_rightness_68 ?_
            have h3 : v11 = rt_o o (up 40 (n + 1)) := by subst ev11; subst ev13; subst hk; exact (if_neg c21).symm
            have h4 : v13 = rt_h h (up 40 (n + 1)) := by subst ev11; subst ev13; subst hk; exact (if_pos c40).symm
            have hq : rt_run o h (n + 1) = (if hm v11 = v13 then 2 + up 40 (n + 1) else rt_run o h n) := by rw [h3, h4]; rfl
            rw [hq, if_pos c63, ← hk]
            exact W.iret hx hb hr (fun t ht _ => ⟨rfl, ht⟩) (fun q h => by cases h) dX12_rightness_69
        · refine lv_iload_n hx hb dX12_rightness_43 rfl (lv_at hl 2 rfl) ?_
          refine lv_goto (tgt := 55) hx hb dX12_rightness_44 (by decide) ?_
          refine lv_topi (fun v16 ev16 => ?_)
          refine lv_istore (lv' := [(4, .int v16), (3, .int v11), (2, .int k), (1, .int h), (0, .int o)]) hx hb dX12_rightness_55 hl (by decide) rfl (fun ls hl => ?_)
          refine lv_iload_n hx hb dX12_rightness_57 rfl (lv_at hl 1 rfl) ?_
          refine pf_call (va_runS (As := [.int v11]) (rest := []) ⟨hx, hb, hml, hown, hts⟩ (c_hm l v11) (va_cwS 1 hts gX12_rightness_X12_hecOf rfl rfl rfl (by decide +kernel) ⟨Nat.le_of_ble_eq_true rfl, Nat.le_of_ble_eq_true rfl⟩) ⟨fun _ _ _ _ q => q, fun _ _ _ => ⟨rfl, trivial⟩⟩ rfl rfl hl.1 rfl (lv_room (Nat.le_of_ble_eq_true rfl)) dX12_rightness_58 ⟨Nat.le_of_ble_eq_true rfl, Nat.le_of_ble_eq_true rfl⟩) ?_
          refine lv_iload hx hb dX12_rightness_61 (lv_at hl 0 rfl) ?_
          refine lv_icmp_ne (tgt := 70) hx hb dX12_rightness_63 (by decide) (fun c63 => ?_) (fun c63 => ?_)
          · obtain ⟨v18, ev18⟩ : ∃ y : Int32, y = k + Int32.ofInt (1) := ⟨_, rfl⟩
            refine lv_iinc (v := v18) (lv' := [(2, .int v18), (4, .int v16), (3, .int v11), (1, .int h), (0, .int o)]) hx hb dX12_rightness_70 hl (k := 2) rfl ev18.symm (by decide) rfl (fun ls hl => ?_)
            refine lv_goto (tgt := 12) hx hb dX12_rightness_73 (by decide) ?_
            have h3 : v11 = rt_o o (up 40 (n + 1)) := by subst ev11; subst ev16; subst ev18; subst hk; exact (if_neg c21).symm
            have h4 : v16 = rt_h h (up 40 (n + 1)) := by subst ev11; subst ev16; subst ev18; subst hk; exact (if_neg c40).symm
            have hq : rt_run o h (n + 1) = (if hm v11 = v16 then 2 + up 40 (n + 1) else rt_run o h n) := by rw [h3, h4]; rfl
            rw [hq, if_neg c63]
            exact ih (by omega) v18 (by rw [ev18, hk]; exact up40_succ n (by omega)) ls (lv_sub hl [0, 3, 4] rfl)
          · refine lv_iconst (v := 2) hx hb dX12_rightness_66 (by decide) ?_
            refine lv_iload_n hx hb dX12_rightness_67 rfl (lv_at hl 2 rfl) ?_
            refine lv_iadd hx hb dX12_rightness_68 ?_
            have h3 : v11 = rt_o o (up 40 (n + 1)) := by subst ev11; subst ev16; subst hk; exact (if_neg c21).symm
            have h4 : v16 = rt_h h (up 40 (n + 1)) := by subst ev11; subst ev16; subst hk; exact (if_neg c40).symm
            have hq : rt_run o h (n + 1) = (if hm v11 = v16 then 2 + up 40 (n + 1) else rt_run o h n) := by rw [h3, h4]; rfl
            rw [hq, if_pos c63, ← hk]
            exact W.iret hx hb hr (fun t ht _ => ⟨rfl, ht⟩) (fun q h => by cases h) dX12_rightness_69
set_option maxHeartbeats 4000000 in
set_option maxRecDepth 100000 in
theorem c_rt (l : Launch) (o h : Int32) : Met l yX12_rightness wsX12_rightness rm_rt (va_Pc [.int o, .int h] (fun _ => True)) (pf_Q (rt o h)) 0 0 (fun _ => False) := by
  refine Met.ofW (cc := cX12_rightness) (maxL := 5) (ret := some .int) (by decide) rfl ?_
  intro p e s m args below meth c s₁ B hml hv
  obtain ⟨rfl, -⟩ := hv
  have hx := B.exec
  have hb := B.bytes
  have hr := B.returns
  have hts := atoms_spec (ws := wsX12_rightness) B.pre
  have hown : s.vm.findClass RX12 = some m.cls := findClass_of_methodNamed B.named
  have hlocks := B.notSynchronized
  have hl := lv_entry ([.int o, .int h]) (n := 5) (Nat.le_of_ble_eq_true rfl)
  rw [lg_entry_eq]
  generalize (lg_sl ([.int o, .int h]) ++ List.replicate (5 - (lg_sl ([.int o, .int h])).length) Slot.unset).toArray = ls at hl ⊢
  have hl : lv_has ls 5 [(0, .int o), (1, .int h)] := hl
  refine lv_iload_n hx hb dX12_rightness_0 rfl (lv_at hl 0 rfl) ?_
  refine pf_call (va_runS (As := [.int o]) (rest := []) ⟨hx, hb, hml, hown, hts⟩ (c_hm l o) (va_cwS 1 hts gX12_rightness_X12_hecOf rfl rfl rfl (by decide +kernel) ⟨Nat.le_of_ble_eq_true rfl, Nat.le_of_ble_eq_true rfl⟩) ⟨fun _ _ _ _ q => q, fun _ _ _ => ⟨rfl, trivial⟩⟩ rfl rfl hl.1 rfl (lv_room (Nat.le_of_ble_eq_true rfl)) dX12_rightness_1 ⟨Nat.le_of_ble_eq_true rfl, Nat.le_of_ble_eq_true rfl⟩) ?_
  refine lv_iload_n hx hb dX12_rightness_4 rfl (lv_at hl 1 rfl) ?_
  refine lv_icmp_ne (tgt := 10) hx hb dX12_rightness_5 (by decide) (fun c5 => ?_) (fun c5 => ?_)
  · refine lv_iconst (v := 0) hx hb dX12_rightness_10 (by decide) ?_
    refine lv_topi (fun v2 ev2 => ?_)
    refine lv_istore_n (lv' := [(2, .int v2), (0, .int o), (1, .int h)]) hx hb dX12_rightness_11 rfl hl (by decide) rfl (fun ls hl => ?_)
    rw [show rt o h = rt_run o h 40 from if_neg c5]
    exact rt_loop hx hb hr hlocks hml hown hts o h 40 (by decide) v2 (by rw [ev2]; decide) ls (lv_sub hl [0, 2, 1] rfl)
  · refine lv_iconst (v := 1) hx hb dX12_rightness_8 (by decide) ?_
    rw [show rt o h = 1 from if_pos c5]
    exact W.iret hx hb hr (fun t ht _ => ⟨rfl, ht⟩) (fun q h => by cases h) dX12_rightness_9
set_option maxHeartbeats 4000000 in
set_option maxRecDepth 100000 in
/-- THE REFERENCE: header answers hdM -/
theorem c_hdM (l : Launch) (h0 : Nat) (o h w : Int32) : Met l yX12_header wsX12_header rm_hm (va_Pc [.ref h0, .int o, .int h, .int w] (fun _ => True)) (pf_Q (hdM o h w)) 0 0 (fun _ => False) := by
  refine Met.ofW (cc := cX12_header) (maxL := 4) (ret := some .int) (by decide) rfl ?_
  intro p e s m args below meth c s₁ B hml hv
  obtain ⟨rfl, -⟩ := hv
  have hx := B.exec
  have hb := B.bytes
  have hr := B.returns
  have hts := atoms_spec (ws := wsX12_header) B.pre
  have hown : s.vm.findClass RX12 = some m.cls := findClass_of_methodNamed B.named
  have hlocks := B.notSynchronized
  have hl := lv_entry ([.ref h0, .int o, .int h, .int w]) (n := 4) (Nat.le_of_ble_eq_true rfl)
  rw [lg_entry_eq]
  generalize (lg_sl ([.ref h0, .int o, .int h, .int w]) ++ List.replicate (4 - (lg_sl ([.ref h0, .int o, .int h, .int w])).length) Slot.unset).toArray = ls at hl ⊢
  have hl : lv_has ls 4 [(0, .ref h0), (1, .int o), (2, .int h), (3, .int w)] := hl
  refine lv_iload_n hx hb dX12_header_0 rfl (lv_at hl 3 rfl) ?_
  refine lv_if_lt (tgt := 9) hx hb dX12_header_1 (by decide) (fun c1 => ?_) (fun c1 => ?_)
  · refine lv_iconst (v := (-1)) hx hb dX12_header_9 (by decide) ?_
    rw [show hdM o h w = _ from ((if_pos c1).trans rfl)]
    exact W.iret hx hb hr (fun t ht _ => ⟨rfl, ht⟩) (fun q h => by cases h) dX12_header_10
  · refine lv_iload_n hx hb dX12_header_4 rfl (lv_at hl 3 rfl) ?_
    refine lv_iconst (v := 1) hx hb dX12_header_5 (by decide) ?_
    refine lv_icmp_le (tgt := 11) hx hb dX12_header_6 (by decide) (fun c6 => ?_) (fun c6 => ?_)
    · refine lv_iload_n hx hb dX12_header_11 rfl (lv_at hl 3 rfl) ?_
      refine lv_if_ne (tgt := 22) hx hb dX12_header_12 (by decide) (fun c12 => ?_) (fun c12 => ?_)
      · refine lv_iload_n hx hb dX12_header_22 rfl (lv_at hl 1 rfl) ?_
        refine lv_iload_n hx hb dX12_header_23 rfl (lv_at hl 2 rfl) ?_
        refine pf_call (va_runS (As := [.int o, .int h]) (rest := []) ⟨hx, hb, hml, hown, hts⟩ (c_rt l o h) (va_cwS 2 hts gX12_header_X12_rightness rfl rfl rfl (by decide +kernel) ⟨Nat.le_of_ble_eq_true rfl, Nat.le_of_ble_eq_true rfl⟩) ⟨fun _ _ _ _ q => q, fun _ _ _ => ⟨rfl, trivial⟩⟩ rfl rfl hl.1 rfl (lv_room (Nat.le_of_ble_eq_true rfl)) dX12_header_24 ⟨Nat.le_of_ble_eq_true rfl, Nat.le_of_ble_eq_true rfl⟩) ?_
        rw [show hdM o h w = _ from ((if_neg c1).trans ((if_pos c6).trans ((if_neg c12).trans rfl)))]
        exact W.iret hx hb hr (fun t ht _ => ⟨rfl, ht⟩) (fun q h => by cases h) dX12_header_27
      · refine lv_iload_n hx hb dX12_header_15 rfl (lv_at hl 1 rfl) ?_
        refine pf_call (va_runS (As := [.int o]) (rest := []) ⟨hx, hb, hml, hown, hts⟩ (c_hm l o) (va_cwS 1 hts gX12_header_X12_hecOf rfl rfl rfl (by decide +kernel) ⟨Nat.le_of_ble_eq_true rfl, Nat.le_of_ble_eq_true rfl⟩) ⟨fun _ _ _ _ q => q, fun _ _ _ => ⟨rfl, trivial⟩⟩ rfl rfl hl.1 rfl (lv_room (Nat.le_of_ble_eq_true rfl)) dX12_header_16 ⟨Nat.le_of_ble_eq_true rfl, Nat.le_of_ble_eq_true rfl⟩) ?_
        refine lv_goto (tgt := 27) hx hb dX12_header_19 (by decide) ?_
        rw [show hdM o h w = _ from ((if_neg c1).trans ((if_pos c6).trans ((if_pos c12).trans rfl)))]
        exact W.iret hx hb hr (fun t ht _ => ⟨rfl, ht⟩) (fun q h => by cases h) dX12_header_27
    · refine lv_iconst (v := (-1)) hx hb dX12_header_9 (by decide) ?_
      rw [show hdM o h w = _ from ((if_neg c1).trans ((if_neg c6).trans rfl))]
      exact W.iret hx hb hr (fun t ht _ => ⟨rfl, ht⟩) (fun q h => by cases h) dX12_header_10
