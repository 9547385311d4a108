set_option maxHeartbeats 4000000 in
set_option maxRecDepth 100000 in
theorem hm_loop {p : Program} {l : Launch} {e : Env} {s : State} {m : MethodId} {args : Array Value} {below : List Frame} {meth : Method} {c : Code} {R : Room} {H : Heap} (hx : p.tables.exec = Jvm.exec) (hb : c.code = cX12_hecOf) (hr : meth.sig.returnType = some .int) (hlocks : meth.locks = false) (hH : s.heap = H) (o : Int32) : ∀ (n : Nat), n < 33 → ∀ (r k : Int32), k = kk n → ∀ (ls : Array Slot), lv_has ls 4 [(2, .int k), (1, .int r), (0, .int o)] → W p l e R s m args below meth c H [] 0 0 (MQ below (pf_Q (hm_run o n r ^^^ 85)) args s 0 0 (fun _ => False)) (F0 m 5 ls []) := by
  intro n
  induction n with
  | zero =>
    intro hn r k hk ls hl
    refine lv_iload_n hx hb dX12_hecOf_5 rfl (lv_at hl 0 rfl) ?_
    refine lv_if_lt (tgt := 50) hx hb dX12_hecOf_6 (by decide) (fun c6 => ?_) (fun c6 => ?_)
    · refine lv_iload_n hx hb dX12_hecOf_50 rfl (lv_at hl 1 rfl) ?_
      refine lv_bipush (v := 85) hx hb dX12_hecOf_51 (by decide) ?_
      refine lv_ixor hx hb dX12_hecOf_53 ?_
      exact W.iret hx hb hr (fun t ht _ => ⟨rfl, ht.trans hH.symm⟩) (fun q h => by cases h) dX12_hecOf_54
    · exact absurd ((kk_neg 0 hn).mpr rfl) (by rw [← hk]; assumption)
  | succ n ih =>
    intro hn r k hk ls hl
    have hnn : ¬ k < 0 := fun h => by rw [hk] at h; exact absurd ((kk_neg (n + 1) hn).mp h) (by omega)
    refine lv_iload_n hx hb dX12_hecOf_5 rfl (lv_at hl 0 rfl) ?_
    refine lv_if_lt (tgt := 50) hx hb dX12_hecOf_6 (by decide) (fun c6 => ?_) (fun c6 => ?_)
    · exact absurd (by assumption) hnn
    · refine lv_iload_n hx hb dX12_hecOf_9 rfl (lv_at hl 2 rfl) ?_
      refine lv_iload_n hx hb dX12_hecOf_10 rfl (lv_at hl 0 rfl) ?_
      refine lv_ishr hx hb dX12_hecOf_11 ?_
      refine lv_iconst (v := 1) hx hb dX12_hecOf_12 (by decide) ?_
      refine lv_iand hx hb dX12_hecOf_13 ?_
      refine lv_iload_n hx hb dX12_hecOf_14 rfl (lv_at hl 1 rfl) ?_
      refine lv_bipush (v := 7) hx hb dX12_hecOf_15 (by decide) ?_
      refine lv_ishr hx hb dX12_hecOf_17 ?_
      refine lv_iconst (v := 1) hx hb dX12_hecOf_18 (by decide) ?_
      refine lv_iand hx hb dX12_hecOf_19 ?_
      refine lv_ixor hx hb dX12_hecOf_20 ?_
      refine lv_topi (fun v2 ev2 => ?_)
      refine lv_istore_n (lv' := [(3, .int v2), (2, .int k), (1, .int r), (0, .int o)]) hx hb dX12_hecOf_21 rfl hl (by decide) rfl (fun ls hl => ?_)
      refine lv_iload_n hx hb dX12_hecOf_22 rfl (lv_at hl 2 rfl) ?_
      refine lv_iconst (v := 1) hx hb dX12_hecOf_23 (by decide) ?_
      refine lv_ishl hx hb dX12_hecOf_24 ?_
      refine lv_sipush (v := 255) hx hb dX12_hecOf_25 (by decide) ?_
      refine lv_iand hx hb dX12_hecOf_28 ?_
      refine lv_topi (fun v3 ev3 => ?_)
      refine lv_istore_n (lv' := [(1, .int v3), (3, .int v2), (2, .int k), (0, .int o)]) hx hb dX12_hecOf_29 rfl hl (by decide) rfl (fun ls hl => ?_)
      refine lv_iload_n hx hb dX12_hecOf_30 rfl (lv_at hl 1 rfl) ?_
      refine lv_iconst (v := 1) hx hb dX12_hecOf_31 (by decide) ?_
      refine lv_icmp_ne (tgt := 42) hx hb dX12_hecOf_32 (by decide) (fun c32 => ?_) (fun c32 => ?_)
      · refine lv_iload_n hx hb dX12_hecOf_42 rfl (lv_at hl 0 rfl) ?_
        refine lv_topi (fun v5 ev5 => ?_)
        refine lv_istore_n (lv' := [(1, .int v5), (3, .int v2), (2, .int k), (0, .int o)]) hx hb dX12_hecOf_43 rfl hl (by decide) rfl (fun ls hl => ?_)
        obtain ⟨v6, ev6⟩ : ∃ y : Int32, y = k + Int32.ofInt (-1) := ⟨_, rfl⟩
        refine lv_iinc (v := v6) (lv' := [(2, .int v6), (1, .int v5), (3, .int v2), (0, .int o)]) hx hb dX12_hecOf_44 hl (k := 2) rfl ev6.symm (by decide) rfl (fun ls hl => ?_)
        refine lv_goto (tgt := 5) hx hb dX12_hecOf_47 (by decide) ?_
        have hs : v5 = hm_step o r (kk (n + 1)) := by subst ev2; subst ev3; subst ev5; subst ev6; subst hk; first | exact (if_neg c32).symm | exact (if_pos c32).symm
        have hq : hm_run o (n + 1) r = hm_run o n v5 := by rw [hs]; rfl
        rw [hq]
        exact ih (by omega) v5 v6 (by rw [ev6, hk]; exact kk_succ n (by omega)) ls (lv_sub hl [0, 1, 3] rfl)
      · refine lv_iload_n hx hb dX12_hecOf_35 rfl (lv_at hl 0 rfl) ?_
        refine lv_bipush (v := 7) hx hb dX12_hecOf_36 (by decide) ?_
        refine lv_ixor hx hb dX12_hecOf_38 ?_
        refine lv_goto (tgt := 43) hx hb dX12_hecOf_39 (by decide) ?_
        refine lv_topi (fun v7 ev7 => ?_)
        refine lv_istore_n (lv' := [(1, .int v7), (3, .int v2), (2, .int k), (0, .int o)]) hx hb dX12_hecOf_43 rfl hl (by decide) rfl (fun ls hl => ?_)
        obtain ⟨v8, ev8⟩ : ∃ y : Int32, y = k + Int32.ofInt (-1) := ⟨_, rfl⟩
        refine lv_iinc (v := v8) (lv' := [(2, .int v8), (1, .int v7), (3, .int v2), (0, .int o)]) hx hb dX12_hecOf_44 hl (k := 2) rfl ev8.symm (by decide) rfl (fun ls hl => ?_)
        refine lv_goto (tgt := 5) hx hb dX12_hecOf_47 (by decide) ?_
        have hs : v7 = hm_step o r (kk (n + 1)) := by subst ev2; subst ev3; subst ev7; subst ev8; subst hk; first | exact (if_neg c32).symm | exact (if_pos c32).symm
        have hq : hm_run o (n + 1) r = hm_run o n v7 := by rw [hs]; rfl
        rw [hq]
        exact ih (by omega) v7 v8 (by rw [ev8, hk]; exact kk_succ n (by omega)) ls (lv_sub hl [0, 1, 3] rfl)
set_option maxHeartbeats 4000000 in
set_option maxRecDepth 100000 in
theorem c_hm (l : Launch) (o : Int32) : Met l yX12_hecOf wsX12_hecOf rm0 (va_Pc [.int o] (fun _ => True)) (pf_Q (hm o)) 0 0 (fun _ => False) := by
  refine Met.ofW (cc := cX12_hecOf) (maxL := 4) (ret := some .int) (by decide) rfl ?_
  intro p e s m args below meth c s₁ B hml hv
  obtain ⟨rfl, -⟩ := hv
  have hx := B.exec
  have hb := B.bytes
  have hr := B.returns
  have hts := atoms_spec (ws := wsX12_hecOf) B.pre
  have hown : s.vm.findClass RX12 = some m.cls := findClass_of_methodNamed B.named
  have hlocks := B.notSynchronized
  have hl := lv_entry ([.int o]) (n := 4) (Nat.le_of_ble_eq_true rfl)
  rw [lg_entry_eq]
  generalize (lg_sl ([.int o]) ++ List.replicate (4 - (lg_sl ([.int o])).length) Slot.unset).toArray = ls at hl ⊢
  have hl : lv_has ls 4 [(0, .int o)] := hl
  refine lv_iconst (v := 0) hx hb dX12_hecOf_0 (by decide) ?_
  refine lv_topi (fun v1 ev1 => ?_)
  refine lv_istore_n (lv' := [(1, .int v1), (0, .int o)]) hx hb dX12_hecOf_1 rfl hl (by decide) rfl (fun ls hl => ?_)
  refine lv_bipush (v := 31) hx hb dX12_hecOf_2 (by decide) ?_
  refine lv_topi (fun v2 ev2 => ?_)
  refine lv_istore_n (lv' := [(2, .int v2), (1, .int v1), (0, .int o)]) hx hb dX12_hecOf_4 rfl hl (by decide) rfl (fun ls hl => ?_)
  subst ev1
  exact hm_loop hx hb hr hlocks rfl o 32 (by decide) 0 v2 (by rw [ev2]; decide) ls (lv_sub hl [0, 1, 2] rfl)
