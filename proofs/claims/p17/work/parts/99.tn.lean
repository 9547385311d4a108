/-! THE LAW, from its entry -/
theorem wsX12_init_L : ∀ w ∈ wsX12_init, w ∈ lwT := List.forall_mem_cons.mpr ⟨wsU12_L _ uc_init, List.forall_mem_append.mpr ⟨List.forall_mem_append.mpr ⟨wsX12_init_r1_L, List.forall_mem_append.mpr ⟨wsX12_init_r2_L, List.forall_mem_append.mpr ⟨wsX12_init_r3_L, wsX12_init_r4_L⟩⟩⟩, wsX120_L⟩⟩
theorem wsX12_init_g : ∀ w ∈ wsX12_init, goodWord w = true := List.all_eq_true.mp (by decide +kernel)
theorem lw_gk15 : GoodIn lwT (wk (Cond.code yX11_init cX11_init 12 none)) := fun w hw => ⟨wsUC_L w (wk_all kd_X11_init w hw), good_of_word (wsUC_good w (wk_all kd_X11_init w hw))⟩
theorem lw_gk20 : GoodIn lwT wsX12_init := fun w hw => ⟨wsX12_init_L w hw, good_of_word (wsX12_init_g w hw)⟩
theorem lw_gcell : GoodIn lwT (va_wsS R_law 9 y_cell wsCell) := by
  refine goodIn_app (fun w hw => ?_) (fun w hw => ?_)
  · simp only [List.mem_cons, List.not_mem_nil, or_false] at hw
    rcases hw with e | e | e <;> rw [e]
    · exact ⟨lk_9, good_of_word rfl⟩
    · exact ⟨lk_st, good_of_word rfl⟩
    · exact ⟨lkn_law, good_of_word rfl⟩
  · have e : w = Cond.code y_cell method_2_code 2 (some .int) := List.mem_singleton.mp hw
    rw [e]
    exact ⟨lk_cd, good_of_word rfl⟩
theorem cell_blind {b L : Nat} {xs : Nat → Int32} {av : List Value} : FrameBlind (va_Pc av (fun U => va_X b L xs U U.heap ∧ b < U.heap.size)) := fun a U g mk q => ⟨q.1, va_X.moved (u := U) (U := U.calling g mk a) (Vm.Alike.refl U.vm) q.2.1, q.2.2⟩
theorem iPre_blind {Gm : mG} {h0 h1 : Nat} {av : List Value} : FrameBlind (va_Pc av (iPre Gm h0 h1)) := fun a U g mk q => ⟨q.1, q.2.1, q.2.2.1, mK.moved (u := U) (U := U.calling g mk a) (Vm.Alike.refl U.vm) q.2.2.2.1, q.2.2.2.2⟩
theorem mAp_I {h0 h1 : Nat} (h : h0 < h1) : mAp h0 (mAdI h1) := by
  refine ⟨fun j _ _ z => ?_, fun j k hj hk hij hik z => ?_⟩
  · have : mAdI h1 j = h1 + mPos j := rfl
    omega
  · have e1 : mAdI h1 j = h1 + mPos j := rfl
    have e2 : mAdI h1 k = h1 + mPos k := rfl
    exact mPos_inj j hj k hk hij hik (by omega)
theorem cAd_init {a e0 sz n q : Nat} (hn : 2 ≤ n ∧ n ≤ 4) (ha : a < sz) (h : cAd (zI a e0 sz n) q) : a ≤ q := by
  obtain ⟨K, i, hal, n55, e⟩ := h
  have e' : q = iA a e0 sz n K i := e
  rcases kB_of (a := a) (e0 := e0) (sz := sz) hn hal with p | p | p | p
  · obtain ⟨e1, k1, a1, a2, -⟩ := p
    omega
  · omega
  · exact absurd p.1 n55
  · omega
set_option maxHeartbeats 8000000 in
set_option maxRecDepth 100000 in
theorem whole_start {p : Program} {e : Env} {s : State} {m : MethodId} {below : List Frame} {meth : Method} {c : Code} (l : Launch) {b L : Nat} {xs : Nat → Int32} (hL : L ≤ 3073) (C0 : lw_At p s m meth c b L xs) : W p l e room_1 s m #[Value.ref b] below meth c s.heap [] 0 0 (lw_Z below #[Value.ref b] s) (entryFrame m ([Value.ref b] : List Value).toArray 4) := by
  obtain ⟨hx, hb, hr, hml, hown, hts0, hX, hbl, hlocks, hgv⟩ := id C0
  have hts := lwT_hts hts0
  obtain ⟨G, hK1, hTb⟩ := lw_world hts (lw_given hgv)
  obtain ⟨Gm, hKm, hfI, hfB⟩ := lw_ref hts
  have hne := lw_nest hts
  have hh := lw_stat hts hgv
  obtain ⟨-, e0, hz0, hT0⟩ := id hh
  have he0 : e0 < s.heap.size := by
    obtain ⟨cell, h1, -⟩ := hT0
    exact (Array.getElem?_eq_some_iff.mp h1).1
  have hl := lv_entry ([.ref b]) (n := 4) (Nat.le_of_ble_eq_true rfl)
  rw [lg_entry_eq]
  generalize (lg_sl ([.ref b]) ++ List.replicate (4 - (lg_sl ([.ref b])).length) Slot.unset).toArray = ls at hl ⊢
  have hl : lv_has ls 4 [(0, .ref b)] := hl
  refine k_new hx hb hts wsUC_L hown hK1 11 rfl tyX11 tyX11_ok lkc_7 lkt_X11 lkn_X11 (show 0 + 1 ≤ 600000 by decide) (show 0 + 12 ≤ 7302250 by decide) d_law_0 (fun H1 O1 s1 q1 => ?_)
  refine lv_dup hx hb d_law_3 rfl ?_
  refine lv_aload_n hx hb d_law_4 rfl (lv_at hl 0 rfl) ?_
  refine lv_iconst (v := 0) hx hb d_law_5 (by decide) ?_
  have hX1 : va_X b L xs s H1 := hX.kept (q1 b hbl)
  refine pf_call (va_runS (As := [.ref b, .int 0]) (rest := [.ref s.heap.size, .ref s.heap.size]) ⟨hx, hb, hml, hown, hts⟩ (c_cell l b L xs hL) (va_cwS 2 hts lw_gcell rfl rfl rfl (by decide +kernel) ⟨Nat.le_of_ble_eq_true rfl, Nat.le_of_ble_eq_true rfl⟩) ⟨cell_blind, fun U hU hW => ⟨rfl, by rw [hU]; exact hX1.moved hW.alike, by rw [hU]; omega⟩⟩ rfl rfl hl.1 rfl (lv_room (Nat.le_of_ble_eq_true rfl)) d_law_6 ⟨show 0 + 1 + 0 ≤ 600000 by decide, show 0 + 12 + 0 ≤ 7302250 by decide⟩) ?_
  refine k_raw (va_runI (b := s.heap.size) (As := [.int (cl0 L xs)]) (rest := [.ref s.heap.size]) ⟨hx, hb, hml, hown, hts⟩ (c_kfaInit l (G := G) e0 s.heap.size H1.size (cl0 L xs)) (cwI 1 hts lw_gk15 rfl rfl rfl (hts _ lkn_X11) (hts _ lk_15) (hts _ lki_15) rfl (by decide +kernel) ⟨Nat.le_of_ble_eq_true rfl, Nat.le_of_ble_eq_true rfl⟩) ⟨rPreS.blind, fun U hU hW => ⟨rfl, ⟨by rw [hU]; exact O1, hK1.moved hW.alike, by rw [hU], hTb.moved hW.alike, hne.warm hW⟩, by
    rw [hU]
    exact va_Z.narrow (va_Z.moved hW.alike (va_Z.kept hz0 (fun q h1 _ => q1 q h1))) (fun q hq => by
      show s.heap.size ≤ q
      rcases hq with z | z <;> omega)⟩⟩ rfl rfl hl.1 rfl (lv_room (Nat.le_of_ble_eq_true rfl)) d_law_9 ⟨show 0 + 1 + 308 ≤ 600000 by decide, show 0 + 12 + 68317 ≤ 7302250 by decide⟩) (fun w st t L2 hst hq hL2 => ?_)
  obtain ⟨ew, n, hcl, hn, hF⟩ := hq
  cases ew
  refine W.eq (g2 := F0 m 12 ls [.ref s.heap.size]) rfl ?_
  have hFl := hF.2.2.2.2.2.2.2.2.2.2.2
  have hFs := hF.1
  have q2 : ∀ q, q < s.heap.size → t.heap[q]? = s.heap[q]? := fun q h => by
    rw [hFl q (by omega) (by omega), hst, q1 q h]
  have hcH : cH G (zI s.heap.size e0 H1.size n) gI t.heap := cH_init hK1 hn hF (by
    obtain ⟨cell, h1, -⟩ := hT0
    exact ⟨cell, by rw [q2 e0 he0]; exact h1⟩)
  refine lv_astore_n (lv' := [(1, .ref s.heap.size), (0, .ref b)]) hx hb d_law_12 rfl hl (by decide) rfl (fun ls hl => ?_)
  refine W.newcK hx hb hown (hts _ lkc_18) (hts _ lkt_X12) (hts _ lkn_X12) (g := F0 m 13 ls []) rfl d_law_13 (show 0 + 1 + 308 + 1 ≤ 600000 by decide) (show 0 + 12 + 68317 + 92 ≤ 7302250 by decide) hKm.1.2.1 rfl (fun H3 kC hkC hcell s3 q3 => ?_)
  have O3 : t_OB t.heap.size Gm.1 92 Gm.2.1 H3 (fun k => defaultValue (tyX12 k)) := u_born tyX12 hts wsX120_L hKm.1 hkC hcell tyX12_ok
  refine W.eq (g2 := F0 m 16 ls [.ref t.heap.size]) rfl ?_
  refine lv_dup hx hb d_law_16 rfl ?_
  refine lv_aload_n hx hb d_law_17 rfl (lv_at hl 1 rfl) ?_
  refine lv_iconst (v := 0) hx hb d_law_18 (by decide) ?_
  have hX3 : va_X b L xs s H3 := hX.kept (by rw [q3 b (by omega), q2 b hbl])
  refine pf_call (va_runS (As := [.ref b, .int 0]) (rest := [.ref t.heap.size, .ref t.heap.size]) ⟨hx, hb, hml, hown, hts⟩ (c_cell l b L xs hL) (va_cwS 2 hts lw_gcell rfl rfl rfl (by decide +kernel) ⟨Nat.le_of_ble_eq_true rfl, Nat.le_of_ble_eq_true rfl⟩) ⟨cell_blind, fun U hU hW => ⟨rfl, by rw [hU]; exact hX3.moved hW.alike, by rw [hU]; omega⟩⟩ rfl rfl hl.1 rfl (lv_room (Nat.le_of_ble_eq_true rfl)) d_law_19 ⟨show 0 + 1 + 308 + 1 + 0 ≤ 600000 by decide, show 0 + 12 + 68317 + 92 + 0 ≤ 7302250 by decide⟩) ?_
  refine k_raw (va_runI (b := t.heap.size) (As := [.int (cl0 L xs)]) (rest := [.ref t.heap.size]) ⟨hx, hb, hml, hown, hts⟩ (c_init l (G := Gm) t.heap.size H3.size 0 (cl0 L xs) ⟨by decide, by decide⟩) (cwI 1 hts lw_gk20 rfl rfl rfl (hts _ lkn_X12) (hts _ lk_20) (hts _ lki_20) rfl (by decide +kernel) ⟨Nat.le_of_ble_eq_true rfl, Nat.le_of_ble_eq_true rfl⟩) ⟨iPre_blind, fun U hU hW => ⟨rfl, by rw [hU]; exact O3, by rw [hU], hKm.moved hW.alike, by rw [hW.alike.findClass]; exact hfI, by rw [hW.alike.findClass]; exact hfB⟩⟩ rfl rfl hl.1 rfl (lv_room (Nat.le_of_ble_eq_true rfl)) d_law_22 ⟨show 0 + 1 + 308 + 1 + 82 ≤ 600000 by decide, show 0 + 12 + 68317 + 92 + 239549 ≤ 7302250 by decide⟩) (fun w3 st3 t3 L3 hst3 hq3 hL3 => ?_)
  obtain ⟨⟨⟨nn, gm⟩, ew3, ⟨hnn, hmJ, hncl, hm16⟩, hmH, hmI⟩, hF3⟩ := hq3
  cases ew3
  refine W.eq (g2 := F0 m 25 ls [.ref t.heap.size]) rfl ?_
  have hnn : 2 ≤ nn ∧ nn ≤ 4 := hnn
  have hmJ : mJ nn [] gm := hmJ
  have hncl : nn = nCl (cl0 L xs) := hncl
  have hm16 : ∀ i, gm 16 i = 0 := hm16
  have hmH : mH Gm t.heap.size (mAdI H3.size) gm t3.heap := hmH
  have hmI : mI nn 0 gm := hmI
  obtain ⟨f1, f2⟩ := hF3
  rw [hst3] at f1 f2
  have q4 : ∀ q, q < t.heap.size → t3.heap[q]? = t.heap[q]? := fun q h => by
    rw [f2 q (by omega) (fun z => by rcases z with z | z <;> omega), q3 q h]
  refine lv_astore_n (lv' := [(2, .ref t.heap.size), (1, .ref s.heap.size), (0, .ref b)]) hx hb d_law_25 rfl hl (by decide) rfl (fun ls hl => ?_)
  refine lv_iconst (v := 1) hx hb d_law_26 (by decide) ?_
  refine lv_istore_n (lv' := [(3, .int 1), (2, .ref t.heap.size), (1, .ref s.heap.size), (0, .ref b)]) hx hb d_law_27 rfl hl (by decide) rfl (fun ls hl => ?_)
  have hlt : ∀ K i, (zI s.heap.size e0 H1.size n).al K i → (zI s.heap.size e0 H1.size n).ad K i < t.heap.size := fun K i h => hcH.lt h
  have x : cXA p c code s #[Value.ref b] lwT m G (zI s.heap.size e0 H1.size n) (fun q => s.heap.size ≤ q) R_law s.heap :=
    ⟨⟨hx, hb, hts, wsUC_L, hown, hK1, cAp_init hn (by omega) (by omega) (by omega), cSt_init hn, hh, hne, fun q h => cAd_init hn (by omega) h⟩, ⟨hTb, hz0⟩, fun q h => h⟩
  have hS : va_S (fun q => s.heap.size ≤ q) s.heap t3.heap ([] ++ L2 ++ L3) := by
    refine ⟨by omega, fun q h1 h2 => by rw [q4 q (by omega), q2 q h1], fun q hq => ?_⟩
    show s.heap.size ≤ q.base
    rcases List.mem_append.mp hq with h | h
    · have h : q ∈ L2 := h
      rcases hL2 q h with z | z
      · exact Nat.le_of_eq z.symm
      · exact Nat.le_trans (show s.heap.size ≤ H1.size by omega) z
    · rcases hL3 q h with z | z
      · exact Nat.le_trans (show s.heap.size ≤ t.heap.size by omega) (Nat.le_of_eq z.symm)
      · exact Nat.le_trans (show s.heap.size ≤ H3.size by omega) z
  have hcL : cL G (zI s.heap.size e0 H1.size n) (fun q => s.heap.size ≤ q) s.heap (848000 * ((0 : Nat) : Int)) gI t3.heap ([] ++ L2 ++ L3) :=
    ⟨hcH.keep (fun K i h => q4 _ (hlt K i h)), hS, cI_init (by decide)⟩
  have hlM : lwM Gm t.heap.size (mAdI H3.size) nn (84800 * ((0 : Nat) : Int)) gm s (zI s.heap.size e0 H1.size n) t3.heap := by
    refine ⟨hmH, hmI.mono (by decide), fun q hq => ?_⟩
    have hge : t.heap.size ≤ q ∧ q < t3.heap.size := by
      rcases hq with z | ⟨j, hj, hij, z⟩
      · rw [z]
        obtain ⟨cell, h1, -⟩ := hmH.1
        exact ⟨Nat.le_refl _, (Array.getElem?_eq_some_iff.mp h1).1⟩
      · have e1 : mAdI H3.size j = H3.size + mPos j := rfl
        have := (Array.getElem?_eq_some_iff.mp (hmH.2 j hj hij)).1
        omega
    refine ⟨fun z => ?_, by omega, hge.2⟩
    obtain ⟨K, i, hal, -, e⟩ := z
    have := hlt K i hal
    omega
  refine W.widen (k := 392 + (zI s.heap.size e0 H1.size n).w 0) (n := 307970 + (zI s.heap.size e0 H1.size n).w 1) (show 0 + 1 + 308 + 1 + 82 ≤ 392 + 0 by decide) (show 0 + 12 + 68317 + 92 + 239549 ≤ 307970 + 0 by decide) ?_
  exact lw_loop hL C0 hts ⟨hKm, mAp_I (by omega)⟩ hnn 512 0 rfl 1 ls (zI s.heap.size e0 H1.size n) gI gm t3.heap _ (by decide) x hcL (cJ_init hn) (MI_init hn) hlM hmJ ⟨show ((n : Nat) : Int) = nn by rw [hcl]; exact hncl.symm, fun q => by rw [cDm_nil (gz 106 q (by decide)), rDm_nil (hm16 q)]⟩ (lv_sub hl [3, 2, 1, 0] rfl)
