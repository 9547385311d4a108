theorem r_end {p : Program} {l : Launch} {e : Env} {R : Room} {s : State} {m : MethodId} {args : Array Value} {below : List Frame} {meth : Method} {c : Code} {H : Heap} {locs : List Loc} {cells slots mc ms : Nat} {free : Addr → Prop} {Qc : Array Value → State → Outcome → State → Prop} {gf : JFrame} (h : W p l e R s m args below meth c H locs cells slots (MQ below Qc args s cells slots free) gf) (h1 : cells ≤ mc) (h2 : slots ≤ ms) : W p l e R s m args below meth c H locs cells slots (MQ below Qc args s mc ms free) gf := by
  intro T hT X
  obtain ⟨t, a, o, b1, b2, b3, L, ⟨f1, f2, f3⟩, hL⟩ := h T hT X
  exact ⟨t, a, o, b1, b2, b3, L, ⟨f1, f2, f3.mono h1 h2⟩, hL⟩
def rm_kfaInit : Room := { frames := 6, cells := 308, slots := 68317, locals := 120 }
def vFa (sz n : Nat) : Nat → Value := fun k => if k = 0 then .int (Int32.ofNat n) else if k = 1 then .ref (sz + 4) else if k = 2 then .ref (sz + 5) else if k = 3 then .ref (sz + 6) else if k = 4 then .ref (sz + 7) else if k = 5 then .ref sz else if k = 6 then .ref (sz + 1) else if k = 7 then .ref (sz + 2) else if k = 8 then .ref (sz + 3) else .int 0
def vFb (sz : Nat) : Nat → Value := fun k => if k = 5 then .ref sz else if k = 6 then .ref (sz + 1) else if k = 7 then .ref (sz + 2) else if k = 8 then .ref (sz + 3) else defaultValue (tyX11 k)
set_option maxHeartbeats 8000000 in
set_option maxRecDepth 100000 in
theorem c_kfaInit (l : Launch) {G : cG} (e0 a sz : Nat) (p1 : Int32) : Met l yX11_init (wk (Cond.code yX11_init cX11_init 12 none)) rm_kfaInit (va_Pc [.ref a, .int p1] (rPreS G e0 a 11 sz tyX11)) (fun _ st oc t => oc = .returned none ∧ ∃ n : Nat, (n : Int) = nCl p1 ∧ (2 ≤ n ∧ n ≤ 4) ∧ rFa G e0 a sz n n (vFa sz n) st t.heap) 308 68317 (fun q => q = a ∨ sz ≤ q) := by
  refine Met.ofW (cc := cX11_init) (maxL := 12) (ret := none) (by decide) rfl ?_
  intro p e s m args below meth c s₁ B hml hv
  obtain ⟨hav, ⟨O, hK1, hsz, hTb, hne⟩, hZ⟩ := hv
  have hent : entryFrame m args 12 = entryFrame m ([.ref a, .int p1] : List Value).toArray 12 := by rw [hav]
  rw [hent]
  have hr := B.returns
  have hlocks := B.notSynchronized
  have hx := B.exec
  have hb := B.bytes
  have hts := atoms_spec (ws := wk (Cond.code yX11_init cX11_init 12 none)) B.pre
  have hin : ∀ w ∈ wsUC, w ∈ wk (Cond.code yX11_init cX11_init 12 none) := fun w h => wk_in h
  have hown : s.vm.findClass RX11 = some m.cls := findClass_of_methodNamed B.named
  have hnm : meth.name = "<init>" := (name_of_methodNamed B.named B.method).1
  have hl := lv_entry ([.ref a, .int p1]) (n := 12) (Nat.le_of_ble_eq_true rfl)
  rw [lg_entry_eq]
  generalize (lg_sl ([.ref a, .int p1]) ++ List.replicate (12 - (lg_sl ([.ref a, .int p1])).length) Slot.unset).toArray = ls at hl ⊢
  have hl : lv_has ls 12 [(0, .ref a), (1, .int p1)] := hl
  have hla : a < sz := by rw [← hsz]; exact O.lt
  have k0 : (0 : Int32).toInt = 0 := by decide
  have k1 : (1 : Int32).toInt = 1 := by decide
  have k2 : (2 : Int32).toInt = 2 := by decide
  have k4 : (4 : Int32).toInt = 4 := by decide
  refine lv_aload_n hx hb dX11_init_0 rfl (lv_at hl 0 rfl) ?_
  refine W.objInit hx hb hown (hts _ (wk_in kl_X11_3)) (hts _ (wk_in kz_0_2)) (hts _ (wk_in kz_0_3)) rfl (by rw [hml]; exact hl.1) rfl dX11_init_1 (Nat.le_of_ble_eq_true rfl) (Nat.le_of_ble_eq_true rfl) ?_
  refine lv_aload_n hx hb dX11_init_4 rfl (lv_at hl 0 rfl) ?_
  have le : ∀ q, q < sz → q ≠ a → s.heap[q]? = s.heap[q]? := fun _ _ _ => rfl
  have Lo : ∀ q ∈ ([] : List Loc), q.base = a ∨ sz ≤ q.base := fun q h => (by cases h)
  refine k_new hx hb hts hin hown hK1 9 rfl tyX9 tyX9_ok (wk_in kc_lX11_9) (wk_in kx_X9) (wk_in kn_X9) (show 0 + 1 ≤ 308 by decide) (show 0 + 9 ≤ 68317 by decide) dX11_init_5 (fun H1 O1 s1 q1 => ?_)
  have O := O.kept (q1 _ (by omega))
  have le : ∀ q, q < sz → q ≠ a → H1[q]? = s.heap[q]? := fun q h1 h2 => by rw [q1 q (by omega), le q h1 h2]
  have w1 : H1.size = sz + 1 := by omega
  have O1 : rOb G sz 9 (fun k => defaultValue (tyX9 k)) H1 := by rw [← hsz]; exact O1
  rw [show s.heap.size = sz from hsz]
  refine lv_dup hx hb dX11_init_8 rfl ?_
  refine k_raw (va_runIN (b := sz) (As := []) (rest := [.ref sz, .ref a]) ⟨hx, hb, hml, hown, hts⟩ (c_ksgInit l (G := G) sz H1.size) ⟨va_cnB 0 hts (wk_good kd_X9_init) rfl rfl rfl (hne.1 _ (List.mem_of_getElem? (i := 0) rfl)) (hts _ (wk_in kn_X9)) (by decide +kernel) ⟨Nat.le_of_ble_eq_true rfl, Nat.le_of_ble_eq_true rfl⟩, rfl, hts _ (wk_in ki_X9_init)⟩ ⟨rPre.blind, fun U hU hW => ⟨rfl, by rw [hU]; exact O1, hK1.moved hW.alike, by rw [hU], hTb.moved hW.alike, hne.warm hW⟩⟩ rfl rfl hl.1 rfl (lv_room (Nat.le_of_ble_eq_true rfl)) dX11_init_9 ⟨show 0 + 1 + 0 ≤ 308 by decide, show 0 + 9 + 0 ≤ 68317 by decide⟩) (fun w2v st2 t2 L2 h2 hq2 hL2 => ?_)
  obtain ⟨ew2, n2, s2, q2⟩ := hq2
  cases ew2
  rw [h2] at q2
  have O := O.kept (q2 _ (by omega) (by omega))
  have le : ∀ q, q < sz → q ≠ a → t2.heap[q]? = s.heap[q]? := fun q h1 h2 => by rw [q2 q (by omega) (by omega), le q h1 h2]
  have w2 : t2.heap.size = sz + 1 := by omega
  have Lo := r_app Lo (fun q h => (hL2 q h).elim (fun z => Or.inr (by rw [z]; exact Nat.le_refl _)) (fun z => Or.inr (Nat.le_trans (by omega) z)))
  refine W.eq (g2 := F0 m 12 ls [.ref sz, .ref a]) rfl ?_
  refine k_putF (ty := tyX11 5) hx hb hts hin hown hK1 hnm 11 O 5 rfl ⟨rfl, rfl⟩ (tyX11_ok 5 (by decide)) rfl rfl (wk_in kf_X11_12) dX11_init_12 (fun H3 O3 s3 q3 => ?_)
  have n2 := n2.kept (q3 _ (by omega))
  have le : ∀ q, q < sz → q ≠ a → H3[q]? = s.heap[q]? := fun q h1 h2 => by rw [q3 q h2, le q h1 h2]
  have w3 : H3.size = sz + 1 := by omega
  have Lo := r_app Lo (r_one (P := fun q => q.base = a ∨ sz ≤ q.base) (x := ⟨a, G.2.1 11 5⟩) (Or.inl rfl))
  refine lv_aload_n hx hb dX11_init_15 rfl (lv_at hl 0 rfl) ?_
  refine lv_bipush (v := 60) hx hb dX11_init_16 (by decide) ?_
  refine r_newi (N := 60) hx hb hTb (hts _ (wk_in ka_int)) (by decide) (by decide) (Nat.le_of_ble_eq_true rfl) (Nat.le_of_ble_eq_true rfl) dX11_init_18 (fun H4 s4 n4 q4 => ?_)
  have O3 := O3.kept (q4 _ (by omega))
  have n2 := n2.kept (q4 _ (by omega))
  have le : ∀ q, q < sz → q ≠ a → H4[q]? = s.heap[q]? := fun q h1 h2 => by rw [q4 q (by omega), le q h1 h2]
  have w4 : H4.size = sz + 2 := by omega
  have n4 : rAi G (sz + 1) 60 H4 := by rw [← show H3.size = sz + 1 from w3]; exact n4
  rw [show H3.size = sz + 1 from w3]
  refine k_putF (ty := tyX11 6) hx hb hts hin hown hK1 hnm 11 O3 6 rfl ⟨rfl, rfl⟩ (tyX11_ok 6 (by decide)) rfl rfl (wk_in kf_X11_16) dX11_init_20 (fun H5 O5 s5 q5 => ?_)
  have n2 := n2.kept (q5 _ (by omega))
  have n4 := n4.kept (q5 _ (by omega))
  have le : ∀ q, q < sz → q ≠ a → H5[q]? = s.heap[q]? := fun q h1 h2 => by rw [q5 q h2, le q h1 h2]
  have w5 : H5.size = sz + 2 := by omega
  have Lo := r_app Lo (r_one (P := fun q => q.base = a ∨ sz ≤ q.base) (x := ⟨a, G.2.1 11 6⟩) (Or.inl rfl))
  refine lv_aload_n hx hb dX11_init_23 rfl (lv_at hl 0 rfl) ?_
  refine lv_sipush (v := 240) hx hb dX11_init_24 (by decide) ?_
  refine r_newi (N := 240) hx hb hTb (hts _ (wk_in ka_int)) (by decide) (by decide) (Nat.le_of_ble_eq_true rfl) (Nat.le_of_ble_eq_true rfl) dX11_init_27 (fun H6 s6 n6 q6 => ?_)
  have O5 := O5.kept (q6 _ (by omega))
  have n2 := n2.kept (q6 _ (by omega))
  have n4 := n4.kept (q6 _ (by omega))
  have le : ∀ q, q < sz → q ≠ a → H6[q]? = s.heap[q]? := fun q h1 h2 => by rw [q6 q (by omega), le q h1 h2]
  have w6 : H6.size = sz + 3 := by omega
  have n6 : rAi G (sz + 2) 240 H6 := by rw [← show H5.size = sz + 2 from w5]; exact n6
  rw [show H5.size = sz + 2 from w5]
  refine k_putF (ty := tyX11 7) hx hb hts hin hown hK1 hnm 11 O5 7 rfl ⟨rfl, rfl⟩ (tyX11_ok 7 (by decide)) rfl rfl (wk_in kf_X11_20) dX11_init_29 (fun H7 O7 s7 q7 => ?_)
  have n2 := n2.kept (q7 _ (by omega))
  have n4 := n4.kept (q7 _ (by omega))
  have n6 := n6.kept (q7 _ (by omega))
  have le : ∀ q, q < sz → q ≠ a → H7[q]? = s.heap[q]? := fun q h1 h2 => by rw [q7 q h2, le q h1 h2]
  have w7 : H7.size = sz + 3 := by omega
  have Lo := r_app Lo (r_one (P := fun q => q.base = a ∨ sz ≤ q.base) (x := ⟨a, G.2.1 11 7⟩) (Or.inl rfl))
  refine lv_aload_n hx hb dX11_init_32 rfl (lv_at hl 0 rfl) ?_
  refine lv_sipush (v := 200) hx hb dX11_init_33 (by decide) ?_
  refine r_newi (N := 200) hx hb hTb (hts _ (wk_in ka_int)) (by decide) (by decide) (Nat.le_of_ble_eq_true rfl) (Nat.le_of_ble_eq_true rfl) dX11_init_36 (fun H8 s8 n8 q8 => ?_)
  have O7 := O7.kept (q8 _ (by omega))
  have n2 := n2.kept (q8 _ (by omega))
  have n4 := n4.kept (q8 _ (by omega))
  have n6 := n6.kept (q8 _ (by omega))
  have le : ∀ q, q < sz → q ≠ a → H8[q]? = s.heap[q]? := fun q h1 h2 => by rw [q8 q (by omega), le q h1 h2]
  have w8 : H8.size = sz + 4 := by omega
  have n8 : rAi G (sz + 3) 200 H8 := by rw [← show H7.size = sz + 3 from w7]; exact n8
  rw [show H7.size = sz + 3 from w7]
  refine k_putF (ty := tyX11 8) hx hb hts hin hown hK1 hnm 11 O7 8 rfl ⟨rfl, rfl⟩ (tyX11_ok 8 (by decide)) rfl rfl (wk_in kf_X11_23) dX11_init_38 (fun H9 O9 s9 q9 => ?_)
  have n2 := n2.kept (q9 _ (by omega))
  have n4 := n4.kept (q9 _ (by omega))
  have n6 := n6.kept (q9 _ (by omega))
  have n8 := n8.kept (q9 _ (by omega))
  have le : ∀ q, q < sz → q ≠ a → H9[q]? = s.heap[q]? := fun q h1 h2 => by rw [q9 q h2, le q h1 h2]
  have w9 : H9.size = sz + 4 := by omega
  have Lo := r_app Lo (r_one (P := fun q => q.base = a ∨ sz ≤ q.base) (x := ⟨a, G.2.1 11 8⟩) (Or.inl rfl))
  refine lv_iconst (v := 2) hx hb dX11_init_41 (by decide) ?_
  refine lv_iconst (v := 4) hx hb dX11_init_42 (by decide) ?_
  refine lv_iload_n hx hb dX11_init_43 rfl (lv_at hl 1 rfl) ?_
  refine va_mmin (rest := [.int 2]) hx hb (hml.trans hl.1.symm) hown (hts _ (wk_in kl_X11_26)) (hts _ (wk_in kw_min.1)) (hts _ (wk_in kw_min.2.1)) (hts _ (wk_in kw_min.2.2)) (Nat.le_of_ble_eq_true rfl) (Nat.le_of_ble_eq_true rfl) (Nat.le_of_ble_eq_true rfl) (Nat.le_of_ble_eq_true rfl) dX11_init_44 ?_
  refine va_mmax (rest := []) hx hb (hml.trans hl.1.symm) hown (hts _ (wk_in kl_X11_32)) (hts _ (wk_in kw_max.1)) (hts _ (wk_in kw_max.2.1)) (hts _ (wk_in kw_max.2.2)) (Nat.le_of_ble_eq_true rfl) (Nat.le_of_ble_eq_true rfl) (Nat.le_of_ble_eq_true rfl) (Nat.le_of_ble_eq_true rfl) dX11_init_47 ?_
  refine lv_topi (fun nn enn => ?_)
  have hnn2 : 2 ≤ nn.toInt ∧ nn.toInt ≤ 4 := by
    rw [enn]
    by_cases h1 : p1 < 4
    · rw [if_pos h1]
      have h1' := Int32.lt_iff_toInt_lt.mp h1
      by_cases h2 : (2 : Int32) < p1
      · rw [if_pos h2]
        have := Int32.lt_iff_toInt_lt.mp h2
        omega
      · rw [if_neg h2]
        omega
    · rw [if_neg h1, if_pos (by decide)]
      omega
  obtain ⟨n, hn⟩ : ∃ n : Nat, nn.toInt = (n : Int) := ⟨nn.toInt.toNat, by omega⟩
  have hncl : (n : Int) = nCl p1 := by
    rw [← hn, enn]
    unfold nCl
    by_cases h1 : p1 < 4
    · rw [if_pos h1]
      have h1' := Int32.lt_iff_toInt_lt.mp h1
      by_cases h2 : (2 : Int32) < p1
      · rw [if_pos h2]
        have := Int32.lt_iff_toInt_lt.mp h2
        rw [if_neg (by omega), if_neg (by omega)]
      · rw [if_neg h2]
        have h2' : ¬ (2 : Int32).toInt < p1.toInt := fun z => h2 (Int32.lt_iff_toInt_lt.mpr z)
        by_cases h3 : p1.toInt < 2
        · rw [if_pos h3]
          exact k2
        · rw [if_neg h3, if_neg (by omega)]
          omega
    · rw [if_neg h1, if_pos (by decide)]
      have h1' : ¬ p1.toInt < (4 : Int32).toInt := fun z => h1 (Int32.lt_iff_toInt_lt.mpr z)
      by_cases h3 : p1.toInt = 4
      · rw [if_neg (by omega), if_neg (by omega), h3]
        exact k4
      · rw [if_neg (by omega), if_pos (by omega)]
        exact k4
  have hn4 : 2 ≤ n ∧ n ≤ 4 := by omega
  have hnI : nn = Int32.ofNat n := Int32.toInt_inj.mp (by rw [hn]; exact (nI_toInt (n := n) (by omega)).symm)
  clear enn
  refine lv_istore_n (lv' := [(2, .int nn), (0, .ref a), (1, .int p1)]) hx hb dX11_init_50 rfl hl (by decide) rfl (fun ls hl => ?_)
  refine lv_iconst (v := 2) hx hb dX11_init_51 (by decide) ?_
  refine lv_iload_n hx hb dX11_init_52 rfl (lv_at hl 0 rfl) ?_
  refine lv_imul hx hb dX11_init_53 ?_
  refine lv_topi (fun d54 ed54 => ?_)
  have hd54 : d54.toInt = ((2 * n : Nat) : Int) := by
    have := ti_mul (x := 2) (y := nn) (by rw [k2, hn]; omega) (by rw [k2, hn]; omega)
    rw [← ed54, k2, hn] at this
    omega
  refine r_newr (K := 50) (N := (2 * n)) hx hb hTb hK1 hown (by decide) (by decide) (hts _ (wk_in kc_lX11_35)) hd54 (by omega) (Nat.le_of_ble_eq_true rfl) (by show _ ≤ 68317; omega) dX11_init_54 (fun H10 s10 n10 q10 => ?_)
  have O9 := O9.kept (q10 _ (by omega))
  have n2 := n2.kept (q10 _ (by omega))
  have n4 := n4.kept (q10 _ (by omega))
  have n6 := n6.kept (q10 _ (by omega))
  have n8 := n8.kept (q10 _ (by omega))
  have le : ∀ q, q < sz → q ≠ a → H10[q]? = s.heap[q]? := fun q h1 h2 => by rw [q10 q (by omega), le q h1 h2]
  have w10 : H10.size = sz + 5 := by omega
  have n10 : rAr G (sz + 4) 50 (2 * n) H10 := by rw [← show H9.size = sz + 4 from w9]; exact n10
  rw [show H9.size = sz + 4 from w9]
  refine lv_astore_n (lv' := [(3, .ref (sz + 4)), (2, .int nn), (0, .ref a), (1, .int p1)]) hx hb dX11_init_57 rfl hl (by decide) rfl (fun ls hl => ?_)
  refine lv_iload_n hx hb dX11_init_58 rfl (lv_at hl 1 rfl) ?_
  refine r_newr (K := 51) (N := n) hx hb hTb hK1 hown (by decide) (by decide) (hts _ (wk_in kc_lX11_37)) hn (by omega) (Nat.le_of_ble_eq_true rfl) (by show _ ≤ 68317; omega) dX11_init_59 (fun H11 s11 n11 q11 => ?_)
  have O9 := O9.kept (q11 _ (by omega))
  have n2 := n2.kept (q11 _ (by omega))
  have n4 := n4.kept (q11 _ (by omega))
  have n6 := n6.kept (q11 _ (by omega))
  have n8 := n8.kept (q11 _ (by omega))
  have n10 := n10.kept (q11 _ (by omega))
  have le : ∀ q, q < sz → q ≠ a → H11[q]? = s.heap[q]? := fun q h1 h2 => by rw [q11 q (by omega), le q h1 h2]
  have w11 : H11.size = sz + 6 := by omega
  have n11 : rAr G (sz + 5) 51 n H11 := by rw [← show H10.size = sz + 5 from w10]; exact n11
  rw [show H10.size = sz + 5 from w10]
  refine lv_astore (lv' := [(4, .ref (sz + 5)), (3, .ref (sz + 4)), (2, .int nn), (0, .ref a), (1, .int p1)]) hx hb dX11_init_62 hl (by decide) rfl (fun ls hl => ?_)
  refine lv_iload_n hx hb dX11_init_64 rfl (lv_at hl 2 rfl) ?_
  refine r_newr (K := 49) (N := n) hx hb hTb hK1 hown (by decide) (by decide) (hts _ (wk_in kc_lX11_39)) hn (by omega) (Nat.le_of_ble_eq_true rfl) (by show _ ≤ 68317; omega) dX11_init_65 (fun H12 s12 n12 q12 => ?_)
  have O9 := O9.kept (q12 _ (by omega))
  have n2 := n2.kept (q12 _ (by omega))
  have n4 := n4.kept (q12 _ (by omega))
  have n6 := n6.kept (q12 _ (by omega))
  have n8 := n8.kept (q12 _ (by omega))
  have n10 := n10.kept (q12 _ (by omega))
  have n11 := n11.kept (q12 _ (by omega))
  have le : ∀ q, q < sz → q ≠ a → H12[q]? = s.heap[q]? := fun q h1 h2 => by rw [q12 q (by omega), le q h1 h2]
  have w12 : H12.size = sz + 7 := by omega
  have n12 : rAr G (sz + 6) 49 n H12 := by rw [← show H11.size = sz + 6 from w11]; exact n12
  rw [show H11.size = sz + 6 from w11]
  refine lv_astore (lv' := [(5, .ref (sz + 6)), (4, .ref (sz + 5)), (3, .ref (sz + 4)), (2, .int nn), (0, .ref a), (1, .int p1)]) hx hb dX11_init_68 hl (by decide) rfl (fun ls hl => ?_)
  refine lv_iconst (v := 2) hx hb dX11_init_70 (by decide) ?_
  refine lv_iload_n hx hb dX11_init_71 rfl (lv_at hl 3 rfl) ?_
  refine lv_imul hx hb dX11_init_72 ?_
  refine lv_topi (fun d73 ed73 => ?_)
  have hd73 : d73.toInt = ((2 * n : Nat) : Int) := by
    have := ti_mul (x := 2) (y := nn) (by rw [k2, hn]; omega) (by rw [k2, hn]; omega)
    rw [← ed73, k2, hn] at this
    omega
  refine r_newr (K := 52) (N := (2 * n)) hx hb hTb hK1 hown (by decide) (by decide) (hts _ (wk_in kc_lX11_41)) hd73 (by omega) (Nat.le_of_ble_eq_true rfl) (by show _ ≤ 68317; omega) dX11_init_73 (fun H13 s13 n13 q13 => ?_)
  have O9 := O9.kept (q13 _ (by omega))
  have n2 := n2.kept (q13 _ (by omega))
  have n4 := n4.kept (q13 _ (by omega))
  have n6 := n6.kept (q13 _ (by omega))
  have n8 := n8.kept (q13 _ (by omega))
  have n10 := n10.kept (q13 _ (by omega))
  have n11 := n11.kept (q13 _ (by omega))
  have n12 := n12.kept (q13 _ (by omega))
  have le : ∀ q, q < sz → q ≠ a → H13[q]? = s.heap[q]? := fun q h1 h2 => by rw [q13 q (by omega), le q h1 h2]
  have w13 : H13.size = sz + 8 := by omega
  have n13 : rAr G (sz + 7) 52 (2 * n) H13 := by rw [← show H12.size = sz + 7 from w12]; exact n13
  rw [show H12.size = sz + 7 from w12]
  refine lv_astore (lv' := [(6, .ref (sz + 7)), (5, .ref (sz + 6)), (4, .ref (sz + 5)), (3, .ref (sz + 4)), (2, .int nn), (0, .ref a), (1, .int p1)]) hx hb dX11_init_76 hl (by decide) rfl (fun ls hl => ?_)
  refine lv_iconst (v := 0) hx hb dX11_init_78 (by decide) ?_
  refine lv_istore (lv' := [(7, .int 0), (6, .ref (sz + 7)), (5, .ref (sz + 6)), (4, .ref (sz + 5)), (3, .ref (sz + 4)), (2, .int nn), (0, .ref a), (1, .int p1)]) hx hb dX11_init_79 hl (by decide) rfl (fun ls hl => ?_)
  have loop : ∀ (d e1 : Nat) (H : Heap) (locs : List Loc) (ls : Array Slot) (i : Int32), e1 + d = n → i.toInt = (e1 : Int) → rFa G e0 a sz n e1 (vFb sz) s H → (∀ q ∈ locs, q.base = a ∨ sz ≤ q.base) → lv_has ls 12 [(0, .ref a), (2, .int nn), (3, .ref (sz + 4)), (4, .ref (sz + 5)), (5, .ref (sz + 6)), (6, .ref (sz + 7)), (7, .int i)] → W p l e (headSpec (wk (Cond.code yX11_init cX11_init 12 none)) rm_kfaInit).room s m args below meth c H locs (8 + 75 * e1) (509 + 6 * n + 16946 * e1) (MQ below (fun _ st oc t => oc = .returned none ∧ ∃ n : Nat, (n : Int) = nCl p1 ∧ (2 ≤ n ∧ n ≤ 4) ∧ rFa G e0 a sz n n (vFa sz n) st t.heap) args s 308 68317 (fun q => q = a ∨ sz ≤ q)) (F0 m 81 ls []) := by
    intro d
    induction d with
    | zero =>
      intro e1 H locs ls i he hi hF hLo hl
      have he1 : e1 = n := by omega
      subst he1
      refine lv_iload hx hb dX11_init_81 (lv_at hl 6 rfl) ?_
      refine lv_iload_n hx hb dX11_init_83 rfl (lv_at hl 1 rfl) ?_
      refine lv_icmp_ge (tgt := 201) hx hb dX11_init_84 (by decide) (fun _ => ?_) (fun z => absurd (show nn ≤ i by rw [Int32.le_iff_toInt_le]; omega) z)
      obtain ⟨z0, fO, fG, f1, f2, f3, fW0, fE0, fS0, fA0, hE, le⟩ := hF
      refine lv_aload_n hx hb dX11_init_201 rfl (lv_at hl 0 rfl) ?_
      refine lv_iload_n hx hb dX11_init_202 rfl (lv_at hl 1 rfl) ?_
      refine k_putF (ty := tyX11 0) hx hb hts hin hown hK1 hnm 11 fO 0 rfl ⟨rfl, rfl⟩ (tyX11_ok 0 (by decide)) rfl rfl (wk_in kf_X11_55) dX11_init_203 (fun J0 P0 s0 q0 => ?_)
      have fG := fG.kept (q0 _ (by omega))
      have f1 := f1.kept (q0 _ (by omega))
      have f2 := f2.kept (q0 _ (by omega))
      have f3 := f3.kept (q0 _ (by omega))
      have fW0 := fW0.kept (q0 _ (by omega))
      have fE0 := fE0.kept (q0 _ (by omega))
      have fS0 := fS0.kept (q0 _ (by omega))
      have fA0 := fA0.kept (q0 _ (by omega))
      have hE : ∀ j, j < e1 → rEb G e0 sz (sz + 8 + 75 * j) j J0 := fun j hj => (hE j hj).kept (fun q hq => q0 q (by omega))
      have le : ∀ q, q < sz → q ≠ a → J0[q]? = s.heap[q]? := fun q h1 h2 => by rw [q0 q h2, le q h1 h2]
      have hLo := r_app hLo (r_one (P := fun q => q.base = a ∨ sz ≤ q.base) (x := ⟨a, G.2.1 11 0⟩) (Or.inl rfl))
      refine lv_aload_n hx hb dX11_init_206 rfl (lv_at hl 0 rfl) ?_
      refine lv_aload_n hx hb dX11_init_207 rfl (lv_at hl 2 rfl) ?_
      refine k_putF (ty := tyX11 1) hx hb hts hin hown hK1 hnm 11 P0 1 rfl ⟨rfl, rfl⟩ (tyX11_ok 1 (by decide)) rfl rfl (wk_in kf_X11_59) dX11_init_208 (fun J1 P1 s1 q1 => ?_)
      have fG := fG.kept (q1 _ (by omega))
      have f1 := f1.kept (q1 _ (by omega))
      have f2 := f2.kept (q1 _ (by omega))
      have f3 := f3.kept (q1 _ (by omega))
      have fW0 := fW0.kept (q1 _ (by omega))
      have fE0 := fE0.kept (q1 _ (by omega))
      have fS0 := fS0.kept (q1 _ (by omega))
      have fA0 := fA0.kept (q1 _ (by omega))
      have hE : ∀ j, j < e1 → rEb G e0 sz (sz + 8 + 75 * j) j J1 := fun j hj => (hE j hj).kept (fun q hq => q1 q (by omega))
      have le : ∀ q, q < sz → q ≠ a → J1[q]? = s.heap[q]? := fun q h1 h2 => by rw [q1 q h2, le q h1 h2]
      have hLo := r_app hLo (r_one (P := fun q => q.base = a ∨ sz ≤ q.base) (x := ⟨a, G.2.1 11 1⟩) (Or.inl rfl))
      refine lv_aload_n hx hb dX11_init_211 rfl (lv_at hl 0 rfl) ?_
      refine lv_aload hx hb dX11_init_212 (lv_at hl 3 rfl) ?_
      refine k_putF (ty := tyX11 2) hx hb hts hin hown hK1 hnm 11 P1 2 rfl ⟨rfl, rfl⟩ (tyX11_ok 2 (by decide)) rfl rfl (wk_in kf_X11_63) dX11_init_214 (fun J2 P2 s2 q2 => ?_)
      have fG := fG.kept (q2 _ (by omega))
      have f1 := f1.kept (q2 _ (by omega))
      have f2 := f2.kept (q2 _ (by omega))
      have f3 := f3.kept (q2 _ (by omega))
      have fW0 := fW0.kept (q2 _ (by omega))
      have fE0 := fE0.kept (q2 _ (by omega))
      have fS0 := fS0.kept (q2 _ (by omega))
      have fA0 := fA0.kept (q2 _ (by omega))
      have hE : ∀ j, j < e1 → rEb G e0 sz (sz + 8 + 75 * j) j J2 := fun j hj => (hE j hj).kept (fun q hq => q2 q (by omega))
      have le : ∀ q, q < sz → q ≠ a → J2[q]? = s.heap[q]? := fun q h1 h2 => by rw [q2 q h2, le q h1 h2]
      have hLo := r_app hLo (r_one (P := fun q => q.base = a ∨ sz ≤ q.base) (x := ⟨a, G.2.1 11 2⟩) (Or.inl rfl))
      refine lv_aload_n hx hb dX11_init_217 rfl (lv_at hl 0 rfl) ?_
      refine lv_aload hx hb dX11_init_218 (lv_at hl 4 rfl) ?_
      refine k_putF (ty := tyX11 3) hx hb hts hin hown hK1 hnm 11 P2 3 rfl ⟨rfl, rfl⟩ (tyX11_ok 3 (by decide)) rfl rfl (wk_in kf_X11_67) dX11_init_220 (fun J3 P3 s3 q3 => ?_)
      have fG := fG.kept (q3 _ (by omega))
      have f1 := f1.kept (q3 _ (by omega))
      have f2 := f2.kept (q3 _ (by omega))
      have f3 := f3.kept (q3 _ (by omega))
      have fW0 := fW0.kept (q3 _ (by omega))
      have fE0 := fE0.kept (q3 _ (by omega))
      have fS0 := fS0.kept (q3 _ (by omega))
      have fA0 := fA0.kept (q3 _ (by omega))
      have hE : ∀ j, j < e1 → rEb G e0 sz (sz + 8 + 75 * j) j J3 := fun j hj => (hE j hj).kept (fun q hq => q3 q (by omega))
      have le : ∀ q, q < sz → q ≠ a → J3[q]? = s.heap[q]? := fun q h1 h2 => by rw [q3 q h2, le q h1 h2]
      have hLo := r_app hLo (r_one (P := fun q => q.base = a ∨ sz ≤ q.base) (x := ⟨a, G.2.1 11 3⟩) (Or.inl rfl))
      refine lv_aload_n hx hb dX11_init_223 rfl (lv_at hl 0 rfl) ?_
      refine lv_aload hx hb dX11_init_224 (lv_at hl 5 rfl) ?_
      refine k_putF (ty := tyX11 4) hx hb hts hin hown hK1 hnm 11 P3 4 rfl ⟨rfl, rfl⟩ (tyX11_ok 4 (by decide)) rfl rfl (wk_in kf_X11_71) dX11_init_226 (fun J4 P4 s4 q4 => ?_)
      have fG := fG.kept (q4 _ (by omega))
      have f1 := f1.kept (q4 _ (by omega))
      have f2 := f2.kept (q4 _ (by omega))
      have f3 := f3.kept (q4 _ (by omega))
      have fW0 := fW0.kept (q4 _ (by omega))
      have fE0 := fE0.kept (q4 _ (by omega))
      have fS0 := fS0.kept (q4 _ (by omega))
      have fA0 := fA0.kept (q4 _ (by omega))
      have hE : ∀ j, j < e1 → rEb G e0 sz (sz + 8 + 75 * j) j J4 := fun j hj => (hE j hj).kept (fun q hq => q4 q (by omega))
      have le : ∀ q, q < sz → q ≠ a → J4[q]? = s.heap[q]? := fun q h1 h2 => by rw [q4 q h2, le q h1 h2]
      have hLo := r_app hLo (r_one (P := fun q => q.base = a ∨ sz ≤ q.base) (x := ⟨a, G.2.1 11 4⟩) (Or.inl rfl))
      have hO : rOb G a 11 (vFa sz e1) J4 := P4.to (fun k hk => by
        have hk2 : k < 12 := hk
        rcases (by omega : k = 0 ∨ k = 1 ∨ k = 2 ∨ k = 3 ∨ k = 4 ∨ k = 5 ∨ k = 6 ∨ k = 7 ∨ k = 8 ∨ k = 9 ∨ k = 10 ∨ k = 11) with h | h | h | h | h | h | h | h | h | h | h | h <;> subst h <;> first | rfl | (show Value.int nn = Value.int (Int32.ofNat e1); rw [hnI]))
      exact r_end (W.vret hx hb hr (fun t ht _ => ⟨rfl, e1, hncl, hn4, by rw [ht]; exact ⟨by omega, hO, fG, f1, f2, f3, fW0, fE0, fS0, fA0, hE, le⟩⟩) hLo dX11_init_229) (by omega) (by omega)
    | succ d ih =>
      intro e1 H locs ls i he hi hF hLo hl
      refine lv_iload hx hb dX11_init_81 (lv_at hl 6 rfl) ?_
      refine lv_iload_n hx hb dX11_init_83 rfl (lv_at hl 1 rfl) ?_
      refine lv_icmp_ge (tgt := 201) hx hb dX11_init_84 (by decide) (fun z => absurd z (fun z => by rw [Int32.le_iff_toInt_le] at z; omega)) (fun _ => ?_)
      refine k_iter hx hb hml hts hin (fun h => wk_good h) hown hK1 hTb hne e0 a sz n e1 hsz hla (by rw [hsz] at *; exact hZ) (by omega) nn i hn hi hF hLo ⟨show 8 + 75 * e1 + 75 ≤ 308 by omega, show 509 + 6 * n + 16946 * e1 + 16946 ≤ 68317 by omega, Nat.le_of_ble_eq_true rfl, Nat.le_of_ble_eq_true rfl⟩ hl (fun H1 locs1 ls1 hF1 hLo1 hl1 => ?_)
      obtain ⟨i2, hi2⟩ : ∃ i2 : Int32, i + Int32.ofInt 1 = i2 := ⟨_, rfl⟩
      have hi3 : i2.toInt = ((e1 + 1 : Nat) : Int) := by
        have := ti_add (x := i) (y := Int32.ofInt 1) (by rw [show (Int32.ofInt 1).toInt = 1 from by decide]; omega) (by rw [show (Int32.ofInt 1).toInt = 1 from by decide]; omega)
        rw [hi2, show (Int32.ofInt 1).toInt = 1 from by decide] at this
        omega
      refine lv_iinc (v := i2) (lv' := [(7, .int i2), (0, .ref a), (2, .int nn), (3, .ref (sz + 4)), (4, .ref (sz + 5)), (5, .ref (sz + 6)), (6, .ref (sz + 7))]) hx hb dX11_init_195 hl1 (k := 6) rfl hi2 (by decide) rfl (fun ls2 hl2 => ?_)
      refine lv_goto (tgt := 81) hx hb dX11_init_198 (by decide) ?_
      have ec : 8 + 75 * e1 + 75 = 8 + 75 * (e1 + 1) := by omega
      have es : 509 + 6 * n + 16946 * e1 + 16946 = 509 + 6 * n + 16946 * (e1 + 1) := by omega
      rw [ec, es]
      exact ih (e1 + 1) H1 locs1 ls2 i2 (by omega) hi3 hF1 hLo1 (lv_sub hl2 [1, 2, 3, 4, 5, 6, 0] rfl)
  have hOb : rOb G a 11 (vFb sz) H13 := O9.to (fun k hk => by
    have hk2 : k < 12 := hk
    rcases (by omega : k = 0 ∨ k = 1 ∨ k = 2 ∨ k = 3 ∨ k = 4 ∨ k = 5 ∨ k = 6 ∨ k = 7 ∨ k = 8 ∨ k = 9 ∨ k = 10 ∨ k = 11) with h | h | h | h | h | h | h | h | h | h | h | h <;> subst h <;> rfl)
  have hF : rFa G e0 a sz n 0 (vFb sz) s H13 := ⟨by omega, hOb, n2, n4, n6, n8, rAf.of n10 (fun k _ => fW_0 sz k), rAf.of n11 (fun k _ => fE_0 sz k), rAf.of n12 (fun k _ => fS_0 sz k), rAf.of n13 (fun k _ => fA_0 sz n k), fun j hj => (by omega), le⟩
  have hfin := loop n 0 H13 _ ls 0 (by omega) (by decide) hF Lo (lv_sub hl [6, 5, 4, 3, 2, 1, 0] rfl)
  have hcs : 0 + 1 + 0 + 1 + 1 + 1 + 1 + 1 + 1 + 1 = 8 + 75 * 0 := by decide
  have hss : 0 + 9 + 0 + 60 + 240 + 200 + 2 * n + n + n + 2 * n = 509 + 6 * n + 16946 * 0 := by omega
  rw [hcs, hss]
  exact hfin
