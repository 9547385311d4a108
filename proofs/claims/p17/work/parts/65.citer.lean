set_option maxHeartbeats 8000000 in
set_option maxRecDepth 100000 in
theorem k_iter {p : Program} {l : Launch} {ev : Env} {R : Room} {s : State} {m : MethodId} {args : Array Value} {below : List Frame} {meth : Method} {c : Code} {H : Heap} {locs : List Loc} {cells slots : Nat} {Q : State → Prop} {ls : Array Slot} {G : cG} {Ts : List Cond} {V : Nat → Value} (hx : p.tables.exec = Jvm.exec) (hb : c.code = cX11_init) (hml : c.maxLocals = 12) (hts : ∀ w ∈ Ts, w.before args s = true) (hin : ∀ w ∈ wsUC, w ∈ Ts) (hgd : ∀ {d : Cond}, d ∈ wsUC → GoodIn Ts (wk d)) (hown : s.vm.findClass RX11 = some m.cls) (hK1 : cK G s) (hTb : kTb G s) (hne : cNest s) (e0 a sz n e : Nat) (hsz : s.heap.size = sz) (ha : a < sz) (hZ : rZ e0 a sz s s.heap) (hen : e < n ∧ n ≤ 4) (nn i : Int32) (hnn : nn.toInt = (n : Int)) (hi : i.toInt = (e : Int)) (hF : rFa G e0 a sz n e V s H) (hLo : ∀ q ∈ locs, q.base = a ∨ sz ≤ q.base) (hR : cells + 75 ≤ R.cells ∧ slots + 16946 ≤ R.slots ∧ 6 ≤ R.frames ∧ 120 ≤ R.locals)
    (hl : lv_has ls 12 [(0, .ref a), (2, .int nn), (3, .ref (sz + 4)), (4, .ref (sz + 5)), (5, .ref (sz + 6)), (6, .ref (sz + 7)), (7, .int i)])
    (kk : ∀ (H1 : Heap) (locs1 : List Loc) (ls1 : Array Slot), rFa G e0 a sz n (e + 1) V s H1 → (∀ q ∈ locs1, q.base = a ∨ sz ≤ q.base) → lv_has ls1 12 [(0, .ref a), (2, .int nn), (3, .ref (sz + 4)), (4, .ref (sz + 5)), (5, .ref (sz + 6)), (6, .ref (sz + 7)), (7, .int i)] → W p l ev R s m args below meth c H1 locs1 (cells + 75) (slots + 16946) Q (F0 m 195 ls1 [])) : W p l ev R s m args below meth c H locs cells slots Q (F0 m 87 ls []) := by
  obtain ⟨z0, fO, fG, f1, f2, f3, fW0, fE0, fS0, fA0, hE, le⟩ := hF
  obtain ⟨b, hb0⟩ : ∃ b, b = sz + 8 + 75 * e := ⟨_, rfl⟩
  rw [← hb0] at z0
  have hie : i = Int32.ofNat e := Int32.toInt_inj.mp (by rw [hi]; exact (nI_toInt (n := e) (by omega)).symm)
  have Lo := hLo
  refine k_new hx hb hts hin hown hK1 3 rfl tyX3 tyX3_ok (hin _ kc_lX11_35) (hin _ kx_X3) (hin _ kn_X3) (by omega) (by omega) dX11_init_87 (fun H1 O1 s1 q1 => ?_)
  have fO := fO.kept (q1 _ (by omega))
  have fG := fG.kept (q1 _ (by omega))
  have f1 := f1.kept (q1 _ (by omega))
  have f2 := f2.kept (q1 _ (by omega))
  have f3 := f3.kept (q1 _ (by omega))
  have fW0 := fW0.kept (q1 _ (by omega))
  have fE0 := fE0.kept (q1 _ (by omega))
  have fS0 := fS0.kept (q1 _ (by omega))
  have fA0 := fA0.kept (q1 _ (by omega))
  have hE : ∀ j, j < e → rEb G e0 sz (sz + 8 + 75 * j) j H1 := fun j hj => (hE j hj).kept (fun q hq => q1 q (by omega))
  have le : ∀ q, q < sz → q ≠ a → H1[q]? = s.heap[q]? := fun q h1 h2 => by rw [q1 q (by omega), le q h1 h2]
  have w1 : H1.size = b + 1 := by omega
  have O1 : rOb G (b) 3 (fun k => defaultValue (tyX3 k)) H1 := by rw [← show H.size = b from z0]; exact O1
  rw [show H.size = b from z0]
  refine lv_dup hx hb dX11_init_90 rfl ?_
  refine k_raw (va_runIN (b := b) (As := []) (rest := [.ref b]) ⟨hx, hb, hml, hown, hts⟩ (c_kdiInit l (G := G) (b) H1.size) ⟨va_cnB 0 hts (hgd kd_X3_init) rfl rfl rfl (hne.1 _ (List.mem_of_getElem? (i := 1) rfl)) (hts _ (hin _ kn_X3)) (by decide +kernel) ⟨show 2 + 1 ≤ _ by omega, show 8 + (1 + 11) + 32 ≤ _ by omega⟩, rfl, hts _ (hin _ ki_X3_init)⟩ ⟨rPre.blind, fun U hU hW => ⟨rfl, by rw [hU]; exact O1, hK1.moved hW.alike, by rw [hU], hTb.moved hW.alike, hne.warm hW⟩⟩ rfl rfl hl.1 rfl (lv_room (Nat.le_of_ble_eq_true rfl)) dX11_init_91 ⟨by omega, by omega⟩) (fun w2v st2 t2 L2 h2 hq2 hL2 => ?_)
  obtain ⟨ew2, n2, s2, q2⟩ := hq2
  cases ew2
  rw [h2] at q2
  have fO := fO.kept (q2 _ (by omega) (by omega))
  have fG := fG.kept (q2 _ (by omega) (by omega))
  have f1 := f1.kept (q2 _ (by omega) (by omega))
  have f2 := f2.kept (q2 _ (by omega) (by omega))
  have f3 := f3.kept (q2 _ (by omega) (by omega))
  have fW0 := fW0.kept (q2 _ (by omega) (by omega))
  have fE0 := fE0.kept (q2 _ (by omega) (by omega))
  have fS0 := fS0.kept (q2 _ (by omega) (by omega))
  have fA0 := fA0.kept (q2 _ (by omega) (by omega))
  have hE : ∀ j, j < e → rEb G e0 sz (sz + 8 + 75 * j) j t2.heap := fun j hj => (hE j hj).kept (fun q hq => q2 q (by omega) (by omega))
  have le : ∀ q, q < sz → q ≠ a → t2.heap[q]? = s.heap[q]? := fun q h1 h2 => by rw [q2 q (by omega) (by omega), le q h1 h2]
  have w2 : t2.heap.size = b + 17 := by omega
  rw [show H1.size = b + 1 from w1] at n2
  have Lo := r_app Lo (fun q h => (hL2 q h).elim (fun z => Or.inr (by rw [z]; omega)) (fun z => Or.inr (Nat.le_trans (by omega) z)))
  refine W.eq (g2 := F0 m 94 ls [.ref b]) rfl ?_
  refine lv_astore (lv' := [(8, .ref b), (0, .ref a), (2, .int nn), (3, .ref (sz + 4)), (4, .ref (sz + 5)), (5, .ref (sz + 6)), (6, .ref (sz + 7)), (7, .int i)]) hx hb dX11_init_94 hl (by decide) rfl (fun ls hl => ?_)
  refine k_new hx hb hts hin hown hK1 3 rfl tyX3 tyX3_ok (hin _ kc_lX11_35) (hin _ kx_X3) (hin _ kn_X3) (by omega) (by omega) dX11_init_96 (fun H3 O3 s3 q3 => ?_)
  have fO := fO.kept (q3 _ (by omega))
  have fG := fG.kept (q3 _ (by omega))
  have f1 := f1.kept (q3 _ (by omega))
  have f2 := f2.kept (q3 _ (by omega))
  have f3 := f3.kept (q3 _ (by omega))
  have fW0 := fW0.kept (q3 _ (by omega))
  have fE0 := fE0.kept (q3 _ (by omega))
  have fS0 := fS0.kept (q3 _ (by omega))
  have fA0 := fA0.kept (q3 _ (by omega))
  have n2 := n2.kept (fun q hq => q3 q (by omega))
  have hE : ∀ j, j < e → rEb G e0 sz (sz + 8 + 75 * j) j H3 := fun j hj => (hE j hj).kept (fun q hq => q3 q (by omega))
  have le : ∀ q, q < sz → q ≠ a → H3[q]? = s.heap[q]? := fun q h1 h2 => by rw [q3 q (by omega), le q h1 h2]
  have w3 : H3.size = b + 18 := by omega
  have O3 : rOb G (b + 17) 3 (fun k => defaultValue (tyX3 k)) H3 := by rw [← show t2.heap.size = b + 17 from w2]; exact O3
  rw [show t2.heap.size = b + 17 from w2]
  refine lv_dup hx hb dX11_init_99 rfl ?_
  refine k_raw (va_runIN (b := b + 17) (As := []) (rest := [.ref (b + 17)]) ⟨hx, hb, hml, hown, hts⟩ (c_kdiInit l (G := G) (b + 17) H3.size) ⟨va_cnB 0 hts (hgd kd_X3_init) rfl rfl rfl (hne.1 _ (List.mem_of_getElem? (i := 1) rfl)) (hts _ (hin _ kn_X3)) (by decide +kernel) ⟨show 2 + 1 ≤ _ by omega, show 8 + (1 + 11) + 32 ≤ _ by omega⟩, rfl, hts _ (hin _ ki_X3_init)⟩ ⟨rPre.blind, fun U hU hW => ⟨rfl, by rw [hU]; exact O3, hK1.moved hW.alike, by rw [hU], hTb.moved hW.alike, hne.warm hW⟩⟩ rfl rfl hl.1 rfl (lv_room (Nat.le_of_ble_eq_true rfl)) dX11_init_100 ⟨by omega, by omega⟩) (fun w4v st4 t4 L4 h4 hq4 hL4 => ?_)
  obtain ⟨ew4, n4, s4, q4⟩ := hq4
  cases ew4
  rw [h4] at q4
  have fO := fO.kept (q4 _ (by omega) (by omega))
  have fG := fG.kept (q4 _ (by omega) (by omega))
  have f1 := f1.kept (q4 _ (by omega) (by omega))
  have f2 := f2.kept (q4 _ (by omega) (by omega))
  have f3 := f3.kept (q4 _ (by omega) (by omega))
  have fW0 := fW0.kept (q4 _ (by omega) (by omega))
  have fE0 := fE0.kept (q4 _ (by omega) (by omega))
  have fS0 := fS0.kept (q4 _ (by omega) (by omega))
  have fA0 := fA0.kept (q4 _ (by omega) (by omega))
  have n2 := n2.kept (fun q hq => q4 q (by omega) (by omega))
  have hE : ∀ j, j < e → rEb G e0 sz (sz + 8 + 75 * j) j t4.heap := fun j hj => (hE j hj).kept (fun q hq => q4 q (by omega) (by omega))
  have le : ∀ q, q < sz → q ≠ a → t4.heap[q]? = s.heap[q]? := fun q h1 h2 => by rw [q4 q (by omega) (by omega), le q h1 h2]
  have w4 : t4.heap.size = b + 34 := by omega
  rw [show H3.size = b + 18 from w3] at n4
  have Lo := r_app Lo (fun q h => (hL4 q h).elim (fun z => Or.inr (by rw [z]; omega)) (fun z => Or.inr (Nat.le_trans (by omega) z)))
  refine W.eq (g2 := F0 m 103 ls [.ref (b + 17)]) rfl ?_
  refine lv_astore (lv' := [(9, .ref (b + 17)), (8, .ref b), (0, .ref a), (2, .int nn), (3, .ref (sz + 4)), (4, .ref (sz + 5)), (5, .ref (sz + 6)), (6, .ref (sz + 7)), (7, .int i)]) hx hb dX11_init_103 hl (by decide) rfl (fun ls hl => ?_)
  refine k_new hx hb hts hin hown hK1 4 rfl tyX4 tyX4_ok (hin _ kc_lX11_37) (hin _ kx_X4) (hin _ kn_X4) (by omega) (by omega) dX11_init_105 (fun H5 O5 s5 q5 => ?_)
  have fO := fO.kept (q5 _ (by omega))
  have fG := fG.kept (q5 _ (by omega))
  have f1 := f1.kept (q5 _ (by omega))
  have f2 := f2.kept (q5 _ (by omega))
  have f3 := f3.kept (q5 _ (by omega))
  have fW0 := fW0.kept (q5 _ (by omega))
  have fE0 := fE0.kept (q5 _ (by omega))
  have fS0 := fS0.kept (q5 _ (by omega))
  have fA0 := fA0.kept (q5 _ (by omega))
  have n2 := n2.kept (fun q hq => q5 q (by omega))
  have n4 := n4.kept (fun q hq => q5 q (by omega))
  have hE : ∀ j, j < e → rEb G e0 sz (sz + 8 + 75 * j) j H5 := fun j hj => (hE j hj).kept (fun q hq => q5 q (by omega))
  have le : ∀ q, q < sz → q ≠ a → H5[q]? = s.heap[q]? := fun q h1 h2 => by rw [q5 q (by omega), le q h1 h2]
  have w5 : H5.size = b + 35 := by omega
  have O5 : rOb G (b + 34) 4 (fun k => defaultValue (tyX4 k)) H5 := by rw [← show t4.heap.size = b + 34 from w4]; exact O5
  rw [show t4.heap.size = b + 34 from w4]
  refine lv_dup hx hb dX11_init_108 rfl ?_
  refine lv_iload hx hb dX11_init_109 (lv_at hl 8 rfl) ?_
  refine k_new hx hb hts hin hown hK1 5 rfl tyX5 tyX5_ok (hin _ kc_lX11_44) (hin _ kx_X5) (hin _ kn_X5) (by omega) (by omega) dX11_init_111 (fun H6 O6 s6 q6 => ?_)
  have fO := fO.kept (q6 _ (by omega))
  have fG := fG.kept (q6 _ (by omega))
  have f1 := f1.kept (q6 _ (by omega))
  have f2 := f2.kept (q6 _ (by omega))
  have f3 := f3.kept (q6 _ (by omega))
  have fW0 := fW0.kept (q6 _ (by omega))
  have fE0 := fE0.kept (q6 _ (by omega))
  have fS0 := fS0.kept (q6 _ (by omega))
  have fA0 := fA0.kept (q6 _ (by omega))
  have n2 := n2.kept (fun q hq => q6 q (by omega))
  have n4 := n4.kept (fun q hq => q6 q (by omega))
  have hE : ∀ j, j < e → rEb G e0 sz (sz + 8 + 75 * j) j H6 := fun j hj => (hE j hj).kept (fun q hq => q6 q (by omega))
  have le : ∀ q, q < sz → q ≠ a → H6[q]? = s.heap[q]? := fun q h1 h2 => by rw [q6 q (by omega), le q h1 h2]
  have w6 : H6.size = b + 36 := by omega
  have O6 : rOb G (b + 35) 5 (fun k => defaultValue (tyX5 k)) H6 := by rw [← show H5.size = b + 35 from w5]; exact O6
  rw [show H5.size = b + 35 from w5]
  have O5 := O5.kept (q6 _ (by omega))
  refine lv_dup hx hb dX11_init_114 rfl ?_
  refine lv_aload hx hb dX11_init_115 (lv_at hl 1 rfl) ?_
  refine k_raw (va_runI (b := b + 35) (As := [.ref b]) (rest := [.ref (b + 35), .int i, .ref (b + 34), .ref (b + 34)]) ⟨hx, hb, hml, hown, hts⟩ (c_kliInit l (G := G) (b + 35) H6.size b) ⟨callB_of 1 hts (hgd kd_X5_init) rfl rfl rfl (hts _ (hin _ kn_X5)) (hts _ (hin _ kl_X11_46)) (by decide +kernel) ⟨show 2 + 1 ≤ _ by omega, show 8 + (2 + 11) + 62 ≤ _ by omega⟩, rfl, hts _ (hin _ ki_X5_init)⟩ ⟨rPre.blind, fun U hU hW => ⟨rfl, by rw [hU]; exact O6, hK1.moved hW.alike, by rw [hU], hTb.moved hW.alike, hne.warm hW⟩⟩ rfl rfl hl.1 rfl (lv_room (Nat.le_of_ble_eq_true rfl)) dX11_init_117 ⟨by omega, by omega⟩) (fun w7v st7 t7 L7 h7 hq7 hL7 => ?_)
  obtain ⟨ew7, n7, s7, q7⟩ := hq7
  cases ew7
  rw [h7] at q7
  have fO := fO.kept (q7 _ (by omega) (by omega))
  have fG := fG.kept (q7 _ (by omega) (by omega))
  have f1 := f1.kept (q7 _ (by omega) (by omega))
  have f2 := f2.kept (q7 _ (by omega) (by omega))
  have f3 := f3.kept (q7 _ (by omega) (by omega))
  have fW0 := fW0.kept (q7 _ (by omega) (by omega))
  have fE0 := fE0.kept (q7 _ (by omega) (by omega))
  have fS0 := fS0.kept (q7 _ (by omega) (by omega))
  have fA0 := fA0.kept (q7 _ (by omega) (by omega))
  have n2 := n2.kept (fun q hq => q7 q (by omega) (by omega))
  have n4 := n4.kept (fun q hq => q7 q (by omega) (by omega))
  have O5 := O5.kept (q7 _ (by omega) (by omega))
  have hE : ∀ j, j < e → rEb G e0 sz (sz + 8 + 75 * j) j t7.heap := fun j hj => (hE j hj).kept (fun q hq => q7 q (by omega) (by omega))
  have le : ∀ q, q < sz → q ≠ a → t7.heap[q]? = s.heap[q]? := fun q h1 h2 => by rw [q7 q (by omega) (by omega), le q h1 h2]
  have w7 : t7.heap.size = b + 51 := by omega
  rw [show H6.size = b + 36 from w6] at n7
  have Lo := r_app Lo (fun q h => (hL7 q h).elim (fun z => Or.inr (by rw [z]; omega)) (fun z => Or.inr (Nat.le_trans (by omega) z)))
  refine W.eq (g2 := F0 m 120 ls [.ref (b + 35), .int i, .ref (b + 34), .ref (b + 34)]) rfl ?_
  refine k_raw (va_runI (b := b + 34) (As := [.int i, .ref (b + 35)]) (rest := [.ref (b + 34)]) ⟨hx, hb, hml, hown, hts⟩ (c_kenInit l (G := G) e0 (b + 34) t7.heap.size i (b + 35)) ⟨callB_of 2 hts (hgd kd_X4_init) rfl rfl rfl (hts _ (hin _ kn_X4)) (hts _ (hin _ kl_X11_49)) (by decide +kernel) ⟨show 5 + 1 ≤ _ by omega, show 8 + (3 + 11) + 94 ≤ _ by omega⟩, rfl, hts _ (hin _ ki_X4_init)⟩ ⟨rPreS.blind, fun U hU hW => ⟨rfl, ⟨by rw [hU]; exact O5, hK1.moved hW.alike, by rw [hU], hTb.moved hW.alike, hne.warm hW⟩, by rw [hU]; exact hZ.next hsz hW.alike le (Or.inl (by omega)) (by omega)⟩⟩ rfl rfl hl.1 rfl (lv_room (Nat.le_of_ble_eq_true rfl)) dX11_init_120 ⟨by omega, by omega⟩) (fun w8v st8 t8 L8 h8 hq8 hL8 => ?_)
  obtain ⟨ew8, n8, s8, q8⟩ := hq8
  cases ew8
  rw [h8] at q8
  have fO := fO.kept (q8 _ (by omega) (by omega))
  have fG := fG.kept (q8 _ (by omega) (by omega))
  have f1 := f1.kept (q8 _ (by omega) (by omega))
  have f2 := f2.kept (q8 _ (by omega) (by omega))
  have f3 := f3.kept (q8 _ (by omega) (by omega))
  have fW0 := fW0.kept (q8 _ (by omega) (by omega))
  have fE0 := fE0.kept (q8 _ (by omega) (by omega))
  have fS0 := fS0.kept (q8 _ (by omega) (by omega))
  have fA0 := fA0.kept (q8 _ (by omega) (by omega))
  have n2 := n2.kept (fun q hq => q8 q (by omega) (by omega))
  have n4 := n4.kept (fun q hq => q8 q (by omega) (by omega))
  have n7 := n7.kept (fun q hq => q8 q (by omega) (by omega))
  have hE : ∀ j, j < e → rEb G e0 sz (sz + 8 + 75 * j) j t8.heap := fun j hj => (hE j hj).kept (fun q hq => q8 q (by omega) (by omega))
  have le : ∀ q, q < sz → q ≠ a → t8.heap[q]? = s.heap[q]? := fun q h1 h2 => by rw [q8 q (by omega) (by omega), le q h1 h2]
  have w8 : t8.heap.size = b + 57 := by omega
  rw [show t7.heap.size = b + 51 from w7] at n8
  have Lo := r_app Lo (fun q h => (hL8 q h).elim (fun z => Or.inr (by rw [z]; omega)) (fun z => Or.inr (Nat.le_trans (by omega) z)))
  refine W.eq (g2 := F0 m 123 ls [.ref (b + 34)]) rfl ?_
  refine lv_astore (lv' := [(10, .ref (b + 34)), (9, .ref (b + 17)), (8, .ref b), (0, .ref a), (2, .int nn), (3, .ref (sz + 4)), (4, .ref (sz + 5)), (5, .ref (sz + 6)), (6, .ref (sz + 7)), (7, .int i)]) hx hb dX11_init_123 hl (by decide) rfl (fun ls hl => ?_)
  refine k_new hx hb hts hin hown hK1 10 rfl tyX10 tyX10_ok (hin _ kc_lX11_39) (hin _ kx_X10) (hin _ kn_X10) (by omega) (by omega) dX11_init_125 (fun H9 O9 s9 q9 => ?_)
  have fO := fO.kept (q9 _ (by omega))
  have fG := fG.kept (q9 _ (by omega))
  have f1 := f1.kept (q9 _ (by omega))
  have f2 := f2.kept (q9 _ (by omega))
  have f3 := f3.kept (q9 _ (by omega))
  have fW0 := fW0.kept (q9 _ (by omega))
  have fE0 := fE0.kept (q9 _ (by omega))
  have fS0 := fS0.kept (q9 _ (by omega))
  have fA0 := fA0.kept (q9 _ (by omega))
  have n2 := n2.kept (fun q hq => q9 q (by omega))
  have n4 := n4.kept (fun q hq => q9 q (by omega))
  have n7 := n7.kept (fun q hq => q9 q (by omega))
  have n8 := n8.kept (fun q hq => q9 q (by omega))
  have hE : ∀ j, j < e → rEb G e0 sz (sz + 8 + 75 * j) j H9 := fun j hj => (hE j hj).kept (fun q hq => q9 q (by omega))
  have le : ∀ q, q < sz → q ≠ a → H9[q]? = s.heap[q]? := fun q h1 h2 => by rw [q9 q (by omega), le q h1 h2]
  have w9 : H9.size = b + 58 := by omega
  have O9 : rOb G (b + 57) 10 (fun k => defaultValue (tyX10 k)) H9 := by rw [← show t8.heap.size = b + 57 from w8]; exact O9
  rw [show t8.heap.size = b + 57 from w8]
  refine lv_dup hx hb dX11_init_128 rfl ?_
  refine lv_iload hx hb dX11_init_129 (lv_at hl 9 rfl) ?_
  refine k_new hx hb hts hin hown hK1 5 rfl tyX5 tyX5_ok (hin _ kc_lX11_44) (hin _ kx_X5) (hin _ kn_X5) (by omega) (by omega) dX11_init_131 (fun H10 O10 s10 q10 => ?_)
  have fO := fO.kept (q10 _ (by omega))
  have fG := fG.kept (q10 _ (by omega))
  have f1 := f1.kept (q10 _ (by omega))
  have f2 := f2.kept (q10 _ (by omega))
  have f3 := f3.kept (q10 _ (by omega))
  have fW0 := fW0.kept (q10 _ (by omega))
  have fE0 := fE0.kept (q10 _ (by omega))
  have fS0 := fS0.kept (q10 _ (by omega))
  have fA0 := fA0.kept (q10 _ (by omega))
  have n2 := n2.kept (fun q hq => q10 q (by omega))
  have n4 := n4.kept (fun q hq => q10 q (by omega))
  have n7 := n7.kept (fun q hq => q10 q (by omega))
  have n8 := n8.kept (fun q hq => q10 q (by omega))
  have hE : ∀ j, j < e → rEb G e0 sz (sz + 8 + 75 * j) j H10 := fun j hj => (hE j hj).kept (fun q hq => q10 q (by omega))
  have le : ∀ q, q < sz → q ≠ a → H10[q]? = s.heap[q]? := fun q h1 h2 => by rw [q10 q (by omega), le q h1 h2]
  have w10 : H10.size = b + 59 := by omega
  have O10 : rOb G (b + 58) 5 (fun k => defaultValue (tyX5 k)) H10 := by rw [← show H9.size = b + 58 from w9]; exact O10
  rw [show H9.size = b + 58 from w9]
  have O9 := O9.kept (q10 _ (by omega))
  refine lv_dup hx hb dX11_init_134 rfl ?_
  refine lv_aload hx hb dX11_init_135 (lv_at hl 1 rfl) ?_
  refine k_raw (va_runI (b := b + 58) (As := [.ref (b + 17)]) (rest := [.ref (b + 58), .int i, .ref (b + 57), .ref (b + 57)]) ⟨hx, hb, hml, hown, hts⟩ (c_kliInit l (G := G) (b + 58) H10.size (b + 17)) ⟨callB_of 1 hts (hgd kd_X5_init) rfl rfl rfl (hts _ (hin _ kn_X5)) (hts _ (hin _ kl_X11_46)) (by decide +kernel) ⟨show 2 + 1 ≤ _ by omega, show 8 + (2 + 11) + 62 ≤ _ by omega⟩, rfl, hts _ (hin _ ki_X5_init)⟩ ⟨rPre.blind, fun U hU hW => ⟨rfl, by rw [hU]; exact O10, hK1.moved hW.alike, by rw [hU], hTb.moved hW.alike, hne.warm hW⟩⟩ rfl rfl hl.1 rfl (lv_room (Nat.le_of_ble_eq_true rfl)) dX11_init_137 ⟨by omega, by omega⟩) (fun w11v st11 t11 L11 h11 hq11 hL11 => ?_)
  obtain ⟨ew11, n11, s11, q11⟩ := hq11
  cases ew11
  rw [h11] at q11
  have fO := fO.kept (q11 _ (by omega) (by omega))
  have fG := fG.kept (q11 _ (by omega) (by omega))
  have f1 := f1.kept (q11 _ (by omega) (by omega))
  have f2 := f2.kept (q11 _ (by omega) (by omega))
  have f3 := f3.kept (q11 _ (by omega) (by omega))
  have fW0 := fW0.kept (q11 _ (by omega) (by omega))
  have fE0 := fE0.kept (q11 _ (by omega) (by omega))
  have fS0 := fS0.kept (q11 _ (by omega) (by omega))
  have fA0 := fA0.kept (q11 _ (by omega) (by omega))
  have n2 := n2.kept (fun q hq => q11 q (by omega) (by omega))
  have n4 := n4.kept (fun q hq => q11 q (by omega) (by omega))
  have n7 := n7.kept (fun q hq => q11 q (by omega) (by omega))
  have n8 := n8.kept (fun q hq => q11 q (by omega) (by omega))
  have O9 := O9.kept (q11 _ (by omega) (by omega))
  have hE : ∀ j, j < e → rEb G e0 sz (sz + 8 + 75 * j) j t11.heap := fun j hj => (hE j hj).kept (fun q hq => q11 q (by omega) (by omega))
  have le : ∀ q, q < sz → q ≠ a → t11.heap[q]? = s.heap[q]? := fun q h1 h2 => by rw [q11 q (by omega) (by omega), le q h1 h2]
  have w11 : t11.heap.size = b + 74 := by omega
  rw [show H10.size = b + 59 from w10] at n11
  have Lo := r_app Lo (fun q h => (hL11 q h).elim (fun z => Or.inr (by rw [z]; omega)) (fun z => Or.inr (Nat.le_trans (by omega) z)))
  refine W.eq (g2 := F0 m 140 ls [.ref (b + 58), .int i, .ref (b + 57), .ref (b + 57)]) rfl ?_
  refine lv_aload hx hb dX11_init_140 (lv_at hl 7 rfl) ?_
  refine k_raw (va_runI (b := b + 57) (As := [.int i, .ref (b + 58), .ref (sz + 6)]) (rest := [.ref (b + 57)]) ⟨hx, hb, hml, hown, hts⟩ (c_kswInit l (G := G) e0 (b + 57) t11.heap.size i (b + 58) (sz + 6)) ⟨callB_of 3 hts (hgd kd_X10_init) rfl rfl rfl (hts _ (hin _ kn_X10)) (hts _ (hin _ kl_X11_52)) (by decide +kernel) ⟨show 5 + 1 ≤ _ by omega, show 8 + (4 + 11) + 94 ≤ _ by omega⟩, rfl, hts _ (hin _ ki_X10_init)⟩ ⟨rPreS.blind, fun U hU hW => ⟨rfl, ⟨by rw [hU]; exact O9, hK1.moved hW.alike, by rw [hU], hTb.moved hW.alike, hne.warm hW⟩, by rw [hU]; exact hZ.next hsz hW.alike le (Or.inl (by omega)) (by omega)⟩⟩ rfl rfl hl.1 rfl (lv_room (Nat.le_of_ble_eq_true rfl)) dX11_init_142 ⟨by omega, by omega⟩) (fun w12v st12 t12 L12 h12 hq12 hL12 => ?_)
  obtain ⟨ew12, n12, s12, q12⟩ := hq12
  cases ew12
  rw [h12] at q12
  have fO := fO.kept (q12 _ (by omega) (by omega))
  have fG := fG.kept (q12 _ (by omega) (by omega))
  have f1 := f1.kept (q12 _ (by omega) (by omega))
  have f2 := f2.kept (q12 _ (by omega) (by omega))
  have f3 := f3.kept (q12 _ (by omega) (by omega))
  have fW0 := fW0.kept (q12 _ (by omega) (by omega))
  have fE0 := fE0.kept (q12 _ (by omega) (by omega))
  have fS0 := fS0.kept (q12 _ (by omega) (by omega))
  have fA0 := fA0.kept (q12 _ (by omega) (by omega))
  have n2 := n2.kept (fun q hq => q12 q (by omega) (by omega))
  have n4 := n4.kept (fun q hq => q12 q (by omega) (by omega))
  have n7 := n7.kept (fun q hq => q12 q (by omega) (by omega))
  have n8 := n8.kept (fun q hq => q12 q (by omega) (by omega))
  have n11 := n11.kept (fun q hq => q12 q (by omega) (by omega))
  have hE : ∀ j, j < e → rEb G e0 sz (sz + 8 + 75 * j) j t12.heap := fun j hj => (hE j hj).kept (fun q hq => q12 q (by omega) (by omega))
  have le : ∀ q, q < sz → q ≠ a → t12.heap[q]? = s.heap[q]? := fun q h1 h2 => by rw [q12 q (by omega) (by omega), le q h1 h2]
  have w12 : t12.heap.size = b + 75 := by omega
  rw [show t11.heap.size = b + 74 from w11] at n12
  have Lo := r_app Lo (fun q h => (hL12 q h).elim (fun z => Or.inr (by rw [z]; omega)) (fun z => Or.inr (Nat.le_trans (by omega) z)))
  refine W.eq (g2 := F0 m 145 ls [.ref (b + 57)]) rfl ?_
  refine lv_astore (lv' := [(11, .ref (b + 57)), (10, .ref (b + 34)), (9, .ref (b + 17)), (8, .ref b), (0, .ref a), (2, .int nn), (3, .ref (sz + 4)), (4, .ref (sz + 5)), (5, .ref (sz + 6)), (6, .ref (sz + 7)), (7, .int i)]) hx hb dX11_init_145 hl (by decide) rfl (fun ls hl => ?_)
  have k1 : (1 : Int32).toInt = 1 := by decide
  have k2 : (2 : Int32).toInt = 2 := by decide
  refine lv_aload_n hx hb dX11_init_147 rfl (lv_at hl 6 rfl) ?_
  refine lv_iconst (v := 2) hx hb dX11_init_148 (by decide) ?_
  refine lv_iload hx hb dX11_init_149 (lv_at hl 10 rfl) ?_
  refine lv_imul hx hb dX11_init_151 ?_
  refine lv_topi (fun i2 ei2 => ?_)
  have hi2 : i2.toInt = ((2 * e : Nat) : Int) := by
    have := ti_mul (x := 2) (y := i) (by rw [k2, hi]; omega) (by rw [k2, hi]; omega)
    rw [← ei2, k2, hi] at this
    omega
  refine lv_aload hx hb dX11_init_152 (lv_at hl 3 rfl) ?_
  refine r_str (i := i2) (k := 2 * e) hx hb hK1 fW0 (by decide) n2.1 rfl (Or.inl rfl) hi2 (by omega) dX11_init_154 (fun H13 g13 s13 q13 => ?_)
  have fO := fO.kept (q13 _ (by omega))
  have fG := fG.kept (q13 _ (by omega))
  have f1 := f1.kept (q13 _ (by omega))
  have f2 := f2.kept (q13 _ (by omega))
  have f3 := f3.kept (q13 _ (by omega))
  have fW0 := g13
  have fE0 := fE0.kept (q13 _ (by omega))
  have fS0 := fS0.kept (q13 _ (by omega))
  have fA0 := fA0.kept (q13 _ (by omega))
  have n2 := n2.kept (fun q hq => q13 q (by omega))
  have n4 := n4.kept (fun q hq => q13 q (by omega))
  have n7 := n7.kept (fun q hq => q13 q (by omega))
  have n8 := n8.kept (fun q hq => q13 q (by omega))
  have n11 := n11.kept (fun q hq => q13 q (by omega))
  have n12 := n12.kept (fun q hq => q13 q (by omega))
  have hE : ∀ j, j < e → rEb G e0 sz (sz + 8 + 75 * j) j H13 := fun j hj => (hE j hj).kept (fun q hq => q13 q (by omega))
  have le : ∀ q, q < sz → q ≠ a → H13[q]? = s.heap[q]? := fun q h1 h2 => by rw [q13 q (by omega), le q h1 h2]
  have w13 : H13.size = b + 75 := by omega
  have Lo := r_app Lo (r_one (P := fun q => q.base = a ∨ sz ≤ q.base) (x := ⟨sz + 4, i2.toNatClampNeg⟩) (Or.inr (show sz ≤ sz + 4 by omega)))
  refine lv_aload_n hx hb dX11_init_155 rfl (lv_at hl 6 rfl) ?_
  refine lv_iconst (v := 2) hx hb dX11_init_156 (by decide) ?_
  refine lv_iload hx hb dX11_init_157 (lv_at hl 10 rfl) ?_
  refine lv_imul hx hb dX11_init_159 ?_
  refine lv_iconst (v := 1) hx hb dX11_init_160 (by decide) ?_
  refine lv_iadd hx hb dX11_init_161 ?_
  refine lv_topi (fun i3 ei3 => ?_)
  have hi3 : i3.toInt = ((2 * e + 1 : Nat) : Int) := by
    have h1 := ti_mul (x := 2) (y := i) (by rw [k2, hi]; omega) (by rw [k2, hi]; omega)
    rw [k2, hi] at h1
    have := ti_add (x := 2 * i) (y := 1) (by rw [h1]; omega) (by rw [h1]; omega)
    rw [← ei3, h1, k1] at this
    omega
  refine lv_aload hx hb dX11_init_162 (lv_at hl 2 rfl) ?_
  refine r_str (i := i3) (k := 2 * e + 1) hx hb hK1 fW0 (by decide) n4.1 rfl (Or.inl rfl) hi3 (by omega) dX11_init_164 (fun H14 g14 s14 q14 => ?_)
  have fO := fO.kept (q14 _ (by omega))
  have fG := fG.kept (q14 _ (by omega))
  have f1 := f1.kept (q14 _ (by omega))
  have f2 := f2.kept (q14 _ (by omega))
  have f3 := f3.kept (q14 _ (by omega))
  have fW0 := g14
  have fE0 := fE0.kept (q14 _ (by omega))
  have fS0 := fS0.kept (q14 _ (by omega))
  have fA0 := fA0.kept (q14 _ (by omega))
  have n2 := n2.kept (fun q hq => q14 q (by omega))
  have n4 := n4.kept (fun q hq => q14 q (by omega))
  have n7 := n7.kept (fun q hq => q14 q (by omega))
  have n8 := n8.kept (fun q hq => q14 q (by omega))
  have n11 := n11.kept (fun q hq => q14 q (by omega))
  have n12 := n12.kept (fun q hq => q14 q (by omega))
  have hE : ∀ j, j < e → rEb G e0 sz (sz + 8 + 75 * j) j H14 := fun j hj => (hE j hj).kept (fun q hq => q14 q (by omega))
  have le : ∀ q, q < sz → q ≠ a → H14[q]? = s.heap[q]? := fun q h1 h2 => by rw [q14 q (by omega), le q h1 h2]
  have w14 : H14.size = b + 75 := by omega
  have Lo := r_app Lo (r_one (P := fun q => q.base = a ∨ sz ≤ q.base) (x := ⟨sz + 4, i3.toNatClampNeg⟩) (Or.inr (show sz ≤ sz + 4 by omega)))
  refine lv_aload hx hb dX11_init_165 (lv_at hl 7 rfl) ?_
  refine lv_iload hx hb dX11_init_167 (lv_at hl 10 rfl) ?_
  refine lv_aload hx hb dX11_init_169 (lv_at hl 1 rfl) ?_
  refine r_str (i := i) (k := e) hx hb hK1 fE0 (by decide) n8.1 rfl (Or.inl rfl) hi (by omega) dX11_init_171 (fun H15 g15 s15 q15 => ?_)
  have fO := fO.kept (q15 _ (by omega))
  have fG := fG.kept (q15 _ (by omega))
  have f1 := f1.kept (q15 _ (by omega))
  have f2 := f2.kept (q15 _ (by omega))
  have f3 := f3.kept (q15 _ (by omega))
  have fW0 := fW0.kept (q15 _ (by omega))
  have fE0 := g15
  have fS0 := fS0.kept (q15 _ (by omega))
  have fA0 := fA0.kept (q15 _ (by omega))
  have n2 := n2.kept (fun q hq => q15 q (by omega))
  have n4 := n4.kept (fun q hq => q15 q (by omega))
  have n7 := n7.kept (fun q hq => q15 q (by omega))
  have n8 := n8.kept (fun q hq => q15 q (by omega))
  have n11 := n11.kept (fun q hq => q15 q (by omega))
  have n12 := n12.kept (fun q hq => q15 q (by omega))
  have hE : ∀ j, j < e → rEb G e0 sz (sz + 8 + 75 * j) j H15 := fun j hj => (hE j hj).kept (fun q hq => q15 q (by omega))
  have le : ∀ q, q < sz → q ≠ a → H15[q]? = s.heap[q]? := fun q h1 h2 => by rw [q15 q (by omega), le q h1 h2]
  have w15 : H15.size = b + 75 := by omega
  have Lo := r_app Lo (r_one (P := fun q => q.base = a ∨ sz ≤ q.base) (x := ⟨sz + 5, i.toNatClampNeg⟩) (Or.inr (show sz ≤ sz + 5 by omega)))
  refine lv_aload hx hb dX11_init_172 (lv_at hl 8 rfl) ?_
  refine lv_iload hx hb dX11_init_174 (lv_at hl 10 rfl) ?_
  refine lv_aload hx hb dX11_init_176 (lv_at hl 0 rfl) ?_
  refine r_str (i := i) (k := e) hx hb hK1 fS0 (by decide) n12.1 rfl (Or.inl rfl) hi (by omega) dX11_init_178 (fun H16 g16 s16 q16 => ?_)
  have fO := fO.kept (q16 _ (by omega))
  have fG := fG.kept (q16 _ (by omega))
  have f1 := f1.kept (q16 _ (by omega))
  have f2 := f2.kept (q16 _ (by omega))
  have f3 := f3.kept (q16 _ (by omega))
  have fW0 := fW0.kept (q16 _ (by omega))
  have fE0 := fE0.kept (q16 _ (by omega))
  have fS0 := g16
  have fA0 := fA0.kept (q16 _ (by omega))
  have n2 := n2.kept (fun q hq => q16 q (by omega))
  have n4 := n4.kept (fun q hq => q16 q (by omega))
  have n7 := n7.kept (fun q hq => q16 q (by omega))
  have n8 := n8.kept (fun q hq => q16 q (by omega))
  have n11 := n11.kept (fun q hq => q16 q (by omega))
  have n12 := n12.kept (fun q hq => q16 q (by omega))
  have hE : ∀ j, j < e → rEb G e0 sz (sz + 8 + 75 * j) j H16 := fun j hj => (hE j hj).kept (fun q hq => q16 q (by omega))
  have le : ∀ q, q < sz → q ≠ a → H16[q]? = s.heap[q]? := fun q h1 h2 => by rw [q16 q (by omega), le q h1 h2]
  have w16 : H16.size = b + 75 := by omega
  have Lo := r_app Lo (r_one (P := fun q => q.base = a ∨ sz ≤ q.base) (x := ⟨sz + 6, i.toNatClampNeg⟩) (Or.inr (show sz ≤ sz + 6 by omega)))
  refine lv_aload hx hb dX11_init_179 (lv_at hl 9 rfl) ?_
  refine lv_iload hx hb dX11_init_181 (lv_at hl 10 rfl) ?_
  refine lv_aload hx hb dX11_init_183 (lv_at hl 1 rfl) ?_
  refine r_str (i := i) (k := e) hx hb hK1 fA0 (by decide) n8.1 rfl (Or.inr (hTb.2.2.2.2 (RX4, "CellSwitch$Side") (by decide))) hi (by omega) dX11_init_185 (fun H17 g17 s17 q17 => ?_)
  have fO := fO.kept (q17 _ (by omega))
  have fG := fG.kept (q17 _ (by omega))
  have f1 := f1.kept (q17 _ (by omega))
  have f2 := f2.kept (q17 _ (by omega))
  have f3 := f3.kept (q17 _ (by omega))
  have fW0 := fW0.kept (q17 _ (by omega))
  have fE0 := fE0.kept (q17 _ (by omega))
  have fS0 := fS0.kept (q17 _ (by omega))
  have fA0 := g17
  have n2 := n2.kept (fun q hq => q17 q (by omega))
  have n4 := n4.kept (fun q hq => q17 q (by omega))
  have n7 := n7.kept (fun q hq => q17 q (by omega))
  have n8 := n8.kept (fun q hq => q17 q (by omega))
  have n11 := n11.kept (fun q hq => q17 q (by omega))
  have n12 := n12.kept (fun q hq => q17 q (by omega))
  have hE : ∀ j, j < e → rEb G e0 sz (sz + 8 + 75 * j) j H17 := fun j hj => (hE j hj).kept (fun q hq => q17 q (by omega))
  have le : ∀ q, q < sz → q ≠ a → H17[q]? = s.heap[q]? := fun q h1 h2 => by rw [q17 q (by omega), le q h1 h2]
  have w17 : H17.size = b + 75 := by omega
  have Lo := r_app Lo (r_one (P := fun q => q.base = a ∨ sz ≤ q.base) (x := ⟨sz + 7, i.toNatClampNeg⟩) (Or.inr (show sz ≤ sz + 7 by omega)))
  refine lv_aload hx hb dX11_init_186 (lv_at hl 9 rfl) ?_
  refine lv_iload_n hx hb dX11_init_188 rfl (lv_at hl 5 rfl) ?_
  refine lv_iload hx hb dX11_init_189 (lv_at hl 10 rfl) ?_
  refine lv_iadd hx hb dX11_init_191 ?_
  refine lv_topi (fun i4 ei4 => ?_)
  have hi4 : i4.toInt = ((n + e : Nat) : Int) := by
    have := ti_add (x := nn) (y := i) (by omega) (by omega)
    rw [← ei4] at this
    omega
  refine lv_aload hx hb dX11_init_192 (lv_at hl 0 rfl) ?_
  refine r_str (i := i4) (k := n + e) hx hb hK1 fA0 (by decide) n12.1 rfl (Or.inr (hTb.2.2.2.2 (RX10, "CellSwitch$Side") (by decide))) hi4 (by omega) dX11_init_194 (fun H18 g18 s18 q18 => ?_)
  have fO := fO.kept (q18 _ (by omega))
  have fG := fG.kept (q18 _ (by omega))
  have f1 := f1.kept (q18 _ (by omega))
  have f2 := f2.kept (q18 _ (by omega))
  have f3 := f3.kept (q18 _ (by omega))
  have fW0 := fW0.kept (q18 _ (by omega))
  have fE0 := fE0.kept (q18 _ (by omega))
  have fS0 := fS0.kept (q18 _ (by omega))
  have fA0 := g18
  have n2 := n2.kept (fun q hq => q18 q (by omega))
  have n4 := n4.kept (fun q hq => q18 q (by omega))
  have n7 := n7.kept (fun q hq => q18 q (by omega))
  have n8 := n8.kept (fun q hq => q18 q (by omega))
  have n11 := n11.kept (fun q hq => q18 q (by omega))
  have n12 := n12.kept (fun q hq => q18 q (by omega))
  have hE : ∀ j, j < e → rEb G e0 sz (sz + 8 + 75 * j) j H18 := fun j hj => (hE j hj).kept (fun q hq => q18 q (by omega))
  have le : ∀ q, q < sz → q ≠ a → H18[q]? = s.heap[q]? := fun q h1 h2 => by rw [q18 q (by omega), le q h1 h2]
  have w18 : H18.size = b + 75 := by omega
  have Lo := r_app Lo (r_one (P := fun q => q.base = a ∨ sz ≤ q.base) (x := ⟨sz + 7, i4.toNatClampNeg⟩) (Or.inr (show sz ≤ sz + 7 by omega)))
  have hcs : cells + 1 + 16 + 1 + 16 + 1 + 1 + 15 + 6 + 1 + 1 + 15 + 1 = cells + 75 := by omega
  have hss : slots + 16 + 4715 + 16 + 4715 + 13 + 21 + 1659 + 4103 + 5 + 21 + 1659 + 3 = slots + 16946 := by omega
  rw [hcs, hss]
  have hEb : rEb G e0 sz (sz + 8 + 75 * e) e H18 := by
    unfold rEb
    rw [← hb0, ← hie]
    exact ⟨n2, n4, n7, n8, n11, n12⟩
  refine kk H18 _ ls ⟨by omega, fO, fG, f1, f2, f3, fW0.cg (fun k _ => by rw [hb0]; exact fW_s), fE0.cg (fun k _ => by rw [hb0]; exact fE_s), fS0.cg (fun k _ => by rw [hb0]; exact fS_s), fA0.cg (fun k _ => by rw [hb0]; exact fA_s hen.1), fun j hj => ?_, le⟩ Lo (lv_sub hl [4, 5, 6, 7, 8, 9, 10] rfl)
  rcases Nat.lt_or_ge j e with h | h
  · exact hE j h
  · have : j = e := by omega
    rw [this]
    exact hEb
