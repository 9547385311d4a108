def rm_kabsC : Room := { frames := 1, cells := 0, slots := 0, locals := 12 }
set_option maxHeartbeats 4000000 in
set_option maxRecDepth 100000 in
theorem c_kabsC (l : Launch) {G : cG} (a sz : Nat) : Met l yJxa1e45_init_da8c8 (wk (Cond.code yJxa1e45_init_da8c8 cJxa1e45_init_da8c8 1 none)) rm_kabsC (va_Pc [.ref a] (rPre G a 12 sz tyJx4a65c)) (rPost a sz 0 (rOb G a 12 (fun k => defaultValue (tyJx4a65c k)))) 0 0 (fun q => q = a ∨ sz ≤ q) := by
  refine Met.ofW (cc := cJxa1e45_init_da8c8) (maxL := 1) (ret := none) (by decide) rfl ?_
  intro p e s m args below meth c s₁ B hml hv
  obtain ⟨rfl, O, hK1, hsz, hTb, hne⟩ := hv
  subst hsz
  have hr := B.returns
  have hlocks := B.notSynchronized
  have hx := B.exec
  have hb := B.bytes
  have hts := atoms_spec (ws := wk (Cond.code yJxa1e45_init_da8c8 cJxa1e45_init_da8c8 1 none)) B.pre
  have hin : ∀ w ∈ wsUC, w ∈ wk (Cond.code yJxa1e45_init_da8c8 cJxa1e45_init_da8c8 1 none) := fun w h => wk_in h
  have hown : s.vm.findClass RJxa1e45 = some m.cls := findClass_of_methodNamed B.named
  have hnm : meth.name = "<init>" := (name_of_methodNamed B.named B.method).1
  have hl := lv_entry ([.ref a]) (n := 1) (Nat.le_of_ble_eq_true rfl)
  rw [lg_entry_eq]
  generalize (lg_sl ([.ref a]) ++ List.replicate (1 - (lg_sl ([.ref a])).length) Slot.unset).toArray = ls at hl ⊢
  have hl : lv_has ls 1 [(0, .ref a)] := hl
  have hla := O.lt
  have z0 : s.heap.size = s.heap.size + 0 := rfl
  have hle : ∀ (q : Nat), q < s.heap.size → q ≠ a → s.heap[q]? = s.heap[q]? := fun _ _ _ => rfl
  have hLo : ∀ q ∈ ([] : List Loc), q.base = a ∨ s.heap.size ≤ q.base := fun q h => (by cases h)
  refine lv_aload_n hx hb dJxa1e45_init_da8c8_0 rfl (lv_at hl 0 rfl) ?_
  refine W.objInit hx hb hown (hts _ (wk_in kl_Jxa1e45_1)) (hts _ (wk_in kz_0_2)) (hts _ (wk_in kz_0_3)) rfl (by rw [hml]; exact hl.1) rfl dJxa1e45_init_da8c8_1 (Nat.le_of_ble_eq_true rfl) (Nat.le_of_ble_eq_true rfl) ?_
  have hP : (rOb G a 12 (fun k => defaultValue (tyJx4a65c k))) s.heap := O.to (fun k hk => by
    have hk2 : k < 3 := hk
    rcases (by omega : k = 0 ∨ k = 1 ∨ k = 2) with e | e | e <;> subst e <;> rfl)
  exact W.vret hx hb hr (fun t ht _ => ⟨rfl, by rw [ht]; exact hP, (congrArg Array.size ht).trans z0, fun q h1 h2 => (congrArg (fun h : Heap => h[q]?) ht).trans (hle q h1 h2)⟩) hLo dJxa1e45_init_da8c8_4

def rm_kabsL : Room := { frames := 2, cells := 0, slots := 0, locals := 32 }
set_option maxHeartbeats 4000000 in
set_option maxRecDepth 100000 in
theorem c_kabsL (l : Launch) {G : cG} (a sz : Nat) : Met l yJxc12de_init_da8c8 (wk (Cond.code yJxc12de_init_da8c8 cJxc12de_init_da8c8 1 none)) rm_kabsL (va_Pc [.ref a] (rPre G a 12 sz tyJx4a65c)) (rPost a sz 0 (rOb G a 12 (fun k => defaultValue (tyJx4a65c k)))) 0 0 (fun q => q = a ∨ sz ≤ q) := by
  refine Met.ofW (cc := cJxc12de_init_da8c8) (maxL := 1) (ret := none) (by decide) rfl ?_
  intro p e s m args below meth c s₁ B hml hv
  obtain ⟨rfl, O, hK1, hsz, hTb, hne⟩ := hv
  subst hsz
  have hr := B.returns
  have hlocks := B.notSynchronized
  have hx := B.exec
  have hb := B.bytes
  have hts := atoms_spec (ws := wk (Cond.code yJxc12de_init_da8c8 cJxc12de_init_da8c8 1 none)) B.pre
  have hin : ∀ w ∈ wsUC, w ∈ wk (Cond.code yJxc12de_init_da8c8 cJxc12de_init_da8c8 1 none) := fun w h => wk_in h
  have hown : s.vm.findClass RJxc12de = some m.cls := findClass_of_methodNamed B.named
  have hnm : meth.name = "<init>" := (name_of_methodNamed B.named B.method).1
  have hl := lv_entry ([.ref a]) (n := 1) (Nat.le_of_ble_eq_true rfl)
  rw [lg_entry_eq]
  generalize (lg_sl ([.ref a]) ++ List.replicate (1 - (lg_sl ([.ref a])).length) Slot.unset).toArray = ls at hl ⊢
  have hl : lv_has ls 1 [(0, .ref a)] := hl
  have hla := O.lt
  have z0 : s.heap.size = s.heap.size + 0 := rfl
  have hle : ∀ (q : Nat), q < s.heap.size → q ≠ a → s.heap[q]? = s.heap[q]? := fun _ _ _ => rfl
  have hLo : ∀ q ∈ ([] : List Loc), q.base = a ∨ s.heap.size ≤ q.base := fun q h => (by cases h)
  refine lv_aload_n hx hb dJxc12de_init_da8c8_0 rfl (lv_at hl 0 rfl) ?_
  refine k_raw (va_runI (b := a) (As := []) (rest := []) ⟨hx, hb, hml, hown, hts⟩ (c_kabsC l (G := G) a s.heap.size) ⟨callB_of 0 hts (wk_good kd_Jxa1e45_init_da8c8) rfl rfl rfl (hts _ (wk_in kn_Jxa1e45)) (hts _ (wk_in kl_Jxc12de_1)) (by decide +kernel) ⟨Nat.le_of_ble_eq_true rfl, Nat.le_of_ble_eq_true rfl⟩, rfl, hts _ (wk_in ki_Jxa1e45_init_da8c8)⟩ ⟨rPre.blind, fun U hU hW => ⟨rfl, by rw [hU]; exact O, hK1.moved hW.alike, by rw [hU], hTb.moved hW.alike, hne.warm hW⟩⟩ rfl rfl hl.1 rfl (lv_room (Nat.le_of_ble_eq_true rfl)) dJxc12de_init_da8c8_1 ⟨show 0 + 0 ≤ 0 by decide, show 0 + 0 ≤ 0 by decide⟩) (fun w2v st2 t2 L2 h2 hq2 hL2 => ?_)
  obtain ⟨ew2, n2, s2, q2⟩ := hq2
  cases ew2
  rw [h2] at q2
  have hle : ∀ (q : Nat), q < s.heap.size → q ≠ a → t2.heap[q]? = s.heap[q]? := fun q h1 h2 => q2 q h1 h2
  have w2 : t2.heap.size = s.heap.size + 0 := s2
  have Lo2 := r_app hLo (fun q h => hL2 q h)
  refine W.eq (g2 := F0 m 4 ls []) rfl ?_
  refine lv_aload_n hx hb dJxc12de_init_da8c8_4 rfl (lv_at hl 0 rfl) ?_
  refine lv_iconst (v := 0) hx hb dJxc12de_init_da8c8_5 (by decide) ?_
  refine k_put (ty := tyJx4a65c 0) hx hb hts hin hown hK1 12 n2 0 rfl rfl (tyJx4a65c_ok 0 (by decide)) rfl rfl (wk_in kf_Jxc12de_7) dJxc12de_init_da8c8_6 (fun H5 O5 s5 q5 => ?_)
  have hle : ∀ (q : Nat), q < s.heap.size → q ≠ a → H5[q]? = s.heap[q]? := fun q h1 h2 => by rw [q5 q h2, hle q h1 h2]
  have w5 : H5.size = s.heap.size + 0 := by omega
  have Lo5 := r_app Lo2 (r_one (P := fun q => q.base = a ∨ s.heap.size ≤ q.base) (x := ⟨a, G.2.1 12 0⟩) (Or.inl rfl))
  have hP : (rOb G a 12 (fun k => defaultValue (tyJx4a65c k))) H5 := O5.to (fun k hk => by
    have hk2 : k < 3 := hk
    rcases (by omega : k = 0 ∨ k = 1 ∨ k = 2) with e | e | e <;> subst e <;> rfl)
  exact W.vret hx hb hr (fun t ht _ => ⟨rfl, by rw [ht]; exact hP, (congrArg Array.size ht).trans w5, fun q h1 h2 => (congrArg (fun h : Heap => h[q]?) ht).trans (hle q h1 h2)⟩) Lo5 dJxc12de_init_da8c8_9

def rm_klsInit : Room := { frames := 3, cells := 0, slots := 0, locals := 52 }
set_option maxHeartbeats 4000000 in
set_option maxRecDepth 100000 in
theorem c_klsInit (l : Launch) {G : cG} (e0 a sz : Nat) : Met l yJx4a65c_init_da8c8 (wk (Cond.code yJx4a65c_init_da8c8 cJx4a65c_init_da8c8 1 none)) rm_klsInit (va_Pc [.ref a] (rPreS G e0 a 12 sz tyJx4a65c)) (rPost a sz 0 (rLs G e0 a)) 0 0 (fun q => q = a ∨ sz ≤ q) := by
  refine Met.ofW (cc := cJx4a65c_init_da8c8) (maxL := 1) (ret := none) (by decide) rfl ?_
  intro p e s m args below meth c s₁ B hml hv
  obtain ⟨rfl, ⟨O, hK1, hsz, hTb, hne⟩, hZ⟩ := hv
  subst hsz
  have hr := B.returns
  have hlocks := B.notSynchronized
  have hx := B.exec
  have hb := B.bytes
  have hts := atoms_spec (ws := wk (Cond.code yJx4a65c_init_da8c8 cJx4a65c_init_da8c8 1 none)) B.pre
  have hin : ∀ w ∈ wsUC, w ∈ wk (Cond.code yJx4a65c_init_da8c8 cJx4a65c_init_da8c8 1 none) := fun w h => wk_in h
  have hown : s.vm.findClass RJx4a65c = some m.cls := findClass_of_methodNamed B.named
  have hnm : meth.name = "<init>" := (name_of_methodNamed B.named B.method).1
  have hl := lv_entry ([.ref a]) (n := 1) (Nat.le_of_ble_eq_true rfl)
  rw [lg_entry_eq]
  generalize (lg_sl ([.ref a]) ++ List.replicate (1 - (lg_sl ([.ref a])).length) Slot.unset).toArray = ls at hl ⊢
  have hl : lv_has ls 1 [(0, .ref a)] := hl
  have hla := O.lt
  have z0 : s.heap.size = s.heap.size + 0 := rfl
  have hle : ∀ (q : Nat), q < s.heap.size → q ≠ a → s.heap[q]? = s.heap[q]? := fun _ _ _ => rfl
  have hLo : ∀ q ∈ ([] : List Loc), q.base = a ∨ s.heap.size ≤ q.base := fun q h => (by cases h)
  refine lv_aload_n hx hb dJx4a65c_init_da8c8_0 rfl (lv_at hl 0 rfl) ?_
  refine k_raw (va_runI (b := a) (As := []) (rest := []) ⟨hx, hb, hml, hown, hts⟩ (c_kabsL l (G := G) a s.heap.size) ⟨callB_of 0 hts (wk_good kd_Jxc12de_init_da8c8) rfl rfl rfl (hts _ (wk_in kn_Jxc12de)) (hts _ (wk_in kl_Jx4a65c_1)) (by decide +kernel) ⟨Nat.le_of_ble_eq_true rfl, Nat.le_of_ble_eq_true rfl⟩, rfl, hts _ (wk_in ki_Jxc12de_init_da8c8)⟩ ⟨rPre.blind, fun U hU hW => ⟨rfl, by rw [hU]; exact O, hK1.moved hW.alike, by rw [hU], hTb.moved hW.alike, hne.warm hW⟩⟩ rfl rfl hl.1 rfl (lv_room (Nat.le_of_ble_eq_true rfl)) dJx4a65c_init_da8c8_1 ⟨show 0 + 0 ≤ 0 by decide, show 0 + 0 ≤ 0 by decide⟩) (fun w2v st2 t2 L2 h2 hq2 hL2 => ?_)
  obtain ⟨ew2, n2, s2, q2⟩ := hq2
  cases ew2
  rw [h2] at q2
  have hle : ∀ (q : Nat), q < s.heap.size → q ≠ a → t2.heap[q]? = s.heap[q]? := fun q h1 h2 => q2 q h1 h2
  have w2 : t2.heap.size = s.heap.size + 0 := s2
  have Lo2 := r_app hLo (fun q h => hL2 q h)
  refine W.eq (g2 := F0 m 4 ls []) rfl ?_
  refine lv_aload_n hx hb dJx4a65c_init_da8c8_4 rfl (lv_at hl 0 rfl) ?_
  refine va_gets (A := fun q => q = a ∨ s.heap.size ≤ q) hx hb hZ ⟨by omega, fun q h1 h2 => hle q h1 (fun z => h2 (Or.inl z)), Lo2⟩ hown (hts _ (wk_in kf_Jx4a65c_39)) (fun y h => h) dJx4a65c_init_da8c8_5 ?_
  refine k_put (ty := tyJx4a65c 1) hx hb hts hin hown hK1 12 n2 1 rfl rfl (tyJx4a65c_ok 1 (by decide)) rfl rfl (wk_in kf_Jx4a65c_9) dJx4a65c_init_da8c8_8 (fun H5 O5 s5 q5 => ?_)
  have hle : ∀ (q : Nat), q < s.heap.size → q ≠ a → H5[q]? = s.heap[q]? := fun q h1 h2 => by rw [q5 q h2, hle q h1 h2]
  have w5 : H5.size = s.heap.size + 0 := by omega
  have Lo5 := r_app Lo2 (r_one (P := fun q => q.base = a ∨ s.heap.size ≤ q.base) (x := ⟨a, G.2.1 12 1⟩) (Or.inl rfl))
  have hP : (rLs G e0 a) H5 := O5.to (fun k hk => by
    have hk2 : k < 3 := hk
    rcases (by omega : k = 0 ∨ k = 1 ∨ k = 2) with e | e | e <;> subst e <;> rfl)
  exact W.vret hx hb hr (fun t ht _ => ⟨rfl, by rw [ht]; exact hP, (congrArg Array.size ht).trans w5, fun q h1 h2 => (congrArg (fun h : Heap => h[q]?) ht).trans (hle q h1 h2)⟩) Lo5 dJx4a65c_init_da8c8_11

def rm_ksdInit4 : Room := { frames := 4, cells := 1, slots := 3, locals := 72 }
set_option maxHeartbeats 4000000 in
set_option maxRecDepth 100000 in
theorem c_ksdInit4 (l : Launch) {G : cG} (e0 a sz : Nat) (ln : Int32) (li : Nat) : Met l yX8_init (wk (Cond.code yX8_init cX8_init 3 none)) rm_ksdInit4 (va_Pc [.ref a, .int ln, .ref li] (rPreS G e0 a 4 sz tyX4)) (rPost a sz 1 (rSd4 G e0 ln li a sz)) 1 3 (fun q => q = a ∨ sz ≤ q) := by
  refine Met.ofW (cc := cX8_init) (maxL := 3) (ret := none) (by decide) rfl ?_
  intro p e s m args below meth c s₁ B hml hv
  obtain ⟨rfl, ⟨O, hK1, hsz, hTb, hne⟩, hZ⟩ := hv
  subst hsz
  have hr := B.returns
  have hlocks := B.notSynchronized
  have hx := B.exec
  have hb := B.bytes
  have hts := atoms_spec (ws := wk (Cond.code yX8_init cX8_init 3 none)) B.pre
  have hin : ∀ w ∈ wsUC, w ∈ wk (Cond.code yX8_init cX8_init 3 none) := fun w h => wk_in h
  have hown : s.vm.findClass RX8 = some m.cls := findClass_of_methodNamed B.named
  have hnm : meth.name = "<init>" := (name_of_methodNamed B.named B.method).1
  have hl := lv_entry ([.ref a, .int ln, .ref li]) (n := 3) (Nat.le_of_ble_eq_true rfl)
  rw [lg_entry_eq]
  generalize (lg_sl ([.ref a, .int ln, .ref li]) ++ List.replicate (3 - (lg_sl ([.ref a, .int ln, .ref li])).length) Slot.unset).toArray = ls at hl ⊢
  have hl : lv_has ls 3 [(0, .ref a), (1, .int ln), (2, .ref li)] := hl
  have hla := O.lt
  have z0 : s.heap.size = s.heap.size + 0 := rfl
  have hle : ∀ (q : Nat), q < s.heap.size → q ≠ a → s.heap[q]? = s.heap[q]? := fun _ _ _ => rfl
  have hLo : ∀ q ∈ ([] : List Loc), q.base = a ∨ s.heap.size ≤ q.base := fun q h => (by cases h)
  refine lv_aload_n hx hb dX8_init_0 rfl (lv_at hl 0 rfl) ?_
  refine W.objInit hx hb hown (hts _ (wk_in kl_X8_1)) (hts _ (wk_in kz_0_2)) (hts _ (wk_in kz_0_3)) rfl (by rw [hml]; exact hl.1) rfl dX8_init_1 (Nat.le_of_ble_eq_true rfl) (Nat.le_of_ble_eq_true rfl) ?_
  refine lv_aload_n hx hb dX8_init_4 rfl (lv_at hl 0 rfl) ?_
  refine k_new hx hb hts hin hown hK1 12 rfl tyJx4a65c tyJx4a65c_ok (wk_in kc_lX8_7) (wk_in kx_Jx4a65c) (wk_in kn_Jx4a65c) (show 0 + 1 ≤ 1 by decide) (show 0 + 3 ≤ 3 by decide) dX8_init_5 (fun H4 O4 s4 q4 => ?_)
  have O := O.kept (q4 _ (by omega))
  have hle : ∀ (q : Nat), q < s.heap.size → q ≠ a → H4[q]? = s.heap[q]? := fun q h1 h2 => by rw [q4 q (by omega), hle q h1 h2]
  have w4 : H4.size = s.heap.size + 1 := by omega
  have O4 : rOb G (s.heap.size + 0) 12 (fun k => defaultValue (tyJx4a65c k)) H4 := by rw [← z0]; exact O4
  rw [show s.heap.size = s.heap.size + 0 from z0]
  refine lv_dup hx hb dX8_init_8 rfl ?_
  refine k_raw (va_runI (b := s.heap.size + 0) (As := []) (rest := [.ref (s.heap.size + 0), .ref a]) ⟨hx, hb, hml, hown, hts⟩ (c_klsInit l (G := G) e0 (s.heap.size + 0) H4.size) ⟨callB_of 0 hts (wk_good kd_Jx4a65c_init_da8c8) rfl rfl rfl (hts _ (wk_in kn_Jx4a65c)) (hts _ (wk_in kl_X8_9)) (by decide +kernel) ⟨Nat.le_of_ble_eq_true rfl, Nat.le_of_ble_eq_true rfl⟩, rfl, hts _ (wk_in ki_Jx4a65c_init_da8c8)⟩ ⟨rPreS.blind, fun U hU hW => ⟨rfl, ⟨by rw [hU]; exact O4, hK1.moved hW.alike, by rw [hU], hTb.moved hW.alike, hne.warm hW⟩, by rw [hU]; exact hZ.next rfl hW.alike hle (Or.inl (by omega)) (by omega)⟩⟩ rfl rfl hl.1 rfl (lv_room (Nat.le_of_ble_eq_true rfl)) dX8_init_9 ⟨show (0 + 1) + 0 ≤ 1 by decide, show (0 + 3) + 0 ≤ 3 by decide⟩) (fun w6v st6 t6 L6 h6 hq6 hL6 => ?_)
  obtain ⟨ew6, n6, s6, q6⟩ := hq6
  cases ew6
  rw [h6] at q6
  have O := O.kept (q6 _ (by omega) (by omega))
  have hle : ∀ (q : Nat), q < s.heap.size → q ≠ a → t6.heap[q]? = s.heap[q]? := fun q h1 h2 => by rw [q6 q (by omega) (by omega), hle q h1 h2]
  have w6 : t6.heap.size = s.heap.size + 1 := by omega
  have Lo6 := r_app hLo (fun q h => (hL6 q h).elim (fun z => Or.inr (by rw [z]; omega)) (fun z => Or.inr (Nat.le_trans (by omega) z)))
  refine W.eq (g2 := F0 m 12 ls [.ref (s.heap.size + 0), .ref a]) rfl ?_
  refine k_putF (ty := tyX4 2) hx hb hts hin hown hK1 hnm 4 O 2 rfl ⟨rfl, rfl⟩ (tyX4_ok 2 (by decide)) rfl rfl (wk_in kf_X8_10) dX8_init_12 (fun H7 O7 s7 q7 => ?_)
  have n6 := n6.kept (q7 _ (by omega))
  have hle : ∀ (q : Nat), q < s.heap.size → q ≠ a → H7[q]? = s.heap[q]? := fun q h1 h2 => by rw [q7 q h2, hle q h1 h2]
  have w7 : H7.size = s.heap.size + 1 := by omega
  have Lo7 := r_app Lo6 (r_one (P := fun q => q.base = a ∨ s.heap.size ≤ q.base) (x := ⟨a, G.2.1 4 2⟩) (Or.inl rfl))
  refine lv_aload_n hx hb dX8_init_15 rfl (lv_at hl 0 rfl) ?_
  refine lv_iload_n hx hb dX8_init_16 rfl (lv_at hl 1 rfl) ?_
  refine k_putF (ty := tyX4 0) hx hb hts hin hown hK1 hnm 4 O7 0 rfl ⟨rfl, rfl⟩ (tyX4_ok 0 (by decide)) rfl rfl (wk_in kf_X8_16) dX8_init_17 (fun H10 O10 s10 q10 => ?_)
  have n6 := n6.kept (q10 _ (by omega))
  have hle : ∀ (q : Nat), q < s.heap.size → q ≠ a → H10[q]? = s.heap[q]? := fun q h1 h2 => by rw [q10 q h2, hle q h1 h2]
  have w10 : H10.size = s.heap.size + 1 := by omega
  have Lo10 := r_app Lo7 (r_one (P := fun q => q.base = a ∨ s.heap.size ≤ q.base) (x := ⟨a, G.2.1 4 0⟩) (Or.inl rfl))
  refine lv_aload_n hx hb dX8_init_20 rfl (lv_at hl 0 rfl) ?_
  refine lv_aload_n hx hb dX8_init_21 rfl (lv_at hl 2 rfl) ?_
  refine k_putF (ty := tyX4 1) hx hb hts hin hown hK1 hnm 4 O10 1 rfl ⟨rfl, rfl⟩ (tyX4_ok 1 (by decide)) rfl rfl (wk_in kf_X8_20) dX8_init_22 (fun H13 O13 s13 q13 => ?_)
  have n6 := n6.kept (q13 _ (by omega))
  have hle : ∀ (q : Nat), q < s.heap.size → q ≠ a → H13[q]? = s.heap[q]? := fun q h1 h2 => by rw [q13 q h2, hle q h1 h2]
  have w13 : H13.size = s.heap.size + 1 := by omega
  have Lo13 := r_app Lo10 (r_one (P := fun q => q.base = a ∨ s.heap.size ≤ q.base) (x := ⟨a, G.2.1 4 1⟩) (Or.inl rfl))
  have hP : (rSd4 G e0 ln li a s.heap.size) H13 := ⟨O13.to (fun k hk => by
    have hk2 : k < 13 := hk
    rcases (by omega : k = 0 ∨ k = 1 ∨ k = 2 ∨ k = 3 ∨ k = 4 ∨ k = 5 ∨ k = 6 ∨ k = 7 ∨ k = 8 ∨ k = 9 ∨ k = 10 ∨ k = 11 ∨ k = 12) with e | e | e | e | e | e | e | e | e | e | e | e | e <;> subst e <;> rfl), n6⟩
  exact W.vret hx hb hr (fun t ht _ => ⟨rfl, by rw [ht]; exact hP, (congrArg Array.size ht).trans w13, fun q h1 h2 => (congrArg (fun h : Heap => h[q]?) ht).trans (hle q h1 h2)⟩) Lo13 dX8_init_25

def rm_ksdInit10 : Room := { frames := 4, cells := 1, slots := 3, locals := 72 }
set_option maxHeartbeats 4000000 in
set_option maxRecDepth 100000 in
theorem c_ksdInit10 (l : Launch) {G : cG} (e0 a sz : Nat) (ln : Int32) (li : Nat) : Met l yX8_init (wk (Cond.code yX8_init cX8_init 3 none)) rm_ksdInit10 (va_Pc [.ref a, .int ln, .ref li] (rPreS G e0 a 10 sz tyX10)) (rPost a sz 1 (rSd10 G e0 ln li a sz)) 1 3 (fun q => q = a ∨ sz ≤ q) := by
  refine Met.ofW (cc := cX8_init) (maxL := 3) (ret := none) (by decide) rfl ?_
  intro p e s m args below meth c s₁ B hml hv
  obtain ⟨rfl, ⟨O, hK1, hsz, hTb, hne⟩, hZ⟩ := hv
  subst hsz
  have hr := B.returns
  have hlocks := B.notSynchronized
  have hx := B.exec
  have hb := B.bytes
  have hts := atoms_spec (ws := wk (Cond.code yX8_init cX8_init 3 none)) B.pre
  have hin : ∀ w ∈ wsUC, w ∈ wk (Cond.code yX8_init cX8_init 3 none) := fun w h => wk_in h
  have hown : s.vm.findClass RX8 = some m.cls := findClass_of_methodNamed B.named
  have hnm : meth.name = "<init>" := (name_of_methodNamed B.named B.method).1
  have hl := lv_entry ([.ref a, .int ln, .ref li]) (n := 3) (Nat.le_of_ble_eq_true rfl)
  rw [lg_entry_eq]
  generalize (lg_sl ([.ref a, .int ln, .ref li]) ++ List.replicate (3 - (lg_sl ([.ref a, .int ln, .ref li])).length) Slot.unset).toArray = ls at hl ⊢
  have hl : lv_has ls 3 [(0, .ref a), (1, .int ln), (2, .ref li)] := hl
  have hla := O.lt
  have z0 : s.heap.size = s.heap.size + 0 := rfl
  have hle : ∀ (q : Nat), q < s.heap.size → q ≠ a → s.heap[q]? = s.heap[q]? := fun _ _ _ => rfl
  have hLo : ∀ q ∈ ([] : List Loc), q.base = a ∨ s.heap.size ≤ q.base := fun q h => (by cases h)
  refine lv_aload_n hx hb dX8_init_0 rfl (lv_at hl 0 rfl) ?_
  refine W.objInit hx hb hown (hts _ (wk_in kl_X8_1)) (hts _ (wk_in kz_0_2)) (hts _ (wk_in kz_0_3)) rfl (by rw [hml]; exact hl.1) rfl dX8_init_1 (Nat.le_of_ble_eq_true rfl) (Nat.le_of_ble_eq_true rfl) ?_
  refine lv_aload_n hx hb dX8_init_4 rfl (lv_at hl 0 rfl) ?_
  refine k_new hx hb hts hin hown hK1 12 rfl tyJx4a65c tyJx4a65c_ok (wk_in kc_lX8_7) (wk_in kx_Jx4a65c) (wk_in kn_Jx4a65c) (show 0 + 1 ≤ 1 by decide) (show 0 + 3 ≤ 3 by decide) dX8_init_5 (fun H4 O4 s4 q4 => ?_)
  have O := O.kept (q4 _ (by omega))
  have hle : ∀ (q : Nat), q < s.heap.size → q ≠ a → H4[q]? = s.heap[q]? := fun q h1 h2 => by rw [q4 q (by omega), hle q h1 h2]
  have w4 : H4.size = s.heap.size + 1 := by omega
  have O4 : rOb G (s.heap.size + 0) 12 (fun k => defaultValue (tyJx4a65c k)) H4 := by rw [← z0]; exact O4
  rw [show s.heap.size = s.heap.size + 0 from z0]
  refine lv_dup hx hb dX8_init_8 rfl ?_
  refine k_raw (va_runI (b := s.heap.size + 0) (As := []) (rest := [.ref (s.heap.size + 0), .ref a]) ⟨hx, hb, hml, hown, hts⟩ (c_klsInit l (G := G) e0 (s.heap.size + 0) H4.size) ⟨callB_of 0 hts (wk_good kd_Jx4a65c_init_da8c8) rfl rfl rfl (hts _ (wk_in kn_Jx4a65c)) (hts _ (wk_in kl_X8_9)) (by decide +kernel) ⟨Nat.le_of_ble_eq_true rfl, Nat.le_of_ble_eq_true rfl⟩, rfl, hts _ (wk_in ki_Jx4a65c_init_da8c8)⟩ ⟨rPreS.blind, fun U hU hW => ⟨rfl, ⟨by rw [hU]; exact O4, hK1.moved hW.alike, by rw [hU], hTb.moved hW.alike, hne.warm hW⟩, by rw [hU]; exact hZ.next rfl hW.alike hle (Or.inl (by omega)) (by omega)⟩⟩ rfl rfl hl.1 rfl (lv_room (Nat.le_of_ble_eq_true rfl)) dX8_init_9 ⟨show (0 + 1) + 0 ≤ 1 by decide, show (0 + 3) + 0 ≤ 3 by decide⟩) (fun w6v st6 t6 L6 h6 hq6 hL6 => ?_)
  obtain ⟨ew6, n6, s6, q6⟩ := hq6
  cases ew6
  rw [h6] at q6
  have O := O.kept (q6 _ (by omega) (by omega))
  have hle : ∀ (q : Nat), q < s.heap.size → q ≠ a → t6.heap[q]? = s.heap[q]? := fun q h1 h2 => by rw [q6 q (by omega) (by omega), hle q h1 h2]
  have w6 : t6.heap.size = s.heap.size + 1 := by omega
  have Lo6 := r_app hLo (fun q h => (hL6 q h).elim (fun z => Or.inr (by rw [z]; omega)) (fun z => Or.inr (Nat.le_trans (by omega) z)))
  refine W.eq (g2 := F0 m 12 ls [.ref (s.heap.size + 0), .ref a]) rfl ?_
  refine k_putF (ty := tyX10 2) hx hb hts hin hown hK1 hnm 10 O 2 rfl ⟨rfl, rfl⟩ (tyX10_ok 2 (by decide)) rfl rfl (wk_in kf_X8_10) dX8_init_12 (fun H7 O7 s7 q7 => ?_)
  have n6 := n6.kept (q7 _ (by omega))
  have hle : ∀ (q : Nat), q < s.heap.size → q ≠ a → H7[q]? = s.heap[q]? := fun q h1 h2 => by rw [q7 q h2, hle q h1 h2]
  have w7 : H7.size = s.heap.size + 1 := by omega
  have Lo7 := r_app Lo6 (r_one (P := fun q => q.base = a ∨ s.heap.size ≤ q.base) (x := ⟨a, G.2.1 10 2⟩) (Or.inl rfl))
  refine lv_aload_n hx hb dX8_init_15 rfl (lv_at hl 0 rfl) ?_
  refine lv_iload_n hx hb dX8_init_16 rfl (lv_at hl 1 rfl) ?_
  refine k_putF (ty := tyX10 0) hx hb hts hin hown hK1 hnm 10 O7 0 rfl ⟨rfl, rfl⟩ (tyX10_ok 0 (by decide)) rfl rfl (wk_in kf_X8_16) dX8_init_17 (fun H10 O10 s10 q10 => ?_)
  have n6 := n6.kept (q10 _ (by omega))
  have hle : ∀ (q : Nat), q < s.heap.size → q ≠ a → H10[q]? = s.heap[q]? := fun q h1 h2 => by rw [q10 q h2, hle q h1 h2]
  have w10 : H10.size = s.heap.size + 1 := by omega
  have Lo10 := r_app Lo7 (r_one (P := fun q => q.base = a ∨ s.heap.size ≤ q.base) (x := ⟨a, G.2.1 10 0⟩) (Or.inl rfl))
  refine lv_aload_n hx hb dX8_init_20 rfl (lv_at hl 0 rfl) ?_
  refine lv_aload_n hx hb dX8_init_21 rfl (lv_at hl 2 rfl) ?_
  refine k_putF (ty := tyX10 1) hx hb hts hin hown hK1 hnm 10 O10 1 rfl ⟨rfl, rfl⟩ (tyX10_ok 1 (by decide)) rfl rfl (wk_in kf_X8_20) dX8_init_22 (fun H13 O13 s13 q13 => ?_)
  have n6 := n6.kept (q13 _ (by omega))
  have hle : ∀ (q : Nat), q < s.heap.size → q ≠ a → H13[q]? = s.heap[q]? := fun q h1 h2 => by rw [q13 q h2, hle q h1 h2]
  have w13 : H13.size = s.heap.size + 1 := by omega
  have Lo13 := r_app Lo10 (r_one (P := fun q => q.base = a ∨ s.heap.size ≤ q.base) (x := ⟨a, G.2.1 10 1⟩) (Or.inl rfl))
  have hP : (rSd10 G e0 ln li a s.heap.size) H13 := ⟨O13.to (fun k hk => by
    have hk2 : k < 5 := hk
    rcases (by omega : k = 0 ∨ k = 1 ∨ k = 2 ∨ k = 3 ∨ k = 4) with e | e | e | e | e <;> subst e <;> rfl), n6⟩
  exact W.vret hx hb hr (fun t ht _ => ⟨rfl, by rw [ht]; exact hP, (congrArg Array.size ht).trans w13, fun q h1 h2 => (congrArg (fun h : Heap => h[q]?) ht).trans (hle q h1 h2)⟩) Lo13 dX8_init_25

def rm_kenInit : Room := { frames := 5, cells := 6, slots := 4103, locals := 94 }
set_option maxHeartbeats 4000000 in
set_option maxRecDepth 100000 in
theorem c_kenInit (l : Launch) {G : cG} (e0 a sz : Nat) (ln : Int32) (li : Nat) : Met l yX4_init (wk (Cond.code yX4_init cX4_init 3 none)) rm_kenInit (va_Pc [.ref a, .int ln, .ref li] (rPreS G e0 a 4 sz tyX4)) (rPost a sz 6 (rEn G e0 ln li a sz)) 6 4103 (fun q => q = a ∨ sz ≤ q) := by
  refine Met.ofW (cc := cX4_init) (maxL := 3) (ret := none) (by decide) rfl ?_
  intro p e s m args below meth c s₁ B hml hv
  obtain ⟨rfl, ⟨O, hK1, hsz, hTb, hne⟩, hZ⟩ := hv
  subst hsz
  have hr := B.returns
  have hlocks := B.notSynchronized
  have hx := B.exec
  have hb := B.bytes
  have hts := atoms_spec (ws := wk (Cond.code yX4_init cX4_init 3 none)) B.pre
  have hin : ∀ w ∈ wsUC, w ∈ wk (Cond.code yX4_init cX4_init 3 none) := fun w h => wk_in h
  have hown : s.vm.findClass RX4 = some m.cls := findClass_of_methodNamed B.named
  have hnm : meth.name = "<init>" := (name_of_methodNamed B.named B.method).1
  have hl := lv_entry ([.ref a, .int ln, .ref li]) (n := 3) (Nat.le_of_ble_eq_true rfl)
  rw [lg_entry_eq]
  generalize (lg_sl ([.ref a, .int ln, .ref li]) ++ List.replicate (3 - (lg_sl ([.ref a, .int ln, .ref li])).length) Slot.unset).toArray = ls at hl ⊢
  have hl : lv_has ls 3 [(0, .ref a), (1, .int ln), (2, .ref li)] := hl
  have hla := O.lt
  have z0 : s.heap.size = s.heap.size + 0 := rfl
  have hle : ∀ (q : Nat), q < s.heap.size → q ≠ a → s.heap[q]? = s.heap[q]? := fun _ _ _ => rfl
  have hLo : ∀ q ∈ ([] : List Loc), q.base = a ∨ s.heap.size ≤ q.base := fun q h => (by cases h)
  refine lv_aload_n hx hb dX4_init_0 rfl (lv_at hl 0 rfl) ?_
  refine lv_iload_n hx hb dX4_init_1 rfl (lv_at hl 1 rfl) ?_
  refine lv_aload_n hx hb dX4_init_2 rfl (lv_at hl 2 rfl) ?_
  refine k_raw (va_runI (b := a) (As := [.int ln, .ref li]) (rest := []) ⟨hx, hb, hml, hown, hts⟩ (c_ksdInit4 l (G := G) e0 a s.heap.size ln li) ⟨callB_of 2 hts (wk_good kd_X8_init) rfl rfl rfl (hts _ (wk_in kn_X8)) (hts _ (wk_in kl_X4_3)) (by decide +kernel) ⟨Nat.le_of_ble_eq_true rfl, Nat.le_of_ble_eq_true rfl⟩, rfl, hts _ (wk_in ki_X8_init)⟩ ⟨rPreS.blind, fun U hU hW => ⟨rfl, ⟨by rw [hU]; exact O, hK1.moved hW.alike, by rw [hU], hTb.moved hW.alike, hne.warm hW⟩, by rw [hU]; exact hZ.next rfl hW.alike (fun _ _ _ => rfl) (Or.inr rfl) (Nat.le_refl _)⟩⟩ rfl rfl hl.1 rfl (lv_room (Nat.le_of_ble_eq_true rfl)) dX4_init_3 ⟨show 0 + 1 ≤ 6 by decide, show 0 + 3 ≤ 4103 by decide⟩) (fun w4v st4 t4 L4 h4 hq4 hL4 => ?_)
  obtain ⟨ew4, n4, s4, q4⟩ := hq4
  cases ew4
  rw [h4] at q4
  obtain ⟨O4, f4⟩ := n4
  have hle : ∀ (q : Nat), q < s.heap.size → q ≠ a → t4.heap[q]? = s.heap[q]? := fun q h1 h2 => q4 q h1 h2
  have w4 : t4.heap.size = s.heap.size + 1 := s4
  have Lo4 := r_app hLo (fun q h => hL4 q h)
  refine W.eq (g2 := F0 m 6 ls []) rfl ?_
  refine lv_aload_n hx hb dX4_init_6 rfl (lv_at hl 0 rfl) ?_
  refine lv_iconst (v := 0) hx hb dX4_init_7 (by decide) ?_
  refine k_put (ty := tyX4 4) hx hb hts hin hown hK1 4 O4 4 rfl rfl (tyX4_ok 4 (by decide)) rfl rfl (wk_in kf_X4_11) dX4_init_8 (fun H7 O7 s7 q7 => ?_)
  have f4 := f4.kept (q7 _ (by omega))
  have hle : ∀ (q : Nat), q < s.heap.size → q ≠ a → H7[q]? = s.heap[q]? := fun q h1 h2 => by rw [q7 q h2, hle q h1 h2]
  have w7 : H7.size = s.heap.size + 1 := by omega
  have Lo7 := r_app Lo4 (r_one (P := fun q => q.base = a ∨ s.heap.size ≤ q.base) (x := ⟨a, G.2.1 4 4⟩) (Or.inl rfl))
  refine lv_aload_n hx hb dX4_init_11 rfl (lv_at hl 0 rfl) ?_
  refine lv_iconst (v := 1) hx hb dX4_init_12 (by decide) ?_
  refine k_put (ty := tyX4 5) hx hb hts hin hown hK1 4 O7 5 rfl rfl (tyX4_ok 5 (by decide)) rfl rfl (wk_in kf_X4_15) dX4_init_13 (fun H10 O10 s10 q10 => ?_)
  have f4 := f4.kept (q10 _ (by omega))
  have hle : ∀ (q : Nat), q < s.heap.size → q ≠ a → H10[q]? = s.heap[q]? := fun q h1 h2 => by rw [q10 q h2, hle q h1 h2]
  have w10 : H10.size = s.heap.size + 1 := by omega
  have Lo10 := r_app Lo7 (r_one (P := fun q => q.base = a ∨ s.heap.size ≤ q.base) (x := ⟨a, G.2.1 4 5⟩) (Or.inl rfl))
  refine lv_aload_n hx hb dX4_init_16 rfl (lv_at hl 0 rfl) ?_
  refine lv_bipush (v := 40) hx hb dX4_init_17 (by decide) ?_
  refine r_newr (K := 48) (N := 40) hx hb hTb hK1 hown (by decide) (by decide) (hts _ (wk_in kc_lX4_18)) (by decide) (by decide) (show (0 + 1) + 1 ≤ 6 by decide) (show (0 + 3) + 40 ≤ 4103 by decide) dX4_init_19 (fun H13 s13 n13 q13 => ?_)
  have O10 := O10.kept (q13 _ (by omega))
  have f4 := f4.kept (q13 _ (by omega))
  have hle : ∀ (q : Nat), q < s.heap.size → q ≠ a → H13[q]? = s.heap[q]? := fun q h1 h2 => by rw [q13 q (by omega), hle q h1 h2]
  have n13 : rAr G (s.heap.size + 1) 48 40 H13 := by rw [← w10]; exact n13
  have w13 : H13.size = s.heap.size + 2 := by omega
  rw [show (Value.ref H10.size) = Value.ref (s.heap.size + 1) from congrArg Value.ref w10]
  refine k_putF (ty := tyX4 6) hx hb hts hin hown hK1 hnm 4 O10 6 rfl ⟨rfl, rfl⟩ (tyX4_ok 6 (by decide)) rfl rfl (wk_in kf_X4_20) dX4_init_22 (fun H14 O14 s14 q14 => ?_)
  have f4 := f4.kept (q14 _ (by omega))
  have n13 := n13.kept (q14 _ (by omega))
  have hle : ∀ (q : Nat), q < s.heap.size → q ≠ a → H14[q]? = s.heap[q]? := fun q h1 h2 => by rw [q14 q h2, hle q h1 h2]
  have w14 : H14.size = s.heap.size + 2 := by omega
  have Lo14 := r_app Lo10 (r_one (P := fun q => q.base = a ∨ s.heap.size ≤ q.base) (x := ⟨a, G.2.1 4 6⟩) (Or.inl rfl))
  refine lv_aload_n hx hb dX4_init_25 rfl (lv_at hl 0 rfl) ?_
  refine lv_sipush (v := 4000) hx hb dX4_init_26 (by decide) ?_
  refine r_newi (N := 4000) hx hb hTb (hts _ (wk_in ka_int)) (by decide) (by decide) (show ((0 + 1) + 1) + 1 ≤ 6 by decide) (show ((0 + 3) + 40) + 4000 ≤ 4103 by decide) dX4_init_29 (fun H17 s17 n17 q17 => ?_)
  have O14 := O14.kept (q17 _ (by omega))
  have f4 := f4.kept (q17 _ (by omega))
  have n13 := n13.kept (q17 _ (by omega))
  have hle : ∀ (q : Nat), q < s.heap.size → q ≠ a → H17[q]? = s.heap[q]? := fun q h1 h2 => by rw [q17 q (by omega), hle q h1 h2]
  have n17 : rAi G (s.heap.size + 2) 4000 H17 := by rw [← w14]; exact n17
  have w17 : H17.size = s.heap.size + 3 := by omega
  rw [show (Value.ref H14.size) = Value.ref (s.heap.size + 2) from congrArg Value.ref w14]
  refine k_putF (ty := tyX4 9) hx hb hts hin hown hK1 hnm 4 O14 9 rfl ⟨rfl, rfl⟩ (tyX4_ok 9 (by decide)) rfl rfl (wk_in kf_X4_24) dX4_init_31 (fun H18 O18 s18 q18 => ?_)
  have f4 := f4.kept (q18 _ (by omega))
  have n13 := n13.kept (q18 _ (by omega))
  have n17 := n17.kept (q18 _ (by omega))
  have hle : ∀ (q : Nat), q < s.heap.size → q ≠ a → H18[q]? = s.heap[q]? := fun q h1 h2 => by rw [q18 q h2, hle q h1 h2]
  have w18 : H18.size = s.heap.size + 3 := by omega
  have Lo18 := r_app Lo14 (r_one (P := fun q => q.base = a ∨ s.heap.size ≤ q.base) (x := ⟨a, G.2.1 4 9⟩) (Or.inl rfl))
  refine lv_aload_n hx hb dX4_init_34 rfl (lv_at hl 0 rfl) ?_
  refine lv_bipush (v := 20) hx hb dX4_init_35 (by decide) ?_
  refine r_newi (N := 20) hx hb hTb (hts _ (wk_in ka_int)) (by decide) (by decide) (show (((0 + 1) + 1) + 1) + 1 ≤ 6 by decide) (show (((0 + 3) + 40) + 4000) + 20 ≤ 4103 by decide) dX4_init_37 (fun H21 s21 n21 q21 => ?_)
  have O18 := O18.kept (q21 _ (by omega))
  have f4 := f4.kept (q21 _ (by omega))
  have n13 := n13.kept (q21 _ (by omega))
  have n17 := n17.kept (q21 _ (by omega))
  have hle : ∀ (q : Nat), q < s.heap.size → q ≠ a → H21[q]? = s.heap[q]? := fun q h1 h2 => by rw [q21 q (by omega), hle q h1 h2]
  have n21 : rAi G (s.heap.size + 3) 20 H21 := by rw [← w18]; exact n21
  have w21 : H21.size = s.heap.size + 4 := by omega
  rw [show (Value.ref H18.size) = Value.ref (s.heap.size + 3) from congrArg Value.ref w18]
  refine k_putF (ty := tyX4 10) hx hb hts hin hown hK1 hnm 4 O18 10 rfl ⟨rfl, rfl⟩ (tyX4_ok 10 (by decide)) rfl rfl (wk_in kf_X4_28) dX4_init_39 (fun H22 O22 s22 q22 => ?_)
  have f4 := f4.kept (q22 _ (by omega))
  have n13 := n13.kept (q22 _ (by omega))
  have n17 := n17.kept (q22 _ (by omega))
  have n21 := n21.kept (q22 _ (by omega))
  have hle : ∀ (q : Nat), q < s.heap.size → q ≠ a → H22[q]? = s.heap[q]? := fun q h1 h2 => by rw [q22 q h2, hle q h1 h2]
  have w22 : H22.size = s.heap.size + 4 := by omega
  have Lo22 := r_app Lo18 (r_one (P := fun q => q.base = a ∨ s.heap.size ≤ q.base) (x := ⟨a, G.2.1 4 10⟩) (Or.inl rfl))
  refine lv_aload_n hx hb dX4_init_42 rfl (lv_at hl 0 rfl) ?_
  refine lv_bipush (v := 20) hx hb dX4_init_43 (by decide) ?_
  refine r_newi (N := 20) hx hb hTb (hts _ (wk_in ka_int)) (by decide) (by decide) (show ((((0 + 1) + 1) + 1) + 1) + 1 ≤ 6 by decide) (show ((((0 + 3) + 40) + 4000) + 20) + 20 ≤ 4103 by decide) dX4_init_45 (fun H25 s25 n25 q25 => ?_)
  have O22 := O22.kept (q25 _ (by omega))
  have f4 := f4.kept (q25 _ (by omega))
  have n13 := n13.kept (q25 _ (by omega))
  have n17 := n17.kept (q25 _ (by omega))
  have n21 := n21.kept (q25 _ (by omega))
  have hle : ∀ (q : Nat), q < s.heap.size → q ≠ a → H25[q]? = s.heap[q]? := fun q h1 h2 => by rw [q25 q (by omega), hle q h1 h2]
  have n25 : rAi G (s.heap.size + 4) 20 H25 := by rw [← w22]; exact n25
  have w25 : H25.size = s.heap.size + 5 := by omega
  rw [show (Value.ref H22.size) = Value.ref (s.heap.size + 4) from congrArg Value.ref w22]
  refine k_putF (ty := tyX4 11) hx hb hts hin hown hK1 hnm 4 O22 11 rfl ⟨rfl, rfl⟩ (tyX4_ok 11 (by decide)) rfl rfl (wk_in kf_X4_31) dX4_init_47 (fun H26 O26 s26 q26 => ?_)
  have f4 := f4.kept (q26 _ (by omega))
  have n13 := n13.kept (q26 _ (by omega))
  have n17 := n17.kept (q26 _ (by omega))
  have n21 := n21.kept (q26 _ (by omega))
  have n25 := n25.kept (q26 _ (by omega))
  have hle : ∀ (q : Nat), q < s.heap.size → q ≠ a → H26[q]? = s.heap[q]? := fun q h1 h2 => by rw [q26 q h2, hle q h1 h2]
  have w26 : H26.size = s.heap.size + 5 := by omega
  have Lo26 := r_app Lo22 (r_one (P := fun q => q.base = a ∨ s.heap.size ≤ q.base) (x := ⟨a, G.2.1 4 11⟩) (Or.inl rfl))
  refine lv_aload_n hx hb dX4_init_50 rfl (lv_at hl 0 rfl) ?_
  refine lv_bipush (v := 20) hx hb dX4_init_51 (by decide) ?_
  refine r_newi (N := 20) hx hb hTb (hts _ (wk_in ka_int)) (by decide) (by decide) (show (((((0 + 1) + 1) + 1) + 1) + 1) + 1 ≤ 6 by decide) (show (((((0 + 3) + 40) + 4000) + 20) + 20) + 20 ≤ 4103 by decide) dX4_init_53 (fun H29 s29 n29 q29 => ?_)
  have O26 := O26.kept (q29 _ (by omega))
  have f4 := f4.kept (q29 _ (by omega))
  have n13 := n13.kept (q29 _ (by omega))
  have n17 := n17.kept (q29 _ (by omega))
  have n21 := n21.kept (q29 _ (by omega))
  have n25 := n25.kept (q29 _ (by omega))
  have hle : ∀ (q : Nat), q < s.heap.size → q ≠ a → H29[q]? = s.heap[q]? := fun q h1 h2 => by rw [q29 q (by omega), hle q h1 h2]
  have n29 : rAi G (s.heap.size + 5) 20 H29 := by rw [← w26]; exact n29
  have w29 : H29.size = s.heap.size + 6 := by omega
  rw [show (Value.ref H26.size) = Value.ref (s.heap.size + 5) from congrArg Value.ref w26]
  refine k_putF (ty := tyX4 12) hx hb hts hin hown hK1 hnm 4 O26 12 rfl ⟨rfl, rfl⟩ (tyX4_ok 12 (by decide)) rfl rfl (wk_in kf_X4_34) dX4_init_55 (fun H30 O30 s30 q30 => ?_)
  have f4 := f4.kept (q30 _ (by omega))
  have n13 := n13.kept (q30 _ (by omega))
  have n17 := n17.kept (q30 _ (by omega))
  have n21 := n21.kept (q30 _ (by omega))
  have n25 := n25.kept (q30 _ (by omega))
  have n29 := n29.kept (q30 _ (by omega))
  have hle : ∀ (q : Nat), q < s.heap.size → q ≠ a → H30[q]? = s.heap[q]? := fun q h1 h2 => by rw [q30 q h2, hle q h1 h2]
  have w30 : H30.size = s.heap.size + 6 := by omega
  have Lo30 := r_app Lo26 (r_one (P := fun q => q.base = a ∨ s.heap.size ≤ q.base) (x := ⟨a, G.2.1 4 12⟩) (Or.inl rfl))
  have hP : (rEn G e0 ln li a s.heap.size) H30 := ⟨O30.to (fun k hk => by
    have hk2 : k < 13 := hk
    rcases (by omega : k = 0 ∨ k = 1 ∨ k = 2 ∨ k = 3 ∨ k = 4 ∨ k = 5 ∨ k = 6 ∨ k = 7 ∨ k = 8 ∨ k = 9 ∨ k = 10 ∨ k = 11 ∨ k = 12) with e | e | e | e | e | e | e | e | e | e | e | e | e <;> subst e <;> rfl), f4, n13, n17, n21, n25, n29⟩
  exact W.vret hx hb hr (fun t ht _ => ⟨rfl, by rw [ht]; exact hP, (congrArg Array.size ht).trans w30, fun q h1 h2 => (congrArg (fun h : Heap => h[q]?) ht).trans (hle q h1 h2)⟩) Lo30 dX4_init_58

def rm_kswInit : Room := { frames := 5, cells := 1, slots := 3, locals := 94 }
set_option maxHeartbeats 4000000 in
set_option maxRecDepth 100000 in
theorem c_kswInit (l : Launch) {G : cG} (e0 a sz : Nat) (ln : Int32) (li : Nat) (al : Nat) : Met l yX10_init (wk (Cond.code yX10_init cX10_init 4 none)) rm_kswInit (va_Pc [.ref a, .int ln, .ref li, .ref al] (rPreS G e0 a 10 sz tyX10)) (rPost a sz 1 (rSw G e0 ln li al a sz)) 1 3 (fun q => q = a ∨ sz ≤ q) := by
  refine Met.ofW (cc := cX10_init) (maxL := 4) (ret := none) (by decide) rfl ?_
  intro p e s m args below meth c s₁ B hml hv
  obtain ⟨rfl, ⟨O, hK1, hsz, hTb, hne⟩, hZ⟩ := hv
  subst hsz
  have hr := B.returns
  have hlocks := B.notSynchronized
  have hx := B.exec
  have hb := B.bytes
  have hts := atoms_spec (ws := wk (Cond.code yX10_init cX10_init 4 none)) B.pre
  have hin : ∀ w ∈ wsUC, w ∈ wk (Cond.code yX10_init cX10_init 4 none) := fun w h => wk_in h
  have hown : s.vm.findClass RX10 = some m.cls := findClass_of_methodNamed B.named
  have hnm : meth.name = "<init>" := (name_of_methodNamed B.named B.method).1
  have hl := lv_entry ([.ref a, .int ln, .ref li, .ref al]) (n := 4) (Nat.le_of_ble_eq_true rfl)
  rw [lg_entry_eq]
  generalize (lg_sl ([.ref a, .int ln, .ref li, .ref al]) ++ List.replicate (4 - (lg_sl ([.ref a, .int ln, .ref li, .ref al])).length) Slot.unset).toArray = ls at hl ⊢
  have hl : lv_has ls 4 [(0, .ref a), (1, .int ln), (2, .ref li), (3, .ref al)] := hl
  have hla := O.lt
  have z0 : s.heap.size = s.heap.size + 0 := rfl
  have hle : ∀ (q : Nat), q < s.heap.size → q ≠ a → s.heap[q]? = s.heap[q]? := fun _ _ _ => rfl
  have hLo : ∀ q ∈ ([] : List Loc), q.base = a ∨ s.heap.size ≤ q.base := fun q h => (by cases h)
  refine lv_aload_n hx hb dX10_init_0 rfl (lv_at hl 0 rfl) ?_
  refine lv_iload_n hx hb dX10_init_1 rfl (lv_at hl 1 rfl) ?_
  refine lv_aload_n hx hb dX10_init_2 rfl (lv_at hl 2 rfl) ?_
  refine k_raw (va_runI (b := a) (As := [.int ln, .ref li]) (rest := []) ⟨hx, hb, hml, hown, hts⟩ (c_ksdInit10 l (G := G) e0 a s.heap.size ln li) ⟨callB_of 2 hts (wk_good kd_X8_init) rfl rfl rfl (hts _ (wk_in kn_X8)) (hts _ (wk_in kl_X10_3)) (by decide +kernel) ⟨Nat.le_of_ble_eq_true rfl, Nat.le_of_ble_eq_true rfl⟩, rfl, hts _ (wk_in ki_X8_init)⟩ ⟨rPreS.blind, fun U hU hW => ⟨rfl, ⟨by rw [hU]; exact O, hK1.moved hW.alike, by rw [hU], hTb.moved hW.alike, hne.warm hW⟩, by rw [hU]; exact hZ.next rfl hW.alike (fun _ _ _ => rfl) (Or.inr rfl) (Nat.le_refl _)⟩⟩ rfl rfl hl.1 rfl (lv_room (Nat.le_of_ble_eq_true rfl)) dX10_init_3 ⟨show 0 + 1 ≤ 1 by decide, show 0 + 3 ≤ 3 by decide⟩) (fun w4v st4 t4 L4 h4 hq4 hL4 => ?_)
  obtain ⟨ew4, n4, s4, q4⟩ := hq4
  cases ew4
  rw [h4] at q4
  obtain ⟨O4, f4⟩ := n4
  have hle : ∀ (q : Nat), q < s.heap.size → q ≠ a → t4.heap[q]? = s.heap[q]? := fun q h1 h2 => q4 q h1 h2
  have w4 : t4.heap.size = s.heap.size + 1 := s4
  have Lo4 := r_app hLo (fun q h => hL4 q h)
  refine W.eq (g2 := F0 m 6 ls []) rfl ?_
  refine lv_aload_n hx hb dX10_init_6 rfl (lv_at hl 0 rfl) ?_
  refine lv_aload_n hx hb dX10_init_7 rfl (lv_at hl 3 rfl) ?_
  refine k_putF (ty := tyX10 4) hx hb hts hin hown hK1 hnm 10 O4 4 rfl ⟨rfl, rfl⟩ (tyX10_ok 4 (by decide)) rfl rfl (wk_in kf_X10_9) dX10_init_8 (fun H7 O7 s7 q7 => ?_)
  have f4 := f4.kept (q7 _ (by omega))
  have hle : ∀ (q : Nat), q < s.heap.size → q ≠ a → H7[q]? = s.heap[q]? := fun q h1 h2 => by rw [q7 q h2, hle q h1 h2]
  have w7 : H7.size = s.heap.size + 1 := by omega
  have Lo7 := r_app Lo4 (r_one (P := fun q => q.base = a ∨ s.heap.size ≤ q.base) (x := ⟨a, G.2.1 10 4⟩) (Or.inl rfl))
  have hP : (rSw G e0 ln li al a s.heap.size) H7 := ⟨O7.to (fun k hk => by
    have hk2 : k < 5 := hk
    rcases (by omega : k = 0 ∨ k = 1 ∨ k = 2 ∨ k = 3 ∨ k = 4) with e | e | e | e | e <;> subst e <;> rfl), f4⟩
  exact W.vret hx hb hr (fun t ht _ => ⟨rfl, by rw [ht]; exact hP, (congrArg Array.size ht).trans w7, fun q h1 h2 => (congrArg (fun h : Heap => h[q]?) ht).trans (hle q h1 h2)⟩) Lo7 dX10_init_11
