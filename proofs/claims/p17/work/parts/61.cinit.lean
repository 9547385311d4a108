def rm_kquInit : Room := { frames := 1, cells := 2, slots := 1960, locals := 12 }
set_option maxHeartbeats 4000000 in
set_option maxRecDepth 100000 in
theorem c_kquInit (l : Launch) {G : cG} (a sz : Nat) : Met l yX2_init (wk (Cond.code yX2_init cX2_init 1 none)) rm_kquInit (va_Pc [.ref a] (rPre G a 2 sz tyX2)) (rPost a sz 2 (rQu G a sz)) 2 1960 (fun q => q = a ∨ sz ≤ q) := by
  refine Met.ofW (cc := cX2_init) (maxL := 1) (ret := none) (by decide) rfl ?_
  intro p e s m args below meth c s₁ B hml hv
  obtain ⟨rfl, O, hK1, hsz, hTb, hne⟩ := hv
  subst hsz
  have hr := B.returns
  have hlocks := B.notSynchronized
  have hx := B.exec
  have hb := B.bytes
  have hts := atoms_spec (ws := wk (Cond.code yX2_init cX2_init 1 none)) B.pre
  have hin : ∀ w ∈ wsUC, w ∈ wk (Cond.code yX2_init cX2_init 1 none) := fun w h => wk_in h
  have hown : s.vm.findClass RX2 = some m.cls := findClass_of_methodNamed B.named
  have hnm : meth.name = "<init>" := (name_of_methodNamed B.named B.method).1
  have hl := lv_entry ([.ref a]) (n := 1) (Nat.le_of_ble_eq_true rfl)
  rw [lg_entry_eq]
  generalize (lg_sl ([.ref a]) ++ List.replicate (1 - (lg_sl ([.ref a])).length) Slot.unset).toArray = ls at hl ⊢
  have hl : lv_has ls 1 [(0, .ref a)] := hl
  have hla := O.lt
  have z0 : s.heap.size = s.heap.size + 0 := rfl
  have hle : ∀ (q : Nat), q < s.heap.size → q ≠ a → s.heap[q]? = s.heap[q]? := fun _ _ _ => rfl
  have hLo : ∀ q ∈ ([] : List Loc), q.base = a ∨ s.heap.size ≤ q.base := fun q h => (by cases h)
  refine lv_aload_n hx hb dX2_init_0 rfl (lv_at hl 0 rfl) ?_
  refine W.objInit hx hb hown (hts _ (wk_in kl_X2_3)) (hts _ (wk_in kz_0_2)) (hts _ (wk_in kz_0_3)) rfl (by rw [hml]; exact hl.1) rfl dX2_init_1 (Nat.le_of_ble_eq_true rfl) (Nat.le_of_ble_eq_true rfl) ?_
  refine lv_aload_n hx hb dX2_init_4 rfl (lv_at hl 0 rfl) ?_
  refine lv_sipush (v := 1920) hx hb dX2_init_5 (by decide) ?_
  refine r_newi (N := 1920) hx hb hTb (hts _ (wk_in ka_int)) (by decide) (by decide) (show 0 + 1 ≤ 2 by decide) (show 0 + 1920 ≤ 1960 by decide) dX2_init_8 (fun H5 s5 n5 q5 => ?_)
  have O := O.kept (q5 _ (by omega))
  have hle : ∀ (q : Nat), q < s.heap.size → q ≠ a → H5[q]? = s.heap[q]? := fun q h1 h2 => by rw [q5 q (by omega), hle q h1 h2]
  have n5 : rAi G (s.heap.size + 0) 1920 H5 := by rw [← z0]; exact n5
  have w5 : H5.size = s.heap.size + 1 := by omega
  refine k_putF (ty := tyX2 0) hx hb hts hin hown hK1 hnm 2 O 0 rfl ⟨rfl, rfl⟩ (tyX2_ok 0 (by decide)) rfl rfl (wk_in kf_X2_9) dX2_init_10 (fun H6 O6 s6 q6 => ?_)
  have n5 := n5.kept (q6 _ (by omega))
  have hle : ∀ (q : Nat), q < s.heap.size → q ≠ a → H6[q]? = s.heap[q]? := fun q h1 h2 => by rw [q6 q h2, hle q h1 h2]
  have w6 : H6.size = s.heap.size + 1 := by omega
  have Lo6 := r_app hLo (r_one (P := fun q => q.base = a ∨ s.heap.size ≤ q.base) (x := ⟨a, G.2.1 2 0⟩) (Or.inl rfl))
  refine lv_aload_n hx hb dX2_init_13 rfl (lv_at hl 0 rfl) ?_
  refine lv_bipush (v := 40) hx hb dX2_init_14 (by decide) ?_
  refine r_newi (N := 40) hx hb hTb (hts _ (wk_in ka_int)) (by decide) (by decide) (show (0 + 1) + 1 ≤ 2 by decide) (show (0 + 1920) + 40 ≤ 1960 by decide) dX2_init_16 (fun H9 s9 n9 q9 => ?_)
  have O6 := O6.kept (q9 _ (by omega))
  have n5 := n5.kept (q9 _ (by omega))
  have hle : ∀ (q : Nat), q < s.heap.size → q ≠ a → H9[q]? = s.heap[q]? := fun q h1 h2 => by rw [q9 q (by omega), hle q h1 h2]
  have n9 : rAi G (s.heap.size + 1) 40 H9 := by rw [← w6]; exact n9
  have w9 : H9.size = s.heap.size + 2 := by omega
  rw [show (Value.ref H6.size) = Value.ref (s.heap.size + 1) from congrArg Value.ref w6]
  refine k_putF (ty := tyX2 1) hx hb hts hin hown hK1 hnm 2 O6 1 rfl ⟨rfl, rfl⟩ (tyX2_ok 1 (by decide)) rfl rfl (wk_in kf_X2_15) dX2_init_18 (fun H10 O10 s10 q10 => ?_)
  have n5 := n5.kept (q10 _ (by omega))
  have n9 := n9.kept (q10 _ (by omega))
  have hle : ∀ (q : Nat), q < s.heap.size → q ≠ a → H10[q]? = s.heap[q]? := fun q h1 h2 => by rw [q10 q h2, hle q h1 h2]
  have w10 : H10.size = s.heap.size + 2 := by omega
  have Lo10 := r_app Lo6 (r_one (P := fun q => q.base = a ∨ s.heap.size ≤ q.base) (x := ⟨a, G.2.1 2 1⟩) (Or.inl rfl))
  have hP : (rQu G a s.heap.size) H10 := ⟨O10.to (fun k hk => by
    have hk2 : k < 4 := hk
    rcases (by omega : k = 0 ∨ k = 1 ∨ k = 2 ∨ k = 3) with e | e | e | e <;> subst e <;> rfl), n5, n9⟩
  exact W.vret hx hb hr (fun t ht _ => ⟨rfl, by rw [ht]; exact hP, (congrArg Array.size ht).trans w10, fun q h1 h2 => (congrArg (fun h : Heap => h[q]?) ht).trans (hle q h1 h2)⟩) Lo10 dX2_init_21

def rm_krcInit : Room := { frames := 1, cells := 1, slots := 48, locals := 12 }
set_option maxHeartbeats 4000000 in
set_option maxRecDepth 100000 in
theorem c_krcInit (l : Launch) {G : cG} (a sz : Nat) : Met l yX7_init (wk (Cond.code yX7_init cX7_init 1 none)) rm_krcInit (va_Pc [.ref a] (rPre G a 7 sz tyX7)) (rPost a sz 1 (rRc G a sz)) 1 48 (fun q => q = a ∨ sz ≤ q) := by
  refine Met.ofW (cc := cX7_init) (maxL := 1) (ret := none) (by decide) rfl ?_
  intro p e s m args below meth c s₁ B hml hv
  obtain ⟨rfl, O, hK1, hsz, hTb, hne⟩ := hv
  subst hsz
  have hr := B.returns
  have hlocks := B.notSynchronized
  have hx := B.exec
  have hb := B.bytes
  have hts := atoms_spec (ws := wk (Cond.code yX7_init cX7_init 1 none)) B.pre
  have hin : ∀ w ∈ wsUC, w ∈ wk (Cond.code yX7_init cX7_init 1 none) := fun w h => wk_in h
  have hown : s.vm.findClass RX7 = some m.cls := findClass_of_methodNamed B.named
  have hnm : meth.name = "<init>" := (name_of_methodNamed B.named B.method).1
  have hl := lv_entry ([.ref a]) (n := 1) (Nat.le_of_ble_eq_true rfl)
  rw [lg_entry_eq]
  generalize (lg_sl ([.ref a]) ++ List.replicate (1 - (lg_sl ([.ref a])).length) Slot.unset).toArray = ls at hl ⊢
  have hl : lv_has ls 1 [(0, .ref a)] := hl
  have hla := O.lt
  have z0 : s.heap.size = s.heap.size + 0 := rfl
  have hle : ∀ (q : Nat), q < s.heap.size → q ≠ a → s.heap[q]? = s.heap[q]? := fun _ _ _ => rfl
  have hLo : ∀ q ∈ ([] : List Loc), q.base = a ∨ s.heap.size ≤ q.base := fun q h => (by cases h)
  refine lv_aload_n hx hb dX7_init_0 rfl (lv_at hl 0 rfl) ?_
  refine W.objInit hx hb hown (hts _ (wk_in kl_X7_3)) (hts _ (wk_in kz_0_2)) (hts _ (wk_in kz_0_3)) rfl (by rw [hml]; exact hl.1) rfl dX7_init_1 (Nat.le_of_ble_eq_true rfl) (Nat.le_of_ble_eq_true rfl) ?_
  refine lv_aload_n hx hb dX7_init_4 rfl (lv_at hl 0 rfl) ?_
  refine lv_bipush (v := 48) hx hb dX7_init_5 (by decide) ?_
  refine r_newi (N := 48) hx hb hTb (hts _ (wk_in ka_int)) (by decide) (by decide) (show 0 + 1 ≤ 1 by decide) (show 0 + 48 ≤ 48 by decide) dX7_init_7 (fun H5 s5 n5 q5 => ?_)
  have O := O.kept (q5 _ (by omega))
  have hle : ∀ (q : Nat), q < s.heap.size → q ≠ a → H5[q]? = s.heap[q]? := fun q h1 h2 => by rw [q5 q (by omega), hle q h1 h2]
  have n5 : rAi G (s.heap.size + 0) 48 H5 := by rw [← z0]; exact n5
  have w5 : H5.size = s.heap.size + 1 := by omega
  refine k_putF (ty := tyX7 0) hx hb hts hin hown hK1 hnm 7 O 0 rfl ⟨rfl, rfl⟩ (tyX7_ok 0 (by decide)) rfl rfl (wk_in kf_X7_9) dX7_init_9 (fun H6 O6 s6 q6 => ?_)
  have n5 := n5.kept (q6 _ (by omega))
  have hle : ∀ (q : Nat), q < s.heap.size → q ≠ a → H6[q]? = s.heap[q]? := fun q h1 h2 => by rw [q6 q h2, hle q h1 h2]
  have w6 : H6.size = s.heap.size + 1 := by omega
  have Lo6 := r_app hLo (r_one (P := fun q => q.base = a ∨ s.heap.size ≤ q.base) (x := ⟨a, G.2.1 7 0⟩) (Or.inl rfl))
  refine lv_aload_n hx hb dX7_init_12 rfl (lv_at hl 0 rfl) ?_
  refine lv_iconst (v := 0) hx hb dX7_init_13 (by decide) ?_
  refine k_put (ty := tyX7 1) hx hb hts hin hown hK1 7 O6 1 rfl rfl (tyX7_ok 1 (by decide)) rfl rfl (wk_in kf_X7_15) dX7_init_14 (fun H9 O9 s9 q9 => ?_)
  have n5 := n5.kept (q9 _ (by omega))
  have hle : ∀ (q : Nat), q < s.heap.size → q ≠ a → H9[q]? = s.heap[q]? := fun q h1 h2 => by rw [q9 q h2, hle q h1 h2]
  have w9 : H9.size = s.heap.size + 1 := by omega
  have Lo9 := r_app Lo6 (r_one (P := fun q => q.base = a ∨ s.heap.size ≤ q.base) (x := ⟨a, G.2.1 7 1⟩) (Or.inl rfl))
  have hP : (rRc G a s.heap.size) H9 := ⟨O9.to (fun k hk => by
    have hk2 : k < 12 := hk
    rcases (by omega : k = 0 ∨ k = 1 ∨ k = 2 ∨ k = 3 ∨ k = 4 ∨ k = 5 ∨ k = 6 ∨ k = 7 ∨ k = 8 ∨ k = 9 ∨ k = 10 ∨ k = 11) with e | e | e | e | e | e | e | e | e | e | e | e <;> subst e <;> rfl), n5⟩
  exact W.vret hx hb hr (fun t ht _ => ⟨rfl, by rw [ht]; exact hP, (congrArg Array.size ht).trans w9, fun q h1 h2 => (congrArg (fun h : Heap => h[q]?) ht).trans (hle q h1 h2)⟩) Lo9 dX7_init_17

def rm_kasInit : Room := { frames := 1, cells := 1, slots := 240, locals := 12 }
set_option maxHeartbeats 4000000 in
set_option maxRecDepth 100000 in
theorem c_kasInit (l : Launch) {G : cG} (a sz : Nat) : Met l yX0_init (wk (Cond.code yX0_init cX0_init 1 none)) rm_kasInit (va_Pc [.ref a] (rPre G a 0 sz tyX0)) (rPost a sz 1 (rAs G a sz)) 1 240 (fun q => q = a ∨ sz ≤ q) := by
  refine Met.ofW (cc := cX0_init) (maxL := 1) (ret := none) (by decide) rfl ?_
  intro p e s m args below meth c s₁ B hml hv
  obtain ⟨rfl, O, hK1, hsz, hTb, hne⟩ := hv
  subst hsz
  have hr := B.returns
  have hlocks := B.notSynchronized
  have hx := B.exec
  have hb := B.bytes
  have hts := atoms_spec (ws := wk (Cond.code yX0_init cX0_init 1 none)) B.pre
  have hin : ∀ w ∈ wsUC, w ∈ wk (Cond.code yX0_init cX0_init 1 none) := fun w h => wk_in h
  have hown : s.vm.findClass RX0 = some m.cls := findClass_of_methodNamed B.named
  have hnm : meth.name = "<init>" := (name_of_methodNamed B.named B.method).1
  have hl := lv_entry ([.ref a]) (n := 1) (Nat.le_of_ble_eq_true rfl)
  rw [lg_entry_eq]
  generalize (lg_sl ([.ref a]) ++ List.replicate (1 - (lg_sl ([.ref a])).length) Slot.unset).toArray = ls at hl ⊢
  have hl : lv_has ls 1 [(0, .ref a)] := hl
  have hla := O.lt
  have z0 : s.heap.size = s.heap.size + 0 := rfl
  have hle : ∀ (q : Nat), q < s.heap.size → q ≠ a → s.heap[q]? = s.heap[q]? := fun _ _ _ => rfl
  have hLo : ∀ q ∈ ([] : List Loc), q.base = a ∨ s.heap.size ≤ q.base := fun q h => (by cases h)
  refine lv_aload_n hx hb dX0_init_0 rfl (lv_at hl 0 rfl) ?_
  refine W.objInit hx hb hown (hts _ (wk_in kl_X0_3)) (hts _ (wk_in kz_0_2)) (hts _ (wk_in kz_0_3)) rfl (by rw [hml]; exact hl.1) rfl dX0_init_1 (Nat.le_of_ble_eq_true rfl) (Nat.le_of_ble_eq_true rfl) ?_
  refine lv_aload_n hx hb dX0_init_4 rfl (lv_at hl 0 rfl) ?_
  refine lv_sipush (v := 240) hx hb dX0_init_5 (by decide) ?_
  refine r_newi (N := 240) hx hb hTb (hts _ (wk_in ka_int)) (by decide) (by decide) (show 0 + 1 ≤ 1 by decide) (show 0 + 240 ≤ 240 by decide) dX0_init_8 (fun H5 s5 n5 q5 => ?_)
  have O := O.kept (q5 _ (by omega))
  have hle : ∀ (q : Nat), q < s.heap.size → q ≠ a → H5[q]? = s.heap[q]? := fun q h1 h2 => by rw [q5 q (by omega), hle q h1 h2]
  have n5 : rAi G (s.heap.size + 0) 240 H5 := by rw [← z0]; exact n5
  have w5 : H5.size = s.heap.size + 1 := by omega
  refine k_putF (ty := tyX0 0) hx hb hts hin hown hK1 hnm 0 O 0 rfl ⟨rfl, rfl⟩ (tyX0_ok 0 (by decide)) rfl rfl (wk_in kf_X0_9) dX0_init_10 (fun H6 O6 s6 q6 => ?_)
  have n5 := n5.kept (q6 _ (by omega))
  have hle : ∀ (q : Nat), q < s.heap.size → q ≠ a → H6[q]? = s.heap[q]? := fun q h1 h2 => by rw [q6 q h2, hle q h1 h2]
  have w6 : H6.size = s.heap.size + 1 := by omega
  have Lo6 := r_app hLo (r_one (P := fun q => q.base = a ∨ s.heap.size ≤ q.base) (x := ⟨a, G.2.1 0 0⟩) (Or.inl rfl))
  have hP : (rAs G a s.heap.size) H6 := ⟨O6.to (fun k hk => by
    have hk2 : k < 3 := hk
    rcases (by omega : k = 0 ∨ k = 1 ∨ k = 2) with e | e | e <;> subst e <;> rfl), n5⟩
  exact W.vret hx hb hr (fun t ht _ => ⟨rfl, by rw [ht]; exact hP, (congrArg Array.size ht).trans w6, fun q h1 h2 => (congrArg (fun h : Heap => h[q]?) ht).trans (hle q h1 h2)⟩) Lo6 dX0_init_13

def rm_kmsInit10 : Room := { frames := 1, cells := 4, slots := 630, locals := 40 }
set_option maxHeartbeats 4000000 in
set_option maxRecDepth 100000 in
theorem c_kmsInit10 (l : Launch) {G : cG} (a sz : Nat) : Met l yX6_init (wk (Cond.code yX6_init cX6_init 3 none)) rm_kmsInit10 (va_Pc [.ref a, .int 10] (rPre G a 6 sz tyX6)) (rPost a sz 4 (rMs G 10 a sz)) 4 630 (fun q => q = a ∨ sz ≤ q) := by
  refine Met.ofW (cc := cX6_init) (maxL := 3) (ret := none) (by decide) rfl ?_
  intro p e s m args below meth c s₁ B hml hv
  obtain ⟨rfl, O, hK1, hsz, hTb, hne⟩ := hv
  subst hsz
  have hr := B.returns
  have hlocks := B.notSynchronized
  have hx := B.exec
  have hb := B.bytes
  have hts := atoms_spec (ws := wk (Cond.code yX6_init cX6_init 3 none)) B.pre
  have hin : ∀ w ∈ wsUC, w ∈ wk (Cond.code yX6_init cX6_init 3 none) := fun w h => wk_in h
  have hown : s.vm.findClass RX6 = some m.cls := findClass_of_methodNamed B.named
  have hnm : meth.name = "<init>" := (name_of_methodNamed B.named B.method).1
  have hl := lv_entry ([.ref a, .int 10]) (n := 3) (Nat.le_of_ble_eq_true rfl)
  rw [lg_entry_eq]
  generalize (lg_sl ([.ref a, .int 10]) ++ List.replicate (3 - (lg_sl ([.ref a, .int 10])).length) Slot.unset).toArray = ls at hl ⊢
  have hl : lv_has ls 3 [(0, .ref a), (1, .int 10)] := hl
  have hla := O.lt
  have z0 : s.heap.size = s.heap.size + 0 := rfl
  have hle : ∀ (q : Nat), q < s.heap.size → q ≠ a → s.heap[q]? = s.heap[q]? := fun _ _ _ => rfl
  have hLo : ∀ q ∈ ([] : List Loc), q.base = a ∨ s.heap.size ≤ q.base := fun q h => (by cases h)
  refine lv_aload_n hx hb dX6_init_0 rfl (lv_at hl 0 rfl) ?_
  refine W.objInit hx hb hown (hts _ (wk_in kl_X6_3)) (hts _ (wk_in kz_0_2)) (hts _ (wk_in kz_0_3)) rfl (by rw [hml]; exact hl.1) rfl dX6_init_1 (Nat.le_of_ble_eq_true rfl) (Nat.le_of_ble_eq_true rfl) ?_
  refine lv_iconst (v := 1) hx hb dX6_init_4 (by decide) ?_
  refine lv_iload_n hx hb dX6_init_5 rfl (lv_at hl 1 rfl) ?_
  refine va_mmax (rest := []) hx hb (hml.trans hl.1.symm) hown (hts _ (wk_in kl_X6_9)) (hts _ (wk_in kw_max.1)) (hts _ (wk_in kw_max.2.1)) (hts _ (wk_in kw_max.2.2)) (Nat.le_of_ble_eq_true rfl) (Nat.le_of_ble_eq_true rfl) (Nat.zero_le _) (Nat.zero_le _) dX6_init_6 ?_
  rw [show (if (1 : Int32) < 10 then (10 : Int32) else 1) = 10 from by decide]
  refine lv_istore_n (lv' := [(2, .int 10), (0, .ref a), (1, .int 10)]) hx hb dX6_init_9 rfl hl (by decide) rfl (fun ls hl => ?_)
  refine lv_aload_n hx hb dX6_init_10 rfl (lv_at hl 1 rfl) ?_
  refine lv_iload_n hx hb dX6_init_11 rfl (lv_at hl 0 rfl) ?_
  refine k_putF (ty := tyX6 0) hx hb hts hin hown hK1 hnm 6 O 0 rfl ⟨rfl, rfl⟩ (tyX6_ok 0 (by decide)) rfl rfl (wk_in kf_X6_15) dX6_init_12 (fun H9 O9 s9 q9 => ?_)
  have hle : ∀ (q : Nat), q < s.heap.size → q ≠ a → H9[q]? = s.heap[q]? := fun q h1 h2 => by rw [q9 q h2, hle q h1 h2]
  have w9 : H9.size = s.heap.size + 0 := by omega
  have Lo9 := r_app hLo (r_one (P := fun q => q.base = a ∨ s.heap.size ≤ q.base) (x := ⟨a, G.2.1 6 0⟩) (Or.inl rfl))
  refine lv_aload_n hx hb dX6_init_15 rfl (lv_at hl 1 rfl) ?_
  refine lv_iload_n hx hb dX6_init_16 rfl (lv_at hl 0 rfl) ?_
  refine lv_bipush (v := 60) hx hb dX6_init_17 (by decide) ?_
  refine lv_imul hx hb dX6_init_19 ?_
  rw [show (10 : Int32) * 60 = 600 from by decide]
  refine r_newi (N := 600) hx hb hTb (hts _ (wk_in ka_int)) (by decide) (by decide) (show 0 + 1 ≤ 4 by decide) (show 0 + 600 ≤ 630 by decide) dX6_init_20 (fun H14 s14 n14 q14 => ?_)
  have O9 := O9.kept (q14 _ (by omega))
  have hle : ∀ (q : Nat), q < s.heap.size → q ≠ a → H14[q]? = s.heap[q]? := fun q h1 h2 => by rw [q14 q (by omega), hle q h1 h2]
  have n14 : rAi G (s.heap.size + 0) 600 H14 := by rw [← w9]; exact n14
  have w14 : H14.size = s.heap.size + 1 := by omega
  rw [show (Value.ref H9.size) = Value.ref (s.heap.size + 0) from congrArg Value.ref w9]
  refine k_putF (ty := tyX6 1) hx hb hts hin hown hK1 hnm 6 O9 1 rfl ⟨rfl, rfl⟩ (tyX6_ok 1 (by decide)) rfl rfl (wk_in kf_X6_21) dX6_init_22 (fun H15 O15 s15 q15 => ?_)
  have n14 := n14.kept (q15 _ (by omega))
  have hle : ∀ (q : Nat), q < s.heap.size → q ≠ a → H15[q]? = s.heap[q]? := fun q h1 h2 => by rw [q15 q h2, hle q h1 h2]
  have w15 : H15.size = s.heap.size + 1 := by omega
  have Lo15 := r_app Lo9 (r_one (P := fun q => q.base = a ∨ s.heap.size ≤ q.base) (x := ⟨a, G.2.1 6 1⟩) (Or.inl rfl))
  refine lv_aload_n hx hb dX6_init_25 rfl (lv_at hl 1 rfl) ?_
  refine lv_iload_n hx hb dX6_init_26 rfl (lv_at hl 0 rfl) ?_
  refine r_newi (N := 10) hx hb hTb (hts _ (wk_in ka_int)) (by decide) (by decide) (show (0 + 1) + 1 ≤ 4 by decide) (show (0 + 600) + 10 ≤ 630 by decide) dX6_init_27 (fun H18 s18 n18 q18 => ?_)
  have O15 := O15.kept (q18 _ (by omega))
  have n14 := n14.kept (q18 _ (by omega))
  have hle : ∀ (q : Nat), q < s.heap.size → q ≠ a → H18[q]? = s.heap[q]? := fun q h1 h2 => by rw [q18 q (by omega), hle q h1 h2]
  have n18 : rAi G (s.heap.size + 1) 10 H18 := by rw [← w15]; exact n18
  have w18 : H18.size = s.heap.size + 2 := by omega
  rw [show (Value.ref H15.size) = Value.ref (s.heap.size + 1) from congrArg Value.ref w15]
  refine k_putF (ty := tyX6 2) hx hb hts hin hown hK1 hnm 6 O15 2 rfl ⟨rfl, rfl⟩ (tyX6_ok 2 (by decide)) rfl rfl (wk_in kf_X6_25) dX6_init_29 (fun H19 O19 s19 q19 => ?_)
  have n14 := n14.kept (q19 _ (by omega))
  have n18 := n18.kept (q19 _ (by omega))
  have hle : ∀ (q : Nat), q < s.heap.size → q ≠ a → H19[q]? = s.heap[q]? := fun q h1 h2 => by rw [q19 q h2, hle q h1 h2]
  have w19 : H19.size = s.heap.size + 2 := by omega
  have Lo19 := r_app Lo15 (r_one (P := fun q => q.base = a ∨ s.heap.size ≤ q.base) (x := ⟨a, G.2.1 6 2⟩) (Or.inl rfl))
  refine lv_aload_n hx hb dX6_init_32 rfl (lv_at hl 1 rfl) ?_
  refine lv_iload_n hx hb dX6_init_33 rfl (lv_at hl 0 rfl) ?_
  refine r_newi (N := 10) hx hb hTb (hts _ (wk_in ka_int)) (by decide) (by decide) (show ((0 + 1) + 1) + 1 ≤ 4 by decide) (show ((0 + 600) + 10) + 10 ≤ 630 by decide) dX6_init_34 (fun H22 s22 n22 q22 => ?_)
  have O19 := O19.kept (q22 _ (by omega))
  have n14 := n14.kept (q22 _ (by omega))
  have n18 := n18.kept (q22 _ (by omega))
  have hle : ∀ (q : Nat), q < s.heap.size → q ≠ a → H22[q]? = s.heap[q]? := fun q h1 h2 => by rw [q22 q (by omega), hle q h1 h2]
  have n22 : rAi G (s.heap.size + 2) 10 H22 := by rw [← w19]; exact n22
  have w22 : H22.size = s.heap.size + 3 := by omega
  rw [show (Value.ref H19.size) = Value.ref (s.heap.size + 2) from congrArg Value.ref w19]
  refine k_putF (ty := tyX6 3) hx hb hts hin hown hK1 hnm 6 O19 3 rfl ⟨rfl, rfl⟩ (tyX6_ok 3 (by decide)) rfl rfl (wk_in kf_X6_28) dX6_init_36 (fun H23 O23 s23 q23 => ?_)
  have n14 := n14.kept (q23 _ (by omega))
  have n18 := n18.kept (q23 _ (by omega))
  have n22 := n22.kept (q23 _ (by omega))
  have hle : ∀ (q : Nat), q < s.heap.size → q ≠ a → H23[q]? = s.heap[q]? := fun q h1 h2 => by rw [q23 q h2, hle q h1 h2]
  have w23 : H23.size = s.heap.size + 3 := by omega
  have Lo23 := r_app Lo19 (r_one (P := fun q => q.base = a ∨ s.heap.size ≤ q.base) (x := ⟨a, G.2.1 6 3⟩) (Or.inl rfl))
  refine lv_aload_n hx hb dX6_init_39 rfl (lv_at hl 1 rfl) ?_
  refine lv_iload_n hx hb dX6_init_40 rfl (lv_at hl 0 rfl) ?_
  refine r_newz (N := 10) hx hb hTb (hts _ (wk_in ka_boolean)) (by decide) (by decide) (show (((0 + 1) + 1) + 1) + 1 ≤ 4 by decide) (show (((0 + 600) + 10) + 10) + 10 ≤ 630 by decide) dX6_init_41 (fun H26 s26 n26 q26 => ?_)
  have O23 := O23.kept (q26 _ (by omega))
  have n14 := n14.kept (q26 _ (by omega))
  have n18 := n18.kept (q26 _ (by omega))
  have n22 := n22.kept (q26 _ (by omega))
  have hle : ∀ (q : Nat), q < s.heap.size → q ≠ a → H26[q]? = s.heap[q]? := fun q h1 h2 => by rw [q26 q (by omega), hle q h1 h2]
  have n26 : rAz G (s.heap.size + 3) 10 H26 := by rw [← w23]; exact n26
  have w26 : H26.size = s.heap.size + 4 := by omega
  rw [show (Value.ref H23.size) = Value.ref (s.heap.size + 3) from congrArg Value.ref w23]
  refine k_putF (ty := tyX6 4) hx hb hts hin hown hK1 hnm 6 O23 4 rfl ⟨rfl, rfl⟩ (tyX6_ok 4 (by decide)) rfl rfl (wk_in kf_X6_31) dX6_init_43 (fun H27 O27 s27 q27 => ?_)
  have n14 := n14.kept (q27 _ (by omega))
  have n18 := n18.kept (q27 _ (by omega))
  have n22 := n22.kept (q27 _ (by omega))
  have n26 := n26.kept (q27 _ (by omega))
  have hle : ∀ (q : Nat), q < s.heap.size → q ≠ a → H27[q]? = s.heap[q]? := fun q h1 h2 => by rw [q27 q h2, hle q h1 h2]
  have w27 : H27.size = s.heap.size + 4 := by omega
  have Lo27 := r_app Lo23 (r_one (P := fun q => q.base = a ∨ s.heap.size ≤ q.base) (x := ⟨a, G.2.1 6 4⟩) (Or.inl rfl))
  have hP : (rMs G 10 a s.heap.size) H27 := ⟨O27.to (fun k hk => by
    have hk2 : k < 7 := hk
    rcases (by omega : k = 0 ∨ k = 1 ∨ k = 2 ∨ k = 3 ∨ k = 4 ∨ k = 5 ∨ k = 6) with e | e | e | e | e | e | e <;> subst e <;> rfl), n14, n18, n22, n26⟩
  exact W.vret hx hb hr (fun t ht _ => ⟨rfl, by rw [ht]; exact hP, (congrArg Array.size ht).trans w27, fun q h1 h2 => (congrArg (fun h : Heap => h[q]?) ht).trans (hle q h1 h2)⟩) Lo27 dX6_init_46

def rm_kmsInit8 : Room := { frames := 1, cells := 4, slots := 504, locals := 40 }
set_option maxHeartbeats 4000000 in
set_option maxRecDepth 100000 in
theorem c_kmsInit8 (l : Launch) {G : cG} (a sz : Nat) : Met l yX6_init (wk (Cond.code yX6_init cX6_init 3 none)) rm_kmsInit8 (va_Pc [.ref a, .int 8] (rPre G a 6 sz tyX6)) (rPost a sz 4 (rMs G 8 a sz)) 4 504 (fun q => q = a ∨ sz ≤ q) := by
  refine Met.ofW (cc := cX6_init) (maxL := 3) (ret := none) (by decide) rfl ?_
  intro p e s m args below meth c s₁ B hml hv
  obtain ⟨rfl, O, hK1, hsz, hTb, hne⟩ := hv
  subst hsz
  have hr := B.returns
  have hlocks := B.notSynchronized
  have hx := B.exec
  have hb := B.bytes
  have hts := atoms_spec (ws := wk (Cond.code yX6_init cX6_init 3 none)) B.pre
  have hin : ∀ w ∈ wsUC, w ∈ wk (Cond.code yX6_init cX6_init 3 none) := fun w h => wk_in h
  have hown : s.vm.findClass RX6 = some m.cls := findClass_of_methodNamed B.named
  have hnm : meth.name = "<init>" := (name_of_methodNamed B.named B.method).1
  have hl := lv_entry ([.ref a, .int 8]) (n := 3) (Nat.le_of_ble_eq_true rfl)
  rw [lg_entry_eq]
  generalize (lg_sl ([.ref a, .int 8]) ++ List.replicate (3 - (lg_sl ([.ref a, .int 8])).length) Slot.unset).toArray = ls at hl ⊢
  have hl : lv_has ls 3 [(0, .ref a), (1, .int 8)] := hl
  have hla := O.lt
  have z0 : s.heap.size = s.heap.size + 0 := rfl
  have hle : ∀ (q : Nat), q < s.heap.size → q ≠ a → s.heap[q]? = s.heap[q]? := fun _ _ _ => rfl
  have hLo : ∀ q ∈ ([] : List Loc), q.base = a ∨ s.heap.size ≤ q.base := fun q h => (by cases h)
  refine lv_aload_n hx hb dX6_init_0 rfl (lv_at hl 0 rfl) ?_
  refine W.objInit hx hb hown (hts _ (wk_in kl_X6_3)) (hts _ (wk_in kz_0_2)) (hts _ (wk_in kz_0_3)) rfl (by rw [hml]; exact hl.1) rfl dX6_init_1 (Nat.le_of_ble_eq_true rfl) (Nat.le_of_ble_eq_true rfl) ?_
  refine lv_iconst (v := 1) hx hb dX6_init_4 (by decide) ?_
  refine lv_iload_n hx hb dX6_init_5 rfl (lv_at hl 1 rfl) ?_
  refine va_mmax (rest := []) hx hb (hml.trans hl.1.symm) hown (hts _ (wk_in kl_X6_9)) (hts _ (wk_in kw_max.1)) (hts _ (wk_in kw_max.2.1)) (hts _ (wk_in kw_max.2.2)) (Nat.le_of_ble_eq_true rfl) (Nat.le_of_ble_eq_true rfl) (Nat.zero_le _) (Nat.zero_le _) dX6_init_6 ?_
  rw [show (if (1 : Int32) < 8 then (8 : Int32) else 1) = 8 from by decide]
  refine lv_istore_n (lv' := [(2, .int 8), (0, .ref a), (1, .int 8)]) hx hb dX6_init_9 rfl hl (by decide) rfl (fun ls hl => ?_)
  refine lv_aload_n hx hb dX6_init_10 rfl (lv_at hl 1 rfl) ?_
  refine lv_iload_n hx hb dX6_init_11 rfl (lv_at hl 0 rfl) ?_
  refine k_putF (ty := tyX6 0) hx hb hts hin hown hK1 hnm 6 O 0 rfl ⟨rfl, rfl⟩ (tyX6_ok 0 (by decide)) rfl rfl (wk_in kf_X6_15) dX6_init_12 (fun H9 O9 s9 q9 => ?_)
  have hle : ∀ (q : Nat), q < s.heap.size → q ≠ a → H9[q]? = s.heap[q]? := fun q h1 h2 => by rw [q9 q h2, hle q h1 h2]
  have w9 : H9.size = s.heap.size + 0 := by omega
  have Lo9 := r_app hLo (r_one (P := fun q => q.base = a ∨ s.heap.size ≤ q.base) (x := ⟨a, G.2.1 6 0⟩) (Or.inl rfl))
  refine lv_aload_n hx hb dX6_init_15 rfl (lv_at hl 1 rfl) ?_
  refine lv_iload_n hx hb dX6_init_16 rfl (lv_at hl 0 rfl) ?_
  refine lv_bipush (v := 60) hx hb dX6_init_17 (by decide) ?_
  refine lv_imul hx hb dX6_init_19 ?_
  rw [show (8 : Int32) * 60 = 480 from by decide]
  refine r_newi (N := 480) hx hb hTb (hts _ (wk_in ka_int)) (by decide) (by decide) (show 0 + 1 ≤ 4 by decide) (show 0 + 480 ≤ 504 by decide) dX6_init_20 (fun H14 s14 n14 q14 => ?_)
  have O9 := O9.kept (q14 _ (by omega))
  have hle : ∀ (q : Nat), q < s.heap.size → q ≠ a → H14[q]? = s.heap[q]? := fun q h1 h2 => by rw [q14 q (by omega), hle q h1 h2]
  have n14 : rAi G (s.heap.size + 0) 480 H14 := by rw [← w9]; exact n14
  have w14 : H14.size = s.heap.size + 1 := by omega
  rw [show (Value.ref H9.size) = Value.ref (s.heap.size + 0) from congrArg Value.ref w9]
  refine k_putF (ty := tyX6 1) hx hb hts hin hown hK1 hnm 6 O9 1 rfl ⟨rfl, rfl⟩ (tyX6_ok 1 (by decide)) rfl rfl (wk_in kf_X6_21) dX6_init_22 (fun H15 O15 s15 q15 => ?_)
  have n14 := n14.kept (q15 _ (by omega))
  have hle : ∀ (q : Nat), q < s.heap.size → q ≠ a → H15[q]? = s.heap[q]? := fun q h1 h2 => by rw [q15 q h2, hle q h1 h2]
  have w15 : H15.size = s.heap.size + 1 := by omega
  have Lo15 := r_app Lo9 (r_one (P := fun q => q.base = a ∨ s.heap.size ≤ q.base) (x := ⟨a, G.2.1 6 1⟩) (Or.inl rfl))
  refine lv_aload_n hx hb dX6_init_25 rfl (lv_at hl 1 rfl) ?_
  refine lv_iload_n hx hb dX6_init_26 rfl (lv_at hl 0 rfl) ?_
  refine r_newi (N := 8) hx hb hTb (hts _ (wk_in ka_int)) (by decide) (by decide) (show (0 + 1) + 1 ≤ 4 by decide) (show (0 + 480) + 8 ≤ 504 by decide) dX6_init_27 (fun H18 s18 n18 q18 => ?_)
  have O15 := O15.kept (q18 _ (by omega))
  have n14 := n14.kept (q18 _ (by omega))
  have hle : ∀ (q : Nat), q < s.heap.size → q ≠ a → H18[q]? = s.heap[q]? := fun q h1 h2 => by rw [q18 q (by omega), hle q h1 h2]
  have n18 : rAi G (s.heap.size + 1) 8 H18 := by rw [← w15]; exact n18
  have w18 : H18.size = s.heap.size + 2 := by omega
  rw [show (Value.ref H15.size) = Value.ref (s.heap.size + 1) from congrArg Value.ref w15]
  refine k_putF (ty := tyX6 2) hx hb hts hin hown hK1 hnm 6 O15 2 rfl ⟨rfl, rfl⟩ (tyX6_ok 2 (by decide)) rfl rfl (wk_in kf_X6_25) dX6_init_29 (fun H19 O19 s19 q19 => ?_)
  have n14 := n14.kept (q19 _ (by omega))
  have n18 := n18.kept (q19 _ (by omega))
  have hle : ∀ (q : Nat), q < s.heap.size → q ≠ a → H19[q]? = s.heap[q]? := fun q h1 h2 => by rw [q19 q h2, hle q h1 h2]
  have w19 : H19.size = s.heap.size + 2 := by omega
  have Lo19 := r_app Lo15 (r_one (P := fun q => q.base = a ∨ s.heap.size ≤ q.base) (x := ⟨a, G.2.1 6 2⟩) (Or.inl rfl))
  refine lv_aload_n hx hb dX6_init_32 rfl (lv_at hl 1 rfl) ?_
  refine lv_iload_n hx hb dX6_init_33 rfl (lv_at hl 0 rfl) ?_
  refine r_newi (N := 8) hx hb hTb (hts _ (wk_in ka_int)) (by decide) (by decide) (show ((0 + 1) + 1) + 1 ≤ 4 by decide) (show ((0 + 480) + 8) + 8 ≤ 504 by decide) dX6_init_34 (fun H22 s22 n22 q22 => ?_)
  have O19 := O19.kept (q22 _ (by omega))
  have n14 := n14.kept (q22 _ (by omega))
  have n18 := n18.kept (q22 _ (by omega))
  have hle : ∀ (q : Nat), q < s.heap.size → q ≠ a → H22[q]? = s.heap[q]? := fun q h1 h2 => by rw [q22 q (by omega), hle q h1 h2]
  have n22 : rAi G (s.heap.size + 2) 8 H22 := by rw [← w19]; exact n22
  have w22 : H22.size = s.heap.size + 3 := by omega
  rw [show (Value.ref H19.size) = Value.ref (s.heap.size + 2) from congrArg Value.ref w19]
  refine k_putF (ty := tyX6 3) hx hb hts hin hown hK1 hnm 6 O19 3 rfl ⟨rfl, rfl⟩ (tyX6_ok 3 (by decide)) rfl rfl (wk_in kf_X6_28) dX6_init_36 (fun H23 O23 s23 q23 => ?_)
  have n14 := n14.kept (q23 _ (by omega))
  have n18 := n18.kept (q23 _ (by omega))
  have n22 := n22.kept (q23 _ (by omega))
  have hle : ∀ (q : Nat), q < s.heap.size → q ≠ a → H23[q]? = s.heap[q]? := fun q h1 h2 => by rw [q23 q h2, hle q h1 h2]
  have w23 : H23.size = s.heap.size + 3 := by omega
  have Lo23 := r_app Lo19 (r_one (P := fun q => q.base = a ∨ s.heap.size ≤ q.base) (x := ⟨a, G.2.1 6 3⟩) (Or.inl rfl))
  refine lv_aload_n hx hb dX6_init_39 rfl (lv_at hl 1 rfl) ?_
  refine lv_iload_n hx hb dX6_init_40 rfl (lv_at hl 0 rfl) ?_
  refine r_newz (N := 8) hx hb hTb (hts _ (wk_in ka_boolean)) (by decide) (by decide) (show (((0 + 1) + 1) + 1) + 1 ≤ 4 by decide) (show (((0 + 480) + 8) + 8) + 8 ≤ 504 by decide) dX6_init_41 (fun H26 s26 n26 q26 => ?_)
  have O23 := O23.kept (q26 _ (by omega))
  have n14 := n14.kept (q26 _ (by omega))
  have n18 := n18.kept (q26 _ (by omega))
  have n22 := n22.kept (q26 _ (by omega))
  have hle : ∀ (q : Nat), q < s.heap.size → q ≠ a → H26[q]? = s.heap[q]? := fun q h1 h2 => by rw [q26 q (by omega), hle q h1 h2]
  have n26 : rAz G (s.heap.size + 3) 8 H26 := by rw [← w23]; exact n26
  have w26 : H26.size = s.heap.size + 4 := by omega
  rw [show (Value.ref H23.size) = Value.ref (s.heap.size + 3) from congrArg Value.ref w23]
  refine k_putF (ty := tyX6 4) hx hb hts hin hown hK1 hnm 6 O23 4 rfl ⟨rfl, rfl⟩ (tyX6_ok 4 (by decide)) rfl rfl (wk_in kf_X6_31) dX6_init_43 (fun H27 O27 s27 q27 => ?_)
  have n14 := n14.kept (q27 _ (by omega))
  have n18 := n18.kept (q27 _ (by omega))
  have n22 := n22.kept (q27 _ (by omega))
  have n26 := n26.kept (q27 _ (by omega))
  have hle : ∀ (q : Nat), q < s.heap.size → q ≠ a → H27[q]? = s.heap[q]? := fun q h1 h2 => by rw [q27 q h2, hle q h1 h2]
  have w27 : H27.size = s.heap.size + 4 := by omega
  have Lo27 := r_app Lo23 (r_one (P := fun q => q.base = a ∨ s.heap.size ≤ q.base) (x := ⟨a, G.2.1 6 4⟩) (Or.inl rfl))
  have hP : (rMs G 8 a s.heap.size) H27 := ⟨O27.to (fun k hk => by
    have hk2 : k < 7 := hk
    rcases (by omega : k = 0 ∨ k = 1 ∨ k = 2 ∨ k = 3 ∨ k = 4 ∨ k = 5 ∨ k = 6) with e | e | e | e | e | e | e <;> subst e <;> rfl), n14, n18, n22, n26⟩
  exact W.vret hx hb hr (fun t ht _ => ⟨rfl, by rw [ht]; exact hP, (congrArg Array.size ht).trans w27, fun q h1 h2 => (congrArg (fun h : Heap => h[q]?) ht).trans (hle q h1 h2)⟩) Lo27 dX6_init_46

def rm_ksgInit : Room := { frames := 1, cells := 0, slots := 0, locals := 12 }
set_option maxHeartbeats 4000000 in
set_option maxRecDepth 100000 in
theorem c_ksgInit (l : Launch) {G : cG} (a sz : Nat) : Met l yX9_init (wk (Cond.code yX9_init cX9_init 1 none)) rm_ksgInit (va_Pc [.ref a] (rPre G a 9 sz tyX9)) (rPost a sz 0 (rSg G a)) 0 0 (fun q => q = a ∨ sz ≤ q) := by
  refine Met.ofW (cc := cX9_init) (maxL := 1) (ret := none) (by decide) rfl ?_
  intro p e s m args below meth c s₁ B hml hv
  obtain ⟨rfl, O, hK1, hsz, hTb, hne⟩ := hv
  subst hsz
  have hr := B.returns
  have hlocks := B.notSynchronized
  have hx := B.exec
  have hb := B.bytes
  have hts := atoms_spec (ws := wk (Cond.code yX9_init cX9_init 1 none)) B.pre
  have hin : ∀ w ∈ wsUC, w ∈ wk (Cond.code yX9_init cX9_init 1 none) := fun w h => wk_in h
  have hown : s.vm.findClass RX9 = some m.cls := findClass_of_methodNamed B.named
  have hnm : meth.name = "<init>" := (name_of_methodNamed B.named B.method).1
  have hl := lv_entry ([.ref a]) (n := 1) (Nat.le_of_ble_eq_true rfl)
  rw [lg_entry_eq]
  generalize (lg_sl ([.ref a]) ++ List.replicate (1 - (lg_sl ([.ref a])).length) Slot.unset).toArray = ls at hl ⊢
  have hl : lv_has ls 1 [(0, .ref a)] := hl
  have hla := O.lt
  have z0 : s.heap.size = s.heap.size + 0 := rfl
  have hle : ∀ (q : Nat), q < s.heap.size → q ≠ a → s.heap[q]? = s.heap[q]? := fun _ _ _ => rfl
  have hLo : ∀ q ∈ ([] : List Loc), q.base = a ∨ s.heap.size ≤ q.base := fun q h => (by cases h)
  refine lv_aload_n hx hb dX9_init_0 rfl (lv_at hl 0 rfl) ?_
  refine W.objInit hx hb hown (hts _ (wk_in kl_X9_1)) (hts _ (wk_in kz_0_2)) (hts _ (wk_in kz_0_3)) rfl (by rw [hml]; exact hl.1) rfl dX9_init_1 (Nat.le_of_ble_eq_true rfl) (Nat.le_of_ble_eq_true rfl) ?_
  have hP : (rSg G a) s.heap := O.to (fun k hk => by
    have hk2 : k < 9 := hk
    rcases (by omega : k = 0 ∨ k = 1 ∨ k = 2 ∨ k = 3 ∨ k = 4 ∨ k = 5 ∨ k = 6 ∨ k = 7 ∨ k = 8) with e | e | e | e | e | e | e | e | e <;> subst e <;> rfl)
  exact W.vret hx hb hr (fun t ht _ => ⟨rfl, by rw [ht]; exact hP, (congrArg Array.size ht).trans z0, fun q h1 h2 => (congrArg (fun h : Heap => h[q]?) ht).trans (hle q h1 h2)⟩) hLo dX9_init_4

def rm_kdiInit : Room := { frames := 2, cells := 16, slots := 4715, locals := 32 }
set_option maxHeartbeats 4000000 in
set_option maxRecDepth 100000 in
theorem c_kdiInit (l : Launch) {G : cG} (a sz : Nat) : Met l yX3_init (wk (Cond.code yX3_init cX3_init 1 none)) rm_kdiInit (va_Pc [.ref a] (rPre G a 3 sz tyX3)) (rPost a sz 16 (rDi G a sz)) 16 4715 (fun q => q = a ∨ sz ≤ q) := by
  refine Met.ofW (cc := cX3_init) (maxL := 1) (ret := none) (by decide) rfl ?_
  intro p e s m args below meth c s₁ B hml hv
  obtain ⟨rfl, O, hK1, hsz, hTb, hne⟩ := hv
  subst hsz
  have hr := B.returns
  have hlocks := B.notSynchronized
  have hx := B.exec
  have hb := B.bytes
  have hts := atoms_spec (ws := wk (Cond.code yX3_init cX3_init 1 none)) B.pre
  have hin : ∀ w ∈ wsUC, w ∈ wk (Cond.code yX3_init cX3_init 1 none) := fun w h => wk_in h
  have hown : s.vm.findClass RX3 = some m.cls := findClass_of_methodNamed B.named
  have hnm : meth.name = "<init>" := (name_of_methodNamed B.named B.method).1
  have hl := lv_entry ([.ref a]) (n := 1) (Nat.le_of_ble_eq_true rfl)
  rw [lg_entry_eq]
  generalize (lg_sl ([.ref a]) ++ List.replicate (1 - (lg_sl ([.ref a])).length) Slot.unset).toArray = ls at hl ⊢
  have hl : lv_has ls 1 [(0, .ref a)] := hl
  have hla := O.lt
  have z0 : s.heap.size = s.heap.size + 0 := rfl
  have hle : ∀ (q : Nat), q < s.heap.size → q ≠ a → s.heap[q]? = s.heap[q]? := fun _ _ _ => rfl
  have hLo : ∀ q ∈ ([] : List Loc), q.base = a ∨ s.heap.size ≤ q.base := fun q h => (by cases h)
  refine lv_aload_n hx hb dX3_init_0 rfl (lv_at hl 0 rfl) ?_
  refine W.objInit hx hb hown (hts _ (wk_in kl_X3_3)) (hts _ (wk_in kz_0_2)) (hts _ (wk_in kz_0_3)) rfl (by rw [hml]; exact hl.1) rfl dX3_init_1 (Nat.le_of_ble_eq_true rfl) (Nat.le_of_ble_eq_true rfl) ?_
  refine lv_aload_n hx hb dX3_init_4 rfl (lv_at hl 0 rfl) ?_
  refine k_new hx hb hts hin hown hK1 2 rfl tyX2 tyX2_ok (wk_in kc_lX3_9) (wk_in kx_X2) (wk_in kn_X2) (show 0 + 1 ≤ 16 by decide) (show 0 + 4 ≤ 4715 by decide) dX3_init_5 (fun H4 O4 s4 q4 => ?_)
  have O := O.kept (q4 _ (by omega))
  have hle : ∀ (q : Nat), q < s.heap.size → q ≠ a → H4[q]? = s.heap[q]? := fun q h1 h2 => by rw [q4 q (by omega), hle q h1 h2]
  have w4 : H4.size = s.heap.size + 1 := by omega
  have O4 : rOb G (s.heap.size + 0) 2 (fun k => defaultValue (tyX2 k)) H4 := by rw [← z0]; exact O4
  rw [show s.heap.size = s.heap.size + 0 from z0]
  refine lv_dup hx hb dX3_init_8 rfl ?_
  refine k_raw (va_runIN (b := s.heap.size + 0) (As := []) (rest := [.ref (s.heap.size + 0), .ref a]) ⟨hx, hb, hml, hown, hts⟩ (c_kquInit l (G := G) (s.heap.size + 0) H4.size) ⟨va_cnB 0 hts (wk_good kd_X2_init) rfl rfl rfl (hne.1 _ (List.mem_of_getElem? (i := 7) rfl)) (hts _ (wk_in kn_X2)) (by decide +kernel) ⟨Nat.le_of_ble_eq_true rfl, Nat.le_of_ble_eq_true rfl⟩, rfl, hts _ (wk_in ki_X2_init)⟩ ⟨rPre.blind, fun U hU hW => ⟨rfl, by rw [hU]; exact O4, hK1.moved hW.alike, by rw [hU], hTb.moved hW.alike, hne.warm hW⟩⟩ rfl rfl hl.1 rfl (lv_room (Nat.le_of_ble_eq_true rfl)) dX3_init_9 ⟨show (0 + 1) + 2 ≤ 16 by decide, show (0 + 4) + 1960 ≤ 4715 by decide⟩) (fun w6v st6 t6 L6 h6 hq6 hL6 => ?_)
  obtain ⟨ew6, n6, s6, q6⟩ := hq6
  cases ew6
  rw [h6] at q6
  have O := O.kept (q6 _ (by omega) (by omega))
  have hle : ∀ (q : Nat), q < s.heap.size → q ≠ a → t6.heap[q]? = s.heap[q]? := fun q h1 h2 => by rw [q6 q (by omega) (by omega), hle q h1 h2]
  have w6 : t6.heap.size = s.heap.size + 3 := by omega
  rw [show H4.size = s.heap.size + 1 from w4] at n6
  have Lo6 := r_app hLo (fun q h => (hL6 q h).elim (fun z => Or.inr (by rw [z]; omega)) (fun z => Or.inr (Nat.le_trans (by omega) z)))
  refine W.eq (g2 := F0 m 12 ls [.ref (s.heap.size + 0), .ref a]) rfl ?_
  refine k_putF (ty := tyX3 0) hx hb hts hin hown hK1 hnm 3 O 0 rfl ⟨rfl, rfl⟩ (tyX3_ok 0 (by decide)) rfl rfl (wk_in kf_X3_12) dX3_init_12 (fun H7 O7 s7 q7 => ?_)
  have n6 := n6.kept (fun q hq => q7 q (by omega))
  have hle : ∀ (q : Nat), q < s.heap.size → q ≠ a → H7[q]? = s.heap[q]? := fun q h1 h2 => by rw [q7 q h2, hle q h1 h2]
  have w7 : H7.size = s.heap.size + 3 := by omega
  have Lo7 := r_app Lo6 (r_one (P := fun q => q.base = a ∨ s.heap.size ≤ q.base) (x := ⟨a, G.2.1 3 0⟩) (Or.inl rfl))
  refine lv_aload_n hx hb dX3_init_15 rfl (lv_at hl 0 rfl) ?_
  refine k_new hx hb hts hin hown hK1 2 rfl tyX2 tyX2_ok (wk_in kc_lX3_9) (wk_in kx_X2) (wk_in kn_X2) (show ((0 + 1) + 2) + 1 ≤ 16 by decide) (show ((0 + 4) + 1960) + 4 ≤ 4715 by decide) dX3_init_16 (fun H9 O9 s9 q9 => ?_)
  have O7 := O7.kept (q9 _ (by omega))
  have n6 := n6.kept (fun q hq => q9 q (by omega))
  have hle : ∀ (q : Nat), q < s.heap.size → q ≠ a → H9[q]? = s.heap[q]? := fun q h1 h2 => by rw [q9 q (by omega), hle q h1 h2]
  have w9 : H9.size = s.heap.size + 4 := by omega
  have O9 : rOb G (s.heap.size + 3) 2 (fun k => defaultValue (tyX2 k)) H9 := by rw [← w7]; exact O9
  rw [show H7.size = s.heap.size + 3 from w7]
  refine lv_dup hx hb dX3_init_19 rfl ?_
  refine k_raw (va_runIN (b := s.heap.size + 3) (As := []) (rest := [.ref (s.heap.size + 3), .ref a]) ⟨hx, hb, hml, hown, hts⟩ (c_kquInit l (G := G) (s.heap.size + 3) H9.size) ⟨va_cnB 0 hts (wk_good kd_X2_init) rfl rfl rfl (hne.1 _ (List.mem_of_getElem? (i := 7) rfl)) (hts _ (wk_in kn_X2)) (by decide +kernel) ⟨Nat.le_of_ble_eq_true rfl, Nat.le_of_ble_eq_true rfl⟩, rfl, hts _ (wk_in ki_X2_init)⟩ ⟨rPre.blind, fun U hU hW => ⟨rfl, by rw [hU]; exact O9, hK1.moved hW.alike, by rw [hU], hTb.moved hW.alike, hne.warm hW⟩⟩ rfl rfl hl.1 rfl (lv_room (Nat.le_of_ble_eq_true rfl)) dX3_init_20 ⟨show (((0 + 1) + 2) + 1) + 2 ≤ 16 by decide, show (((0 + 4) + 1960) + 4) + 1960 ≤ 4715 by decide⟩) (fun w11v st11 t11 L11 h11 hq11 hL11 => ?_)
  obtain ⟨ew11, n11, s11, q11⟩ := hq11
  cases ew11
  rw [h11] at q11
  have O7 := O7.kept (q11 _ (by omega) (by omega))
  have n6 := n6.kept (fun q hq => q11 q (by omega) (by omega))
  have hle : ∀ (q : Nat), q < s.heap.size → q ≠ a → t11.heap[q]? = s.heap[q]? := fun q h1 h2 => by rw [q11 q (by omega) (by omega), hle q h1 h2]
  have w11 : t11.heap.size = s.heap.size + 6 := by omega
  rw [show H9.size = s.heap.size + 4 from w9] at n11
  have Lo11 := r_app Lo7 (fun q h => (hL11 q h).elim (fun z => Or.inr (by rw [z]; omega)) (fun z => Or.inr (Nat.le_trans (by omega) z)))
  refine W.eq (g2 := F0 m 23 ls [.ref (s.heap.size + 3), .ref a]) rfl ?_
  refine k_putF (ty := tyX3 1) hx hb hts hin hown hK1 hnm 3 O7 1 rfl ⟨rfl, rfl⟩ (tyX3_ok 1 (by decide)) rfl rfl (wk_in kf_X3_18) dX3_init_23 (fun H12 O12 s12 q12 => ?_)
  have n6 := n6.kept (fun q hq => q12 q (by omega))
  have n11 := n11.kept (fun q hq => q12 q (by omega))
  have hle : ∀ (q : Nat), q < s.heap.size → q ≠ a → H12[q]? = s.heap[q]? := fun q h1 h2 => by rw [q12 q h2, hle q h1 h2]
  have w12 : H12.size = s.heap.size + 6 := by omega
  have Lo12 := r_app Lo11 (r_one (P := fun q => q.base = a ∨ s.heap.size ≤ q.base) (x := ⟨a, G.2.1 3 1⟩) (Or.inl rfl))
  refine lv_aload_n hx hb dX3_init_26 rfl (lv_at hl 0 rfl) ?_
  refine k_new hx hb hts hin hown hK1 7 rfl tyX7 tyX7_ok (wk_in kc_lX3_21) (wk_in kx_X7) (wk_in kn_X7) (show ((((0 + 1) + 2) + 1) + 2) + 1 ≤ 16 by decide) (show ((((0 + 4) + 1960) + 4) + 1960) + 12 ≤ 4715 by decide) dX3_init_27 (fun H14 O14 s14 q14 => ?_)
  have O12 := O12.kept (q14 _ (by omega))
  have n6 := n6.kept (fun q hq => q14 q (by omega))
  have n11 := n11.kept (fun q hq => q14 q (by omega))
  have hle : ∀ (q : Nat), q < s.heap.size → q ≠ a → H14[q]? = s.heap[q]? := fun q h1 h2 => by rw [q14 q (by omega), hle q h1 h2]
  have w14 : H14.size = s.heap.size + 7 := by omega
  have O14 : rOb G (s.heap.size + 6) 7 (fun k => defaultValue (tyX7 k)) H14 := by rw [← w12]; exact O14
  rw [show H12.size = s.heap.size + 6 from w12]
  refine lv_dup hx hb dX3_init_30 rfl ?_
  refine k_raw (va_runIN (b := s.heap.size + 6) (As := []) (rest := [.ref (s.heap.size + 6), .ref a]) ⟨hx, hb, hml, hown, hts⟩ (c_krcInit l (G := G) (s.heap.size + 6) H14.size) ⟨va_cnB 0 hts (wk_good kd_X7_init) rfl rfl rfl (hne.1 _ (List.mem_of_getElem? (i := 9) rfl)) (hts _ (wk_in kn_X7)) (by decide +kernel) ⟨Nat.le_of_ble_eq_true rfl, Nat.le_of_ble_eq_true rfl⟩, rfl, hts _ (wk_in ki_X7_init)⟩ ⟨rPre.blind, fun U hU hW => ⟨rfl, by rw [hU]; exact O14, hK1.moved hW.alike, by rw [hU], hTb.moved hW.alike, hne.warm hW⟩⟩ rfl rfl hl.1 rfl (lv_room (Nat.le_of_ble_eq_true rfl)) dX3_init_31 ⟨show (((((0 + 1) + 2) + 1) + 2) + 1) + 1 ≤ 16 by decide, show (((((0 + 4) + 1960) + 4) + 1960) + 12) + 48 ≤ 4715 by decide⟩) (fun w16v st16 t16 L16 h16 hq16 hL16 => ?_)
  obtain ⟨ew16, n16, s16, q16⟩ := hq16
  cases ew16
  rw [h16] at q16
  have O12 := O12.kept (q16 _ (by omega) (by omega))
  have n6 := n6.kept (fun q hq => q16 q (by omega) (by omega))
  have n11 := n11.kept (fun q hq => q16 q (by omega) (by omega))
  have hle : ∀ (q : Nat), q < s.heap.size → q ≠ a → t16.heap[q]? = s.heap[q]? := fun q h1 h2 => by rw [q16 q (by omega) (by omega), hle q h1 h2]
  have w16 : t16.heap.size = s.heap.size + 8 := by omega
  rw [show H14.size = s.heap.size + 7 from w14] at n16
  have Lo16 := r_app Lo12 (fun q h => (hL16 q h).elim (fun z => Or.inr (by rw [z]; omega)) (fun z => Or.inr (Nat.le_trans (by omega) z)))
  refine W.eq (g2 := F0 m 34 ls [.ref (s.heap.size + 6), .ref a]) rfl ?_
  refine k_putF (ty := tyX3 2) hx hb hts hin hown hK1 hnm 3 O12 2 rfl ⟨rfl, rfl⟩ (tyX3_ok 2 (by decide)) rfl rfl (wk_in kf_X3_24) dX3_init_34 (fun H17 O17 s17 q17 => ?_)
  have n6 := n6.kept (fun q hq => q17 q (by omega))
  have n11 := n11.kept (fun q hq => q17 q (by omega))
  have n16 := n16.kept (fun q hq => q17 q (by omega))
  have hle : ∀ (q : Nat), q < s.heap.size → q ≠ a → H17[q]? = s.heap[q]? := fun q h1 h2 => by rw [q17 q h2, hle q h1 h2]
  have w17 : H17.size = s.heap.size + 8 := by omega
  have Lo17 := r_app Lo16 (r_one (P := fun q => q.base = a ∨ s.heap.size ≤ q.base) (x := ⟨a, G.2.1 3 2⟩) (Or.inl rfl))
  refine lv_aload_n hx hb dX3_init_37 rfl (lv_at hl 0 rfl) ?_
  refine k_new hx hb hts hin hown hK1 0 rfl tyX0 tyX0_ok (wk_in kc_lX3_28) (wk_in kx_X0) (wk_in kn_X0) (show ((((((0 + 1) + 2) + 1) + 2) + 1) + 1) + 1 ≤ 16 by decide) (show ((((((0 + 4) + 1960) + 4) + 1960) + 12) + 48) + 3 ≤ 4715 by decide) dX3_init_38 (fun H19 O19 s19 q19 => ?_)
  have O17 := O17.kept (q19 _ (by omega))
  have n6 := n6.kept (fun q hq => q19 q (by omega))
  have n11 := n11.kept (fun q hq => q19 q (by omega))
  have n16 := n16.kept (fun q hq => q19 q (by omega))
  have hle : ∀ (q : Nat), q < s.heap.size → q ≠ a → H19[q]? = s.heap[q]? := fun q h1 h2 => by rw [q19 q (by omega), hle q h1 h2]
  have w19 : H19.size = s.heap.size + 9 := by omega
  have O19 : rOb G (s.heap.size + 8) 0 (fun k => defaultValue (tyX0 k)) H19 := by rw [← w17]; exact O19
  rw [show H17.size = s.heap.size + 8 from w17]
  refine lv_dup hx hb dX3_init_41 rfl ?_
  refine k_raw (va_runIN (b := s.heap.size + 8) (As := []) (rest := [.ref (s.heap.size + 8), .ref a]) ⟨hx, hb, hml, hown, hts⟩ (c_kasInit l (G := G) (s.heap.size + 8) H19.size) ⟨va_cnB 0 hts (wk_good kd_X0_init) rfl rfl rfl (hne.1 _ (List.mem_of_getElem? (i := 10) rfl)) (hts _ (wk_in kn_X0)) (by decide +kernel) ⟨Nat.le_of_ble_eq_true rfl, Nat.le_of_ble_eq_true rfl⟩, rfl, hts _ (wk_in ki_X0_init)⟩ ⟨rPre.blind, fun U hU hW => ⟨rfl, by rw [hU]; exact O19, hK1.moved hW.alike, by rw [hU], hTb.moved hW.alike, hne.warm hW⟩⟩ rfl rfl hl.1 rfl (lv_room (Nat.le_of_ble_eq_true rfl)) dX3_init_42 ⟨show (((((((0 + 1) + 2) + 1) + 2) + 1) + 1) + 1) + 1 ≤ 16 by decide, show (((((((0 + 4) + 1960) + 4) + 1960) + 12) + 48) + 3) + 240 ≤ 4715 by decide⟩) (fun w21v st21 t21 L21 h21 hq21 hL21 => ?_)
  obtain ⟨ew21, n21, s21, q21⟩ := hq21
  cases ew21
  rw [h21] at q21
  have O17 := O17.kept (q21 _ (by omega) (by omega))
  have n6 := n6.kept (fun q hq => q21 q (by omega) (by omega))
  have n11 := n11.kept (fun q hq => q21 q (by omega) (by omega))
  have n16 := n16.kept (fun q hq => q21 q (by omega) (by omega))
  have hle : ∀ (q : Nat), q < s.heap.size → q ≠ a → t21.heap[q]? = s.heap[q]? := fun q h1 h2 => by rw [q21 q (by omega) (by omega), hle q h1 h2]
  have w21 : t21.heap.size = s.heap.size + 10 := by omega
  rw [show H19.size = s.heap.size + 9 from w19] at n21
  have Lo21 := r_app Lo17 (fun q h => (hL21 q h).elim (fun z => Or.inr (by rw [z]; omega)) (fun z => Or.inr (Nat.le_trans (by omega) z)))
  refine W.eq (g2 := F0 m 45 ls [.ref (s.heap.size + 8), .ref a]) rfl ?_
  refine k_putF (ty := tyX3 3) hx hb hts hin hown hK1 hnm 3 O17 3 rfl ⟨rfl, rfl⟩ (tyX3_ok 3 (by decide)) rfl rfl (wk_in kf_X3_31) dX3_init_45 (fun H22 O22 s22 q22 => ?_)
  have n6 := n6.kept (fun q hq => q22 q (by omega))
  have n11 := n11.kept (fun q hq => q22 q (by omega))
  have n16 := n16.kept (fun q hq => q22 q (by omega))
  have n21 := n21.kept (fun q hq => q22 q (by omega))
  have hle : ∀ (q : Nat), q < s.heap.size → q ≠ a → H22[q]? = s.heap[q]? := fun q h1 h2 => by rw [q22 q h2, hle q h1 h2]
  have w22 : H22.size = s.heap.size + 10 := by omega
  have Lo22 := r_app Lo21 (r_one (P := fun q => q.base = a ∨ s.heap.size ≤ q.base) (x := ⟨a, G.2.1 3 3⟩) (Or.inl rfl))
  refine lv_aload_n hx hb dX3_init_48 rfl (lv_at hl 0 rfl) ?_
  refine lv_sipush (v := 212) hx hb dX3_init_49 (by decide) ?_
  refine r_newi (N := 212) hx hb hTb (hts _ (wk_in ka_int)) (by decide) (by decide) (show ((((((((0 + 1) + 2) + 1) + 2) + 1) + 1) + 1) + 1) + 1 ≤ 16 by decide) (show ((((((((0 + 4) + 1960) + 4) + 1960) + 12) + 48) + 3) + 240) + 212 ≤ 4715 by decide) dX3_init_52 (fun H25 s25 n25 q25 => ?_)
  have O22 := O22.kept (q25 _ (by omega))
  have n6 := n6.kept (fun q hq => q25 q (by omega))
  have n11 := n11.kept (fun q hq => q25 q (by omega))
  have n16 := n16.kept (fun q hq => q25 q (by omega))
  have n21 := n21.kept (fun q hq => q25 q (by omega))
  have hle : ∀ (q : Nat), q < s.heap.size → q ≠ a → H25[q]? = s.heap[q]? := fun q h1 h2 => by rw [q25 q (by omega), hle q h1 h2]
  have n25 : rAi G (s.heap.size + 10) 212 H25 := by rw [← w22]; exact n25
  have w25 : H25.size = s.heap.size + 11 := by omega
  rw [show (Value.ref H22.size) = Value.ref (s.heap.size + 10) from congrArg Value.ref w22]
  refine k_putF (ty := tyX3 4) hx hb hts hin hown hK1 hnm 3 O22 4 rfl ⟨rfl, rfl⟩ (tyX3_ok 4 (by decide)) rfl rfl (wk_in kf_X3_35) dX3_init_54 (fun H26 O26 s26 q26 => ?_)
  have n6 := n6.kept (fun q hq => q26 q (by omega))
  have n11 := n11.kept (fun q hq => q26 q (by omega))
  have n16 := n16.kept (fun q hq => q26 q (by omega))
  have n21 := n21.kept (fun q hq => q26 q (by omega))
  have n25 := n25.kept (q26 _ (by omega))
  have hle : ∀ (q : Nat), q < s.heap.size → q ≠ a → H26[q]? = s.heap[q]? := fun q h1 h2 => by rw [q26 q h2, hle q h1 h2]
  have w26 : H26.size = s.heap.size + 11 := by omega
  have Lo26 := r_app Lo22 (r_one (P := fun q => q.base = a ∨ s.heap.size ≤ q.base) (x := ⟨a, G.2.1 3 4⟩) (Or.inl rfl))
  refine lv_aload_n hx hb dX3_init_57 rfl (lv_at hl 0 rfl) ?_
  refine lv_bipush (v := 8) hx hb dX3_init_58 (by decide) ?_
  refine r_newi (N := 8) hx hb hTb (hts _ (wk_in ka_int)) (by decide) (by decide) (show (((((((((0 + 1) + 2) + 1) + 2) + 1) + 1) + 1) + 1) + 1) + 1 ≤ 16 by decide) (show (((((((((0 + 4) + 1960) + 4) + 1960) + 12) + 48) + 3) + 240) + 212) + 8 ≤ 4715 by decide) dX3_init_60 (fun H29 s29 n29 q29 => ?_)
  have O26 := O26.kept (q29 _ (by omega))
  have n6 := n6.kept (fun q hq => q29 q (by omega))
  have n11 := n11.kept (fun q hq => q29 q (by omega))
  have n16 := n16.kept (fun q hq => q29 q (by omega))
  have n21 := n21.kept (fun q hq => q29 q (by omega))
  have n25 := n25.kept (q29 _ (by omega))
  have hle : ∀ (q : Nat), q < s.heap.size → q ≠ a → H29[q]? = s.heap[q]? := fun q h1 h2 => by rw [q29 q (by omega), hle q h1 h2]
  have n29 : rAi G (s.heap.size + 11) 8 H29 := by rw [← w26]; exact n29
  have w29 : H29.size = s.heap.size + 12 := by omega
  rw [show (Value.ref H26.size) = Value.ref (s.heap.size + 11) from congrArg Value.ref w26]
  refine k_putF (ty := tyX3 6) hx hb hts hin hown hK1 hnm 3 O26 6 rfl ⟨rfl, rfl⟩ (tyX3_ok 6 (by decide)) rfl rfl (wk_in kf_X3_39) dX3_init_62 (fun H30 O30 s30 q30 => ?_)
  have n6 := n6.kept (fun q hq => q30 q (by omega))
  have n11 := n11.kept (fun q hq => q30 q (by omega))
  have n16 := n16.kept (fun q hq => q30 q (by omega))
  have n21 := n21.kept (fun q hq => q30 q (by omega))
  have n25 := n25.kept (q30 _ (by omega))
  have n29 := n29.kept (q30 _ (by omega))
  have hle : ∀ (q : Nat), q < s.heap.size → q ≠ a → H30[q]? = s.heap[q]? := fun q h1 h2 => by rw [q30 q h2, hle q h1 h2]
  have w30 : H30.size = s.heap.size + 12 := by omega
  have Lo30 := r_app Lo26 (r_one (P := fun q => q.base = a ∨ s.heap.size ≤ q.base) (x := ⟨a, G.2.1 3 6⟩) (Or.inl rfl))
  refine lv_aload_n hx hb dX3_init_65 rfl (lv_at hl 0 rfl) ?_
  refine lv_bipush (v := 8) hx hb dX3_init_66 (by decide) ?_
  refine r_newi (N := 8) hx hb hTb (hts _ (wk_in ka_int)) (by decide) (by decide) (show ((((((((((0 + 1) + 2) + 1) + 2) + 1) + 1) + 1) + 1) + 1) + 1) + 1 ≤ 16 by decide) (show ((((((((((0 + 4) + 1960) + 4) + 1960) + 12) + 48) + 3) + 240) + 212) + 8) + 8 ≤ 4715 by decide) dX3_init_68 (fun H33 s33 n33 q33 => ?_)
  have O30 := O30.kept (q33 _ (by omega))
  have n6 := n6.kept (fun q hq => q33 q (by omega))
  have n11 := n11.kept (fun q hq => q33 q (by omega))
  have n16 := n16.kept (fun q hq => q33 q (by omega))
  have n21 := n21.kept (fun q hq => q33 q (by omega))
  have n25 := n25.kept (q33 _ (by omega))
  have n29 := n29.kept (q33 _ (by omega))
  have hle : ∀ (q : Nat), q < s.heap.size → q ≠ a → H33[q]? = s.heap[q]? := fun q h1 h2 => by rw [q33 q (by omega), hle q h1 h2]
  have n33 : rAi G (s.heap.size + 12) 8 H33 := by rw [← w30]; exact n33
  have w33 : H33.size = s.heap.size + 13 := by omega
  rw [show (Value.ref H30.size) = Value.ref (s.heap.size + 12) from congrArg Value.ref w30]
  refine k_putF (ty := tyX3 7) hx hb hts hin hown hK1 hnm 3 O30 7 rfl ⟨rfl, rfl⟩ (tyX3_ok 7 (by decide)) rfl rfl (wk_in kf_X3_42) dX3_init_70 (fun H34 O34 s34 q34 => ?_)
  have n6 := n6.kept (fun q hq => q34 q (by omega))
  have n11 := n11.kept (fun q hq => q34 q (by omega))
  have n16 := n16.kept (fun q hq => q34 q (by omega))
  have n21 := n21.kept (fun q hq => q34 q (by omega))
  have n25 := n25.kept (q34 _ (by omega))
  have n29 := n29.kept (q34 _ (by omega))
  have n33 := n33.kept (q34 _ (by omega))
  have hle : ∀ (q : Nat), q < s.heap.size → q ≠ a → H34[q]? = s.heap[q]? := fun q h1 h2 => by rw [q34 q h2, hle q h1 h2]
  have w34 : H34.size = s.heap.size + 13 := by omega
  have Lo34 := r_app Lo30 (r_one (P := fun q => q.base = a ∨ s.heap.size ≤ q.base) (x := ⟨a, G.2.1 3 7⟩) (Or.inl rfl))
  refine lv_aload_n hx hb dX3_init_73 rfl (lv_at hl 0 rfl) ?_
  refine lv_bipush (v := 8) hx hb dX3_init_74 (by decide) ?_
  refine r_newi (N := 8) hx hb hTb (hts _ (wk_in ka_int)) (by decide) (by decide) (show (((((((((((0 + 1) + 2) + 1) + 2) + 1) + 1) + 1) + 1) + 1) + 1) + 1) + 1 ≤ 16 by decide) (show (((((((((((0 + 4) + 1960) + 4) + 1960) + 12) + 48) + 3) + 240) + 212) + 8) + 8) + 8 ≤ 4715 by decide) dX3_init_76 (fun H37 s37 n37 q37 => ?_)
  have O34 := O34.kept (q37 _ (by omega))
  have n6 := n6.kept (fun q hq => q37 q (by omega))
  have n11 := n11.kept (fun q hq => q37 q (by omega))
  have n16 := n16.kept (fun q hq => q37 q (by omega))
  have n21 := n21.kept (fun q hq => q37 q (by omega))
  have n25 := n25.kept (q37 _ (by omega))
  have n29 := n29.kept (q37 _ (by omega))
  have n33 := n33.kept (q37 _ (by omega))
  have hle : ∀ (q : Nat), q < s.heap.size → q ≠ a → H37[q]? = s.heap[q]? := fun q h1 h2 => by rw [q37 q (by omega), hle q h1 h2]
  have n37 : rAi G (s.heap.size + 13) 8 H37 := by rw [← w34]; exact n37
  have w37 : H37.size = s.heap.size + 14 := by omega
  rw [show (Value.ref H34.size) = Value.ref (s.heap.size + 13) from congrArg Value.ref w34]
  refine k_putF (ty := tyX3 8) hx hb hts hin hown hK1 hnm 3 O34 8 rfl ⟨rfl, rfl⟩ (tyX3_ok 8 (by decide)) rfl rfl (wk_in kf_X3_45) dX3_init_78 (fun H38 O38 s38 q38 => ?_)
  have n6 := n6.kept (fun q hq => q38 q (by omega))
  have n11 := n11.kept (fun q hq => q38 q (by omega))
  have n16 := n16.kept (fun q hq => q38 q (by omega))
  have n21 := n21.kept (fun q hq => q38 q (by omega))
  have n25 := n25.kept (q38 _ (by omega))
  have n29 := n29.kept (q38 _ (by omega))
  have n33 := n33.kept (q38 _ (by omega))
  have n37 := n37.kept (q38 _ (by omega))
  have hle : ∀ (q : Nat), q < s.heap.size → q ≠ a → H38[q]? = s.heap[q]? := fun q h1 h2 => by rw [q38 q h2, hle q h1 h2]
  have w38 : H38.size = s.heap.size + 14 := by omega
  have Lo38 := r_app Lo34 (r_one (P := fun q => q.base = a ∨ s.heap.size ≤ q.base) (x := ⟨a, G.2.1 3 8⟩) (Or.inl rfl))
  refine lv_aload_n hx hb dX3_init_81 rfl (lv_at hl 0 rfl) ?_
  refine lv_bipush (v := 8) hx hb dX3_init_82 (by decide) ?_
  refine r_newi (N := 8) hx hb hTb (hts _ (wk_in ka_int)) (by decide) (by decide) (show ((((((((((((0 + 1) + 2) + 1) + 2) + 1) + 1) + 1) + 1) + 1) + 1) + 1) + 1) + 1 ≤ 16 by decide) (show ((((((((((((0 + 4) + 1960) + 4) + 1960) + 12) + 48) + 3) + 240) + 212) + 8) + 8) + 8) + 8 ≤ 4715 by decide) dX3_init_84 (fun H41 s41 n41 q41 => ?_)
  have O38 := O38.kept (q41 _ (by omega))
  have n6 := n6.kept (fun q hq => q41 q (by omega))
  have n11 := n11.kept (fun q hq => q41 q (by omega))
  have n16 := n16.kept (fun q hq => q41 q (by omega))
  have n21 := n21.kept (fun q hq => q41 q (by omega))
  have n25 := n25.kept (q41 _ (by omega))
  have n29 := n29.kept (q41 _ (by omega))
  have n33 := n33.kept (q41 _ (by omega))
  have n37 := n37.kept (q41 _ (by omega))
  have hle : ∀ (q : Nat), q < s.heap.size → q ≠ a → H41[q]? = s.heap[q]? := fun q h1 h2 => by rw [q41 q (by omega), hle q h1 h2]
  have n41 : rAi G (s.heap.size + 14) 8 H41 := by rw [← w38]; exact n41
  have w41 : H41.size = s.heap.size + 15 := by omega
  rw [show (Value.ref H38.size) = Value.ref (s.heap.size + 14) from congrArg Value.ref w38]
  refine k_putF (ty := tyX3 9) hx hb hts hin hown hK1 hnm 3 O38 9 rfl ⟨rfl, rfl⟩ (tyX3_ok 9 (by decide)) rfl rfl (wk_in kf_X3_48) dX3_init_86 (fun H42 O42 s42 q42 => ?_)
  have n6 := n6.kept (fun q hq => q42 q (by omega))
  have n11 := n11.kept (fun q hq => q42 q (by omega))
  have n16 := n16.kept (fun q hq => q42 q (by omega))
  have n21 := n21.kept (fun q hq => q42 q (by omega))
  have n25 := n25.kept (q42 _ (by omega))
  have n29 := n29.kept (q42 _ (by omega))
  have n33 := n33.kept (q42 _ (by omega))
  have n37 := n37.kept (q42 _ (by omega))
  have n41 := n41.kept (q42 _ (by omega))
  have hle : ∀ (q : Nat), q < s.heap.size → q ≠ a → H42[q]? = s.heap[q]? := fun q h1 h2 => by rw [q42 q h2, hle q h1 h2]
  have w42 : H42.size = s.heap.size + 15 := by omega
  have Lo42 := r_app Lo38 (r_one (P := fun q => q.base = a ∨ s.heap.size ≤ q.base) (x := ⟨a, G.2.1 3 9⟩) (Or.inl rfl))
  refine lv_aload_n hx hb dX3_init_89 rfl (lv_at hl 0 rfl) ?_
  refine lv_sipush (v := 240) hx hb dX3_init_90 (by decide) ?_
  refine r_newi (N := 240) hx hb hTb (hts _ (wk_in ka_int)) (by decide) (by decide) (show (((((((((((((0 + 1) + 2) + 1) + 2) + 1) + 1) + 1) + 1) + 1) + 1) + 1) + 1) + 1) + 1 ≤ 16 by decide) (show (((((((((((((0 + 4) + 1960) + 4) + 1960) + 12) + 48) + 3) + 240) + 212) + 8) + 8) + 8) + 8) + 240 ≤ 4715 by decide) dX3_init_93 (fun H45 s45 n45 q45 => ?_)
  have O42 := O42.kept (q45 _ (by omega))
  have n6 := n6.kept (fun q hq => q45 q (by omega))
  have n11 := n11.kept (fun q hq => q45 q (by omega))
  have n16 := n16.kept (fun q hq => q45 q (by omega))
  have n21 := n21.kept (fun q hq => q45 q (by omega))
  have n25 := n25.kept (q45 _ (by omega))
  have n29 := n29.kept (q45 _ (by omega))
  have n33 := n33.kept (q45 _ (by omega))
  have n37 := n37.kept (q45 _ (by omega))
  have n41 := n41.kept (q45 _ (by omega))
  have hle : ∀ (q : Nat), q < s.heap.size → q ≠ a → H45[q]? = s.heap[q]? := fun q h1 h2 => by rw [q45 q (by omega), hle q h1 h2]
  have n45 : rAi G (s.heap.size + 15) 240 H45 := by rw [← w42]; exact n45
  have w45 : H45.size = s.heap.size + 16 := by omega
  rw [show (Value.ref H42.size) = Value.ref (s.heap.size + 15) from congrArg Value.ref w42]
  refine k_putF (ty := tyX3 14) hx hb hts hin hown hK1 hnm 3 O42 14 rfl ⟨rfl, rfl⟩ (tyX3_ok 14 (by decide)) rfl rfl (wk_in kf_X3_51) dX3_init_95 (fun H46 O46 s46 q46 => ?_)
  have n6 := n6.kept (fun q hq => q46 q (by omega))
  have n11 := n11.kept (fun q hq => q46 q (by omega))
  have n16 := n16.kept (fun q hq => q46 q (by omega))
  have n21 := n21.kept (fun q hq => q46 q (by omega))
  have n25 := n25.kept (q46 _ (by omega))
  have n29 := n29.kept (q46 _ (by omega))
  have n33 := n33.kept (q46 _ (by omega))
  have n37 := n37.kept (q46 _ (by omega))
  have n41 := n41.kept (q46 _ (by omega))
  have n45 := n45.kept (q46 _ (by omega))
  have hle : ∀ (q : Nat), q < s.heap.size → q ≠ a → H46[q]? = s.heap[q]? := fun q h1 h2 => by rw [q46 q h2, hle q h1 h2]
  have w46 : H46.size = s.heap.size + 16 := by omega
  have Lo46 := r_app Lo42 (r_one (P := fun q => q.base = a ∨ s.heap.size ≤ q.base) (x := ⟨a, G.2.1 3 14⟩) (Or.inl rfl))
  have hP : (rDi G a s.heap.size) H46 := ⟨O46.to (fun k hk => by
    have hk2 : k < 16 := hk
    rcases (by omega : k = 0 ∨ k = 1 ∨ k = 2 ∨ k = 3 ∨ k = 4 ∨ k = 5 ∨ k = 6 ∨ k = 7 ∨ k = 8 ∨ k = 9 ∨ k = 10 ∨ k = 11 ∨ k = 12 ∨ k = 13 ∨ k = 14 ∨ k = 15) with e | e | e | e | e | e | e | e | e | e | e | e | e | e | e | e <;> subst e <;> rfl), n6, n11, n16, n21, n25, n29, n33, n37, n41, n45⟩
  exact W.vret hx hb hr (fun t ht _ => ⟨rfl, by rw [ht]; exact hP, (congrArg Array.size ht).trans w46, fun q h1 h2 => (congrArg (fun h : Heap => h[q]?) ht).trans (hle q h1 h2)⟩) Lo46 dX3_init_98

def rm_kliInit : Room := { frames := 2, cells := 15, slots := 1659, locals := 62 }
set_option maxHeartbeats 4000000 in
set_option maxRecDepth 100000 in
theorem c_kliInit (l : Launch) {G : cG} (a sz : Nat) (d : Nat) : Met l yX5_init (wk (Cond.code yX5_init cX5_init 2 none)) rm_kliInit (va_Pc [.ref a, .ref d] (rPre G a 5 sz tyX5)) (rPost a sz 15 (rLi G d a sz)) 15 1659 (fun q => q = a ∨ sz ≤ q) := by
  refine Met.ofW (cc := cX5_init) (maxL := 2) (ret := none) (by decide) rfl ?_
  intro p e s m args below meth c s₁ B hml hv
  obtain ⟨rfl, O, hK1, hsz, hTb, hne⟩ := hv
  subst hsz
  have hr := B.returns
  have hlocks := B.notSynchronized
  have hx := B.exec
  have hb := B.bytes
  have hts := atoms_spec (ws := wk (Cond.code yX5_init cX5_init 2 none)) B.pre
  have hin : ∀ w ∈ wsUC, w ∈ wk (Cond.code yX5_init cX5_init 2 none) := fun w h => wk_in h
  have hown : s.vm.findClass RX5 = some m.cls := findClass_of_methodNamed B.named
  have hnm : meth.name = "<init>" := (name_of_methodNamed B.named B.method).1
  have hl := lv_entry ([.ref a, .ref d]) (n := 2) (Nat.le_of_ble_eq_true rfl)
  rw [lg_entry_eq]
  generalize (lg_sl ([.ref a, .ref d]) ++ List.replicate (2 - (lg_sl ([.ref a, .ref d])).length) Slot.unset).toArray = ls at hl ⊢
  have hl : lv_has ls 2 [(0, .ref a), (1, .ref d)] := hl
  have hla := O.lt
  have z0 : s.heap.size = s.heap.size + 0 := rfl
  have hle : ∀ (q : Nat), q < s.heap.size → q ≠ a → s.heap[q]? = s.heap[q]? := fun _ _ _ => rfl
  have hLo : ∀ q ∈ ([] : List Loc), q.base = a ∨ s.heap.size ≤ q.base := fun q h => (by cases h)
  refine lv_aload_n hx hb dX5_init_0 rfl (lv_at hl 0 rfl) ?_
  refine W.objInit hx hb hown (hts _ (wk_in kl_X5_3)) (hts _ (wk_in kz_0_2)) (hts _ (wk_in kz_0_3)) rfl (by rw [hml]; exact hl.1) rfl dX5_init_1 (Nat.le_of_ble_eq_true rfl) (Nat.le_of_ble_eq_true rfl) ?_
  refine lv_aload_n hx hb dX5_init_4 rfl (lv_at hl 0 rfl) ?_
  refine k_new hx hb hts hin hown hK1 6 rfl tyX6 tyX6_ok (wk_in kc_lX5_9) (wk_in kx_X6) (wk_in kn_X6) (show 0 + 1 ≤ 15 by decide) (show 0 + 7 ≤ 1659 by decide) dX5_init_5 (fun H4 O4 s4 q4 => ?_)
  have O := O.kept (q4 _ (by omega))
  have hle : ∀ (q : Nat), q < s.heap.size → q ≠ a → H4[q]? = s.heap[q]? := fun q h1 h2 => by rw [q4 q (by omega), hle q h1 h2]
  have w4 : H4.size = s.heap.size + 1 := by omega
  have O4 : rOb G (s.heap.size + 0) 6 (fun k => defaultValue (tyX6 k)) H4 := by rw [← z0]; exact O4
  rw [show s.heap.size = s.heap.size + 0 from z0]
  refine lv_dup hx hb dX5_init_8 rfl ?_
  refine lv_bipush (v := 10) hx hb dX5_init_9 (by decide) ?_
  refine k_raw (va_runI (b := s.heap.size + 0) (As := [.int 10]) (rest := [.ref (s.heap.size + 0), .ref a]) ⟨hx, hb, hml, hown, hts⟩ (c_kmsInit10 l (G := G) (s.heap.size + 0) H4.size) ⟨callB_of 1 hts (wk_good kd_X6_init) rfl rfl rfl (hts _ (wk_in kn_X6)) (hts _ (wk_in kl_X5_13)) (by decide +kernel) ⟨Nat.le_of_ble_eq_true rfl, Nat.le_of_ble_eq_true rfl⟩, rfl, hts _ (wk_in ki_X6_init)⟩ ⟨rPre.blind, fun U hU hW => ⟨rfl, by rw [hU]; exact O4, hK1.moved hW.alike, by rw [hU], hTb.moved hW.alike, hne.warm hW⟩⟩ rfl rfl hl.1 rfl (lv_room (Nat.le_of_ble_eq_true rfl)) dX5_init_11 ⟨show (0 + 1) + 4 ≤ 15 by decide, show (0 + 7) + 630 ≤ 1659 by decide⟩) (fun w7v st7 t7 L7 h7 hq7 hL7 => ?_)
  obtain ⟨ew7, n7, s7, q7⟩ := hq7
  cases ew7
  rw [h7] at q7
  have O := O.kept (q7 _ (by omega) (by omega))
  have hle : ∀ (q : Nat), q < s.heap.size → q ≠ a → t7.heap[q]? = s.heap[q]? := fun q h1 h2 => by rw [q7 q (by omega) (by omega), hle q h1 h2]
  have w7 : t7.heap.size = s.heap.size + 5 := by omega
  rw [show H4.size = s.heap.size + 1 from w4] at n7
  have Lo7 := r_app hLo (fun q h => (hL7 q h).elim (fun z => Or.inr (by rw [z]; omega)) (fun z => Or.inr (Nat.le_trans (by omega) z)))
  refine W.eq (g2 := F0 m 14 ls [.ref (s.heap.size + 0), .ref a]) rfl ?_
  refine k_putF (ty := tyX5 1) hx hb hts hin hown hK1 hnm 5 O 1 rfl ⟨rfl, rfl⟩ (tyX5_ok 1 (by decide)) rfl rfl (wk_in kf_X5_16) dX5_init_14 (fun H8 O8 s8 q8 => ?_)
  have n7 := n7.kept (fun q hq => q8 q (by omega))
  have hle : ∀ (q : Nat), q < s.heap.size → q ≠ a → H8[q]? = s.heap[q]? := fun q h1 h2 => by rw [q8 q h2, hle q h1 h2]
  have w8 : H8.size = s.heap.size + 5 := by omega
  have Lo8 := r_app Lo7 (r_one (P := fun q => q.base = a ∨ s.heap.size ≤ q.base) (x := ⟨a, G.2.1 5 1⟩) (Or.inl rfl))
  refine lv_aload_n hx hb dX5_init_17 rfl (lv_at hl 0 rfl) ?_
  refine k_new hx hb hts hin hown hK1 6 rfl tyX6 tyX6_ok (wk_in kc_lX5_9) (wk_in kx_X6) (wk_in kn_X6) (show ((0 + 1) + 4) + 1 ≤ 15 by decide) (show ((0 + 7) + 630) + 7 ≤ 1659 by decide) dX5_init_18 (fun H10 O10 s10 q10 => ?_)
  have O8 := O8.kept (q10 _ (by omega))
  have n7 := n7.kept (fun q hq => q10 q (by omega))
  have hle : ∀ (q : Nat), q < s.heap.size → q ≠ a → H10[q]? = s.heap[q]? := fun q h1 h2 => by rw [q10 q (by omega), hle q h1 h2]
  have w10 : H10.size = s.heap.size + 6 := by omega
  have O10 : rOb G (s.heap.size + 5) 6 (fun k => defaultValue (tyX6 k)) H10 := by rw [← w8]; exact O10
  rw [show H8.size = s.heap.size + 5 from w8]
  refine lv_dup hx hb dX5_init_21 rfl ?_
  refine lv_bipush (v := 8) hx hb dX5_init_22 (by decide) ?_
  refine k_raw (va_runI (b := s.heap.size + 5) (As := [.int 8]) (rest := [.ref (s.heap.size + 5), .ref a]) ⟨hx, hb, hml, hown, hts⟩ (c_kmsInit8 l (G := G) (s.heap.size + 5) H10.size) ⟨callB_of 1 hts (wk_good kd_X6_init) rfl rfl rfl (hts _ (wk_in kn_X6)) (hts _ (wk_in kl_X5_13)) (by decide +kernel) ⟨Nat.le_of_ble_eq_true rfl, Nat.le_of_ble_eq_true rfl⟩, rfl, hts _ (wk_in ki_X6_init)⟩ ⟨rPre.blind, fun U hU hW => ⟨rfl, by rw [hU]; exact O10, hK1.moved hW.alike, by rw [hU], hTb.moved hW.alike, hne.warm hW⟩⟩ rfl rfl hl.1 rfl (lv_room (Nat.le_of_ble_eq_true rfl)) dX5_init_24 ⟨show (((0 + 1) + 4) + 1) + 4 ≤ 15 by decide, show (((0 + 7) + 630) + 7) + 504 ≤ 1659 by decide⟩) (fun w13v st13 t13 L13 h13 hq13 hL13 => ?_)
  obtain ⟨ew13, n13, s13, q13⟩ := hq13
  cases ew13
  rw [h13] at q13
  have O8 := O8.kept (q13 _ (by omega) (by omega))
  have n7 := n7.kept (fun q hq => q13 q (by omega) (by omega))
  have hle : ∀ (q : Nat), q < s.heap.size → q ≠ a → t13.heap[q]? = s.heap[q]? := fun q h1 h2 => by rw [q13 q (by omega) (by omega), hle q h1 h2]
  have w13 : t13.heap.size = s.heap.size + 10 := by omega
  rw [show H10.size = s.heap.size + 6 from w10] at n13
  have Lo13 := r_app Lo8 (fun q h => (hL13 q h).elim (fun z => Or.inr (by rw [z]; omega)) (fun z => Or.inr (Nat.le_trans (by omega) z)))
  refine W.eq (g2 := F0 m 27 ls [.ref (s.heap.size + 5), .ref a]) rfl ?_
  refine k_putF (ty := tyX5 2) hx hb hts hin hown hK1 hnm 5 O8 2 rfl ⟨rfl, rfl⟩ (tyX5_ok 2 (by decide)) rfl rfl (wk_in kf_X5_20) dX5_init_27 (fun H14 O14 s14 q14 => ?_)
  have n7 := n7.kept (fun q hq => q14 q (by omega))
  have n13 := n13.kept (fun q hq => q14 q (by omega))
  have hle : ∀ (q : Nat), q < s.heap.size → q ≠ a → H14[q]? = s.heap[q]? := fun q h1 h2 => by rw [q14 q h2, hle q h1 h2]
  have w14 : H14.size = s.heap.size + 10 := by omega
  have Lo14 := r_app Lo13 (r_one (P := fun q => q.base = a ∨ s.heap.size ≤ q.base) (x := ⟨a, G.2.1 5 2⟩) (Or.inl rfl))
  refine lv_aload_n hx hb dX5_init_30 rfl (lv_at hl 0 rfl) ?_
  refine k_new hx hb hts hin hown hK1 6 rfl tyX6 tyX6_ok (wk_in kc_lX5_9) (wk_in kx_X6) (wk_in kn_X6) (show ((((0 + 1) + 4) + 1) + 4) + 1 ≤ 15 by decide) (show ((((0 + 7) + 630) + 7) + 504) + 7 ≤ 1659 by decide) dX5_init_31 (fun H16 O16 s16 q16 => ?_)
  have O14 := O14.kept (q16 _ (by omega))
  have n7 := n7.kept (fun q hq => q16 q (by omega))
  have n13 := n13.kept (fun q hq => q16 q (by omega))
  have hle : ∀ (q : Nat), q < s.heap.size → q ≠ a → H16[q]? = s.heap[q]? := fun q h1 h2 => by rw [q16 q (by omega), hle q h1 h2]
  have w16 : H16.size = s.heap.size + 11 := by omega
  have O16 : rOb G (s.heap.size + 10) 6 (fun k => defaultValue (tyX6 k)) H16 := by rw [← w14]; exact O16
  rw [show H14.size = s.heap.size + 10 from w14]
  refine lv_dup hx hb dX5_init_34 rfl ?_
  refine lv_bipush (v := 8) hx hb dX5_init_35 (by decide) ?_
  refine k_raw (va_runI (b := s.heap.size + 10) (As := [.int 8]) (rest := [.ref (s.heap.size + 10), .ref a]) ⟨hx, hb, hml, hown, hts⟩ (c_kmsInit8 l (G := G) (s.heap.size + 10) H16.size) ⟨callB_of 1 hts (wk_good kd_X6_init) rfl rfl rfl (hts _ (wk_in kn_X6)) (hts _ (wk_in kl_X5_13)) (by decide +kernel) ⟨Nat.le_of_ble_eq_true rfl, Nat.le_of_ble_eq_true rfl⟩, rfl, hts _ (wk_in ki_X6_init)⟩ ⟨rPre.blind, fun U hU hW => ⟨rfl, by rw [hU]; exact O16, hK1.moved hW.alike, by rw [hU], hTb.moved hW.alike, hne.warm hW⟩⟩ rfl rfl hl.1 rfl (lv_room (Nat.le_of_ble_eq_true rfl)) dX5_init_37 ⟨show (((((0 + 1) + 4) + 1) + 4) + 1) + 4 ≤ 15 by decide, show (((((0 + 7) + 630) + 7) + 504) + 7) + 504 ≤ 1659 by decide⟩) (fun w19v st19 t19 L19 h19 hq19 hL19 => ?_)
  obtain ⟨ew19, n19, s19, q19⟩ := hq19
  cases ew19
  rw [h19] at q19
  have O14 := O14.kept (q19 _ (by omega) (by omega))
  have n7 := n7.kept (fun q hq => q19 q (by omega) (by omega))
  have n13 := n13.kept (fun q hq => q19 q (by omega) (by omega))
  have hle : ∀ (q : Nat), q < s.heap.size → q ≠ a → t19.heap[q]? = s.heap[q]? := fun q h1 h2 => by rw [q19 q (by omega) (by omega), hle q h1 h2]
  have w19 : t19.heap.size = s.heap.size + 15 := by omega
  rw [show H16.size = s.heap.size + 11 from w16] at n19
  have Lo19 := r_app Lo14 (fun q h => (hL19 q h).elim (fun z => Or.inr (by rw [z]; omega)) (fun z => Or.inr (Nat.le_trans (by omega) z)))
  refine W.eq (g2 := F0 m 40 ls [.ref (s.heap.size + 10), .ref a]) rfl ?_
  refine k_putF (ty := tyX5 3) hx hb hts hin hown hK1 hnm 5 O14 3 rfl ⟨rfl, rfl⟩ (tyX5_ok 3 (by decide)) rfl rfl (wk_in kf_X5_23) dX5_init_40 (fun H20 O20 s20 q20 => ?_)
  have n7 := n7.kept (fun q hq => q20 q (by omega))
  have n13 := n13.kept (fun q hq => q20 q (by omega))
  have n19 := n19.kept (fun q hq => q20 q (by omega))
  have hle : ∀ (q : Nat), q < s.heap.size → q ≠ a → H20[q]? = s.heap[q]? := fun q h1 h2 => by rw [q20 q h2, hle q h1 h2]
  have w20 : H20.size = s.heap.size + 15 := by omega
  have Lo20 := r_app Lo19 (r_one (P := fun q => q.base = a ∨ s.heap.size ≤ q.base) (x := ⟨a, G.2.1 5 3⟩) (Or.inl rfl))
  refine lv_aload_n hx hb dX5_init_43 rfl (lv_at hl 0 rfl) ?_
  refine lv_iconst (v := 0) hx hb dX5_init_44 (by decide) ?_
  refine k_put (ty := tyX5 4) hx hb hts hin hown hK1 5 O20 4 rfl rfl (tyX5_ok 4 (by decide)) rfl rfl (wk_in kf_X5_26) dX5_init_45 (fun H23 O23 s23 q23 => ?_)
  have n7 := n7.kept (fun q hq => q23 q (by omega))
  have n13 := n13.kept (fun q hq => q23 q (by omega))
  have n19 := n19.kept (fun q hq => q23 q (by omega))
  have hle : ∀ (q : Nat), q < s.heap.size → q ≠ a → H23[q]? = s.heap[q]? := fun q h1 h2 => by rw [q23 q h2, hle q h1 h2]
  have w23 : H23.size = s.heap.size + 15 := by omega
  have Lo23 := r_app Lo20 (r_one (P := fun q => q.base = a ∨ s.heap.size ≤ q.base) (x := ⟨a, G.2.1 5 4⟩) (Or.inl rfl))
  refine lv_aload_n hx hb dX5_init_48 rfl (lv_at hl 0 rfl) ?_
  refine lv_aload_n hx hb dX5_init_49 rfl (lv_at hl 1 rfl) ?_
  refine k_putF (ty := tyX5 0) hx hb hts hin hown hK1 hnm 5 O23 0 rfl ⟨rfl, rfl⟩ (tyX5_ok 0 (by decide)) rfl rfl (wk_in kf_X5_30) dX5_init_50 (fun H26 O26 s26 q26 => ?_)
  have n7 := n7.kept (fun q hq => q26 q (by omega))
  have n13 := n13.kept (fun q hq => q26 q (by omega))
  have n19 := n19.kept (fun q hq => q26 q (by omega))
  have hle : ∀ (q : Nat), q < s.heap.size → q ≠ a → H26[q]? = s.heap[q]? := fun q h1 h2 => by rw [q26 q h2, hle q h1 h2]
  have w26 : H26.size = s.heap.size + 15 := by omega
  have Lo26 := r_app Lo23 (r_one (P := fun q => q.base = a ∨ s.heap.size ≤ q.base) (x := ⟨a, G.2.1 5 0⟩) (Or.inl rfl))
  have hP : (rLi G d a s.heap.size) H26 := ⟨O26.to (fun k hk => by
    have hk2 : k < 21 := hk
    rcases (by omega : k = 0 ∨ k = 1 ∨ k = 2 ∨ k = 3 ∨ k = 4 ∨ k = 5 ∨ k = 6 ∨ k = 7 ∨ k = 8 ∨ k = 9 ∨ k = 10 ∨ k = 11 ∨ k = 12 ∨ k = 13 ∨ k = 14 ∨ k = 15 ∨ k = 16 ∨ k = 17 ∨ k = 18 ∨ k = 19 ∨ k = 20) with e | e | e | e | e | e | e | e | e | e | e | e | e | e | e | e | e | e | e | e | e <;> subst e <;> rfl), n7, n13, n19⟩
  exact W.vret hx hb hr (fun t ht _ => ⟨rfl, by rw [ht]; exact hP, (congrArg Array.size ht).trans w26, fun q h1 h2 => (congrArg (fun h : Heap => h[q]?) ht).trans (hle q h1 h2)⟩) Lo26 dX5_init_53
