/-! ArrayList.add -/
def rm_kadd3 (ms : Nat) : Room := { frames := 5, cells := 1, slots := ms, locals := 8 + (1 + 11) + (8 + (4 + 11) + (8 + (4 + 11) + (8 + (4 + 11) + 30))) }
theorem hd_kadd3 : yJx4a65c_add_72be8.cls = cRn 12 ∧ yJx4a65c_add_72be8.cls ≠ "java/lang/invoke/MethodHandle" ∧ yJx4a65c_add_72be8.cls ≠ "java/lang/invoke/VarHandle" ∧ (parseMethodDescriptor yJx4a65c_add_72be8.desc).map (fun d => d.parameters.length) = some 3 := by decide +kernel
theorem hd_kadd1 : yJx4a65c_add_9ea2d.cls = cRn 12 ∧ yJx4a65c_add_9ea2d.cls ≠ "java/lang/invoke/MethodHandle" ∧ yJx4a65c_add_9ea2d.cls ≠ "java/lang/invoke/VarHandle" ∧ (parseMethodDescriptor yJx4a65c_add_9ea2d.desc).map (fun d => d.parameters.length) = some 1 := by decide +kernel
set_option maxHeartbeats 4000000 in
set_option maxRecDepth 100000 in
theorem k_addtail {p : Program} {l : Launch} {e : Env} {R : Room} {s : State} {m : MethodId} {args : Array Value} {below : List Frame} {meth : Method} {c : Code} {H : Heap} {locs : List Loc} {cells slots mc ms : Nat} {ls : Array Slot} {G : cG} {Z0 Z : cZ} {g0 g : mSt} {Ts : List Cond} {X : Int} (x : cXA p c cJx4a65c_add_72be8 s args Ts m G Z (cAf Z0 s.heap.size) RJx4a65c s.heap) (hin : ∀ w ∈ wsUC, w ∈ Ts) (L : cL G Z (cAf Z0 s.heap.size) s.heap X g H locs) (i0 : Nat) (v p3 : Int32) (hJ : cJ Z g) (hi0 : i0 < 2 * Z.n) (h3 : p3.toInt = (g 386 i0).toInt) (hcap : (g 386 i0).toInt < (g 1729 i0).toInt) (hv : cD2 Z g i0 v) (hF : mFr [385, 1728, 1729] g0 g) (hz : cZl Z0 Z cells slots) (hw2 : Z.w 2 = Z0.w 2) (hm : cells ≤ mc ∧ slots ≤ ms)
    (hl : lv_has ls 4 [(2, .ref (Z.ad 54 i0)), (0, .ref (Z.ad 12 i0)), (1, .ref (Z.ad 1 v.toInt.toNat)), (3, .int p3)]) (hr : meth.sig.returnType = none) (hlocks : meth.locks = false) :
    W p l e R s m args below meth c H locs cells slots (MQ below (kE mc ms (cAf Z0 s.heap.size) (cQvA G Z0 X (fun Z1 g1 => mFr [385, 386, 1728, 1729] g0 g1 ∧ cJ Z1 g1 ∧ (g1 386 i0).toInt = (g0 386 i0).toInt + 1 ∧ (∀ q, q ≠ i0 → g1 386 q = g0 386 q) ∧ Z1.w 2 = Z0.w 2))) args s mc ms (cAf Z0 s.heap.size)) (F0 m 11 ls []) := by
  have hx := x.1.1
  have hb := x.1.2.1
  have hZ := x.1.2.2.2.2.2.2.2.1
  have hal0 : Z.al 12 i0 := hZ.2 12 i0 hi0
  have hsz := hJ.2.2.1 i0 hi0
  have hc5 : 0 ≤ (g 385 i0).toInt ∧ Z.al 54 i0 ∧ 10 ≤ (g 1729 i0).toInt ∧ (g 1729 i0).toInt ≤ 10000000 := by
    rcases (hJ.2.2.2.2.1.2 i0 hi0).1 with z | z
    · omega
    · exact z
  have k1 : (1 : Int32).toInt = 1 := by decide
  refine lv_aload_n hx hb dJx4a65c_add_72be8_11 rfl (lv_at hl 0 rfl) ?_
  refine lv_iload_n hx hb dJx4a65c_add_72be8_12 rfl (lv_at hl 3 rfl) ?_
  refine lv_aload_n hx hb dJx4a65c_add_72be8_13 rfl (lv_at hl 2 rfl) ?_
  refine c_str x L 54 i0 1728 hc5.2.1 (Or.inr rfl) rfl hJ (i := p3) (by omega) (show p3.toInt < (((g 1729 i0).toInt.toNat : Nat) : Int) by omega) hv.1 hv.2.1 dJx4a65c_add_72be8_14 (fun g1 H1 k1' eg1 L1 => ?_)
  refine lv_aload_n hx hb dJx4a65c_add_72be8_15 rfl (lv_at hl 1 rfl) ?_
  refine lv_iload_n hx hb dJx4a65c_add_72be8_16 rfl (lv_at hl 3 rfl) ?_
  refine lv_iconst (v := 1) hx hb dJx4a65c_add_72be8_17 (by decide) ?_
  refine lv_iadd hx hb dJx4a65c_add_72be8_18 ?_
  refine lv_topi (fun w ew => ?_)
  have hw : w.toInt = (g 386 i0).toInt + 1 := by
    have := ti_add (x := p3) (y := 1) (by omega) (by omega)
    rw [← ew] at this
    omega
  refine c_puti x.1 L1 12 i0 2 386 hal0 rfl rfl ⟨rfl, by decide +kernel⟩ (hin _ kf_Jx4a65c_48) dJx4a65c_add_72be8_19 (rg_any w) (fun g2 H2 k2' eg2 L2 => ?_)
  have e386 : (g0 386 i0) = g 386 i0 := (congrFun (hF 386 (by decide)) i0).symm
  have hJ2 : cJ Z g2 := cJ_add hJ hi0 (k := p3.toNatClampNeg) (by show ((p3.toInt.toNat : Nat) : Int) = _; omega) hcap hv eg1 eg2 hw
  refine k_vret x L2 hr hlocks (Int.le_refl _) hz ⟨fun j hj => ?_, hJ2, ?_, fun q hq => ?_, hw2⟩ hm.1 hm.2 dJx4a65c_add_72be8_22
  · simp only [List.mem_cons, List.not_mem_nil, or_false, not_or] at hj
    rw [eg2, up2_of hj.2.1, eg1, up2_of hj.2.2.1]
    exact hF j (by simp only [List.mem_cons, List.not_mem_nil, or_false, not_or]; exact ⟨hj.1, hj.2.2.1, hj.2.2.2⟩)
  · rw [eg2, up2_i, e386]
    exact hw
  · rw [eg2, up2_n hq, eg1, up2_o (by decide), hF 386 (by decide)]
set_option maxHeartbeats 4000000 in
set_option maxRecDepth 100000 in
theorem c_kadd3 (l : Launch) {G : cG} {Z : cZ} (X : Int) (g : mSt) (i0 sz b ms : Nat) (v p3 : Int32) (hX : 0 ≤ X ∧ X ≤ 2000000000) (hJ : cJ Z g) (hi0 : i0 < 2 * Z.n) (hb0 : cTo Z (g 385 i0) 12 i0 1 = some b) (h3 : p3.toInt = (g 386 i0).toInt) (hv : cD2 Z g i0 v) (hms : 10 ≤ ms ∧ 3 * (g 386 i0).toInt ≤ 2 * (ms : Int) ∧ (g 386 i0).toInt ≤ 6000000) :
    Met l yJx4a65c_add_72be8 (wk (Cond.code yJx4a65c_add_72be8 cJx4a65c_add_72be8 4 none)) (rm_kadd3 ms) (va_Pc [.ref (Z.ad 12 i0), .ref (Z.ad 1 v.toInt.toNat), .ref b, .int p3] (cPreA G Z X g sz)) (kE 1 ms (cAf Z sz) (cQvA G Z X (fun Z1 g1 => mFr [385, 386, 1728, 1729] g g1 ∧ cJ Z1 g1 ∧ (g1 386 i0).toInt = (g 386 i0).toInt + 1 ∧ (∀ q, q ≠ i0 → g1 386 q = g 386 q) ∧ Z1.w 2 = Z.w 2))) 1 ms (cAf Z sz) := by
  refine Met.ofW (cc := cJx4a65c_add_72be8) (maxL := 4) (ret := none) (by decide) rfl ?_
  intro p e s m args below meth c s₁ B hml hv0
  obtain ⟨rfl, hv0⟩ := hv0
  have hsz0 := hv0.2.1
  subst hsz0
  have hr := B.returns
  have hlocks := B.notSynchronized
  obtain ⟨x, L⟩ := k_start B rfl (fun w h => wk_in h) hv0
  have hx := x.1.1
  have hb := x.1.2.1
  have hts := x.1.2.2.1
  have hown := x.1.2.2.2.2.1
  have hz := x.1.2.2.2.2.2.2.2.1
  have hal0 : Z.al 12 i0 := hz.2 12 i0 hi0
  have hal55 : Z.al 55 0 := hz.2 55 0 (show 0 < 1 by decide)
  have hl := lv_entry ([.ref (Z.ad 12 i0), .ref (Z.ad 1 v.toInt.toNat), .ref b, .int p3]) (n := 4) (Nat.le_of_ble_eq_true rfl)
  rw [lg_entry_eq]
  generalize (lg_sl ([.ref (Z.ad 12 i0), .ref (Z.ad 1 v.toInt.toNat), .ref b, .int p3]) ++ List.replicate (4 - (lg_sl ([.ref (Z.ad 12 i0), .ref (Z.ad 1 v.toInt.toNat), .ref b, .int p3])).length) Slot.unset).toArray = ls at hl ⊢
  have hl : lv_has ls 4 [(0, .ref (Z.ad 12 i0)), (1, .ref (Z.ad 1 v.toInt.toNat)), (2, .ref b), (3, .int p3)] := hl
  have h2 := hJ.2.2.1 i0 hi0
  have hc5 := (hJ.2.2.2.2.1.2 i0 hi0).1
  refine lv_iload_n hx hb dJx4a65c_add_72be8_0 rfl (lv_at hl 3 rfl) ?_
  refine lv_aload_n hx hb dJx4a65c_add_72be8_1 rfl (lv_at hl 2 rfl) ?_
  have hlen : ∀ (n : Int32), n.toInt = (g 1729 i0).toInt → W p l e (headSpec (wk (Cond.code yJx4a65c_add_72be8 cJx4a65c_add_72be8 4 none)) (rm_kadd3 ms)).room s m [.ref (Z.ad 12 i0), .ref (Z.ad 1 v.toInt.toNat), .ref b, .int p3].toArray below meth c s.heap [] 0 0 (MQ below (kE 1 ms (cAf Z s.heap.size) (cQvA G Z X (fun Z1 g1 => mFr [385, 386, 1728, 1729] g g1 ∧ cJ Z1 g1 ∧ (g1 386 i0).toInt = (g 386 i0).toInt + 1 ∧ (∀ q, q ≠ i0 → g1 386 q = g 386 q) ∧ Z1.w 2 = Z.w 2))) [.ref (Z.ad 12 i0), .ref (Z.ad 1 v.toInt.toNat), .ref b, .int p3].toArray s 1 ms (cAf Z s.heap.size)) (F0 m 3 ls [.int n, .int p3]) := by
    intro n en
    refine lv_icmp_ne (tgt := 11) hx hb dJx4a65c_add_72be8_3 (by decide) (fun z => ?_) (fun z => ?_)
    · have hlt : (g 386 i0).toInt < (g 1729 i0).toInt := by
        have : p3.toInt ≠ n.toInt := fun w => z (Int32.toInt_inj.mp w)
        omega
      have hbb : b = Z.ad 54 i0 := by
        rw [cTo_own (by omega)] at hb0
        exact (Option.some.inj hb0).symm
      subst hbb
      exact k_addtail x (fun w h => wk_in h) L i0 v p3 hJ hi0 h3 hlt hv (fun _ _ => rfl) cZl.rf rfl ⟨Nat.zero_le _, Nat.zero_le _⟩ ⟨hl.1, hl.2.1, fun q hq => hl.2.2 q (by simp only [List.mem_cons, List.not_mem_nil, or_false] at hq ⊢; rcases hq with h | h | h | h <;> simp [h])⟩ hr hlocks
    · have heq : (g 386 i0).toInt = (g 1729 i0).toInt := by
        have : p3.toInt = n.toInt := congrArg Int32.toInt z
        omega
      obtain ⟨old, hold⟩ : ∃ old : Nat, (g 1729 i0).toInt = (old : Int) := ⟨(g 1729 i0).toInt.toNat, by omega⟩
      obtain ⟨N, hN⟩ : ∃ N : Nat, (old = 0 ∧ N = 10) ∨ (10 ≤ old ∧ N = old + old / 2) := by
        rcases hc5 with w | w
        · exact ⟨10, Or.inl ⟨by omega, rfl⟩⟩
        · exact ⟨old + old / 2, Or.inr ⟨by omega, rfl⟩⟩
      refine lv_aload_n hx hb dJx4a65c_add_72be8_6 rfl (lv_at hl 0 rfl) ?_
      have hNm : N ≤ ms := by omega
      refine k_callr x L (k_runV (As := []) (rest := []) ⟨hx, hb, hml, hown, hts⟩ (c_kgrow0 l X g i0 s.heap.size old N hX hJ hi0 hold (by omega) hN (by omega)) (cwV 0 hts (wk_V kd_Jx4a65c_grow_d5877 kl_Jx4a65c_129 ki_Jx4a65c_grow_d5877 ks_Jx4a65c_Jx4a65c_grow_d5877 kn_Jx4a65c) rfl rfl rfl hd_kgrow0 ⟨Nat.le_of_ble_eq_true rfl, Nat.le_of_ble_eq_true rfl⟩) ⟨cPreA.blind, c_recv x.1 L hal0 rfl, fun U hU hW => k_pre x L U hU hW⟩ rfl rfl hl.1 rfl (lv_room (Nat.le_of_ble_eq_true rfl)) dJx4a65c_add_72be8_7 ⟨Nat.le_refl 1, show 0 + N ≤ ms by omega⟩) (fun a Z1 g1 H1 locs1 k n' hk hn' hp hz1 x1 L1 => ?_)
      obtain ⟨ea, hal54, hF, hJ1, hN1, hw1⟩ := hp
      rw [Nat.zero_add, Nat.zero_add]
      have e12 := hz1.2.2.1 12 i0 hal0 (by omega)
      have e1 := hz1.2.2.1 1 _ hv.2.1 (by omega)
      rw [← e12, ← e1] at hl
      subst ea
      refine lv_astore_n (lv' := [(2, .ref (Z1.ad 54 i0)), (0, .ref (Z1.ad 12 i0)), (1, .ref (Z1.ad 1 v.toInt.toNat)), (3, .int p3)]) hx hb dJx4a65c_add_72be8_10 rfl hl (by decide) rfl (fun ls hl => ?_)
      have e386 : g1 386 i0 = g 386 i0 := congrFun (hF 386 (by decide)) i0
      exact k_addtail (cells := k) (slots := n') x1 (fun w h => wk_in h) L1 i0 v p3 hJ1 (by rw [hz1.1]; exact hi0) (by rw [e386]; exact h3) (by rw [e386, hN1]; omega) ⟨hv.1, hz1.2.1 _ _ hv.2.1, by rw [hF 32 (by decide)]; exact hv.2.2⟩ hF hz1 hw1 ⟨hk, by omega⟩ hl hr hlocks
  rcases hc5 with hc | hc
  · rw [cTo_emp hc.1] at hb0
    have hbb := (Option.some.inj hb0).symm
    subst hbb
    exact c_len0 x L dJx4a65c_add_72be8_2 (fun n en => hlen n (by have en : n.toInt = 0 := en; omega))
  · rw [cTo_own hc.1] at hb0
    have hbb := (Option.some.inj hb0).symm
    subst hbb
    exact c_lenr x.1 L 54 i0 hc.2.1 rfl (show (g 1729 i0).toInt.toNat ≤ 2147483647 by omega) dJx4a65c_add_72be8_2 (fun n en => hlen n (by have en : n.toInt = (((g 1729 i0).toInt.toNat : Nat) : Int) := en; omega))
def rm_kladd0 (ms : Nat) : Room := { frames := 6, cells := 1, slots := ms, locals := 8 + (4 + 11) + (8 + (1 + 11) + (8 + (4 + 11) + (8 + (4 + 11) + (8 + (4 + 11) + 30)))) }
set_option maxHeartbeats 4000000 in
set_option maxRecDepth 100000 in
theorem c_kladd0 (l : Launch) {G : cG} {Z : cZ} (X : Int) (g : mSt) (i0 sz ms : Nat) (v : Int32) (hX : 0 ≤ X ∧ X ≤ 2000000000) (hJ : cJ Z g) (hi0 : i0 < 2 * Z.n) (hv : cD2 Z g i0 v) (hms : 10 ≤ ms ∧ 3 * (g 386 i0).toInt ≤ 2 * (ms : Int) ∧ (g 386 i0).toInt ≤ 6000000) :
    Met l yJx4a65c_add_9ea2d (wk (Cond.code yJx4a65c_add_9ea2d cJx4a65c_add_9ea2d 2 (some .boolean))) (rm_kladd0 ms) (va_Pc [.ref (Z.ad 12 i0), .ref (Z.ad 1 v.toInt.toNat)] (cPreA G Z X g sz)) (kE 1 ms (cAf Z sz) (cQiA G Z X (fun r Z1 g1 => mFr [384, 385, 386, 1728, 1729] g g1 ∧ rg (1) (1) r ∧ cJ Z1 g1 ∧ (∀ s, (g 386 s).toInt ≤ (g1 386 s).toInt ∧ (g1 386 s).toInt ≤ (g 386 s).toInt + 1) ∧ Z1.w 2 ≤ Z.w 2 + 0 ∧ True))) 1 ms (cAf Z sz) := by
  refine Met.ofW (cc := cJx4a65c_add_9ea2d) (maxL := 2) (ret := (some .boolean)) (by decide) rfl ?_
  intro p e s m args below meth c s₁ B hml hv0
  obtain ⟨rfl, hv0⟩ := hv0
  have hsz0 := hv0.2.1
  subst hsz0
  have hr := B.returns
  have hlocks := B.notSynchronized
  obtain ⟨x, L⟩ := k_start B rfl (fun w h => wk_in h) hv0
  have hx := x.1.1
  have hb := x.1.2.1
  have hts := x.1.2.2.1
  have hown := x.1.2.2.2.2.1
  have hz := x.1.2.2.2.2.2.2.2.1
  have hal0 : Z.al 12 i0 := hz.2 12 i0 hi0
  have hl := lv_entry ([.ref (Z.ad 12 i0), .ref (Z.ad 1 v.toInt.toNat)]) (n := 2) (Nat.le_of_ble_eq_true rfl)
  rw [lg_entry_eq]
  generalize (lg_sl ([.ref (Z.ad 12 i0), .ref (Z.ad 1 v.toInt.toNat)]) ++ List.replicate (2 - (lg_sl ([.ref (Z.ad 12 i0), .ref (Z.ad 1 v.toInt.toNat)])).length) Slot.unset).toArray = ls at hl ⊢
  have hl : lv_has ls 2 [(0, .ref (Z.ad 12 i0)), (1, .ref (Z.ad 1 v.toInt.toNat))] := hl
  refine lv_aload_n hx hb dJx4a65c_add_9ea2d_0 rfl (lv_at hl 0 rfl) ?_
  refine lv_dup hx hb dJx4a65c_add_9ea2d_1 rfl ?_
  refine c_getiS x.1 L 12 i0 0 384 hal0 rfl rfl (wk_in kf_Jx4a65c_63) (fun y h => u_same (x.1.2.2.1 _ (wk_in ke_javautilArrayList_javautilAbstractList_modCount)) y h) dJx4a65c_add_9ea2d_2 (fun n en _ => ?_)
  refine lv_iconst (v := 1) hx hb dJx4a65c_add_9ea2d_5 (by decide) ?_
  refine lv_iadd hx hb dJx4a65c_add_9ea2d_6 ?_
  refine lv_topi (fun w ew => ?_)
  refine c_putiS x.1 L 12 i0 0 384 hal0 rfl rfl ⟨rfl, by decide +kernel⟩ (wk_in kf_Jx4a65c_63) (fun y h => u_same (x.1.2.2.1 _ (wk_in ke_javautilArrayList_javautilAbstractList_modCount)) y h) dJx4a65c_add_9ea2d_7 (rg_any w) (fun g1 H1 k1 eg1 L1 => ?_)
  have hF1 : ∀ j, j ≠ 384 → g1 j = g j := fun j hj => by rw [eg1, up2_of hj]
  have hJ1 : cJ Z g1 := cJ_up hJ eg1 (by decide)
  have hv1 : cD2 Z g1 i0 v := ⟨hv.1, hv.2.1, by rw [hF1 32 (by decide)]; exact hv.2.2⟩
  refine lv_aload_n hx hb dJx4a65c_add_9ea2d_10 rfl (lv_at hl 0 rfl) ?_
  refine lv_aload_n hx hb dJx4a65c_add_9ea2d_11 rfl (lv_at hl 1 rfl) ?_
  refine lv_aload_n hx hb dJx4a65c_add_9ea2d_12 rfl (lv_at hl 0 rfl) ?_
  obtain ⟨b, hb0⟩ : ∃ b, cTo Z (g1 385 i0) 12 i0 1 = some b := by
    rcases (by omega : (g1 385 i0).toInt < 0 ∨ 0 ≤ (g1 385 i0).toInt) with z | z
    · exact ⟨_, cTo_emp z⟩
    · exact ⟨_, cTo_own z⟩
  refine c_geto (w := .ref b) x.1 L1 12 i0 1 385 hal0 rfl rfl (by rw [hb0]; rfl) (wk_in kf_Jx4a65c_9) dJx4a65c_add_9ea2d_13 ?_
  refine lv_aload_n hx hb dJx4a65c_add_9ea2d_16 rfl (lv_at hl 0 rfl) ?_
  refine c_geti x.1 L1 12 i0 2 386 hal0 rfl rfl (wk_in kf_Jx4a65c_48) dJx4a65c_add_9ea2d_17 (fun q eq _ => ?_)
  refine k_callv x L1 (k_runV (As := [.ref (Z.ad 1 v.toInt.toNat), .ref b, .int q]) (rest := []) ⟨hx, hb, hml, hown, hts⟩ (c_kadd3 l X g1 i0 H1.size b ms v q hX hJ1 hi0 hb0 (by rw [eq]) hv1 (by rw [hF1 386 (by decide)]; exact hms)) (cwV 3 hts (wk_V kd_Jx4a65c_add_72be8 kl_Jx4a65c_131 ki_Jx4a65c_add_72be8 ks_Jx4a65c_Jx4a65c_add_72be8 kn_Jx4a65c) rfl rfl rfl hd_kadd3 ⟨Nat.le_of_ble_eq_true rfl, Nat.le_of_ble_eq_true rfl⟩) ⟨cPreA.blind, c_recv x.1 L1 hal0 rfl, fun U hU hW => k_pre x L1 U hU hW⟩ rfl rfl hl.1 rfl (lv_room (Nat.le_of_ble_eq_true rfl)) dJx4a65c_add_9ea2d_20 ⟨Nat.le_refl 1, Nat.le_of_eq (Nat.zero_add ms)⟩) (fun Z2 g2 H2 locs2 k n' hk hn' hp hz1 x1 L2 => ?_)
  rw [Nat.zero_add, Nat.zero_add]
  refine lv_iconst (v := 1) hx hb dJx4a65c_add_9ea2d_23 (by decide) ?_
  refine k_zret x1 L2 hr hlocks rfl (Int.le_refl _) hz1 ⟨fun j hj => ?_, ⟨by decide, by decide⟩, hp.2.1, fun q' => ?_, by rw [hp.2.2.2.2]; exact Nat.le_refl _, trivial⟩ hk hn' dJx4a65c_add_9ea2d_24
  · simp only [List.mem_cons, List.not_mem_nil, or_false, not_or] at hj
    rw [hp.1 j (by simp only [List.mem_cons, List.not_mem_nil, or_false, not_or]; exact hj.2), hF1 j hj.1]
  · have e0 : g1 386 q' = g 386 q' := congrFun (hF1 386 (by decide)) q'
    by_cases hq' : q' = i0
    · subst hq'
      have := hp.2.2.1
      rw [e0] at this
      omega
    · rw [hp.2.2.2.1 q' hq', e0]
      omega
