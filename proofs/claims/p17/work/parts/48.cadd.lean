/-! ArrayList.grow and add over the class's world -/
section KRaw
variable {p : Program} {l : Launch} {e : Env} {R : Room} {s : State} {m : MethodId} {args : Array Value} {below : List Frame} {meth : Method} {c : Code} {H : Heap} {locs : List Loc} {cells slots mc ms pc : Nat} {Q : State → Prop} {ls : Array Slot} {st0 rest : List Value} {Qa : State → Outcome → State → Prop} {free : Addr → Prop}
theorem k_raw (hr : va_Run p l e R s m args below meth c H locs cells slots mc ms (F0 m pc ls st0) rest Qa free) (kk : ∀ (v : Option Value) (st t : State) (L : List Loc), st.heap = H → Qa st (.returned v) t → (∀ q ∈ L, free q.base) → W p l e R s m args below meth c t.heap (locs ++ L) (cells + mc) (slots + ms) Q (F0 m (pc + 3) ls (v.toList ++ rest))) : W p l e R s m args below meth c H locs cells slots Q (F0 m pc ls st0) := by
  intro T hT X
  obtain ⟨v, st₀, t, T', L, h0, X', hL, e1, e2, hq, st⟩ := hr T hT X
  obtain ⟨t2, a1, b1⟩ := kk v st₀ t L h0 hq hL T' e1 X'
  exact ⟨t2, st t2 a1, b1⟩
end KRaw
theorem k_any {G : cG} {Z : cZ} {g : mSt} {U : State} (hK : cK G U) (hT : kTb G U) (hM : cH G Z g U.heap) {c : Nat} (hal : Z.al 1 c) : va_Any "java/lang/Object" U U.heap (Z.ad 1 c) := by
  obtain ⟨cell, q1, q2, q3, q4⟩ := hM.ob hal (K := 1) rfl
  obtain ⟨hS, hfc, kC, hkC, hkind⟩ := hK.1 1 rfl
  refine ⟨cell, q1, by rw [q3]; rfl, ⟨kC, by rw [q2]; exact hkC⟩, fun comp hc => ?_⟩
  rw [q2]
  exact vb_asgC (hT.2.2.2.2 (RX1, "java/lang/Object") (by decide)) comp _ hc hfc
theorem cH.keep {G : cG} {Z : cZ} {g : mSt} {H H1 : Heap} (hM : cH G Z g H) (h : ∀ K i, Z.al K i → H1[Z.ad K i]? = H[Z.ad K i]?) : cH G Z g H1 := by
  intro K i hal
  refine ⟨fun h55 => ?_, fun h55 => by rw [h K i hal]; exact (hM K i hal).2 h55⟩
  have hC := (hM K i hal).1 h55
  have hq := h K i hal
  unfold cC at hC ⊢
  by_cases h16 : K < 16
  · rw [if_pos h16] at hC ⊢
    exact hC.kept hq
  · rw [if_neg h16] at hC ⊢
    by_cases h48 : K < 48
    · rw [if_pos h48] at hC ⊢
      rw [hq]; exact hC
    · rw [if_neg h48] at hC ⊢
      rw [hq]; exact hC
theorem cH.lt {G : cG} {Z : cZ} {g : mSt} {H : Heap} (hM : cH G Z g H) {K i : Nat} (hal : Z.al K i) : Z.ad K i < H.size := by
  by_cases h55 : K = 55
  · obtain ⟨-, c0, hc0⟩ := (hM K i hal).2 h55
    exact (Array.getElem?_eq_some_iff.mp hc0).1
  have hC := (hM K i hal).1 h55
  unfold cC at hC
  by_cases h16 : K < 16
  · rw [if_pos h16] at hC
    obtain ⟨cell, q1, -⟩ := hC
    exact (Array.getElem?_eq_some_iff.mp q1).1
  · rw [if_neg h16] at hC
    by_cases h48 : K < 48
    · rw [if_pos h48] at hC
      exact (Array.getElem?_eq_some_iff.mp hC).1
    · rw [if_neg h48] at hC
      exact (Array.getElem?_eq_some_iff.mp hC).1
theorem k_blind {G : cG} {Z : cZ} {X : Int} {g : mSt} {sz : Nat} {av : List Value} {P : State → Prop} (h : ∀ U V : State, U.heap = V.heap → U.vm = V.vm → P U → P V) : FrameBlind (va_Pc av P) := fun _ U _ _ q => ⟨q.1, h U _ rfl rfl q.2⟩
set_option maxHeartbeats 4000000 in
set_option maxRecDepth 100000 in
theorem c_kcopyOf2 (l : Launch) {G : cG} {Z : cZ} (X : Int) (g : mSt) (i0 sz old N : Nat) (n : Int32) (hn : n.toInt = (N : Int)) (hal : Z.al 54 i0) (hJ : cJ Z g) (hold : (g 1729 i0).toInt = (old : Int)) (hN : old ≤ N ∧ N ≤ 100000000) :
    Met l yJ7_copyOf_1904c (wk (Cond.code yJ7_copyOf_1904c cJ7_copyOf_1904c 2 (some (.array (.object "java/lang/Object"))))) (rm_kcopyOf2 N) (va_Pc [.ref (Z.ad 54 i0), .int n] (cPreA G Z X g sz))
      (fun _ st oc t => oc = .returned (some (.ref sz)) ∧ t.heap[sz]? = some (vp_cell (G.2.2.2.2 54) (N, .inr (.inr (.inr (.inr (fun k => if k < old then cOpt Z 1 (g 1728 (16777216 * i0 + k)) else none)))))) ∧ t.heap.size = sz + 1 ∧ ∀ q : Nat, q < sz → t.heap[q]? = st.heap[q]?) 1 N (fun q => q = Z.ad 54 i0 ∨ sz ≤ q) := by
  refine Met.ofW (cc := cJ7_copyOf_1904c) (maxL := 2) (ret := (some (.array (.object "java/lang/Object")))) (by decide) rfl ?_
  intro p e s m args below meth c s₁ B hml hv
  obtain ⟨rfl, ⟨hM, hI, hK, hAp, hSt, hhT, hNe⟩, hsz, hTb, hZ⟩ := hv
  subst hsz
  have hr := B.returns
  have hlocks := B.notSynchronized
  have hx := B.exec
  have hb := B.bytes
  have hts := atoms_spec (ws := wk (Cond.code yJ7_copyOf_1904c cJ7_copyOf_1904c 2 (some (.array (.object "java/lang/Object"))))) B.pre
  have hown : s.vm.findClass RJ7 = some m.cls := findClass_of_methodNamed B.named
  have hl := lv_entry ([.ref (Z.ad 54 i0), .int n]) (n := 2) (Nat.le_of_ble_eq_true rfl)
  rw [lg_entry_eq]
  generalize (lg_sl ([.ref (Z.ad 54 i0), .int n]) ++ List.replicate (2 - (lg_sl ([.ref (Z.ad 54 i0), .int n])).length) Slot.unset).toArray = ls at hl ⊢
  have hl : lv_has ls 2 [(0, .ref (Z.ad 54 i0)), (1, .int n)] := hl
  obtain ⟨mi, hMi⟩ := hTb.2.2.2.1
  have hAr := hK.2.2.1 54 (by decide) (by decide)
  have hc0 := (hM 54 i0 hal).1 (by decide)
  unfold cC at hc0
  rw [if_neg (by decide), if_neg (by decide)] at hc0
  have hle : cLeR Z g 54 i0 = old := by
    show (g 1729 i0).toInt.toNat = old
    omega
  rw [hle] at hc0
  refine lv_aload_n hx hb dJ7_copyOf_1904c_0 rfl (lv_at hl 0 rfl) ?_
  refine lv_iload_n hx hb dJ7_copyOf_1904c_1 rfl (lv_at hl 1 rfl) ?_
  refine lv_aload_n hx hb dJ7_copyOf_1904c_2 rfl (lv_at hl 0 rfl) ?_
  refine va_getC (rest := [.int n, .ref (Z.ad 54 i0)]) (C := "[Ljava/lang/Object;") hx hb (hml.trans hl.1.symm) hown (hts _ (wk_in kl_J7_86)) (va_Dc.use hTb.2.2.1) (hts _ (wk_in kz_8_24)) (hts _ (wk_in kz_8_25)) (hts _ (wk_in kz_8_26)) hMi ⟨_, hc0, rfl, va_nmO hAr.2 (by decide)⟩ (Nat.le_of_ble_eq_true rfl) (Nat.le_of_ble_eq_true rfl) dJ7_copyOf_1904c_3 ?_
  refine k_raw (rest := []) (va_runS (As := [.ref (Z.ad 54 i0), .int n, .ref mi]) (rest := []) ⟨hx, hb, hml, hown, hts⟩ (c_kcopyOf3 l (cA := G.2.2.2.2 54) (Z.ad 54 i0) mi old N s.heap.size (fun k => cTe Z (g (32 * 54) (16777216 * i0 + k)) 54 i0 k) n hn hN) (va_cwS 3 hts (wk_T kt_J7_copyOf_6403c kl_J7_300 kn_J7 (wk_all kd_J7_copyOf_6403c)) rfl rfl rfl (by decide +kernel) ⟨Nat.le_of_ble_eq_true rfl, Nat.le_of_ble_eq_true rfl⟩) ⟨fun a U gg mk q => ?_, fun U hU hW => ?_⟩ rfl rfl hl.1 rfl (lv_room (Nat.le_of_ble_eq_true rfl)) dJ7_copyOf_1904c_6 ⟨Nat.le_refl 1, Nat.le_of_eq (Nat.zero_add N)⟩) (fun v st t L h0 hq hL => ?_)
  · obtain ⟨q0, ⟨q1, q2⟩, q3, ⟨q4, q5⟩, q6, q7⟩ := q
    exact ⟨q0, ⟨q1, q2⟩, q3, ⟨arrOfT_moved (Vm.Alike.refl U.vm) q4, q5.moved (Vm.Alike.refl U.vm)⟩, q6.moved (Vm.Alike.refl U.vm), q7.moved (Vm.Alike.refl U.vm)⟩
  · have hK' := hK.moved hW.alike
    have hAr' := hK'.2.2.1 54 (by decide) (by decide)
    refine ⟨rfl, ⟨by rw [hU]; exact hc0, fun i hi y hy => ?_⟩, by rw [hU], hAr', hMi.moved hW.alike, (hTb.2.1 "java/lang/Object" (by decide)).moved hW.alike⟩
    have hy' : cOpt Z 1 (g 1728 (16777216 * i0 + i)) = some y := hy
    have h4 := (hJ.2.2.2.2.2 (16777216 * i0 + i)).2.1
    rcases h4 with z | z
    · rw [cOpt_none z] at hy'
      cases hy'
    · have hnn : 0 ≤ (g 1728 (16777216 * i0 + i)).toInt := by
        rcases (by omega : (g 1728 (16777216 * i0 + i)).toInt < 0 ∨ 0 ≤ (g 1728 (16777216 * i0 + i)).toInt) with w | w
        · rw [cOpt_none w] at hy'
          cases hy'
        · exact w
      rw [cOpt_some hnn] at hy'
      cases hy'
      exact k_any hK' (hTb.moved hW.alike) (by rw [hU]; exact hM) z
  obtain ⟨ev, e1, e2, e3⟩ := hq
  cases ev
  have hcp : va_cpy (fun k => cTe Z (g (32 * 54) (16777216 * i0 + k)) 54 i0 k) (fun _ => none) 0 0 old = (fun k => if k < old then cOpt Z 1 (g 1728 (16777216 * i0 + k)) else none) := by
    funext k
    unfold va_cpy
    by_cases hk : k < old
    · rw [if_pos (by omega), if_pos hk, Nat.zero_add, Nat.sub_zero]
      rfl
    · rw [if_neg (by omega), if_neg hk]
  rw [hcp] at e1
  rw [Nat.zero_add, Nat.zero_add]
  exact W.aret hx hb hr (Or.inr ⟨_, rfl⟩) (Or.inr ⟨_, rfl⟩) (fun u hu _ => ⟨rfl, by rw [hu]; exact e1, by rw [hu]; exact e2, fun q hq => by rw [hu, e3 q hq, h0]⟩) (fun q hq => hL q hq) dJ7_copyOf_1904c_9
def rm_kgrow1 (N : Nat) : Room := { frames := 3, cells := 1, slots := N, locals := 8 + (4 + 11) + (8 + (4 + 11) + 30) }
section KGrow
variable {p : Program} {l : Launch} {e : Env} {R : Room} {s : State} {m : MethodId} {args : Array Value} {below : List Frame} {meth : Method} {c : Code} {H H' : Heap} {locs locs' : List Loc} {cells slots pc : Nat} {Q : State → Prop} {ls : Array Slot}
variable {cc : ByteArray} {G : cG} {Z : cZ} {g : mSt} {Ts : List Cond} {X : Int}
theorem k_grown (x : cXA p c cc s args Ts m G Z (cAf Z s.heap.size) RJx4a65c s.heap) (L : cL G Z (cAf Z s.heap.size) s.heap X g H locs) (i0 old N : Nat) (cp : Int32) (hJ : cJ Z g) (hi0 : i0 < 2 * Z.n) (hold : (g 1729 i0).toInt = (old : Int)) (hsz : (g 386 i0).toInt ≤ (old : Int)) (hcp : cp.toInt = (N : Int)) (hN : (old = 0 ∧ N = 10) ∨ (10 ≤ old ∧ N = old + old / 2)) (hN2 : N ≤ 10000000)
    (z1 : H'.size = H.size + 1) (o1 : ∀ q : Nat, q < H.size → H'[q]? = H[q]?) (hL : ∀ q ∈ locs', cAf Z s.heap.size q.base) (eA : H'[H.size]? = some (vp_cell (G.2.2.2.2 54) (N, .inr (.inr (.inr (.inr (fun k => if k < old then cOpt Z 1 (g 1728 (16777216 * i0 + k)) else none)))))))
    (hr : meth.sig.returnType = some (.array (.object "java/lang/Object"))) (hlocks : meth.locks = false) (hw : Cond.fieldLink RJx4a65c 9 "java/util/ArrayList" "elementData" "[Ljava/lang/Object;" ∈ Ts) (d1 : decode cc pc = .ok (.putfield 9, 3)) (d2 : decode cc (pc + 3) = .ok (.areturn, 1)) :
    W p l e R s m args below meth c H' locs' 1 N (MQ below (kE 1 N (cAf Z s.heap.size) (cQrA G Z X (fun a Z1 g1 => a = Z1.ad 54 i0 ∧ Z1.al 54 i0 ∧ mFr [385, 1728, 1729] g g1 ∧ cJ Z1 g1 ∧ (g1 1729 i0).toInt = (N : Int) ∧ Z1.w 2 = Z.w 2))) args s 1 N (cAf Z s.heap.size)) (F0 m pc ls [.ref H.size, .ref (Z.ad 12 i0), .ref H.size]) := by
  have x' := x
  obtain ⟨⟨hx, hb, hts, hin, hown, hK1, hA, hZ, hh, hne, hAd⟩, hE, hB⟩ := x'
  have hal0 : Z.al 12 i0 := hZ.2 12 i0 hi0
  have hlt : ∀ K i, Z.al K i → Z.ad K i < H.size := fun K i h => L.1.lt h
  have hM' : cH G Z g H' := L.1.keep (fun K i h => o1 _ (hlt K i h))
  refine k_put (ty := tyJx4a65c 1) hx hb hts hin hown hK1 12 (hM'.ob hal0 rfl) 1 rfl rfl (tyJx4a65c_ok 1 (by decide)) rfl rfl hw d1 (fun H1 O1 s1 q1 => ?_)
  have hcaps : ∀ i, Z.al 54 i → (g 1729 i).toInt ≤ 10000000 := fun i hi => by
    rcases (hJ.2.2.2.2.1.2 i ((hJ.2.2.2.2.1.1.1 54 i hi).2.1 rfl)).1 with z | z
    · omega
    · exact z.2.2.2
  have hM1 : cH G (zLs Z i0 H.size N) (gLs g i0 old cp) H1 := hM'.grow (fun K i h => (hJ.2.2.2.2.1.1.1 K i h).1) hcaps hcp (by omega) (by rw [q1 _ (fun z => by have := hlt 12 i0 hal0; omega)]; exact eA) O1 (fun K i hi hne2 => q1 _ (fun z => hne2 (hA K i 12 i0 hi hal0 z)))
  have hz : cZl Z (zLs Z i0 H.size N) 1 N := cZl_grow
  have x1 : cXA p c cc s args Ts m G (zLs Z i0 H.size N) (cAf Z s.heap.size) RJx4a65c s.heap := x.next (H := H) hz (cAp_grow hA (fun K i h z => by have := hlt K i h; omega)) (cSt_grow hZ) L.2.1.1 (fun q h => (cAd_grow h).elim Or.inl (fun z => Or.inr (by omega)))
  have hS := L.2.1
  have hmem : cAf Z s.heap.size (Z.ad 12 i0) := Or.inl ⟨12, i0, hal0, by decide, rfl⟩
  have L1 : cL G (zLs Z i0 H.size N) (cAf Z s.heap.size) s.heap X (gLs g i0 old cp) H1 (locs' ++ [⟨Z.ad 12 i0, G.2.1 12 1⟩]) := by
    refine ⟨hM1, ⟨by have := hS.1; omega, fun q h1 h2 => ?_, fun q hq => ?_⟩, cI_grow L.2.2⟩
    · rw [q1 q (fun z => h2 (by rw [z]; exact hmem)), o1 q (Nat.lt_of_lt_of_le h1 hS.1)]
      exact hS.2.1 q h1 h2
    · rcases List.mem_append.mp hq with h | h
      · exact hL q h
      · rw [List.mem_singleton.mp h]
        exact hmem
  have e54 : (zLs Z i0 H.size N).ad 54 i0 = H.size := if_pos ⟨rfl, rfl⟩
  exact k_aret x1 L1 hr (Or.inr ⟨_, rfl⟩) hlocks (Int.le_refl _) hz ⟨e54.symm, Or.inr ⟨rfl, rfl⟩, mFr_grow, cJ_grow hJ hZ.1.2 hi0 hsz hold hcp hN hN2, by rw [gLs_cap]; exact hcp, lwo (by omega)⟩ (Nat.le_refl _) (Nat.le_refl _) d2
end KGrow
set_option maxHeartbeats 4000000 in
set_option maxRecDepth 100000 in
theorem c_kgrow1 (l : Launch) {G : cG} {Z : cZ} (X : Int) (g : mSt) (i0 sz old N : Nat) (p1 : Int32) (hX : 0 ≤ X ∧ X ≤ 2000000000) (hJ : cJ Z g) (hi0 : i0 < 2 * Z.n) (hold : (g 1729 i0).toInt = (old : Int)) (hsz : (g 386 i0).toInt ≤ (old : Int)) (hp1 : p1.toInt = (old : Int) + 1) (hN : (old = 0 ∧ N = 10) ∨ (10 ≤ old ∧ N = old + old / 2)) (hN2 : N ≤ 10000000) :
    Met l yJx4a65c_grow_92f84 (wk (Cond.code yJx4a65c_grow_92f84 cJx4a65c_grow_92f84 4 (some (.array (.object "java/lang/Object"))))) (rm_kgrow1 N) (va_Pc [.ref (Z.ad 12 i0), .int p1] (cPreA G Z X g sz)) (kE 1 N (cAf Z sz) (cQrA G Z X (fun a Z1 g1 => a = Z1.ad 54 i0 ∧ Z1.al 54 i0 ∧ mFr [385, 1728, 1729] g g1 ∧ cJ Z1 g1 ∧ (g1 1729 i0).toInt = (N : Int) ∧ Z1.w 2 = Z.w 2))) 1 N (cAf Z sz) := by
  refine Met.ofW (cc := cJx4a65c_grow_92f84) (maxL := 4) (ret := (some (.array (.object "java/lang/Object")))) (by decide) rfl ?_
  intro p e s m args below meth c s₁ B hml hv
  obtain ⟨rfl, hv⟩ := hv
  have hsz0 := hv.2.1
  subst hsz0
  have hr := B.returns
  have hlocks := B.notSynchronized
  obtain ⟨x, L⟩ := k_start B rfl (fun w h => wk_in h) hv
  have hx := x.1.1
  have hb := x.1.2.1
  have hts := x.1.2.2.1
  have hown := x.1.2.2.2.2.1
  have hz := x.1.2.2.2.2.2.2.2.1
  have hzn := hz.1
  have hal0 : Z.al 12 i0 := hz.2 12 i0 hi0
  have hl := lv_entry ([.ref (Z.ad 12 i0), .int p1]) (n := 4) (Nat.le_of_ble_eq_true rfl)
  rw [lg_entry_eq]
  generalize (lg_sl ([.ref (Z.ad 12 i0), .int p1]) ++ List.replicate (4 - (lg_sl ([.ref (Z.ad 12 i0), .int p1])).length) Slot.unset).toArray = ls at hl ⊢
  have hl : lv_has ls 4 [(0, .ref (Z.ad 12 i0)), (1, .int p1)] := hl
  have k0 : (0 : Int32).toInt = 0 := by decide
  have k1 : (1 : Int32).toInt = 1 := by decide
  refine lv_aload_n hx hb dJx4a65c_grow_92f84_0 rfl (lv_at hl 0 rfl) ?_
  rcases (hJ.2.2.2.2.1.2 i0 hi0).1 with hc | hc
  · -- none yet
    have h0 : old = 0 ∧ N = 10 := by omega
    obtain ⟨rfl, rfl⟩ := h0
    have hal55 : Z.al 55 0 := hz.2 55 0 (show 0 < 1 by decide)
    refine c_geto (w := .ref (Z.ad 55 0)) x.1 L 12 i0 1 385 hal0 rfl rfl (by rw [cTo_emp hc.1]; rfl) (wk_in kf_Jx4a65c_9) dJx4a65c_grow_92f84_1 ?_
    refine c_len0 x L dJx4a65c_grow_92f84_4 (fun n en => ?_)
    have en : n.toInt = 0 := en
    refine lv_istore_n (lv' := [(2, .int n), (0, .ref (Z.ad 12 i0)), (1, .int p1)]) hx hb dJx4a65c_grow_92f84_5 rfl hl (by decide) rfl (fun ls hl => ?_)
    refine lv_iload_n hx hb dJx4a65c_grow_92f84_6 rfl (lv_at hl 0 rfl) ?_
    refine lv_if_gt (tgt := 20) hx hb dJx4a65c_grow_92f84_7 (by decide) (fun z => ?_) (fun _ => ?_)
    · exfalso
      rw [Int32.lt_iff_toInt_lt] at z
      omega
    refine lv_aload_n hx hb dJx4a65c_grow_92f84_10 rfl (lv_at hl 1 rfl) ?_
    refine c_geto (w := .ref (Z.ad 55 0)) x.1 L 12 i0 1 385 hal0 rfl rfl (by rw [cTo_emp hc.1]; rfl) (wk_in kf_Jx4a65c_9) dJx4a65c_grow_92f84_11 ?_
    refine va_gets hx hb x.2.1.2 L.2.1 hown (hts _ (wk_in kf_Jx4a65c_39)) (fun y h => h) dJx4a65c_grow_92f84_14 ?_
    refine lv_acmp_eq (rx := some (Z.ad 55 0)) (ry := some (Z.ad 55 0)) (tgt := 45) hx hb dJx4a65c_grow_92f84_17 (by decide) (fun _ => ?_) (fun z => absurd rfl z)
    refine lv_aload_n hx hb dJx4a65c_grow_92f84_45 rfl (lv_at hl 1 rfl) ?_
    refine lv_bipush (v := 10) hx hb dJx4a65c_grow_92f84_46 (by decide) ?_
    refine lv_iload_n hx hb dJx4a65c_grow_92f84_48 rfl (lv_at hl 2 rfl) ?_
    refine va_mmax (rest := [.ref (Z.ad 12 i0)]) hx hb (hml.trans hl.1.symm) hown (hts _ (wk_in kl_Jx4a65c_79)) (hts _ (wk_in kw_max.1)) (hts _ (wk_in kw_max.2.1)) (hts _ (wk_in kw_max.2.2)) (Nat.le_of_ble_eq_true rfl) (Nat.le_of_ble_eq_true rfl) (Nat.zero_le _) (Nat.zero_le _) dJx4a65c_grow_92f84_49 ?_
    have hmx : (if (10 : Int32) < p1 then p1 else 10) = 10 := if_neg (by rw [Int32.lt_iff_toInt_lt]; have : (10 : Int32).toInt = 10 := (by decide); omega)
    rw [hmx]
    have hAr := x.1.2.2.2.2.2.1.2.2.1 54 (by decide) (by decide)
    refine W.anew hx hb hown (hts _ (wk_in kc_lJx4a65c_7)) (va_AO.use (x.2.1.1.2.1 "java/lang/Object" (by decide))) rfl dJx4a65c_grow_92f84_52 rfl (by decide) (by decide) (Nat.le_refl 1) (Nat.le_refl 10) fun cA kA comp f1 f2 f3 f4 => ?_
    have hcA : cA = G.2.2.2.2 54 := by
      obtain ⟨_, _, _, _, _, h4⟩ := hAr.2
      exact Option.some.inj (f1.symm.trans h4)
    subst hcA
    generalize hH1 : s.heap.push ({ cls := G.2.2.2.2 54, slots := Array.replicate (10 : Int32).toNatClampNeg .null, vm := .none } : Cell) = H1
    have z1 : H1.size = s.heap.size + 1 := by rw [← hH1, Array.size_push]
    have e1 : H1[s.heap.size]? = some (vp_cell (G.2.2.2.2 54) (10, .inr (.inr (.inr (.inr (fun k => if k < 0 then cOpt Z 1 (g 1728 (16777216 * i0 + k)) else none)))))) := by
      have e0 : H1[s.heap.size]? = some (arrV (G.2.2.2.2 54) 10 (fun _ => .null)) := by rw [← hH1, Array.getElem?_push_size, ← arrV_new]; rfl
      rw [e0, vp_cell_q]
      exact congrArg some (arrV_cg (fun k _ => by rw [if_neg (by omega)]; rfl))
    have o1 : ∀ q : Nat, q < s.heap.size → H1[q]? = s.heap[q]? := fun q hq => by rw [← hH1, Array.getElem?_push, if_neg (Nat.ne_of_lt hq)]
    refine W.eq (g2 := F0 m 55 ls [.ref s.heap.size, .ref (Z.ad 12 i0)]) rfl ?_
    refine lv_dup_x1 hx hb dJx4a65c_grow_92f84_55 rfl rfl ?_
    exact k_grown (locs' := []) x L i0 0 10 10 hJ hi0 hold hsz (by decide) (Or.inl ⟨rfl, rfl⟩) hN2 z1 o1 (fun q h => by cases h) e1 hr hlocks (wk_in kf_Jx4a65c_9) dJx4a65c_grow_92f84_56 dJx4a65c_grow_92f84_59
  · -- its own
    have h10 : 10 ≤ old ∧ N = old + old / 2 := by omega
    refine c_geto (w := .ref (Z.ad 54 i0)) x.1 L 12 i0 1 385 hal0 rfl rfl (by rw [cTo_own hc.1]; rfl) (wk_in kf_Jx4a65c_9) dJx4a65c_grow_92f84_1 ?_
    refine c_lenr x.1 L 54 i0 hc.2.1 rfl (show (g 1729 i0).toInt.toNat ≤ 2147483647 by omega) dJx4a65c_grow_92f84_4 (fun n en => ?_)
    have en : n.toInt = (((g 1729 i0).toInt.toNat : Nat) : Int) := en
    have en2 : n.toInt = (old : Int) := by omega
    have hnn : n = nI old := Int32.toInt_inj.mp (by rw [en2]; exact (nI_toInt (n := old) (by omega)).symm)
    refine lv_istore_n (lv' := [(2, .int n), (0, .ref (Z.ad 12 i0)), (1, .int p1)]) hx hb dJx4a65c_grow_92f84_5 rfl hl (by decide) rfl (fun ls hl => ?_)
    refine lv_iload_n hx hb dJx4a65c_grow_92f84_6 rfl (lv_at hl 0 rfl) ?_
    refine lv_if_gt (tgt := 20) hx hb dJx4a65c_grow_92f84_7 (by decide) (fun _ => ?_) (fun z => absurd (show 0 < n by rw [Int32.lt_iff_toInt_lt]; omega) z)
    refine lv_iload_n hx hb dJx4a65c_grow_92f84_20 rfl (lv_at hl 0 rfl) ?_
    refine lv_iload_n hx hb dJx4a65c_grow_92f84_21 rfl (lv_at hl 2 rfl) ?_
    refine lv_iload_n hx hb dJx4a65c_grow_92f84_22 rfl (lv_at hl 0 rfl) ?_
    refine lv_isub hx hb dJx4a65c_grow_92f84_23 ?_
    refine lv_topi (fun d ed => ?_)
    have hd : d.toInt = 1 := by
      have := ti_sub (x := p1) (y := n) (by omega) (by omega)
      rw [← ed] at this
      omega
    refine lv_iload_n hx hb dJx4a65c_grow_92f84_24 rfl (lv_at hl 0 rfl) ?_
    refine lv_iconst (v := 1) hx hb dJx4a65c_grow_92f84_25 (by decide) ?_
    refine lv_ishr hx hb dJx4a65c_grow_92f84_26 ?_
    refine lv_topi (fun h eh => ?_)
    have hh : h.toInt = ((old / 2 : Nat) : Int) := by
      have k := pk_shrN (n := old) (by omega) ((1 : Int32) &&& 31) 1 (by decide)
      rw [Nat.pow_one] at k
      rw [eh, hnn, k]
      exact nI_toInt (by omega)
    refine c_si (As := [.int n, .int d, .int h]) (rest := []) x.1 hml L (c_knewLength l X g n d h hX ⟨by omega, by omega⟩ ⟨by omega, by omega⟩ ⟨by omega, by omega⟩) (wk_T kt_J8_newLength_cabcc kl_Jx4a65c_73 kn_J8 (wk_all kd_J8_newLength_cabcc)) rfl ⟨rfl, rfl⟩ hd_knewLength ⟨Nat.le_of_ble_eq_true rfl, Nat.le_of_ble_eq_true rfl⟩ rfl hl.1 rfl (lv_room (Nat.le_of_ble_eq_true rfl)) dJx4a65c_grow_92f84_27 (fun v g2 H2 k2 hp2 L2 => ?_)
    have hg2 : g2 = g := funext fun j => hp2.1 j (by simp)
    subst hg2
    have hv : v.toInt = (N : Int) := by
      have := hp2.2.2
      omega
    refine lv_istore_n (lv' := [(3, .int v), (2, .int n), (0, .ref (Z.ad 12 i0)), (1, .int p1)]) hx hb dJx4a65c_grow_92f84_30 rfl hl (by decide) rfl (fun ls hl => ?_)
    refine lv_aload_n hx hb dJx4a65c_grow_92f84_31 rfl (lv_at hl 2 rfl) ?_
    refine lv_aload_n hx hb dJx4a65c_grow_92f84_32 rfl (lv_at hl 2 rfl) ?_
    refine c_geto (w := .ref (Z.ad 54 i0)) x.1 L2 12 i0 1 385 hal0 rfl rfl (by rw [cTo_own hc.1]; rfl) (wk_in kf_Jx4a65c_9) dJx4a65c_grow_92f84_33 ?_
    refine lv_iload_n hx hb dJx4a65c_grow_92f84_36 rfl (lv_at hl 0 rfl) ?_
    refine k_raw (va_runS (As := [.ref (Z.ad 54 i0), .int v]) (rest := [.ref (Z.ad 12 i0)]) ⟨hx, hb, hml, hown, hts⟩ (c_kcopyOf2 l X g2 i0 H2.size old N v hv hc.2.1 hJ hold (by omega)) (va_cwS 2 hts (wk_T kt_J7_copyOf_1904c kl_Jx4a65c_66 kn_J7 (wk_all kd_J7_copyOf_1904c)) rfl rfl rfl (by decide +kernel) ⟨Nat.le_of_ble_eq_true rfl, Nat.le_of_ble_eq_true rfl⟩) ⟨cPreA.blind, fun U hU hW => k_pre x L2 U hU hW⟩ rfl rfl hl.1 rfl (lv_room (Nat.le_of_ble_eq_true rfl)) dJx4a65c_grow_92f84_37 ⟨Nat.le_refl 1, Nat.le_of_eq (Nat.zero_add N)⟩) (fun w st t L0 h0 hq hL0 => ?_)
    obtain ⟨ew, e1, e2, e3⟩ := hq
    cases ew
    rw [Nat.zero_add, Nat.zero_add]
    refine W.eq (g2 := F0 m 40 ls [.ref H2.size, .ref (Z.ad 12 i0)]) rfl ?_
    refine lv_dup_x1 hx hb dJx4a65c_grow_92f84_40 rfl rfl ?_
    refine k_grown x L2 i0 old N v hJ hi0 hold hsz hv hN hN2 e2 (fun q hq => by rw [e3 q hq, h0]) (fun q hq => ?_) e1 hr hlocks (wk_in kf_Jx4a65c_9) dJx4a65c_grow_92f84_41 dJx4a65c_grow_92f84_44
    rcases List.mem_append.mp hq with h | h
    · exact L2.2.1.2.2 q h
    · rcases hL0 q h with z | z
      · rw [z]
        exact Or.inl ⟨54, i0, hc.2.1, by decide, rfl⟩
      · exact Or.inr (Nat.le_trans L2.2.1.1 z)
def rm_kgrow0 (N : Nat) : Room := { frames := 4, cells := 1, slots := N, locals := 8 + (4 + 11) + (8 + (4 + 11) + (8 + (4 + 11) + 30)) }
theorem hd_kgrow1 : yJx4a65c_grow_92f84.cls = cRn 12 ∧ yJx4a65c_grow_92f84.cls ≠ "java/lang/invoke/MethodHandle" ∧ yJx4a65c_grow_92f84.cls ≠ "java/lang/invoke/VarHandle" ∧ (parseMethodDescriptor yJx4a65c_grow_92f84.desc).map (fun d => d.parameters.length) = some 1 := by decide +kernel
theorem hd_kgrow0 : yJx4a65c_grow_d5877.cls = cRn 12 ∧ yJx4a65c_grow_d5877.cls ≠ "java/lang/invoke/MethodHandle" ∧ yJx4a65c_grow_d5877.cls ≠ "java/lang/invoke/VarHandle" ∧ (parseMethodDescriptor yJx4a65c_grow_d5877.desc).map (fun d => d.parameters.length) = some 0 := by decide +kernel
set_option maxHeartbeats 4000000 in
set_option maxRecDepth 100000 in
theorem c_kgrow0 (l : Launch) {G : cG} {Z : cZ} (X : Int) (g : mSt) (i0 sz old N : Nat) (hX : 0 ≤ X ∧ X ≤ 2000000000) (hJ : cJ Z g) (hi0 : i0 < 2 * Z.n) (hold : (g 1729 i0).toInt = (old : Int)) (hsz : (g 386 i0).toInt = (old : Int)) (hN : (old = 0 ∧ N = 10) ∨ (10 ≤ old ∧ N = old + old / 2)) (hN2 : N ≤ 10000000) :
    Met l yJx4a65c_grow_d5877 (wk (Cond.code yJx4a65c_grow_d5877 cJx4a65c_grow_d5877 1 (some (.array (.object "java/lang/Object"))))) (rm_kgrow0 N) (va_Pc [.ref (Z.ad 12 i0)] (cPreA G Z X g sz)) (kE 1 N (cAf Z sz) (cQrA G Z X (fun a Z1 g1 => a = Z1.ad 54 i0 ∧ Z1.al 54 i0 ∧ mFr [385, 1728, 1729] g g1 ∧ cJ Z1 g1 ∧ (g1 1729 i0).toInt = (N : Int) ∧ Z1.w 2 = Z.w 2))) 1 N (cAf Z sz) := by
  refine Met.ofW (cc := cJx4a65c_grow_d5877) (maxL := 1) (ret := (some (.array (.object "java/lang/Object")))) (by decide) rfl ?_
  intro p e s m args below meth c s₁ B hml hv
  obtain ⟨rfl, hv⟩ := hv
  have hsz0 := hv.2.1
  subst hsz0
  have hr := B.returns
  have hlocks := B.notSynchronized
  obtain ⟨x, L⟩ := k_start B rfl (fun w h => wk_in h) hv
  have hx := x.1.1
  have hb := x.1.2.1
  have hts := x.1.2.2.1
  have hown := x.1.2.2.2.2.1
  have hz := x.1.2.2.2.2.2.2.2.1
  have hal0 : Z.al 12 i0 := hz.2 12 i0 hi0
  have hl := lv_entry ([.ref (Z.ad 12 i0)]) (n := 1) (Nat.le_of_ble_eq_true rfl)
  rw [lg_entry_eq]
  generalize (lg_sl ([.ref (Z.ad 12 i0)]) ++ List.replicate (1 - (lg_sl ([.ref (Z.ad 12 i0)])).length) Slot.unset).toArray = ls at hl ⊢
  have hl : lv_has ls 1 [(0, .ref (Z.ad 12 i0))] := hl
  have k1 : (1 : Int32).toInt = 1 := by decide
  refine lv_aload_n hx hb dJx4a65c_grow_d5877_0 rfl (lv_at hl 0 rfl) ?_
  refine lv_aload_n hx hb dJx4a65c_grow_d5877_1 rfl (lv_at hl 0 rfl) ?_
  refine c_geti x.1 L 12 i0 2 386 hal0 rfl rfl (wk_in kf_Jx4a65c_48) dJx4a65c_grow_d5877_2 (fun v ev _ => ?_)
  refine lv_iconst (v := 1) hx hb dJx4a65c_grow_d5877_5 (by decide) ?_
  refine lv_iadd hx hb dJx4a65c_grow_d5877_6 ?_
  refine lv_topi (fun d ed => ?_)
  have hv0 : v.toInt = (old : Int) := by rw [ev]; exact hsz
  have hd : d.toInt = (old : Int) + 1 := by
    have := ti_add (x := v) (y := 1) (by omega) (by omega)
    rw [← ed] at this
    omega
  refine k_callr x L (k_runV (As := [.int d]) (rest := []) ⟨hx, hb, hml, hown, hts⟩ (c_kgrow1 l X g i0 s.heap.size old N d hX hJ hi0 hold (by omega) hd hN hN2) (cwV 1 hts (wk_V kd_Jx4a65c_grow_92f84 kl_Jx4a65c_69 ki_Jx4a65c_grow_92f84 ks_Jx4a65c_Jx4a65c_grow_92f84 kn_Jx4a65c) rfl rfl rfl hd_kgrow1 ⟨Nat.le_of_ble_eq_true rfl, Nat.le_of_ble_eq_true rfl⟩) ⟨cPreA.blind, c_recv x.1 L hal0 rfl, fun U hU hW => k_pre x L U hU hW⟩ rfl rfl hl.1 rfl (lv_room (Nat.le_of_ble_eq_true rfl)) dJx4a65c_grow_d5877_7 ⟨Nat.le_refl 1, Nat.le_of_eq (Nat.zero_add N)⟩) (fun a Z1 g1 H1 locs1 k n hk hn hp hz1 x1 L1 => ?_)
  rw [Nat.zero_add, Nat.zero_add]
  exact k_aret x1 L1 hr (Or.inr ⟨_, rfl⟩) hlocks (Int.le_refl _) hz1 hp hk hn dJx4a65c_grow_d5877_10
