/-! what the lists and Call.assembler do, exactly -/
/-- the world has grown by at most so much -/
def cZg (Z Z1 : cZ) (k n : Nat) : Prop := Z1.n = Z.n ∧ (∀ K i, Z.al K i → Z1.al K i) ∧ Z1.w 0 ≤ Z.w 0 + k ∧ Z1.w 1 ≤ Z.w 1 + n
theorem cZg_of {Z Z1 : cZ} {k n mc ms : Nat} (h : cZl Z Z1 k n) (hk : k ≤ mc) (hn : n ≤ ms) : cZg Z Z1 mc ms := ⟨h.1, h.2.1, by rw [h.2.2.2.1]; omega, by rw [h.2.2.2.2]; omega⟩
/-- a list's array has grown: what was in it is in it -/
def gEn (g g1 : mSt) (i0 old : Nat) : Prop := mFi [(385, i0, 1), (1728, i0, 16777216), (1729, i0, 1)] g g1 ∧ ∀ k, k < old → g1 1728 (16777216 * i0 + k) = g 1728 (16777216 * i0 + k)
theorem gEn_rf {g : mSt} {i0 old : Nat} : gEn g g i0 old := ⟨mFi.rf, fun _ _ => rfl⟩
theorem gEn_gLs {g : mSt} {i0 old : Nat} {cp : Int32} (h : old ≤ 16777216) : gEn g (gLs g i0 old cp) i0 old := by
  refine ⟨fun j i q => ?_, fun k hk => ?_⟩
  · unfold gLs
    rw [if_neg, if_neg, if_neg]
    · rintro ⟨rfl, e, _⟩
      exact q (mIn_at 1 rfl (Or.inr e))
    · rintro ⟨rfl, rfl⟩
      exact q (mIn_at 2 rfl (Or.inr (Nat.div_one _)))
    · rintro ⟨rfl, rfl⟩
      exact q (mIn_at 0 rfl (Or.inr (Nat.div_one _)))
  · unfold gLs
    rw [if_neg (by omega), if_neg (by omega), if_neg]
    rintro ⟨_, _, e⟩
    omega
/-- one more in a list -/
def wAdd (g g1 : mSt) (i0 : Nat) (v : Int32) : Prop := mFi [(384, i0, 1), (385, i0, 1), (386, i0, 1), (1728, i0, 16777216), (1729, i0, 1)] g g1 ∧ g1 1728 (16777216 * i0 + (g 386 i0).toInt.toNat) = v ∧ (∀ k : Nat, (k : Int) < (g 386 i0).toInt → g1 1728 (16777216 * i0 + k) = g 1728 (16777216 * i0 + k)) ∧ (g1 386 i0).toInt = (g 386 i0).toInt + 1 ∧ ((g1 1729 i0).toInt = (g 1729 i0).toInt ∨ ((g 386 i0).toInt = (g 1729 i0).toInt ∧ ((g1 1729 i0).toInt = 10 ∨ 2 * (g1 1729 i0).toInt ≤ 3 * (g 1729 i0).toInt)))
theorem mFi_at {S : List (Nat × Nat × Nat)} {g g1 : mSt} (h : mFi S g g1) (j i : Nat) (q : ∀ t ∈ S, t.1 = j → t.2.2 ≠ 0 ∧ i / t.2.2 ≠ t.2.1) : g1 j i = g j i := h j i (by
  rintro ⟨t, ht, e, c⟩
  have := q t ht e
  omega)

section DKGrow
variable {p : Program} {l : Launch} {e : Env} {R : Room} {s : State} {m : MethodId} {args : Array Value} {below : List Frame} {meth : Method} {c : Code} {H H' : Heap} {locs locs' : List Loc} {cells slots pc : Nat} {Q : State → Prop} {ls : Array Slot}
variable {cc : ByteArray} {G : cG} {Z : cZ} {g : mSt} {Ts : List Cond} {X : Int}
theorem dk_grown (x : cXA p c cc s args Ts m G Z (cAf Z s.heap.size) RJx4a65c s.heap) (L : cL G Z (cAf Z s.heap.size) s.heap X g H locs) (i0 old N : Nat) (cp : Int32) (hJ : cJ Z g) (hi0 : i0 < 2 * Z.n) (hold : (g 1729 i0).toInt = (old : Int)) (hsz : (g 386 i0).toInt ≤ (old : Int)) (hcp : cp.toInt = (N : Int)) (hN : (old = 0 ∧ N = 10) ∨ (10 ≤ old ∧ N = old + old / 2)) (hN2 : N ≤ 10000000)
    (z1 : H'.size = H.size + 1) (o1 : ∀ q : Nat, q < H.size → H'[q]? = H[q]?) (hL : ∀ q ∈ locs', cAf Z s.heap.size q.base) (eA : H'[H.size]? = some (vp_cell (G.2.2.2.2 54) (N, .inr (.inr (.inr (.inr (fun k => if k < old then cOpt Z 1 (g 1728 (16777216 * i0 + k)) else none)))))))
    (hr : meth.sig.returnType = some (.array (.object "java/lang/Object"))) (hlocks : meth.locks = false) (hw : Cond.fieldLink RJx4a65c 9 "java/util/ArrayList" "elementData" "[Ljava/lang/Object;" ∈ Ts) (d1 : decode cc pc = .ok (.putfield 9, 3)) (d2 : decode cc (pc + 3) = .ok (.areturn, 1)) :
    W p l e R s m args below meth c H' locs' 1 N (MQ below (kE 1 N (cAf Z s.heap.size) (cQrA G Z X (fun a Z1 g1 => a = Z1.ad 54 i0 ∧ Z1.al 54 i0 ∧ mFr [385, 1728, 1729] g g1 ∧ cJ Z1 g1 ∧ (g1 1729 i0).toInt = (N : Int) ∧ Z1.w 2 = Z.w 2 ∧ gEn g g1 i0 old ∧ Z1.w 3 = Z.w 3))) args s 1 N (cAf Z s.heap.size)) (F0 m pc ls [.ref H.size, .ref (Z.ad 12 i0), .ref H.size]) := by
  have x' := x
  obtain ⟨⟨hx, hb, hts, hin, hown, hK1, hA, hZ, hh, hne, hAd⟩, hE, hB⟩ := x'
  have hal0 : Z.al 12 i0 := hZ.2 12 i0 hi0
  have hlt : ∀ K i, Z.al K i → Z.ad K i < H.size := fun K i h => L.1.lt h
  have hM' : cH G Z g H' := L.1.keep (fun K i h => o1 _ (hlt K i h))
  refine k_put (ty := tyJx4a65c 1) hx hb hts hin hown hK1 12 (hM'.ob hal0 rfl) 1 rfl rfl (tyJx4a65c_ok 1 (by decide)) rfl rfl hw d1 (fun H1 O1 s1 q1 => ?_)
  have hcaps : ∀ i, Z.al 54 i → (g 1729 i).toInt ≤ 10000000 := fun i hi => by
    rcases (hJ.2.2.2.2.1.2 i ((hJ.2.2.2.2.1.1.1 54 i hi).2.1 rfl)).1 with z | z
    · omega
    · exact z.2.2.2
  have hM1 : cH G (zLs Z i0 H.size N) (gLs g i0 old cp) H1 := hM'.grow (fun K i h => (hJ.2.2.2.2.1.1.1 K i h).1) hcaps hcp (by omega) (by rw [q1 _ (fun z => by have := hlt 12 i0 hal0; omega)]; exact eA) O1 (fun K i hi hne2 => q1 _ (fun z => hne2 (hA K i 12 i0 hi hal0 z)))
  have hz : cZl Z (zLs Z i0 H.size N) 1 N := cZl_grow
  have x1 : cXA p c cc s args Ts m G (zLs Z i0 H.size N) (cAf Z s.heap.size) RJx4a65c s.heap := x.next (H := H) hz (cAp_grow hA (fun K i h z => by have := hlt K i h; omega)) (cSt_grow hZ) L.2.1.1 (fun q h => (cAd_grow h).elim Or.inl (fun z => Or.inr (by omega)))
  have hS := L.2.1
  have hmem : cAf Z s.heap.size (Z.ad 12 i0) := Or.inl ⟨12, i0, hal0, by decide, rfl⟩
  have L1 : cL G (zLs Z i0 H.size N) (cAf Z s.heap.size) s.heap X (gLs g i0 old cp) H1 (locs' ++ [⟨Z.ad 12 i0, G.2.1 12 1⟩]) := by
    refine ⟨hM1, ⟨by have := hS.1; omega, fun q h1 h2 => ?_, fun q hq => ?_⟩, cI_grow L.2.2⟩
    · rw [q1 q (fun z => h2 (by rw [z]; exact hmem)), o1 q (Nat.lt_of_lt_of_le h1 hS.1)]
      exact hS.2.1 q h1 h2
    · rcases List.mem_append.mp hq with h | h
      · exact hL q h
      · rw [List.mem_singleton.mp h]
        exact hmem
  have e54 : (zLs Z i0 H.size N).ad 54 i0 = H.size := if_pos ⟨rfl, rfl⟩
  exact k_aret x1 L1 hr (Or.inr ⟨_, rfl⟩) hlocks (Int.le_refl _) hz ⟨e54.symm, Or.inr ⟨rfl, rfl⟩, mFr_grow, cJ_grow hJ hZ.1.2 hi0 hsz hold hcp hN hN2, by rw [gLs_cap]; exact hcp, lwo (by omega), gEn_gLs (by omega), lwo (by omega)⟩ (Nat.le_refl _) (Nat.le_refl _) d2
end DKGrow

set_option maxHeartbeats 4000000 in
set_option maxRecDepth 100000 in
theorem d_kgrow1 (l : Launch) {G : cG} {Z : cZ} (X : Int) (g : mSt) (i0 sz old N : Nat) (p1 : Int32) (hX : 0 ≤ X ∧ X ≤ 2000000000) (hJ : cJ Z g) (hi0 : i0 < 2 * Z.n) (hold : (g 1729 i0).toInt = (old : Int)) (hsz : (g 386 i0).toInt ≤ (old : Int)) (hp1 : p1.toInt = (old : Int) + 1) (hN : (old = 0 ∧ N = 10) ∨ (10 ≤ old ∧ N = old + old / 2)) (hN2 : N ≤ 10000000) :
    Met l yJx4a65c_grow_92f84 (wk (Cond.code yJx4a65c_grow_92f84 cJx4a65c_grow_92f84 4 (some (.array (.object "java/lang/Object"))))) (rm_kgrow1 N) (va_Pc [.ref (Z.ad 12 i0), .int p1] (cPreA G Z X g sz)) (kE 1 N (cAf Z sz) (cQrA G Z X (fun a Z1 g1 => a = Z1.ad 54 i0 ∧ Z1.al 54 i0 ∧ mFr [385, 1728, 1729] g g1 ∧ cJ Z1 g1 ∧ (g1 1729 i0).toInt = (N : Int) ∧ Z1.w 2 = Z.w 2 ∧ gEn g g1 i0 old ∧ Z1.w 3 = Z.w 3))) 1 N (cAf Z sz) := by
  refine Met.ofW (cc := cJx4a65c_grow_92f84) (maxL := 4) (ret := (some (.array (.object "java/lang/Object")))) (by decide) rfl ?_
  intro p e s m args below meth c s₁ B hml hv
  obtain ⟨rfl, hv⟩ := hv
  have hsz0 := hv.2.1
  subst hsz0
  have hr := B.returns
  have hlocks := B.notSynchronized
  obtain ⟨x, L⟩ := k_start B rfl (fun w h => wk_in h) hv
  have hx := x.1.1
  have hb := x.1.2.1
  have hts := x.1.2.2.1
  have hown := x.1.2.2.2.2.1
  have hz := x.1.2.2.2.2.2.2.2.1
  have hzn := hz.1
  have hal0 : Z.al 12 i0 := hz.2 12 i0 hi0
  have hl := lv_entry ([.ref (Z.ad 12 i0), .int p1]) (n := 4) (Nat.le_of_ble_eq_true rfl)
  rw [lg_entry_eq]
  generalize (lg_sl ([.ref (Z.ad 12 i0), .int p1]) ++ List.replicate (4 - (lg_sl ([.ref (Z.ad 12 i0), .int p1])).length) Slot.unset).toArray = ls at hl ⊢
  have hl : lv_has ls 4 [(0, .ref (Z.ad 12 i0)), (1, .int p1)] := hl
  have k0 : (0 : Int32).toInt = 0 := by decide
  have k1 : (1 : Int32).toInt = 1 := by decide
  refine lv_aload_n hx hb dJx4a65c_grow_92f84_0 rfl (lv_at hl 0 rfl) ?_
  rcases (hJ.2.2.2.2.1.2 i0 hi0).1 with hc | hc
  · -- none yet
    have h0 : old = 0 ∧ N = 10 := by omega
    obtain ⟨rfl, rfl⟩ := h0
    have hal55 : Z.al 55 0 := hz.2 55 0 (show 0 < 1 by decide)
    refine c_geto (w := .ref (Z.ad 55 0)) x.1 L 12 i0 1 385 hal0 rfl rfl (by rw [cTo_emp hc.1]; rfl) (wk_in kf_Jx4a65c_9) dJx4a65c_grow_92f84_1 ?_
    refine c_len0 x L dJx4a65c_grow_92f84_4 (fun n en => ?_)
    have en : n.toInt = 0 := en
    refine lv_istore_n (lv' := [(2, .int n), (0, .ref (Z.ad 12 i0)), (1, .int p1)]) hx hb dJx4a65c_grow_92f84_5 rfl hl (by decide) rfl (fun ls hl => ?_)
    refine lv_iload_n hx hb dJx4a65c_grow_92f84_6 rfl (lv_at hl 0 rfl) ?_
    refine lv_if_gt (tgt := 20) hx hb dJx4a65c_grow_92f84_7 (by decide) (fun z => ?_) (fun _ => ?_)
    · exfalso
      rw [Int32.lt_iff_toInt_lt] at z
      omega
    refine lv_aload_n hx hb dJx4a65c_grow_92f84_10 rfl (lv_at hl 1 rfl) ?_
    refine c_geto (w := .ref (Z.ad 55 0)) x.1 L 12 i0 1 385 hal0 rfl rfl (by rw [cTo_emp hc.1]; rfl) (wk_in kf_Jx4a65c_9) dJx4a65c_grow_92f84_11 ?_
    refine va_gets hx hb x.2.1.2 L.2.1 hown (hts _ (wk_in kf_Jx4a65c_39)) (fun y h => h) dJx4a65c_grow_92f84_14 ?_
    refine lv_acmp_eq (rx := some (Z.ad 55 0)) (ry := some (Z.ad 55 0)) (tgt := 45) hx hb dJx4a65c_grow_92f84_17 (by decide) (fun _ => ?_) (fun z => absurd rfl z)
    refine lv_aload_n hx hb dJx4a65c_grow_92f84_45 rfl (lv_at hl 1 rfl) ?_
    refine lv_bipush (v := 10) hx hb dJx4a65c_grow_92f84_46 (by decide) ?_
    refine lv_iload_n hx hb dJx4a65c_grow_92f84_48 rfl (lv_at hl 2 rfl) ?_
    refine va_mmax (rest := [.ref (Z.ad 12 i0)]) hx hb (hml.trans hl.1.symm) hown (hts _ (wk_in kl_Jx4a65c_79)) (hts _ (wk_in kw_max.1)) (hts _ (wk_in kw_max.2.1)) (hts _ (wk_in kw_max.2.2)) (Nat.le_of_ble_eq_true rfl) (Nat.le_of_ble_eq_true rfl) (Nat.zero_le _) (Nat.zero_le _) dJx4a65c_grow_92f84_49 ?_
    have hmx : (if (10 : Int32) < p1 then p1 else 10) = 10 := if_neg (by rw [Int32.lt_iff_toInt_lt]; have : (10 : Int32).toInt = 10 := (by decide); omega)
    rw [hmx]
    have hAr := x.1.2.2.2.2.2.1.2.2.1 54 (by decide) (by decide)
    refine W.anew hx hb hown (hts _ (wk_in kc_lJx4a65c_7)) (va_AO.use (x.2.1.1.2.1 "java/lang/Object" (by decide))) rfl dJx4a65c_grow_92f84_52 rfl (by decide) (by decide) (Nat.le_refl 1) (Nat.le_refl 10) fun cA kA comp f1 f2 f3 f4 => ?_
    have hcA : cA = G.2.2.2.2 54 := by
      obtain ⟨_, _, _, _, _, h4⟩ := hAr.2
      exact Option.some.inj (f1.symm.trans h4)
    subst hcA
    generalize hH1 : s.heap.push ({ cls := G.2.2.2.2 54, slots := Array.replicate (10 : Int32).toNatClampNeg .null, vm := .none } : Cell) = H1
    have z1 : H1.size = s.heap.size + 1 := by rw [← hH1, Array.size_push]
    have e1 : H1[s.heap.size]? = some (vp_cell (G.2.2.2.2 54) (10, .inr (.inr (.inr (.inr (fun k => if k < 0 then cOpt Z 1 (g 1728 (16777216 * i0 + k)) else none)))))) := by
      have e0 : H1[s.heap.size]? = some (arrV (G.2.2.2.2 54) 10 (fun _ => .null)) := by rw [← hH1, Array.getElem?_push_size, ← arrV_new]; rfl
      rw [e0, vp_cell_q]
      exact congrArg some (arrV_cg (fun k _ => by rw [if_neg (by omega)]; rfl))
    have o1 : ∀ q : Nat, q < s.heap.size → H1[q]? = s.heap[q]? := fun q hq => by rw [← hH1, Array.getElem?_push, if_neg (Nat.ne_of_lt hq)]
    refine W.eq (g2 := F0 m 55 ls [.ref s.heap.size, .ref (Z.ad 12 i0)]) rfl ?_
    refine lv_dup_x1 hx hb dJx4a65c_grow_92f84_55 rfl rfl ?_
    exact dk_grown (locs' := []) x L i0 0 10 10 hJ hi0 hold hsz (by decide) (Or.inl ⟨rfl, rfl⟩) hN2 z1 o1 (fun q h => by cases h) e1 hr hlocks (wk_in kf_Jx4a65c_9) dJx4a65c_grow_92f84_56 dJx4a65c_grow_92f84_59
  · -- its own
    have h10 : 10 ≤ old ∧ N = old + old / 2 := by omega
    refine c_geto (w := .ref (Z.ad 54 i0)) x.1 L 12 i0 1 385 hal0 rfl rfl (by rw [cTo_own hc.1]; rfl) (wk_in kf_Jx4a65c_9) dJx4a65c_grow_92f84_1 ?_
    refine c_lenr x.1 L 54 i0 hc.2.1 rfl (show (g 1729 i0).toInt.toNat ≤ 2147483647 by omega) dJx4a65c_grow_92f84_4 (fun n en => ?_)
    have en : n.toInt = (((g 1729 i0).toInt.toNat : Nat) : Int) := en
    have en2 : n.toInt = (old : Int) := by omega
    have hnn : n = nI old := Int32.toInt_inj.mp (by rw [en2]; exact (nI_toInt (n := old) (by omega)).symm)
    refine lv_istore_n (lv' := [(2, .int n), (0, .ref (Z.ad 12 i0)), (1, .int p1)]) hx hb dJx4a65c_grow_92f84_5 rfl hl (by decide) rfl (fun ls hl => ?_)
    refine lv_iload_n hx hb dJx4a65c_grow_92f84_6 rfl (lv_at hl 0 rfl) ?_
    refine lv_if_gt (tgt := 20) hx hb dJx4a65c_grow_92f84_7 (by decide) (fun _ => ?_) (fun z => absurd (show 0 < n by rw [Int32.lt_iff_toInt_lt]; omega) z)
    refine lv_iload_n hx hb dJx4a65c_grow_92f84_20 rfl (lv_at hl 0 rfl) ?_
    refine lv_iload_n hx hb dJx4a65c_grow_92f84_21 rfl (lv_at hl 2 rfl) ?_
    refine lv_iload_n hx hb dJx4a65c_grow_92f84_22 rfl (lv_at hl 0 rfl) ?_
    refine lv_isub hx hb dJx4a65c_grow_92f84_23 ?_
    refine lv_topi (fun d ed => ?_)
    have hd : d.toInt = 1 := by
      have := ti_sub (x := p1) (y := n) (by omega) (by omega)
      rw [← ed] at this
      omega
    refine lv_iload_n hx hb dJx4a65c_grow_92f84_24 rfl (lv_at hl 0 rfl) ?_
    refine lv_iconst (v := 1) hx hb dJx4a65c_grow_92f84_25 (by decide) ?_
    refine lv_ishr hx hb dJx4a65c_grow_92f84_26 ?_
    refine lv_topi (fun h eh => ?_)
    have hh : h.toInt = ((old / 2 : Nat) : Int) := by
      have k := pk_shrN (n := old) (by omega) ((1 : Int32) &&& 31) 1 (by decide)
      rw [Nat.pow_one] at k
      rw [eh, hnn, k]
      exact nI_toInt (by omega)
    refine c_si (As := [.int n, .int d, .int h]) (rest := []) x.1 hml L (c_knewLength l X g n d h hX ⟨by omega, by omega⟩ ⟨by omega, by omega⟩ ⟨by omega, by omega⟩) (wk_T kt_J8_newLength_cabcc kl_Jx4a65c_73 kn_J8 (wk_all kd_J8_newLength_cabcc)) rfl ⟨rfl, rfl⟩ hd_knewLength ⟨Nat.le_of_ble_eq_true rfl, Nat.le_of_ble_eq_true rfl⟩ rfl hl.1 rfl (lv_room (Nat.le_of_ble_eq_true rfl)) dJx4a65c_grow_92f84_27 (fun v g2 H2 k2 hp2 L2 => ?_)
    have hg2 : g2 = g := funext fun j => hp2.1 j (by simp)
    subst hg2
    have hv : v.toInt = (N : Int) := by
      have := hp2.2.2
      omega
    refine lv_istore_n (lv' := [(3, .int v), (2, .int n), (0, .ref (Z.ad 12 i0)), (1, .int p1)]) hx hb dJx4a65c_grow_92f84_30 rfl hl (by decide) rfl (fun ls hl => ?_)
    refine lv_aload_n hx hb dJx4a65c_grow_92f84_31 rfl (lv_at hl 2 rfl) ?_
    refine lv_aload_n hx hb dJx4a65c_grow_92f84_32 rfl (lv_at hl 2 rfl) ?_
    refine c_geto (w := .ref (Z.ad 54 i0)) x.1 L2 12 i0 1 385 hal0 rfl rfl (by rw [cTo_own hc.1]; rfl) (wk_in kf_Jx4a65c_9) dJx4a65c_grow_92f84_33 ?_
    refine lv_iload_n hx hb dJx4a65c_grow_92f84_36 rfl (lv_at hl 0 rfl) ?_
    refine k_raw (va_runS (As := [.ref (Z.ad 54 i0), .int v]) (rest := [.ref (Z.ad 12 i0)]) ⟨hx, hb, hml, hown, hts⟩ (c_kcopyOf2 l X g2 i0 H2.size old N v hv hc.2.1 hJ hold (by omega)) (va_cwS 2 hts (wk_T kt_J7_copyOf_1904c kl_Jx4a65c_66 kn_J7 (wk_all kd_J7_copyOf_1904c)) rfl rfl rfl (by decide +kernel) ⟨Nat.le_of_ble_eq_true rfl, Nat.le_of_ble_eq_true rfl⟩) ⟨cPreA.blind, fun U hU hW => k_pre x L2 U hU hW⟩ rfl rfl hl.1 rfl (lv_room (Nat.le_of_ble_eq_true rfl)) dJx4a65c_grow_92f84_37 ⟨Nat.le_refl 1, Nat.le_of_eq (Nat.zero_add N)⟩) (fun w st t L0 h0 hq hL0 => ?_)
    obtain ⟨ew, e1, e2, e3⟩ := hq
    cases ew
    rw [Nat.zero_add, Nat.zero_add]
    refine W.eq (g2 := F0 m 40 ls [.ref H2.size, .ref (Z.ad 12 i0)]) rfl ?_
    refine lv_dup_x1 hx hb dJx4a65c_grow_92f84_40 rfl rfl ?_
    refine dk_grown x L2 i0 old N v hJ hi0 hold hsz hv hN hN2 e2 (fun q hq => by rw [e3 q hq, h0]) (fun q hq => ?_) e1 hr hlocks (wk_in kf_Jx4a65c_9) dJx4a65c_grow_92f84_41 dJx4a65c_grow_92f84_44
    rcases List.mem_append.mp hq with h | h
    · exact L2.2.1.2.2 q h
    · rcases hL0 q h with z | z
      · rw [z]
        exact Or.inl ⟨54, i0, hc.2.1, by decide, rfl⟩
      · exact Or.inr (Nat.le_trans L2.2.1.1 z)

set_option maxHeartbeats 4000000 in
set_option maxRecDepth 100000 in
theorem d_kgrow0 (l : Launch) {G : cG} {Z : cZ} (X : Int) (g : mSt) (i0 sz old N : Nat) (hX : 0 ≤ X ∧ X ≤ 2000000000) (hJ : cJ Z g) (hi0 : i0 < 2 * Z.n) (hold : (g 1729 i0).toInt = (old : Int)) (hsz : (g 386 i0).toInt = (old : Int)) (hN : (old = 0 ∧ N = 10) ∨ (10 ≤ old ∧ N = old + old / 2)) (hN2 : N ≤ 10000000) :
    Met l yJx4a65c_grow_d5877 (wk (Cond.code yJx4a65c_grow_d5877 cJx4a65c_grow_d5877 1 (some (.array (.object "java/lang/Object"))))) (rm_kgrow0 N) (va_Pc [.ref (Z.ad 12 i0)] (cPreA G Z X g sz)) (kE 1 N (cAf Z sz) (cQrA G Z X (fun a Z1 g1 => a = Z1.ad 54 i0 ∧ Z1.al 54 i0 ∧ mFr [385, 1728, 1729] g g1 ∧ cJ Z1 g1 ∧ (g1 1729 i0).toInt = (N : Int) ∧ Z1.w 2 = Z.w 2 ∧ gEn g g1 i0 old ∧ Z1.w 3 = Z.w 3))) 1 N (cAf Z sz) := by
  refine Met.ofW (cc := cJx4a65c_grow_d5877) (maxL := 1) (ret := (some (.array (.object "java/lang/Object")))) (by decide) rfl ?_
  intro p e s m args below meth c s₁ B hml hv
  obtain ⟨rfl, hv⟩ := hv
  have hsz0 := hv.2.1
  subst hsz0
  have hr := B.returns
  have hlocks := B.notSynchronized
  obtain ⟨x, L⟩ := k_start B rfl (fun w h => wk_in h) hv
  have hx := x.1.1
  have hb := x.1.2.1
  have hts := x.1.2.2.1
  have hown := x.1.2.2.2.2.1
  have hz := x.1.2.2.2.2.2.2.2.1
  have hal0 : Z.al 12 i0 := hz.2 12 i0 hi0
  have hl := lv_entry ([.ref (Z.ad 12 i0)]) (n := 1) (Nat.le_of_ble_eq_true rfl)
  rw [lg_entry_eq]
  generalize (lg_sl ([.ref (Z.ad 12 i0)]) ++ List.replicate (1 - (lg_sl ([.ref (Z.ad 12 i0)])).length) Slot.unset).toArray = ls at hl ⊢
  have hl : lv_has ls 1 [(0, .ref (Z.ad 12 i0))] := hl
  have k1 : (1 : Int32).toInt = 1 := by decide
  refine lv_aload_n hx hb dJx4a65c_grow_d5877_0 rfl (lv_at hl 0 rfl) ?_
  refine lv_aload_n hx hb dJx4a65c_grow_d5877_1 rfl (lv_at hl 0 rfl) ?_
  refine c_geti x.1 L 12 i0 2 386 hal0 rfl rfl (wk_in kf_Jx4a65c_48) dJx4a65c_grow_d5877_2 (fun v ev _ => ?_)
  refine lv_iconst (v := 1) hx hb dJx4a65c_grow_d5877_5 (by decide) ?_
  refine lv_iadd hx hb dJx4a65c_grow_d5877_6 ?_
  refine lv_topi (fun d ed => ?_)
  have hv0 : v.toInt = (old : Int) := by rw [ev]; exact hsz
  have hd : d.toInt = (old : Int) + 1 := by
    have := ti_add (x := v) (y := 1) (by omega) (by omega)
    rw [← ed] at this
    omega
  refine k_callr x L (k_runV (As := [.int d]) (rest := []) ⟨hx, hb, hml, hown, hts⟩ (d_kgrow1 l X g i0 s.heap.size old N d hX hJ hi0 hold (by omega) hd hN hN2) (cwV 1 hts (wk_V kd_Jx4a65c_grow_92f84 kl_Jx4a65c_69 ki_Jx4a65c_grow_92f84 ks_Jx4a65c_Jx4a65c_grow_92f84 kn_Jx4a65c) rfl rfl rfl hd_kgrow1 ⟨Nat.le_of_ble_eq_true rfl, Nat.le_of_ble_eq_true rfl⟩) ⟨cPreA.blind, c_recv x.1 L hal0 rfl, fun U hU hW => k_pre x L U hU hW⟩ rfl rfl hl.1 rfl (lv_room (Nat.le_of_ble_eq_true rfl)) dJx4a65c_grow_d5877_7 ⟨Nat.le_refl 1, Nat.le_of_eq (Nat.zero_add N)⟩) (fun a Z1 g1 H1 locs1 k n hk hn hp hz1 x1 L1 => ?_)
  rw [Nat.zero_add, Nat.zero_add]
  exact k_aret x1 L1 hr (Or.inr ⟨_, rfl⟩) hlocks (Int.le_refl _) hz1 hp hk hn dJx4a65c_grow_d5877_10

set_option maxHeartbeats 4000000 in
set_option maxRecDepth 100000 in
theorem dk_addtail {p : Program} {l : Launch} {e : Env} {R : Room} {s : State} {m : MethodId} {args : Array Value} {below : List Frame} {meth : Method} {c : Code} {H : Heap} {locs : List Loc} {cells slots mc ms : Nat} {ls : Array Slot} {G : cG} {Z0 Z : cZ} {g0 g : mSt} {Ts : List Cond} {X : Int} (x : cXA p c cJx4a65c_add_72be8 s args Ts m G Z (cAf Z0 s.heap.size) RJx4a65c s.heap) (hin : ∀ w ∈ wsUC, w ∈ Ts) (L : cL G Z (cAf Z0 s.heap.size) s.heap X g H locs) (i0 : Nat) (v p3 : Int32) (hJ : cJ Z g) (hi0 : i0 < 2 * Z.n) (h3 : p3.toInt = (g 386 i0).toInt) (hcap : (g 386 i0).toInt < (g 1729 i0).toInt) (hv : cD2 Z g i0 v) (hF : mFr [385, 1728, 1729] g0 g) (hz : cZl Z0 Z cells slots) (hw2 : Z.w 2 = Z0.w 2) (hm : cells ≤ mc ∧ slots ≤ ms) (hG : gEn g0 g i0 (g0 386 i0).toInt.toNat) (hw3 : Z.w 3 = Z0.w 3) (hcq : (g 1729 i0).toInt = (g0 1729 i0).toInt ∨ ((g0 386 i0).toInt = (g0 1729 i0).toInt ∧ ((g 1729 i0).toInt = 10 ∨ 2 * (g 1729 i0).toInt ≤ 3 * (g0 1729 i0).toInt)))
    (hl : lv_has ls 4 [(2, .ref (Z.ad 54 i0)), (0, .ref (Z.ad 12 i0)), (1, .ref (Z.ad 1 v.toInt.toNat)), (3, .int p3)]) (hr : meth.sig.returnType = none) (hlocks : meth.locks = false) :
    W p l e R s m args below meth c H locs cells slots (MQ below (kE mc ms (cAf Z0 s.heap.size) (cQvA G Z0 X (fun Z1 g1 => mFr [385, 386, 1728, 1729] g0 g1 ∧ cJ Z1 g1 ∧ (g1 386 i0).toInt = (g0 386 i0).toInt + 1 ∧ (∀ q, q ≠ i0 → g1 386 q = g0 386 q) ∧ Z1.w 2 = Z0.w 2 ∧ wAdd g0 g1 i0 v ∧ Z1.w 3 = Z0.w 3))) args s mc ms (cAf Z0 s.heap.size)) (F0 m 11 ls []) := by
  have hx := x.1.1
  have hb := x.1.2.1
  have hZ := x.1.2.2.2.2.2.2.2.1
  have hal0 : Z.al 12 i0 := hZ.2 12 i0 hi0
  have hsz := hJ.2.2.1 i0 hi0
  have hc5 : 0 ≤ (g 385 i0).toInt ∧ Z.al 54 i0 ∧ 10 ≤ (g 1729 i0).toInt ∧ (g 1729 i0).toInt ≤ 10000000 := by
    rcases (hJ.2.2.2.2.1.2 i0 hi0).1 with z | z
    · omega
    · exact z
  have k1 : (1 : Int32).toInt = 1 := by decide
  refine lv_aload_n hx hb dJx4a65c_add_72be8_11 rfl (lv_at hl 0 rfl) ?_
  refine lv_iload_n hx hb dJx4a65c_add_72be8_12 rfl (lv_at hl 3 rfl) ?_
  refine lv_aload_n hx hb dJx4a65c_add_72be8_13 rfl (lv_at hl 2 rfl) ?_
  refine c_str x L 54 i0 1728 hc5.2.1 (Or.inr rfl) rfl hJ (i := p3) (by omega) (show p3.toInt < (((g 1729 i0).toInt.toNat : Nat) : Int) by omega) hv.1 hv.2.1 dJx4a65c_add_72be8_14 (fun g1 H1 k1' eg1 L1 => ?_)
  refine lv_aload_n hx hb dJx4a65c_add_72be8_15 rfl (lv_at hl 1 rfl) ?_
  refine lv_iload_n hx hb dJx4a65c_add_72be8_16 rfl (lv_at hl 3 rfl) ?_
  refine lv_iconst (v := 1) hx hb dJx4a65c_add_72be8_17 (by decide) ?_
  refine lv_iadd hx hb dJx4a65c_add_72be8_18 ?_
  refine lv_topi (fun w ew => ?_)
  have hw : w.toInt = (g 386 i0).toInt + 1 := by
    have := ti_add (x := p3) (y := 1) (by omega) (by omega)
    rw [← ew] at this
    omega
  refine c_puti x.1 L1 12 i0 2 386 hal0 rfl rfl ⟨rfl, by decide +kernel⟩ (hin _ kf_Jx4a65c_48) dJx4a65c_add_72be8_19 (rg_any w) (fun g2 H2 k2' eg2 L2 => ?_)
  have e386 : (g0 386 i0) = g 386 i0 := (congrFun (hF 386 (by decide)) i0).symm
  have hJ2 : cJ Z g2 := cJ_add hJ hi0 (k := p3.toNatClampNeg) (by show ((p3.toInt.toNat : Nat) : Int) = _; omega) hcap hv eg1 eg2 hw
  refine k_vret x L2 hr hlocks (Int.le_refl _) hz ⟨fun j hj => ?_, hJ2, ?_, fun q hq => ?_, hw2, ?_, hw3⟩ hm.1 hm.2 dJx4a65c_add_72be8_22
  · simp only [List.mem_cons, List.not_mem_nil, or_false, not_or] at hj
    rw [eg2, up2_of hj.2.1, eg1, up2_of hj.2.2.1]
    exact hF j (by simp only [List.mem_cons, List.not_mem_nil, or_false, not_or]; exact ⟨hj.1, hj.2.2.1, hj.2.2.2⟩)
  · rw [eg2, up2_i, e386]
    exact hw
  · rw [eg2, up2_n hq, eg1, up2_o (by decide), hF 386 (by decide)]
  · have hlt : (g 386 i0).toInt.toNat < 16777216 := by omega
    have ep : p3.toNatClampNeg = (g 386 i0).toInt.toNat := by
      show p3.toInt.toNat = _
      omega
    refine ⟨?_, ?_, fun k hk => ?_, ?_, ?_⟩
    · refine mFi.up (mFi.up (mFi.sub mFi.rf hG.1 (mSub_eq 1 rfl (mSub_eq 3 rfl (mSub_eq 4 rfl mSub_nil)))) eg1 (mIn_at 3 rfl (Or.inr ?_))) eg2 (mIn_at 2 rfl (Or.inr (Nat.div_one _)))
      rw [ep]
      omega
    · rw [eg2, up2_o (by decide), eg1, e386, ep, up2_i]
    · rw [e386] at hk
      rw [eg2, up2_o (by decide), eg1, up2_n (by rw [ep]; omega)]
      exact hG.2 k (by rw [e386]; omega)
    · rw [eg2, up2_i, e386]
      exact hw
    · rw [eg2, up2_o (by decide), eg1, up2_o (by decide)]
      exact hcq

/-- so many slots are enough for a list to take one more -/
def gNd (g : mSt) (i0 n : Nat) : Prop := (g 386 i0).toInt ≤ 6000000 ∧ ((g 386 i0).toInt = (g 1729 i0).toInt → 10 ≤ n ∧ 3 * (g 386 i0).toInt ≤ 2 * (n : Int))

set_option maxHeartbeats 4000000 in
set_option maxRecDepth 100000 in
theorem d_kadd3 (l : Launch) {G : cG} {Z : cZ} (X : Int) (g : mSt) (i0 sz b ms : Nat) (v p3 : Int32) (hX : 0 ≤ X ∧ X ≤ 2000000000) (hJ : cJ Z g) (hi0 : i0 < 2 * Z.n) (hb0 : cTo Z (g 385 i0) 12 i0 1 = some b) (h3 : p3.toInt = (g 386 i0).toInt) (hv : cD2 Z g i0 v) (hms : gNd g i0 ms) :
    Met l yJx4a65c_add_72be8 (wk (Cond.code yJx4a65c_add_72be8 cJx4a65c_add_72be8 4 none)) (rm_kadd3 ms) (va_Pc [.ref (Z.ad 12 i0), .ref (Z.ad 1 v.toInt.toNat), .ref b, .int p3] (cPreA G Z X g sz)) (kE 1 ms (cAf Z sz) (cQvA G Z X (fun Z1 g1 => mFr [385, 386, 1728, 1729] g g1 ∧ cJ Z1 g1 ∧ (g1 386 i0).toInt = (g 386 i0).toInt + 1 ∧ (∀ q, q ≠ i0 → g1 386 q = g 386 q) ∧ Z1.w 2 = Z.w 2 ∧ wAdd g g1 i0 v ∧ Z1.w 3 = Z.w 3))) 1 ms (cAf Z sz) := by
  refine Met.ofW (cc := cJx4a65c_add_72be8) (maxL := 4) (ret := none) (by decide) rfl ?_
  intro p e s m args below meth c s₁ B hml hv0
  obtain ⟨rfl, hv0⟩ := hv0
  have hsz0 := hv0.2.1
  subst hsz0
  have hr := B.returns
  have hlocks := B.notSynchronized
  obtain ⟨x, L⟩ := k_start B rfl (fun w h => wk_in h) hv0
  have hx := x.1.1
  have hb := x.1.2.1
  have hts := x.1.2.2.1
  have hown := x.1.2.2.2.2.1
  have hz := x.1.2.2.2.2.2.2.2.1
  have hal0 : Z.al 12 i0 := hz.2 12 i0 hi0
  have hal55 : Z.al 55 0 := hz.2 55 0 (show 0 < 1 by decide)
  have hl := lv_entry ([.ref (Z.ad 12 i0), .ref (Z.ad 1 v.toInt.toNat), .ref b, .int p3]) (n := 4) (Nat.le_of_ble_eq_true rfl)
  rw [lg_entry_eq]
  generalize (lg_sl ([.ref (Z.ad 12 i0), .ref (Z.ad 1 v.toInt.toNat), .ref b, .int p3]) ++ List.replicate (4 - (lg_sl ([.ref (Z.ad 12 i0), .ref (Z.ad 1 v.toInt.toNat), .ref b, .int p3])).length) Slot.unset).toArray = ls at hl ⊢
  have hl : lv_has ls 4 [(0, .ref (Z.ad 12 i0)), (1, .ref (Z.ad 1 v.toInt.toNat)), (2, .ref b), (3, .int p3)] := hl
  have h2 := hJ.2.2.1 i0 hi0
  have hc5 := (hJ.2.2.2.2.1.2 i0 hi0).1
  refine lv_iload_n hx hb dJx4a65c_add_72be8_0 rfl (lv_at hl 3 rfl) ?_
  refine lv_aload_n hx hb dJx4a65c_add_72be8_1 rfl (lv_at hl 2 rfl) ?_
  have hlen : ∀ (n : Int32), n.toInt = (g 1729 i0).toInt → W p l e (headSpec (wk (Cond.code yJx4a65c_add_72be8 cJx4a65c_add_72be8 4 none)) (rm_kadd3 ms)).room s m [.ref (Z.ad 12 i0), .ref (Z.ad 1 v.toInt.toNat), .ref b, .int p3].toArray below meth c s.heap [] 0 0 (MQ below (kE 1 ms (cAf Z s.heap.size) (cQvA G Z X (fun Z1 g1 => mFr [385, 386, 1728, 1729] g g1 ∧ cJ Z1 g1 ∧ (g1 386 i0).toInt = (g 386 i0).toInt + 1 ∧ (∀ q, q ≠ i0 → g1 386 q = g 386 q) ∧ Z1.w 2 = Z.w 2 ∧ wAdd g g1 i0 v ∧ Z1.w 3 = Z.w 3))) [.ref (Z.ad 12 i0), .ref (Z.ad 1 v.toInt.toNat), .ref b, .int p3].toArray s 1 ms (cAf Z s.heap.size)) (F0 m 3 ls [.int n, .int p3]) := by
    intro n en
    refine lv_icmp_ne (tgt := 11) hx hb dJx4a65c_add_72be8_3 (by decide) (fun z => ?_) (fun z => ?_)
    · have hlt : (g 386 i0).toInt < (g 1729 i0).toInt := by
        have : p3.toInt ≠ n.toInt := fun w => z (Int32.toInt_inj.mp w)
        omega
      have hbb : b = Z.ad 54 i0 := by
        rw [cTo_own (by omega)] at hb0
        exact (Option.some.inj hb0).symm
      subst hbb
      exact dk_addtail (hG := gEn_rf) (hw3 := rfl) (hcq := Or.inl rfl) x (fun w h => wk_in h) L i0 v p3 hJ hi0 h3 hlt hv (fun _ _ => rfl) cZl.rf rfl ⟨Nat.zero_le _, Nat.zero_le _⟩ ⟨hl.1, hl.2.1, fun q hq => hl.2.2 q (by simp only [List.mem_cons, List.not_mem_nil, or_false] at hq ⊢; rcases hq with h | h | h | h <;> simp [h])⟩ hr hlocks
    · have heq : (g 386 i0).toInt = (g 1729 i0).toInt := by
        have : p3.toInt = n.toInt := congrArg Int32.toInt z
        omega
      obtain ⟨old, hold⟩ : ∃ old : Nat, (g 1729 i0).toInt = (old : Int) := ⟨(g 1729 i0).toInt.toNat, by omega⟩
      obtain ⟨N, hN⟩ : ∃ N : Nat, (old = 0 ∧ N = 10) ∨ (10 ≤ old ∧ N = old + old / 2) := by
        rcases hc5 with w | w
        · exact ⟨10, Or.inl ⟨by omega, rfl⟩⟩
        · exact ⟨old + old / 2, Or.inr ⟨by omega, rfl⟩⟩
      refine lv_aload_n hx hb dJx4a65c_add_72be8_6 rfl (lv_at hl 0 rfl) ?_
      have hms2 := hms.2 heq
      have hms1 := hms.1
      have hNm : N ≤ ms := by omega
      refine k_callr x L (k_runV (As := []) (rest := []) ⟨hx, hb, hml, hown, hts⟩ (d_kgrow0 l X g i0 s.heap.size old N hX hJ hi0 hold (by omega) hN (by omega)) (cwV 0 hts (wk_V kd_Jx4a65c_grow_d5877 kl_Jx4a65c_129 ki_Jx4a65c_grow_d5877 ks_Jx4a65c_Jx4a65c_grow_d5877 kn_Jx4a65c) rfl rfl rfl hd_kgrow0 ⟨Nat.le_of_ble_eq_true rfl, Nat.le_of_ble_eq_true rfl⟩) ⟨cPreA.blind, c_recv x.1 L hal0 rfl, fun U hU hW => k_pre x L U hU hW⟩ rfl rfl hl.1 rfl (lv_room (Nat.le_of_ble_eq_true rfl)) dJx4a65c_add_72be8_7 ⟨Nat.le_refl 1, show 0 + N ≤ ms by omega⟩) (fun a Z1 g1 H1 locs1 k n' hk hn' hp hz1 x1 L1 => ?_)
      obtain ⟨ea, hal54, hF, hJ1, hN1, hw1, hG1, hw31⟩ := hp
      rw [Nat.zero_add, Nat.zero_add]
      have e12 := hz1.2.2.1 12 i0 hal0 (by omega)
      have e1 := hz1.2.2.1 1 _ hv.2.1 (by omega)
      rw [← e12, ← e1] at hl
      subst ea
      refine lv_astore_n (lv' := [(2, .ref (Z1.ad 54 i0)), (0, .ref (Z1.ad 12 i0)), (1, .ref (Z1.ad 1 v.toInt.toNat)), (3, .int p3)]) hx hb dJx4a65c_add_72be8_10 rfl hl (by decide) rfl (fun ls hl => ?_)
      have e386 : g1 386 i0 = g 386 i0 := congrFun (hF 386 (by decide)) i0
      exact dk_addtail (cells := k) (slots := n') (hG := by rw [show (g 386 i0).toInt.toNat = old by omega]; exact hG1) (hw3 := hw31) (hcq := Or.inr ⟨heq, by omega⟩) x1 (fun w h => wk_in h) L1 i0 v p3 hJ1 (by rw [hz1.1]; exact hi0) (by rw [e386]; exact h3) (by rw [e386, hN1]; omega) ⟨hv.1, hz1.2.1 _ _ hv.2.1, by rw [hF 32 (by decide)]; exact hv.2.2⟩ hF hz1 hw1 ⟨hk, by omega⟩ hl hr hlocks
  rcases hc5 with hc | hc
  · rw [cTo_emp hc.1] at hb0
    have hbb := (Option.some.inj hb0).symm
    subst hbb
    exact c_len0 x L dJx4a65c_add_72be8_2 (fun n en => hlen n (by have en : n.toInt = 0 := en; omega))
  · rw [cTo_own hc.1] at hb0
    have hbb := (Option.some.inj hb0).symm
    subst hbb
    exact c_lenr x.1 L 54 i0 hc.2.1 rfl (show (g 1729 i0).toInt.toNat ≤ 2147483647 by omega) dJx4a65c_add_72be8_2 (fun n en => hlen n (by have en : n.toInt = (((g 1729 i0).toInt.toNat : Nat) : Int) := en; omega))

def im_kladd (i0 : Nat) (p1 : Int32) : List (Nat × Nat × Nat) := [(384, i0, 1), (385, i0, 1), (386, i0, 1), (1728, i0, 16777216), (1729, i0, 1)]
def po_kladd (Z : cZ) (i0 : Nat) (p1 : Int32) (g : mSt) (r : Int32) (Z1 : cZ) (g1 : mSt) : Prop := mFi (im_kladd i0 p1) g g1 ∧ mFr [384, 385, 386, 1728, 1729] g g1 ∧ rg (1) (1) r ∧ cJ Z1 g1 ∧ Z1.w 2 ≤ Z.w 2 + 0 ∧ True
def rn_kladd (n1 : Nat) : Room := rm_kladd0 (0 + n1)
def wp_kladd (n1 : Nat) (Z : cZ) (i0 : Nat) (p1 : Int32) (g : mSt) (Φ : Int32 → cZ → mSt → Prop) : Prop := gNd g i0 n1 ∧ ∀ (Z1 : cZ) (g1 : mSt), wAdd g g1 i0 p1 → Z1.w 3 = Z.w 3 → Z1.w 2 = Z.w 2 → Φ 1 Z1 g1

set_option maxHeartbeats 4000000 in
set_option maxRecDepth 100000 in
theorem d_kladd0 (l : Launch) {G : cG} {Z : cZ} (X : Int) (g : mSt) (i0 sz ms : Nat) (v : Int32) (hX : 0 ≤ X ∧ X ≤ 2000000000) (hJ : cJ Z g) (hi0 : i0 < 2 * Z.n) (hv : cD2 Z g i0 v) {Φ : Int32 → cZ → mSt → Prop} (hW : wfP (wp_kladd ms Z i0 v g Φ)) :
    Met l yJx4a65c_add_9ea2d (wk (Cond.code yJx4a65c_add_9ea2d cJx4a65c_add_9ea2d 2 (some .boolean))) (rm_kladd0 ms) (va_Pc [.ref (Z.ad 12 i0), .ref (Z.ad 1 v.toInt.toNat)] (cPreA G Z X g sz)) (kE 1 ms (cAf Z sz) (cQiA G Z X (fun r Z1 g1 => wfP (Φ r Z1 g1) ∧ mFi (im_kladd i0 v) g g1 ∧ (mFr [384, 385, 386, 1728, 1729] g g1 ∧ rg (1) (1) r ∧ cJ Z1 g1 ∧ Z1.w 2 ≤ Z.w 2 + 0 ∧ True)))) 1 ms (cAf Z sz) := by
  refine Met.ofW (cc := cJx4a65c_add_9ea2d) (maxL := 2) (ret := (some .boolean)) (by decide) rfl ?_
  intro p e s m args below meth c s₁ B hml hv0
  obtain ⟨rfl, hv0⟩ := hv0
  have hsz0 := hv0.2.1
  subst hsz0
  have hr := B.returns
  have hlocks := B.notSynchronized
  obtain ⟨x, L⟩ := k_start B rfl (fun w h => wk_in h) hv0
  have hx := x.1.1
  have hb := x.1.2.1
  have hts := x.1.2.2.1
  have hown := x.1.2.2.2.2.1
  have hz := x.1.2.2.2.2.2.2.2.1
  have hal0 : Z.al 12 i0 := hz.2 12 i0 hi0
  have hl := lv_entry ([.ref (Z.ad 12 i0), .ref (Z.ad 1 v.toInt.toNat)]) (n := 2) (Nat.le_of_ble_eq_true rfl)
  rw [lg_entry_eq]
  generalize (lg_sl ([.ref (Z.ad 12 i0), .ref (Z.ad 1 v.toInt.toNat)]) ++ List.replicate (2 - (lg_sl ([.ref (Z.ad 12 i0), .ref (Z.ad 1 v.toInt.toNat)])).length) Slot.unset).toArray = ls at hl ⊢
  have hl : lv_has ls 2 [(0, .ref (Z.ad 12 i0)), (1, .ref (Z.ad 1 v.toInt.toNat))] := hl
  refine lv_aload_n hx hb dJx4a65c_add_9ea2d_0 rfl (lv_at hl 0 rfl) ?_
  refine lv_dup hx hb dJx4a65c_add_9ea2d_1 rfl ?_
  refine c_getiS x.1 L 12 i0 0 384 hal0 rfl rfl (wk_in kf_Jx4a65c_63) (fun y h => u_same (x.1.2.2.1 _ (wk_in ke_javautilArrayList_javautilAbstractList_modCount)) y h) dJx4a65c_add_9ea2d_2 (fun n en _ => ?_)
  refine lv_iconst (v := 1) hx hb dJx4a65c_add_9ea2d_5 (by decide) ?_
  refine lv_iadd hx hb dJx4a65c_add_9ea2d_6 ?_
  refine lv_topi (fun w ew => ?_)
  refine c_putiS x.1 L 12 i0 0 384 hal0 rfl rfl ⟨rfl, by decide +kernel⟩ (wk_in kf_Jx4a65c_63) (fun y h => u_same (x.1.2.2.1 _ (wk_in ke_javautilArrayList_javautilAbstractList_modCount)) y h) dJx4a65c_add_9ea2d_7 (rg_any w) (fun g1 H1 k1 eg1 L1 => ?_)
  have hF1 : ∀ j, j ≠ 384 → g1 j = g j := fun j hj => by rw [eg1, up2_of hj]
  have hJ1 : cJ Z g1 := cJ_up hJ eg1 (by decide)
  have hv1 : cD2 Z g1 i0 v := ⟨hv.1, hv.2.1, by rw [hF1 32 (by decide)]; exact hv.2.2⟩
  refine lv_aload_n hx hb dJx4a65c_add_9ea2d_10 rfl (lv_at hl 0 rfl) ?_
  refine lv_aload_n hx hb dJx4a65c_add_9ea2d_11 rfl (lv_at hl 1 rfl) ?_
  refine lv_aload_n hx hb dJx4a65c_add_9ea2d_12 rfl (lv_at hl 0 rfl) ?_
  obtain ⟨b, hb0⟩ : ∃ b, cTo Z (g1 385 i0) 12 i0 1 = some b := by
    rcases (by omega : (g1 385 i0).toInt < 0 ∨ 0 ≤ (g1 385 i0).toInt) with z | z
    · exact ⟨_, cTo_emp z⟩
    · exact ⟨_, cTo_own z⟩
  refine c_geto (w := .ref b) x.1 L1 12 i0 1 385 hal0 rfl rfl (by rw [hb0]; rfl) (wk_in kf_Jx4a65c_9) dJx4a65c_add_9ea2d_13 ?_
  refine lv_aload_n hx hb dJx4a65c_add_9ea2d_16 rfl (lv_at hl 0 rfl) ?_
  refine c_geti x.1 L1 12 i0 2 386 hal0 rfl rfl (wk_in kf_Jx4a65c_48) dJx4a65c_add_9ea2d_17 (fun q eq _ => ?_)
  refine k_callv x L1 (k_runV (As := [.ref (Z.ad 1 v.toInt.toNat), .ref b, .int q]) (rest := []) ⟨hx, hb, hml, hown, hts⟩ (d_kadd3 l X g1 i0 H1.size b ms v q hX hJ1 hi0 hb0 (by rw [eq]) hv1 (by unfold gNd; rw [hF1 386 (by decide), hF1 1729 (by decide)]; exact (And.left hW : gNd g i0 ms))) (cwV 3 hts (wk_V kd_Jx4a65c_add_72be8 kl_Jx4a65c_131 ki_Jx4a65c_add_72be8 ks_Jx4a65c_Jx4a65c_add_72be8 kn_Jx4a65c) rfl rfl rfl hd_kadd3 ⟨Nat.le_of_ble_eq_true rfl, Nat.le_of_ble_eq_true rfl⟩) ⟨cPreA.blind, c_recv x.1 L1 hal0 rfl, fun U hU hW => k_pre x L1 U hU hW⟩ rfl rfl hl.1 rfl (lv_room (Nat.le_of_ble_eq_true rfl)) dJx4a65c_add_9ea2d_20 ⟨Nat.le_refl 1, Nat.le_of_eq (Nat.zero_add ms)⟩) (fun Z2 g2 H2 locs2 k n' hk hn' hp hz1 x1 L2 => ?_)
  rw [Nat.zero_add, Nat.zero_add]
  refine lv_iconst (v := 1) hx hb dJx4a65c_add_9ea2d_23 (by decide) ?_
  have hwa : wAdd g g2 i0 v := by
    obtain ⟨a1, a2, a3, a4, a5⟩ := hp.2.2.2.2.2.1
    rw [hF1 386 (by decide), hF1 1728 (by decide)] at a3
    rw [hF1 386 (by decide)] at a2 a4 a5
    rw [hF1 1729 (by decide)] at a5
    exact ⟨mFi.tr (mFi.up mFi.rf eg1 (mIn_at 0 rfl (Or.inr (Nat.div_one _)))) a1, a2, a3, a4, a5⟩
  refine k_zret x1 L2 hr hlocks rfl (Int.le_refl _) hz1 ⟨(And.right hW : ∀ (Z1 : cZ) (g1 : mSt), wAdd g g1 i0 v → Z1.w 3 = Z.w 3 → Z1.w 2 = Z.w 2 → Φ 1 Z1 g1) _ _ hwa hp.2.2.2.2.2.2 hp.2.2.2.2.1, hwa.1, fun j hj => ?_, ⟨by decide, by decide⟩, hp.2.1, by rw [hp.2.2.2.2.1]; exact Nat.le_refl _, trivial⟩ hk hn' dJx4a65c_add_9ea2d_24
  · simp only [List.mem_cons, List.not_mem_nil, or_false, not_or] at hj
    rw [hp.1 j (by simp only [List.mem_cons, List.not_mem_nil, or_false, not_or]; exact hj.2), hF1 j hj.1]

theorem d_kladd (l : Launch) {G : cG} {Z : cZ} (X : Int) (g : mSt) (i0 : Nat) (p1 : Int32) (sz n1 : Nat) (hX : 0 ≤ X ∧ X ≤ 2000000000) (hJ : cJ Z g) (hw2 : Z.w 2 + 0 ≤ 1000000) (hi0 : i0 < 2 * Z.n) (hc1 : 0 ≤ p1.toInt) (hq1 : Z.al 1 p1.toInt.toNat) (hsd : (g 32 p1.toInt.toNat).toInt = (i0 : Int)) {Φ : Int32 → cZ → mSt → Prop} (hW : wfP (wp_kladd n1 Z i0 p1 g Φ)) : Met l yJx4a65c_add_9ea2d (wk (Cond.code yJx4a65c_add_9ea2d cJx4a65c_add_9ea2d 2 (some .boolean))) (rn_kladd n1) (va_Pc [.ref (Z.ad 12 i0), .ref (Z.ad 1 p1.toInt.toNat)] (cPreA G Z X g sz)) (kE 1 (0 + n1) (cAf Z sz) (cQiA G Z X (fun r Z1 g1 => wfP (Φ r Z1 g1) ∧ mFi (im_kladd i0 p1) g g1 ∧ (mFr [384, 385, 386, 1728, 1729] g g1 ∧ rg (1) (1) r ∧ cJ Z1 g1 ∧ Z1.w 2 ≤ Z.w 2 + 0 ∧ True))) ) 1 (0 + n1) (cAf Z sz) := by
  have e : 0 + n1 = n1 := Nat.zero_add n1
  unfold rn_kladd
  rw [e]
  exact d_kladd0 l X g i0 sz n1 p1 hX hJ hi0 ⟨hc1, hq1, hsd⟩ hW

def im_kassembler (i0 : Nat) : List (Nat × Nat × Nat) := [(0, (8 + i0), 1), (1, (8 + i0), 1), (2, (8 + i0), 1), (46, i0, 1), (512, (8 + i0), 8192)]
def po_kassembler (Z : cZ) (i0 : Nat) (g : mSt) (_ : Int32) (Z1 : cZ) (g1 : mSt) : Prop := mFi (im_kassembler i0) g g1 ∧ mFr [0, 1, 2, 46, 512] g g1 ∧ cJ Z1 g1 ∧ Z1.w 2 ≤ Z.w 2 + 0 ∧ (Z1.al 0 (8 + i0) ∧ Z1.al 16 (8 + i0))
def rn_kassembler : Room := rm_kassembler 0
def wp_kassembler (Z : cZ) (i0 : Nat) (g : mSt) (Φ : Int32 → cZ → mSt → Prop) : Prop := ∀ (Z1 : cZ) (g1 : mSt), ((0 ≤ (g 46 i0).toInt ∧ Z1 = Z ∧ g1 = g) ∨ ((g 46 i0).toInt < 0 ∧ (g1 46 i0).toInt = 8 + (i0 : Int) ∧ Z1.w 3 = Z.w 3 + 243 ∧ Z1.w 2 = Z.w 2 ∧ Z1.n = Z.n)) → Φ 0 Z1 g1
theorem mFi_asm {g : mSt} {i0 : Nat} {v : Int32} : mFi (im_kassembler i0) g (gAs g i0 v) := by
  intro j i q
  unfold gAs
  rw [if_neg, if_neg, if_neg]
  · rintro ⟨rfl, e⟩
    exact q (mIn_at 4 rfl (Or.inr e))
  · rintro ⟨hj, rfl⟩
    rcases (by omega : j = 0 ∨ j = 1 ∨ j = 2) with h | h | h
    · subst h
      exact q (mIn_at 0 rfl (Or.inr (Nat.div_one _)))
    · subst h
      exact q (mIn_at 1 rfl (Or.inr (Nat.div_one _)))
    · subst h
      exact q (mIn_at 2 rfl (Or.inr (Nat.div_one _)))
  · rintro ⟨rfl, rfl⟩
    exact q (mIn_at 3 rfl (Or.inr (Nat.div_one _)))

set_option maxHeartbeats 4000000 in
set_option maxRecDepth 100000 in
theorem d_kassembler (l : Launch) {G : cG} {Z : cZ} (X : Int) (g : mSt) (i0 : Nat) (sz : Nat) (hX : 0 ≤ X ∧ X ≤ 2000000000) (hJ : cJ Z g) (hw2 : Z.w 2 + 0 ≤ 1000000) (hal0 : Z.al 1 i0) {Φ : Int32 → cZ → mSt → Prop} (hW : wfP (wp_kassembler Z i0 g Φ)) : Met l yX1_assembler (wk (Cond.code yX1_assembler cX1_assembler 1 (some (.object "CellSwitch$Assembler")))) rn_kassembler (va_Pc [.ref (Z.ad 1 i0)] (cPreA G Z X g sz)) (kE 2 (243) (cAf Z sz) (cQrA G Z X (fun r Z1 g1 => wfP (Φ 0 Z1 g1) ∧ mFi (im_kassembler i0) g g1 ∧ (mFr [0, 1, 2, 46, 512] g g1 ∧ cJ Z1 g1 ∧ Z1.w 2 ≤ Z.w 2 + 0 ∧ (r = Z1.ad 0 (8 + i0) ∧ Z1.al 0 (8 + i0) ∧ Z1.al 16 (8 + i0)))))) 2 (243) (cAf Z sz) := by
  refine Met.ofW (cc := cX1_assembler) (maxL := 1) (ret := (some (.object "CellSwitch$Assembler"))) (by decide) rfl ?_
  intro p e s m args below meth c s₁ B hml hv
  obtain ⟨hav, hv⟩ := hv
  have hsz0 := hv.2.1
  subst hsz0
  have hr := B.returns
  have hlocks := B.notSynchronized
  obtain ⟨xa, L⟩ := k_start B rfl (fun w h => wk_in h) hv
  have hent : entryFrame m args 1 = entryFrame m ([.ref (Z.ad 1 i0)] : List Value).toArray 1 := by rw [hav]
  rw [hent]
  have hl := lv_entry ([.ref (Z.ad 1 i0)]) (n := 1) (Nat.le_of_ble_eq_true rfl)
  rw [lg_entry_eq]
  generalize (lg_sl ([.ref (Z.ad 1 i0)]) ++ List.replicate (1 - (lg_sl ([.ref (Z.ad 1 i0)])).length) Slot.unset).toArray = ls at hl ⊢
  have hl : lv_has ls 1 [(0, .ref (Z.ad 1 i0))] := hl
  have x := xa.1
  have xa' := xa
  obtain ⟨⟨hx, hb, hts, hin, hown, hK1, hA, hZ, hh, hne, hAd⟩, hE, hB⟩ := xa'
  have hlt0 := hJ.2.2.2.2.1.1.2.1 _ hal0
  refine lv_aload_n hx hb dX1_assembler_0 rfl (lv_at hl 0 rfl) ?_
  rcases (hJ.2.1 i0 hal0).2.2.2.2 with hc | hc
  · refine c_geto (w := .null) x L 1 i0 14 46 hal0 rfl rfl (by show va_rf (cOpt Z 0 (g 46 i0)) = _; rw [cOpt_none hc]; rfl) (wk_in kf_X1_46) dX1_assembler_1 ?_
    refine lv_ifnonnullN hx hb dX1_assembler_4 ?_
    refine lv_aload_n hx hb dX1_assembler_7 rfl (lv_at hl 0 rfl) ?_
    refine k_new hx hb hts hin hown hK1 0 rfl tyX0 tyX0_ok (wk_in kc_lX1_94) (wk_in kx_X0) (wk_in kn_X0) (show 0 + 1 ≤ 2 by omega) (show 0 + 3 ≤ 243 by omega) dX1_assembler_8 (fun H1 O1 z1 q1 => ?_)
    refine lv_dup hx hb dX1_assembler_11 rfl ?_
    have hlt : ∀ K i, Z.al K i → Z.ad K i < s.heap.size := fun K i h => L.1.lt h
    refine k_raw (va_runIN (b := s.heap.size) (As := []) (rest := [.ref s.heap.size, .ref (Z.ad 1 i0)]) ⟨hx, hb, hml, hown, hts⟩ (c_kasmInit l (G := G) s.heap.size H1.size) ⟨va_cnB 0 hts (wk_good kd_X0_init) rfl rfl rfl (hne.1 _ (List.mem_of_getElem? (i := 6) rfl)) (hts _ (wk_in kn_X0)) (by decide +kernel) ⟨Nat.le_of_ble_eq_true rfl, Nat.le_of_ble_eq_true rfl⟩, rfl, hts _ (wk_in ki_X0_init)⟩ ⟨fun a U gg mk q => ⟨q.1, ⟨q.2.1.1, cK.moved (Vm.Alike.refl U.vm) q.2.1.2⟩, q.2.2.1, q.2.2.2.moved (Vm.Alike.refl U.vm)⟩, fun U hU hW => ⟨rfl, ⟨by rw [hU]; exact O1, hK1.moved hW.alike⟩, by rw [hU], hE.1.moved hW.alike⟩⟩ rfl rfl hl.1 rfl (lv_room (Nat.le_of_ble_eq_true rfl)) dX1_assembler_12 ⟨show 0 + 1 + 1 ≤ 2 by omega, show 0 + 3 + 240 ≤ 243 by omega⟩) (fun w st t L0 h0 hq hL0 => ?_)
    obtain ⟨ew, t1, t2, t3, t4⟩ := hq
    cases ew
    rw [h0] at t4
    have hM2 : cH G Z g t.heap := L.1.keep (fun K i h => by
      have := hlt K i h
      rw [t4 _ (by omega) (by omega)]
      exact q1 _ this)
    obtain ⟨v, hvv⟩ := k_sd (8 + i0) (by omega)
    have hv8 : v.toInt = 8 + (i0 : Int) := by omega
    refine k_put (ty := tyX1 14) hx hb hts hin hown hK1 1 (hM2.ob hal0 rfl) 14 rfl rfl (tyX1_ok 14 (by decide)) rfl rfl (wk_in kf_X1_46) dX1_assembler_15 (fun H3 O3 z3 q3 => ?_)
    have hne0 := hlt 1 i0 hal0
    have t1' : t_OB s.heap.size (G.1 0) 3 (G.2.1 0) H3 (aV H1.size) := t1.kept (q3 _ (by omega))
    have t2' : H3[H1.size]? = some (vp_cell G.2.2.1 (240, .inl (fun _ => 0))) := by rw [q3 _ (by omega)]; exact t2
    have hM3 : cH G (zAs Z i0 s.heap.size H1.size) (gAs g i0 v) H3 := hM2.asm hJ hal0 hv8 t1' t2' O3 (fun K i hi h1 _ => q3 _ (fun z => h1 (hA K i 1 i0 hi hal0 z)))
    have hz : cZl Z (zAs Z i0 s.heap.size H1.size) 2 243 := cZl_asm
    have xa1 : cXA p c cX1_assembler s args (wk (Cond.code yX1_assembler cX1_assembler 1 (some (.object "CellSwitch$Assembler")))) m G (zAs Z i0 s.heap.size H1.size) (cAf Z s.heap.size) RX1 s.heap := xa.next (H := s.heap) hz (cAp_asm hA (fun K i h z => by have := hlt K i h; omega) (fun K i h z => by have := hlt K i h; omega) (by omega)) (cSt_asm hZ) (Nat.le_refl _) (fun q h => (cAd_asm h).elim Or.inl (fun z => Or.inr (by omega)))
    have hmem : cAf Z s.heap.size (Z.ad 1 i0) := Or.inl ⟨1, i0, hal0, by decide, rfl⟩
    have L3 : cL G (zAs Z i0 s.heap.size H1.size) (cAf Z s.heap.size) s.heap X (gAs g i0 v) H3 ([] ++ L0 ++ [⟨Z.ad 1 i0, G.2.1 1 14⟩]) := by
      refine ⟨hM3, ⟨by omega, fun q h1 h2 => ?_, fun q hq => ?_⟩, cI_asm L.2.2⟩
      · rw [q3 q (fun z => h2 (by rw [z]; exact hmem)), t4 q (by omega) (by omega), q1 q h1]
      · rcases List.mem_append.mp hq with h | h
        · rcases hL0 q h with z | z
          · exact Or.inr (Nat.le_of_eq z.symm)
          · exact Or.inr (Nat.le_trans (by omega) z)
        · rw [List.mem_singleton.mp h]
          exact hmem
    have e1 : (zAs Z i0 s.heap.size H1.size).ad 1 i0 = Z.ad 1 i0 := asK (by decide)
    rw [← e1] at hl
    refine lv_aload_n hx hb dX1_assembler_18 rfl (lv_at hl 0 rfl) ?_
    have hJ3 : cJ (zAs Z i0 s.heap.size H1.size) (gAs g i0 v) := cJ_asm hJ hv8
    have e46 : gAs g i0 v 46 i0 = v := if_pos ⟨rfl, rfl⟩
    refine c_geto (w := .ref ((zAs Z i0 s.heap.size H1.size).ad 0 (8 + i0))) xa1.1 L3 1 i0 14 46 (Or.inl hal0) rfl rfl (by show va_rf (cOpt _ 0 (gAs g i0 v 46 i0)) = _; rw [e46, cOpt_some (by omega), show v.toInt.toNat = 8 + i0 by omega]; rfl) (wk_in kf_X1_46) dX1_assembler_19 ?_
    exact k_aret xa1 L3 hr (Or.inl ⟨_, rfl⟩) hlocks (Int.le_refl _) (show cZl Z (zAs Z i0 s.heap.size H1.size) (0 + 1 + 1) (0 + 3 + 240) from hz) ⟨hW _ _ (Or.inr ⟨hc, by rw [e46]; exact hv8, rfl, rfl, rfl⟩), mFi_asm, mFr_asm, hJ3, Nat.le_refl _, rfl, Or.inr ⟨Or.inl rfl, rfl⟩, Or.inr ⟨Or.inr rfl, rfl⟩⟩ (by omega) (by omega) dX1_assembler_22
  · have e0 : cOpt Z 0 (g 46 i0) = some (Z.ad 0 (8 + i0)) := by rw [cOpt_some (by omega), show (g 46 i0).toInt.toNat = 8 + i0 by omega]
    refine c_geto (w := .ref (Z.ad 0 (8 + i0))) x L 1 i0 14 46 hal0 rfl rfl (by show va_rf (cOpt Z 0 (g 46 i0)) = _; rw [e0]; rfl) (wk_in kf_X1_46) dX1_assembler_1 ?_
    refine lv_ifnonnull (tgt := 18) hx hb dX1_assembler_4 (by decide) ?_
    refine lv_aload_n hx hb dX1_assembler_18 rfl (lv_at hl 0 rfl) ?_
    refine c_geto (w := .ref (Z.ad 0 (8 + i0))) x L 1 i0 14 46 hal0 rfl rfl (by show va_rf (cOpt Z 0 (g 46 i0)) = _; rw [e0]; rfl) (wk_in kf_X1_46) dX1_assembler_19 ?_
    exact k_aret xa L hr (Or.inl ⟨_, rfl⟩) hlocks (Int.le_refl _) cZl.rf ⟨hW _ _ (Or.inl ⟨by omega, rfl, rfl⟩), mFi.rf, fun _ _ => rfl, hJ, Nat.le_refl _, rfl, hc.2.1, hc.2.2⟩ (Nat.zero_le _) (Nat.zero_le _) dX1_assembler_22

section DKNew
variable {p : Program} {l : Launch} {e : Env} {R : Room} {s : State} {m : MethodId} {args : Array Value} {below : List Frame} {meth : Method} {c : Code} {H : Heap} {locs : List Loc} {cells slots : Nat} {Q : State → Prop}
variable {cc : ByteArray} {pc : Nat} {ls : Array Slot} {rest : List Value} {G : cG} {Z : cZ} {g : mSt} {H0 : Heap} {Ts : List Cond} {X : Int} {own : String} {A : Nat → Prop}
theorem d_initCall (x : cXA p c cc s args Ts m G Z A own H0) (hml : c.maxLocals = ls.size) (L : cL G Z A H0 X g H locs) {a : Nat} (O : t_OB a (G.1 1) 18 (G.2.1 1) H (fun k => defaultValue (tyX1 k))) (hfr : ∀ K i, Z.al K i → Z.ad K i ≠ a) (hAa : A a) (hJ : cJ Z g) (hw2 : Z.w 2 ≤ 2000000) {sa : Nat} (sd r o : Int32) (hsa : cSd Z sd.toInt.toNat = sa) (hsd : 0 ≤ sd.toInt ∧ sd.toInt < 2 * (Z.n : Int)) (ho : rg 0 1 o) {index : Nat} (hT : GoodIn Ts (wk (Cond.code yX1_init cX1_init 4 none))) (hlk : Cond.methodLink own index yX1_init ∈ Ts) (hinst : Cond.instanceMethod yX1_init ∈ Ts) (hini : Cond.initialized RX1 ∈ Ts) (hR : 2 ≤ R.frames ∧ 35 ≤ R.locals) (hroom : (rest.map fun v => v.category).sum ≤ 8) (hcs : cells ≤ R.cells ∧ slots ≤ R.slots) (hdg : decode cc pc = .ok (.invokespecial index, 3))
    (kk : ∀ (v : Int32) (Z1 : cZ) (g1 : mSt) (H1 : Heap) (locs1 : List Loc), v.toInt = (Z.w 2 : Int) → cZl Z Z1 1 18 → Z1.w 2 = Z.w 2 + 1 → Z1.w 3 = Z.w 3 → cXA p c cc s args Ts m G Z1 A own H0 → cL G Z1 A H0 X g1 H1 locs1 → cJ Z1 g1 → Z1.al 1 v.toInt.toNat → Z1.ad 1 v.toInt.toNat = a → g1 = gNew g v.toInt.toNat sd r o → (∀ c, Z.al 1 c → c ≠ v.toInt.toNat) → W p l e R s m args below meth c H1 locs1 cells slots Q (F0 m (pc + 3) ls rest)) : W p l e R s m args below meth c H locs cells slots Q (F0 m pc ls (.int o :: .int r :: .ref sa :: .ref a :: rest)) := by
  have x' := x
  obtain ⟨⟨hx, hb, hts, hin, hown, hK1, hA, hZ, hh, hne, hAd⟩, hE, hB⟩ := x'
  subst hsa
  obtain ⟨v, hv⟩ := k_sd (Z.w 2) (by omega)
  have hvn : v.toInt.toNat = Z.w 2 := by omega
  refine k_raw (va_runI (As := [.ref (cSd Z sd.toInt.toNat), .int r, .int o]) (rest := rest) ⟨hx, hb, hml, hown, hts⟩ (c_kcallInit l (G := G) a (cSd Z sd.toInt.toNat) r o ho) ⟨callB_of 3 hts hT rfl rfl rfl (hts _ hini) (hts _ hlk) (by decide +kernel) ⟨hR.1, hR.2⟩, rfl, hts _ hinst⟩ ⟨fun a U gg mk q => ⟨q.1, q.2.1, cK.moved (Vm.Alike.refl U.vm) q.2.2⟩, fun U hU hW => ⟨rfl, by rw [hU]; exact O, hK1.moved hW.alike⟩⟩ rfl rfl rfl rfl (by show 2 * 0 + _ ≤ 8; omega) hdg hcs) (fun w st t L0 h0 hq hL0 => ?_)
  obtain ⟨ew, q1, q2, q3⟩ := hq
  cases ew
  have hc : ¬ Z.al 1 v.toInt.toNat := fun z => by have := hJ.2.2.2.2.1.1.2.1 _ z; omega
  rw [h0] at q2 q3
  have hM1 : cH G Z g t.heap := L.1.keep (fun K i h => q3 _ (hfr K i h))
  have hM2 : cH G (zNew Z v.toInt.toNat a) (gNew g v.toInt.toNat sd r o) t.heap := hM1.adopt hc (cD_no hJ.2 hc) (fun K i h => (hJ.2.2.2.2.1.1.1 K i h).1) q1
  have hz : cZl Z (zNew Z v.toInt.toNat a) 1 18 := ⟨rfl, fun _ _ h => Or.inl h, fun K i h _ => zad (fun z => hc (by rw [← z.2]; rw [z.1] at h; exact h)), rfl, rfl⟩
  have hd1 : ∀ q, cAd (zNew Z v.toInt.toNat a) q → A q := fun q h => (cAd_adopt h).elim (hAd q) (fun z => by rw [z]; exact hAa)
  have x1 : cXA p c cc s args Ts m G (zNew Z v.toInt.toNat a) A own H0 := by
    refine ⟨⟨hx, hb, hts, hin, hown, hK1, cAp_adopt hA hfr hc, cSt_adopt hZ, hh, hne, hd1⟩, ?_, hB⟩
    unfold hcE
    rw [hz.2.2.1 55 0 (hZ.2 55 0 (show 0 < 1 by decide)) (by omega)]
    exact hE
  refine kk v (zNew Z v.toInt.toNat a) (gNew g v.toInt.toNat sd r o) t.heap (locs ++ L0) hv hz rfl (zw (by decide)) x1 ⟨hM2, ⟨by have := L.2.1.1; omega, fun q h1 h2 => ?_, fun q hq => ?_⟩, cI_adopt L.2.2 ho⟩ (cJ_adopt hJ hvn hc hsd) (Or.inr ⟨rfl, rfl⟩) (if_pos ⟨rfl, rfl⟩) rfl (fun c h z => hc (by rw [← z]; exact h))
  · rw [q3 q (fun z => h2 (by rw [z]; exact hAa))]
    exact L.2.1.2.1 q h1 h2
  · rcases List.mem_append.mp hq with h | h
    · exact L.2.1.2.2 q h
    · rw [hL0 q h]; exact hAa
end DKNew

theorem d_frames {p : Program} {l : Launch} {e : Env} {R : Room} {s : State} {m : MethodId} {args : Array Value} {below : List Frame} {meth : Method} {c : Code} {H : Heap} {locs : List Loc} {cells slots : Nat} {Q : State → Prop} {ls : Array Slot} {G : cG} {Z : cZ} {g : mSt} {H0 : Heap} {Ts : List Cond} {X : Int} {A : Nat → Prop} (xa : cXA p c cX1_addFrame s args Ts m G Z A RX1 H0) (L : cL G Z A H0 X g H locs) (i0 : Nat) (hal0 : Z.al 1 i0) (hJ : cJ Z g) (hw2 : Z.w 2 ≤ 1000000) (h0 : ls[0]? = some (Slot.val (.ref (Z.ad 1 i0)))) (hcells : cells + 6 ≤ R.cells) (hslots : slots + 968 ≤ R.slots)
    (kk : ∀ (v : Int32) (Z1 : cZ) (g1 : mSt) (H1 : Heap) (locs1 : List Loc), cZl Z Z1 6 968 → Z1.w 2 = Z.w 2 → Z1.w 3 = Z.w 3 + 968 → cXA p c cX1_addFrame s args Ts m G Z1 A RX1 H0 → cL G Z1 A H0 X g1 H1 locs1 → cJ Z1 g1 → g1 = gFr g i0 v → v.toInt = (i0 : Int) → W p l e R s m args below meth c H1 locs1 (cells + 6) (slots + 968) Q (F0 m 61 ls [])) : W p l e R s m args below meth c H locs cells slots Q (F0 m 47 ls [.int 240, .int 4, .ref (Z.ad 1 i0)]) := by
  have xa' := xa
  obtain ⟨⟨hx, hb, hts, hin, hown, hK1, hA, hZ, hh, hne, hAd⟩, hE, hB⟩ := xa'
  have hlt : ∀ K i, Z.al K i → Z.ad K i < H.size := fun K i h => L.1.lt h
  have hsz := L.2.1.1
  have hc0 := hJ.2.2.2.2.1.1.2.1 _ hal0
  refine W.grid (N := 4) (M := 240) hx hb hown (hts _ (hin _ kc_lX1_68)) (Jvm.Stand.arrayOver_alikeB (Vm.Alike.refl s.vm) hE.1.1.2.2.2) (hts _ (hin _ ka_int)) (by decide) (by decide) ⟨by decide, by decide⟩ (by omega) (by omega) dX1_addFrame_47 (fun H1 cA comp f1 f2 z1 e1 e2 o1 => ?_)
  have hcA : cA = G.2.2.2.2 53 := Option.some.inj (f1.symm.trans hE.1.1.2.2.1)
  have hcB : comp = G.2.2.1 := Option.some.inj (f2.symm.trans hE.1.1.1)
  subst hcA hcB
  have hM1 : cH G Z g H1 := L.1.keep (fun K i h => o1 _ (hlt K i h))
  have hn0 := hlt 1 i0 hal0
  refine k_put (ty := tyX1 12) hx hb hts hin hown hK1 1 (hM1.ob hal0 rfl) 12 rfl rfl (tyX1_ok 12 (by decide)) rfl rfl (hin _ kf_X1_38) dX1_addFrame_51 (fun H2 O2 z2 q2 => ?_)
  refine lv_aload_n hx hb dX1_addFrame_54 rfl h0 ?_
  refine lv_iconst (v := 4) hx hb dX1_addFrame_55 (by decide) ?_
  refine W.newa (atype := .int) hx hb (hts _ (hin _ ka_int)) rfl dX1_addFrame_56 rfl (by decide) (by decide) (by omega) (by show slots + 4 + 4 * 240 + 4 ≤ _; omega) fun cA2 kA2 comp2 k1 k2 k3 => ?_
  have hcC : cA2 = G.2.2.1 := Option.some.inj (k1.symm.trans hE.1.1.1)
  subst hcC
  generalize hH3 : H2.push ({ cls := G.2.2.1, slots := Array.replicate (4 : Int32).toNatClampNeg (defaultValue (newarray.typeOf .int)), vm := .none } : Cell) = H3
  have z3 : H3.size = H2.size + 1 := by rw [← hH3, Array.size_push]
  have e3 : H3[H2.size]? = some (arrV G.2.2.1 4 (fun _ => .int 0)) := by rw [← hH3, Array.getElem?_push_size, ← arrV_new]; rfl
  have o3 : ∀ q : Nat, q < H2.size → H3[q]? = H2[q]? := fun q hq => by rw [← hH3, Array.getElem?_push, if_neg (Nat.ne_of_lt hq)]
  refine W.eq (g2 := F0 m 58 ls [.ref H2.size, .ref (Z.ad 1 i0)]) rfl ?_
  refine k_put (ty := tyX1 13) hx hb hts hin hown hK1 1 (O2.kept (o3 _ (by omega))) 13 rfl rfl (tyX1_ok 13 (by decide)) rfl rfl (hin _ kf_X1_42) dX1_addFrame_58 (fun H4 O4 z4 q4 => ?_)
  obtain ⟨v, hv⟩ := k_sd i0 (by omega)
  have hb5 : H2.size = H.size + 5 := by omega
  have g1 : ∀ q : Nat, q ≠ Z.ad 1 i0 → q < H.size + 5 → H4[q]? = H1[q]? := fun q h1 h2 => by rw [q4 q h1, o3 q (by omega), q2 q h1]
  have hM4 : cH G (zFr Z i0 H.size (H.size + 5)) (gFr g i0 v) H4 := hM1.frm hJ hal0 hv (by rw [g1 _ (by omega) (by omega)]; exact e1) (fun j hj => by rw [g1 _ (by omega) (by omega)]; exact e2 j hj) (by rw [← hb5, q4 _ (by omega)]; exact e3) (by rw [← hb5]; exact O4) (fun K i hi h1 => by have := hlt K i hi; rw [g1 _ (fun z => h1 (hA K i 1 i0 hi hal0 z)) (by omega)])
  have hz : cZl Z (zFr Z i0 H.size (H.size + 5)) 6 968 := cZl_frm
  have xa1 : cXA p c cX1_addFrame s args Ts m G (zFr Z i0 H.size (H.size + 5)) A RX1 H0 := xa.next (H := H) hz (cAp_frm hA hlt) (cSt_frm hZ) hsz (fun q h => cAd_frm h)
  have hmem : A (Z.ad 1 i0) := hAd _ ⟨1, i0, hal0, by decide, rfl⟩
  have e6 : cells + 1 + 4 + 1 = cells + 6 := by omega
  have e968 : slots + 4 + 4 * 240 + (4 : Int32).toNatClampNeg = slots + 968 := by show slots + 4 + 4 * 240 + 4 = slots + 968; omega
  rw [e6, e968]
  refine kk v _ _ H4 _ hz rfl rfl xa1 ⟨hM4, ⟨by omega, fun q h1 h2 => ?_, fun q hq => ?_⟩, cI_frm L.2.2⟩ (cJ_frm hJ hv) rfl hv
  · rw [g1 q (fun z => h2 (by rw [z]; exact hmem)) (by omega), o1 q (by omega)]
    exact L.2.1.2.1 q h1 h2
  · rcases List.mem_append.mp hq with h | h
    · rcases List.mem_append.mp h with h | h
      · exact L.2.1.2.2 q h
      · rw [List.mem_singleton.mp h]; exact hmem
    · rw [List.mem_singleton.mp h]; exact hmem
