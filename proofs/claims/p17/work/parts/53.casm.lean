/-! assemblers of calls -/
theorem k_nar {v : Int32} (r : rg 0 1 v) : narrow .boolean (.int v) = .int v := by
  have h4 : narrow .boolean (.int v) = .int (vp_nar .boolean v) := rfl
  rw [h4, nar01 r]
def aV (b : Nat) (k : Nat) : Value := if k = 0 then .ref b else defaultValue (tyX0 k)
def rm_kasmInit : Room := { frames := 1, cells := 1, slots := 240, locals := 12 }
set_option maxHeartbeats 4000000 in
set_option maxRecDepth 100000 in
theorem c_kasmInit (l : Launch) {G : cG} (a sz : Nat) : Met l yX0_init (wk (Cond.code yX0_init cX0_init 1 none)) rm_kasmInit (va_Pc [.ref a] (fun U => (t_OB a (G.1 0) 3 (G.2.1 0) U.heap (fun k => defaultValue (tyX0 k)) ∧ cK G U) ∧ U.heap.size = sz ∧ kTb G U)) (fun _ st oc t => oc = .returned none ∧ t_OB a (G.1 0) 3 (G.2.1 0) t.heap (aV sz) ∧ t.heap[sz]? = some (vp_cell G.2.2.1 (240, .inl (fun _ => 0))) ∧ t.heap.size = sz + 1 ∧ ∀ q : Nat, q < sz → q ≠ a → t.heap[q]? = st.heap[q]?) 1 240 (fun q => q = a ∨ sz ≤ q) := by
  refine Met.ofW (cc := cX0_init) (maxL := 1) (ret := none) (by decide) rfl ?_
  intro p e s m args below meth c s₁ B hml hv
  obtain ⟨rfl, ⟨O, hK1⟩, hsz, hTb⟩ := hv
  subst hsz
  have hr := B.returns
  have hlocks := B.notSynchronized
  have hx := B.exec
  have hb := B.bytes
  have hts := atoms_spec (ws := wk (Cond.code yX0_init cX0_init 1 none)) B.pre
  have hin : ∀ w ∈ wsUC, w ∈ wk (Cond.code yX0_init cX0_init 1 none) := fun w h => wk_in h
  have hown : s.vm.findClass RX0 = some m.cls := findClass_of_methodNamed B.named
  have hnm : meth.name = "<init>" := (name_of_methodNamed B.named B.method).1
  have hl := lv_entry ([.ref a]) (n := 1) (Nat.le_of_ble_eq_true rfl)
  rw [lg_entry_eq]
  generalize (lg_sl ([.ref a]) ++ List.replicate (1 - (lg_sl ([.ref a])).length) Slot.unset).toArray = ls at hl ⊢
  have hl : lv_has ls 1 [(0, .ref a)] := hl
  refine lv_aload_n hx hb dX0_init_0 rfl (lv_at hl 0 rfl) ?_
  refine W.objInit hx hb hown (hts _ (wk_in kl_X0_3)) (hts _ (wk_in kz_0_2)) (hts _ (wk_in kz_0_3)) rfl (by rw [hml]; exact hl.1) rfl dX0_init_1 (Nat.le_of_ble_eq_true rfl) (Nat.le_of_ble_eq_true rfl) ?_
  refine lv_aload_n hx hb dX0_init_4 rfl (lv_at hl 0 rfl) ?_
  refine lv_sipush (v := 240) hx hb dX0_init_5 (by decide) ?_
  refine W.newa (atype := .int) hx hb (hts _ (wk_in ka_int)) rfl dX0_init_8 rfl (by decide) (by decide) (Nat.le_refl 1) (Nat.le_refl 240) fun cA kA comp f1 f2 f3 => ?_
  have hcA : cA = G.2.2.1 := Option.some.inj (f1.symm.trans hTb.1.1)
  subst hcA
  generalize hH1 : s.heap.push ({ cls := G.2.2.1, slots := Array.replicate (240 : Int32).toNatClampNeg (defaultValue (newarray.typeOf .int)), vm := .none } : Cell) = H1
  have z1 : H1.size = s.heap.size + 1 := by rw [← hH1, Array.size_push]
  have e1 : H1[s.heap.size]? = some (vp_cell G.2.2.1 (240, .inl (fun _ => 0))) := by
    have e0 : H1[s.heap.size]? = some (arrV G.2.2.1 240 (fun _ => .int 0)) := by rw [← hH1, Array.getElem?_push_size, ← arrV_new]; rfl
    rw [e0, vp_cell_i]
  have o1 : ∀ q : Nat, q < s.heap.size → H1[q]? = s.heap[q]? := fun q hq => by rw [← hH1, Array.getElem?_push, if_neg (Nat.ne_of_lt hq)]
  have hla : a < s.heap.size := by
    obtain ⟨cell, q1, -⟩ := O
    exact (Array.getElem?_eq_some_iff.mp q1).1
  refine W.eq (g2 := F0 m 10 ls [.ref s.heap.size, .ref a]) rfl ?_
  refine k_putF (ty := tyX0 0) hx hb hts hin hown hK1 hnm 0 (O.kept (o1 a hla)) 0 rfl ⟨rfl, rfl⟩ (tyX0_ok 0 (by decide)) rfl rfl (wk_in kf_X0_9) dX0_init_10 (fun H2 O2 z2 q2 => ?_)
  have hT : ∀ t : State, t.heap = H2 → t_OB a (G.1 0) 3 (G.2.1 0) t.heap (aV s.heap.size) ∧ t.heap[s.heap.size]? = some (vp_cell G.2.2.1 (240, .inl (fun _ => 0))) ∧ t.heap.size = s.heap.size + 1 ∧ ∀ q : Nat, q < s.heap.size → q ≠ a → t.heap[q]? = s.heap[q]? := by
    intro t ht
    rw [ht]
    refine ⟨O2.to (fun k hk => ?_), by rw [q2 _ (by omega)]; exact e1, by omega, fun q h1 h2 => by rw [q2 q h2, o1 q h1]⟩
    unfold updV aV
    by_cases hk0 : k = 0
    · rw [if_pos hk0]
    · rw [if_neg hk0]
  exact W.vret hx hb hr (fun t ht _ => ⟨rfl, hT t ht⟩) (fun q hq => by rw [List.nil_append] at hq; rw [List.mem_singleton.mp hq]; exact Or.inl rfl) dX0_init_13
def zAs (Z : cZ) (c a b : Nat) : cZ := (fun K i => if K = 0 ∧ i = 8 + c then a else if K = 16 ∧ i = 8 + c then b else Z.ad K i, fun K i => Z.al K i ∨ ((K = 0 ∨ K = 16) ∧ i = 8 + c), Z.n, fun k => Z.w k + (if k = 0 then 2 else if k = 1 then 243 else if k = 3 then 243 else if k = 4 then 2 else 0))
def gAs (g : mSt) (c : Nat) (v : Int32) : mSt := fun j i => if j = 46 ∧ i = c then v else if j < 3 ∧ i = 8 + c then 0 else if j = 512 ∧ i / 8192 = 8 + c then 0 else g j i
theorem asd {Z : cZ} {c a b K i : Nat} (h : ¬ ((K = 0 ∨ K = 16) ∧ i = 8 + c)) : (zAs Z c a b).ad K i = Z.ad K i := by
  show (if K = 0 ∧ i = 8 + c then a else if K = 16 ∧ i = 8 + c then b else Z.ad K i) = Z.ad K i
  rw [if_neg (fun z => h ⟨Or.inl z.1, z.2⟩), if_neg (fun z => h ⟨Or.inr z.1, z.2⟩)]
theorem asK {Z : cZ} {c a b K i : Nat} (h : K ≠ 0 ∧ K ≠ 16) : (zAs Z c a b).ad K i = Z.ad K i := asd (fun z => by omega)
theorem as0 {Z : cZ} {c a b : Nat} : (zAs Z c a b).ad 0 (8 + c) = a := if_pos ⟨rfl, rfl⟩
theorem as16 {Z : cZ} {c a b : Nat} : (zAs Z c a b).ad 16 (8 + c) = b := by
  show (if (16 : Nat) = 0 ∧ 8 + c = 8 + c then a else if (16 : Nat) = 16 ∧ 8 + c = 8 + c then b else Z.ad 16 (8 + c)) = b
  rw [if_neg (by omega), if_pos ⟨rfl, rfl⟩]
theorem asSd {Z : cZ} {c a b k : Nat} : cSd (zAs Z c a b) k = cSd Z k := by
  unfold cSd
  rw [show (zAs Z c a b).n = Z.n from rfl, asK (by decide), asK (by decide)]
theorem asOp {Z : cZ} {c a b K : Nat} {x : Int32} (h : K ≠ 0 ∧ K ≠ 16) : cOpt (zAs Z c a b) K x = cOpt Z K x := by
  unfold cOpt
  rw [asK h]
theorem gAs_o {g : mSt} {c j i : Nat} {v : Int32} (h1 : ¬ (j = 46 ∧ i = c)) (h2 : ¬ (j < 3 ∧ i = 8 + c)) (h3 : ¬ (j = 512 ∧ i / 8192 = 8 + c)) : gAs g c v j i = g j i := by
  unfold gAs
  rw [if_neg h1, if_neg h2, if_neg h3]
theorem gAs_r {g : mSt} {c j : Nat} {v : Int32} (h : j ≠ 46 ∧ 3 ≤ j ∧ j ≠ 512) : gAs g c v j = g j := funext fun i => gAs_o (by omega) (by omega) (by omega)
theorem asTe {Z : cZ} {c a b K i k : Nat} {x : Int32} : cTe (zAs Z c a b) x K i k = cTe Z x K i k := by
  have h10 := fun i => asK (Z := Z) (c := c) (a := a) (b := b) (K := 10) (i := i) (by decide)
  have h3 := fun i => asK (Z := Z) (c := c) (a := a) (b := b) (K := 3) (i := i) (by decide)
  have h4 := fun i => asK (Z := Z) (c := c) (a := a) (b := b) (K := 4) (i := i) (by decide)
  have h38 := fun i => asK (Z := Z) (c := c) (a := a) (b := b) (K := 38) (i := i) (by decide)
  have h1 := fun x => asOp (Z := Z) (c := c) (a := a) (b := b) (K := 1) (x := x) (by decide)
  simp only [cTe, h10, h3, h4, h38, h1, asSd]
theorem asTo {Z : cZ} {c a b K i f : Nat} {x : Int32} (h0 : ¬ (K = 0 ∧ i = 8 + c)) (h1 : ¬ (K = 1 ∧ f = 14)) (h3 : K = 3 → i < 8) (hr : cRef K f = true) : cTo (zAs Z c a b) x K i f = cTo Z x K i f := by
  have e1 := fun x => asOp (Z := Z) (c := c) (a := a) (b := b) (K := 1) (x := x) (by decide)
  have e53 := fun x => asOp (Z := Z) (c := c) (a := a) (b := b) (K := 53) (x := x) (by decide)
  have e37 := fun x => asOp (Z := Z) (c := c) (a := a) (b := b) (K := 37) (x := x) (by decide)
  have hk : ∀ K' i', (K' ≠ 0 ∧ K' ≠ 16) → (zAs Z c a b).ad K' i' = Z.ad K' i' := fun _ _ h => asK h
  have hn : (zAs Z c a b).n = Z.n := rfl
  by_cases hK0 : K = 0
  · subst hK0
    show some ((zAs Z c a b).ad 16 i) = some (Z.ad 16 i)
    rw [asd (fun z => h0 ⟨rfl, z.2⟩)]
  by_cases hK1 : K = 1
  · subst hK1
    have hf : f ≠ 14 := fun z => h1 ⟨rfl, z⟩
    have hr' : f = 0 ∨ (11 ≤ f ∧ f ≤ 14) := by
      have h2 : (decide (f = 0) || (decide (11 ≤ f) && decide (f ≤ 14))) = true := hr
      simpa using h2
    rcases (by omega : f = 0 ∨ f = 11 ∨ f = 12 ∨ f = 13) with e | e | e | e <;> subst e
    · show some (cSd (zAs Z c a b) x.toInt.toNat) = some (cSd Z x.toInt.toNat)
      rw [asSd]
    · exact e1 x
    · exact e53 x
    · exact e37 x
  by_cases hK3 : K = 3
  · subst hK3
    have hi := h3 rfl
    have h03 : (zAs Z c a b).ad 0 i = Z.ad 0 i := asd (by omega)
    have q2 := fun i => hk 2 i (by decide)
    have q7 := fun i => hk 7 i (by decide)
    have q19 := fun i => hk 19 i (by decide)
    have q20 := fun i => hk 20 i (by decide)
    have q21 := fun i => hk 21 i (by decide)
    have q22 := fun i => hk 22 i (by decide)
    have q23 := fun i => hk 23 i (by decide)
    have q24 := fun i => hk 24 i (by decide)
    simp only [cTo, h03, q2, q7, q19, q20, q21, q22, q23, q24]
  · simp only [cTo]
    split
    all_goals first
      | (exact absurd rfl hK0)
      | (exact absurd rfl hK1)
      | (exact absurd rfl hK3)
      | (rw [hk _ _ (by decide)]; done)
      | (split <;> first | (rw [hk _ _ (by decide)]; done) | (rw [hn, hk _ _ (by decide)]; done))
      | (rw [hk _ _ (by decide), hk _ _ (by decide)]; done)
theorem cH.asm {G : cG} {Z : cZ} {g : mSt} {H H1 : Heap} (hM : cH G Z g H) (hJ : cJ Z g) {c a b : Nat} {v : Int32} (hc : Z.al 1 c) (hv : v.toInt = 8 + (c : Int)) (eA : t_OB a (G.1 0) 3 (G.2.1 0) H1 (aV b)) (eB : H1[b]? = some (vp_cell G.2.2.1 (240, .inl (fun _ => 0)))) (eO : t_OB (Z.ad 1 c) (G.1 1) (cNn 1) (G.2.1 1) H1 (updV (cV Z g 1 c) 14 (.ref a))) (oq : ∀ K i, Z.al K i → ¬ (K = 1 ∧ i = c) → ¬ ((K = 0 ∨ K = 16) ∧ i = 8 + c) → H1[Z.ad K i]? = H[Z.ad K i]?) : cH G (zAs Z c a b) (gAs g c v) H1 := by
  intro K i hal
  refine ⟨fun h55 => ?_, fun h55 => by
    have h0 : ¬ ((K = 0 ∨ K = 16) ∧ i = 8 + c) := by omega
    have hal2 : Z.al K i := hal.resolve_right h0
    rw [asd h0, oq K i hal2 (by omega) h0]
    exact (hM K i hal2).2 h55⟩
  by_cases h0 : (K = 0 ∨ K = 16) ∧ i = 8 + c
  · obtain ⟨hK, rfl⟩ := h0
    rcases hK with e | e <;> subst e
    · unfold cC
      rw [if_pos (by decide), as0]
      refine eA.to (fun f hf => ?_)
      have hf3 : f < 3 := hf
      rcases (by omega : f = 0 ∨ f = 1 ∨ f = 2) with e | e | e <;> subst e
      · show Value.ref b = Value.ref ((zAs Z c a b).ad 16 (8 + c))
        rw [as16]
      · show Value.int 0 = Value.int (gAs g c v 1 (8 + c))
        unfold gAs
        rw [if_neg (by omega), if_pos ⟨by decide, rfl⟩]
      · show Value.int 0 = Value.int (gAs g c v 2 (8 + c))
        unfold gAs
        rw [if_neg (by omega), if_pos ⟨by decide, rfl⟩]
    · unfold cC
      rw [if_neg (by decide), if_pos (by decide), as16, eB]
      show some (vp_cell G.2.2.1 (240, .inl (fun _ => 0))) = some (vp_cell G.2.2.1 (240, .inl (fun k => gAs g c v 512 (8192 * (8 + c) + k))))
      rw [vp_cell_i, vp_cell_i]
      refine congrArg some (arrV_cg (fun k hk => congrArg Value.int ?_))
      have n1 : ¬ ((512 : Nat) = 46 ∧ 8192 * (8 + c) + k = c) := by omega
      have n2 : ¬ ((512 : Nat) < 3 ∧ 8192 * (8 + c) + k = 8 + c) := by omega
      have n3 : (512 : Nat) = 512 ∧ (8192 * (8 + c) + k) / 8192 = 8 + c := by omega
      unfold gAs
      rw [if_neg n1, if_neg n2, if_pos n3]
  · have hal2 : Z.al K i := hal.resolve_right h0
    unfold cC
    rw [asd h0]
    by_cases h1 : K = 1 ∧ i = c
    · obtain ⟨rfl, rfl⟩ := h1
      rw [if_pos (by decide)]
      refine eO.to (fun f hf => ?_)
      have hf18 : f < 18 := hf
      unfold updV
      by_cases h14 : f = 14
      · subst h14
        rw [if_pos rfl]
        show Value.ref a = va_rf (cOpt (zAs Z i a b) 0 (gAs g i v 46 i))
        have e46 : gAs g i v 46 i = v := if_pos ⟨rfl, rfl⟩
        rw [e46, cOpt_some (by omega), show v.toInt.toNat = 8 + i by omega, as0]
        rfl
      · rw [if_neg h14]
        unfold cV
        rw [gAs_r (j := 32 * 1 + f) (by omega)]
        by_cases hr : cRef 1 f = true
        · rw [if_pos hr, if_pos hr, asTo (by omega) (by omega) (by omega) hr]
        · rw [if_neg hr, if_neg hr]
          rfl
    · have hC := (hM K i hal2).1 h55
      unfold cC at hC
      have ho := oq K i hal2 h1 h0
      have hNn := cNn_le K
      have hw := hJ.2.2.2.2.1.1.1 K i hal2
      by_cases h16 : K < 16
      · rw [if_pos h16] at hC ⊢
        refine (hC.kept ho).to (fun f hf => ?_)
        unfold cV
        have e : gAs g c v (32 * K + f) i = g (32 * K + f) i := gAs_o (fun z => h1 (by omega)) (fun z => h0 (by omega)) (by omega)
        rw [e]
        by_cases hr : cRef K f = true
        · rw [if_pos hr, if_pos hr]
          by_cases h114 : K = 1 ∧ f = 14
          · obtain ⟨rfl, rfl⟩ := h114
            have hd := (hJ.2.1 i hal2).2.2.2.2
            show va_rf (cOpt Z 0 (g (32 * 1 + 14) i)) = va_rf (cOpt (zAs Z c a b) 0 (g (32 * 1 + 14) i))
            have hne : i ≠ c := fun z => h1 ⟨rfl, z⟩
            rcases hd with z | z
            · have z' : (g (32 * 1 + 14) i).toInt < 0 := z
              rw [cOpt_none z', cOpt_none z']
            · have z' : (g (32 * 1 + 14) i).toInt = 8 + (i : Int) := z.1
              rw [cOpt_some (by omega), cOpt_some (by omega), asd (by omega)]
          · rw [asTo (fun z => h0 ⟨Or.inl z.1, z.2⟩) h114 hw.2.2 hr]
        · rw [if_neg hr, if_neg hr]
          rfl
      · rw [if_neg h16] at hC ⊢
        by_cases h48 : K < 48
        · rw [if_pos h48] at hC ⊢
          rw [ho, hC, vp_cell_i, vp_cell_i]
          have hlen := cLen_le K
          refine congrArg some (arrV_cg (fun k hk => congrArg Value.int ?_))
          rw [gAs_o (by omega) (by omega) (by omega)]
        · rw [if_neg h48] at hC ⊢
          have e1 : cLeR (zAs Z c a b) (gAs g c v) K i = cLeR Z g K i := by
            unfold cLeR
            rw [gAs_r (j := 1729) (by decide)]
            rfl
          rw [ho, hC, e1, vp_cell_q, vp_cell_q]
          refine congrArg some (arrV_cg (fun k hk => congrArg va_rf ?_))
          rw [asTe, gAs_r (by omega)]
theorem cJ_asm {Z : cZ} {g : mSt} (h : cJ Z g) {c a b : Nat} {v : Int32} (hv : v.toInt = 8 + (c : Int)) : cJ (zAs Z c a b) (gAs g c v) := by
  have q : ∀ j, j ≠ 46 ∧ 3 ≤ j ∧ j ≠ 512 → gAs g c v j = g j := fun j h => gAs_r h
  have al : ∀ K i, Z.al K i → (zAs Z c a b).al K i := fun K i h => Or.inl h
  have m4 : ∀ x : Int32, cD4 Z x → cD4 (zAs Z c a b) x := fun x hx => hx.elim Or.inl (fun h => Or.inr (al _ _ h))
  have m2 : ∀ (k : Nat) (x : Int32), cD2 Z g k x → cD2 (zAs Z c a b) (gAs g c v) k x := fun k x hx => ⟨hx.1, al _ _ hx.2.1, by rw [q 32 (by decide)]; exact hx.2.2⟩
  have wo : ∀ k, k ≠ 0 ∧ k ≠ 1 ∧ k ≠ 3 ∧ k ≠ 4 → (zAs Z c a b).w k = Z.w k := fun k hk => by
    show Z.w k + (if k = 0 then 2 else if k = 1 then 243 else if k = 3 then 243 else if k = 4 then 2 else 0) = Z.w k
    rw [if_neg hk.1, if_neg hk.2.1, if_neg hk.2.2.1, if_neg hk.2.2.2]
    rfl
  obtain ⟨h0, h1, h2, h3, h5, h4⟩ := h
  refine ⟨?_, fun c' hc' => ?_, fun k hk => ?_, fun k hk j hj => ?_, ⟨?_, fun k hk => ?_⟩, fun i => ?_⟩
  · unfold cJ0 at *
    rw [q 640 (by decide), q 704 (by decide), q 225 (by decide), q 233 (by decide), q 49 (by decide)]
    exact h0
  · have hal : Z.al 1 c' := by
      rcases hc' with h | h
      · exact h
      · omega
    obtain ⟨a1, a2, a3, a4, a5⟩ := h1 c' hal
    unfold cD1
    rw [q 32 (by decide), q 43 (by decide), q 44 (by decide), q 45 (by decide)]
    refine ⟨a1, a2.elim Or.inl (fun h => Or.inr (al _ _ h)), a3.elim Or.inl (fun h => Or.inr ⟨h.1, al _ _ h.2.1, fun k hk => al _ _ (h.2.2 k hk)⟩), a4.elim Or.inl (fun h => Or.inr ⟨h.1, al _ _ h.2⟩), ?_⟩
    by_cases hcc : c' = c
    · subst hcc
      have e46 : gAs g c' v 46 c' = v := if_pos ⟨rfl, rfl⟩
      rw [e46]
      exact Or.inr ⟨hv, Or.inr ⟨Or.inl rfl, rfl⟩, Or.inr ⟨Or.inr rfl, rfl⟩⟩
    · rw [gAs_o (by omega) (by omega) (by omega)]
      exact a5.elim Or.inl (fun h => Or.inr ⟨h.1, al _ _ h.2.1, al _ _ h.2.2⟩)
  · obtain ⟨b1, b2, b3⟩ := h2 k hk
    rw [q 386 (by decide), q 1729 (by decide), q 1728 (by decide)]
    exact ⟨b1, b2, fun j hj => m2 _ _ (b3 j hj)⟩
  · rw [q 135 (by decide)] at hj
    rw [q 1536 (by decide)]
    exact m2 _ _ (h3 k hk j hj)
  · obtain ⟨a1, a2, a3, a4, a5⟩ := h5.1
    have w0 : (zAs Z c a b).w 0 = Z.w 0 + 2 := rfl
    have w1 : (zAs Z c a b).w 1 = Z.w 1 + 243 := rfl
    have w3 : (zAs Z c a b).w 3 = Z.w 3 + 243 := rfl
    have w4 : (zAs Z c a b).w 4 = Z.w 4 + 2 := rfl
    refine ⟨fun K i hi => ?_, fun d hd => ?_, ?_, ?_, fun x h1 h2 => ?_⟩
    · rcases hi with hi | hi
      · exact a1 K i hi
      · exact ⟨by omega, fun z => by omega, fun z => by omega⟩
    · rw [wo 2 (by decide)]
      rcases hd with hd | hd
      · exact a2 d hd
      · omega
    · rw [w1, w3, wo 2 (by decide), wo 10 (by decide), wo 11 (by decide), wo 12 (by decide), wo 13 (by decide), wo 14 (by decide), wo 15 (by decide), wo 16 (by decide), wo 17 (by decide), a3]
      omega
    · rw [w0, w4, wo 2 (by decide), a4]
      omega
    · have h1 : 10 + 2 * Z.n ≤ x := h1
      rw [wo x (by omega)]
      exact a5 x h1 h2
  · rw [q 385 (by decide), q 1729 (by decide), wo (10 + k) (by omega)]
    exact ⟨(h5.2 k hk).1.elim Or.inl (fun z => Or.inr ⟨z.1, al _ _ z.2.1, z.2.2⟩), (h5.2 k hk).2⟩
  · rw [q 43 (by decide), q 1728 (by decide), q 1536 (by decide)]
    exact ⟨m4 _ (h4 i).1, m4 _ (h4 i).2.1, m4 _ (h4 i).2.2⟩
theorem cAp_asm {Z : cZ} {c a b : Nat} (h : cAp Z) (ha : ∀ K i, Z.al K i → Z.ad K i ≠ a) (hb : ∀ K i, Z.al K i → Z.ad K i ≠ b) (hab : a ≠ b) : cAp (zAs Z c a b) := by
  have key : ∀ K i, (zAs Z c a b).al K i → (K = 0 ∧ i = 8 + c ∧ (zAs Z c a b).ad K i = a) ∨ (K = 16 ∧ i = 8 + c ∧ (zAs Z c a b).ad K i = b) ∨ (Z.al K i ∧ (zAs Z c a b).ad K i = Z.ad K i) := fun K i hal => by
    by_cases q : (K = 0 ∨ K = 16) ∧ i = 8 + c
    · obtain ⟨q1, rfl⟩ := q
      rcases q1 with rfl | rfl
      · exact Or.inl ⟨rfl, rfl, as0⟩
      · exact Or.inr (Or.inl ⟨rfl, rfl, as16⟩)
    · exact Or.inr (Or.inr ⟨hal.resolve_right q, asd q⟩)
  intro K i K' i' h1 h2 e
  rcases key K i h1 with ⟨e1, e2, e3⟩ | ⟨e1, e2, e3⟩ | ⟨e1, e3⟩ <;> rcases key K' i' h2 with ⟨f1, f2, f3⟩ | ⟨f1, f2, f3⟩ | ⟨f1, f3⟩ <;> rw [e3, f3] at e
  · exact ⟨e1.trans f1.symm, e2.trans f2.symm⟩
  · exact absurd e hab
  · exact absurd e.symm (ha K' i' f1)
  · exact absurd e.symm hab
  · exact ⟨e1.trans f1.symm, e2.trans f2.symm⟩
  · exact absurd e.symm (hb K' i' f1)
  · exact absurd e (ha K i e1)
  · exact absurd e (hb K i e1)
  · exact h K i K' i' e1 f1 e
theorem cSt_asm {Z : cZ} {c a b : Nat} (h : cSt Z) : cSt (zAs Z c a b) := ⟨h.1, fun K i hi => Or.inl (h.2 K i hi)⟩
theorem cI_asm {X : Int} {g : mSt} {c : Nat} {v : Int32} (h : cI X g) : cI X (gAs g c v) := by
  intro j i
  unfold gAs
  split
  · rename_i q; rw [q.1]; exact rg_any v
  · split
    · rename_i q
      rcases (by omega : j = 0 ∨ j = 1 ∨ j = 2) with e | e | e <;> subst e
      · exact rg_any (0 : Int32)
      · exact (show rg 0 5 (0 : Int32) from ⟨by decide, by decide⟩)
      · exact rg_any (0 : Int32)
    · split
      · rename_i q; rw [q.1]; exact rg_any (0 : Int32)
      · exact h j i
theorem cAd_asm {Z : cZ} {c a b q : Nat} (h : cAd (zAs Z c a b) q) : cAd Z q ∨ q = a ∨ q = b := by
  obtain ⟨K, i, hal, n55, e⟩ := h
  by_cases hs : (K = 0 ∨ K = 16) ∧ i = 8 + c
  · obtain ⟨q1, rfl⟩ := hs
    rcases q1 with rfl | rfl
    · right; left; rw [e]; exact as0
    · right; right; rw [e]; exact as16
  · left
    rw [asd hs] at e
    exact ⟨K, i, hal.resolve_right hs, n55, e⟩
theorem cZl_asm {Z : cZ} {c a b : Nat} : cZl Z (zAs Z c a b) 2 243 := ⟨rfl, fun _ _ h => Or.inl h, fun K i _ h => asd (fun z => by have := h.2.2.2.2 z.1; omega), rfl, rfl⟩
theorem mFr_asm {g : mSt} {c : Nat} {v : Int32} : mFr [0, 1, 2, 46, 512] g (gAs g c v) := by
  intro j hj
  simp only [List.mem_cons, List.not_mem_nil, or_false, not_or] at hj
  exact gAs_r (by omega)
