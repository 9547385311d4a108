/-! assemblers of calls -/
def aV (b : Nat) (k : Nat) : Value := if k = 0 then .ref b else defaultValue (tyX0 k)
def rm_kasmInit : Room := { frames := 1, cells := 1, slots := 240, locals := 12 }
set_option maxHeartbeats 4000000 in
set_option maxRecDepth 100000 in
theorem c_kasmInit (l : Launch) {G : cG} (a sz : Nat) : Met l yX0_init (wk (Cond.code yX0_init cX0_init 1 none)) rm_kasmInit (va_Pc [.ref a] (fun U => (t_OB a (G.1 0) 3 (G.2.1 0) U.heap (fun k => defaultValue (tyX0 k)) ∧ cK G U) ∧ U.heap.size = sz ∧ kTb G U)) (fun _ st oc t => oc = .returned none ∧ t_OB a (G.1 0) 3 (G.2.1 0) t.heap (aV sz) ∧ t.heap[sz]? = some (vp_cell G.2.2.1 (240, .inl (fun _ => 0))) ∧ t.heap.size = sz + 1 ∧ ∀ q : Nat, q < sz → q ≠ a → t.heap[q]? = st.heap[q]?) 1 240 (fun q => q = a ∨ sz ≤ q) := by
  refine Met.ofW (cc := cX0_init) (maxL := 1) (ret := none) (by decide) rfl ?_
  intro p e s m args below meth c s₁ B hml hv
  obtain ⟨rfl, ⟨O, hK1⟩, hsz, hTb⟩ := hv
  subst hsz
  have hr := B.returns
  have hlocks := B.notSynchronized
  have hx := B.exec
  have hb := B.bytes
  have hts := atoms_spec (ws := wk (Cond.code yX0_init cX0_init 1 none)) B.pre
  have hin : ∀ w ∈ wsUC, w ∈ wk (Cond.code yX0_init cX0_init 1 none) := fun w h => wk_in h
  have hown : s.vm.findClass RX0 = some m.cls := findClass_of_methodNamed B.named
  have hnm : meth.name = "<init>" := (name_of_methodNamed B.named B.method).1
  have hl := lv_entry ([.ref a]) (n := 1) (Nat.le_of_ble_eq_true rfl)
  rw [lg_entry_eq]
  generalize (lg_sl ([.ref a]) ++ List.replicate (1 - (lg_sl ([.ref a])).length) Slot.unset).toArray = ls at hl ⊢
  have hl : lv_has ls 1 [(0, .ref a)] := hl
  refine lv_aload_n hx hb dX0_init_0 rfl (lv_at hl 0 rfl) ?_
  refine W.objInit hx hb hown (hts _ (wk_in kl_X0_3)) (hts _ (wk_in kz_0_2)) (hts _ (wk_in kz_0_3)) rfl (by rw [hml]; exact hl.1) rfl dX0_init_1 (Nat.le_of_ble_eq_true rfl) (Nat.le_of_ble_eq_true rfl) ?_
  refine lv_aload_n hx hb dX0_init_4 rfl (lv_at hl 0 rfl) ?_
  refine lv_sipush (v := 240) hx hb dX0_init_5 (by decide) ?_
  refine W.newa hx hb (hts _ (wk_in ka_int)) rfl dX0_init_8 rfl (by decide) (by decide) (Nat.le_refl 1) (Nat.le_refl 240) fun cA kA comp f1 f2 f3 => ?_
  have hcA : cA = G.2.2.1 := Option.some.inj (f1.symm.trans hTb.1.1)
  subst hcA
  generalize hH1 : s.heap.push ({ cls := G.2.2.1, slots := Array.replicate (240 : Int32).toNatClampNeg (defaultValue (newarray.typeOf .int)), vm := .none } : Cell) = H1
  have z1 : H1.size = s.heap.size + 1 := by rw [← hH1, Array.size_push]
  have e1 : H1[s.heap.size]? = some (vp_cell G.2.2.1 (240, .inl (fun _ => 0))) := by
    have e0 : H1[s.heap.size]? = some (arrV G.2.2.1 240 (fun _ => .int 0)) := by rw [← hH1, Array.getElem?_push_size, ← arrV_new]; rfl
    rw [e0, vp_cell_i]
  have o1 : ∀ q : Nat, q < s.heap.size → H1[q]? = s.heap[q]? := fun q hq => by rw [← hH1, Array.getElem?_push, if_neg (Nat.ne_of_lt hq)]
  have hla : a < s.heap.size := by
    obtain ⟨cell, q1, -⟩ := O
    exact (Array.getElem?_eq_some_iff.mp q1).1
  refine W.eq (g2 := F0 m 10 ls [.ref s.heap.size, .ref a]) rfl ?_
  refine k_putF (ty := tyX0 0) hx hb hts hin hown hK1 hnm 0 (O.kept (o1 a hla)) 0 rfl ⟨rfl, rfl⟩ (tyX0_ok 0 (by decide)) rfl rfl (wk_in kf_X0_9) dX0_init_10 (fun H2 O2 z2 q2 => ?_)
  have hT : ∀ t : State, t.heap = H2 → t_OB a (G.1 0) 3 (G.2.1 0) t.heap (aV s.heap.size) ∧ t.heap[s.heap.size]? = some (vp_cell G.2.2.1 (240, .inl (fun _ => 0))) ∧ t.heap.size = s.heap.size + 1 ∧ ∀ q : Nat, q < s.heap.size → q ≠ a → t.heap[q]? = s.heap[q]? := by
    intro t ht
    rw [ht]
    refine ⟨O2.to (fun k hk => ?_), by rw [q2 _ (by omega)]; exact e1, by omega, fun q h1 h2 => by rw [q2 q h2, o1 q h1]⟩
    unfold updV aV
    by_cases hk0 : k = 0
    · rw [if_pos hk0, if_pos hk0]
    · rw [if_neg hk0, if_neg hk0]
  exact W.vret hx hb hr (fun t ht _ => ⟨rfl, hT t ht⟩) (fun q hq => by rw [List.nil_append] at hq; rw [List.mem_singleton.mp hq]; exact Or.inl rfl) dX0_init_13
def zAs (Z : cZ) (c a b : Nat) : cZ := (fun K i => if K = 0 ∧ i = 8 + c then a else if K = 16 ∧ i = 8 + c then b else Z.ad K i, fun K i => Z.al K i ∨ ((K = 0 ∨ K = 16) ∧ i = 8 + c), Z.n, fun k => Z.w k + (if k = 0 then 2 else if k = 1 then 243 else if k = 3 then 243 else if k = 4 then 2 else 0))
def gAs (g : mSt) (c : Nat) (v : Int32) : mSt := fun j i => if j = 46 ∧ i = c then v else if j < 3 ∧ i = 8 + c then 0 else if j = 512 ∧ i / 8192 = 8 + c then 0 else g j i
theorem asd {Z : cZ} {c a b K i : Nat} (h : ¬ ((K = 0 ∨ K = 16) ∧ i = 8 + c)) : (zAs Z c a b).ad K i = Z.ad K i := by
  show (if K = 0 ∧ i = 8 + c then a else if K = 16 ∧ i = 8 + c then b else Z.ad K i) = Z.ad K i
  rw [if_neg (fun z => h ⟨Or.inl z.1, z.2⟩), if_neg (fun z => h ⟨Or.inr z.1, z.2⟩)]
theorem asK {Z : cZ} {c a b K i : Nat} (h : K ≠ 0 ∧ K ≠ 16) : (zAs Z c a b).ad K i = Z.ad K i := asd (fun z => by omega)
theorem as0 {Z : cZ} {c a b : Nat} : (zAs Z c a b).ad 0 (8 + c) = a := if_pos ⟨rfl, rfl⟩
theorem as16 {Z : cZ} {c a b : Nat} : (zAs Z c a b).ad 16 (8 + c) = b := by
  show (if (16 : Nat) = 0 ∧ 8 + c = 8 + c then a else if (16 : Nat) = 16 ∧ 8 + c = 8 + c then b else Z.ad 16 (8 + c)) = b
  rw [if_neg (by omega), if_pos ⟨rfl, rfl⟩]
theorem asSd {Z : cZ} {c a b k : Nat} : cSd (zAs Z c a b) k = cSd Z k := by
  unfold cSd
  rw [show (zAs Z c a b).n = Z.n from rfl, asK (by decide), asK (by decide)]
theorem asOp {Z : cZ} {c a b K : Nat} {x : Int32} (h : K ≠ 0 ∧ K ≠ 16) : cOpt (zAs Z c a b) K x = cOpt Z K x := by
  unfold cOpt
  rw [asK h]
theorem gAs_o {g : mSt} {c j i : Nat} {v : Int32} (h1 : ¬ (j = 46 ∧ i = c)) (h2 : ¬ (j < 3 ∧ i = 8 + c)) (h3 : ¬ (j = 512 ∧ i / 8192 = 8 + c)) : gAs g c v j i = g j i := by
  unfold gAs
  rw [if_neg h1, if_neg h2, if_neg h3]
theorem gAs_r {g : mSt} {c j : Nat} {v : Int32} (h : j ≠ 46 ∧ 3 ≤ j ∧ j ≠ 512) : gAs g c v j = g j := funext fun i => gAs_o (by omega) (by omega) (by omega)
theorem asTe {Z : cZ} {c a b K i k : Nat} {x : Int32} : cTe (zAs Z c a b) x K i k = cTe Z x K i k := by
  have h10 := fun i => asK (Z := Z) (c := c) (a := a) (b := b) (K := 10) (i := i) (by decide)
  have h3 := fun i => asK (Z := Z) (c := c) (a := a) (b := b) (K := 3) (i := i) (by decide)
  have h4 := fun i => asK (Z := Z) (c := c) (a := a) (b := b) (K := 4) (i := i) (by decide)
  have h38 := fun i => asK (Z := Z) (c := c) (a := a) (b := b) (K := 38) (i := i) (by decide)
  have h1 := fun x => asOp (Z := Z) (c := c) (a := a) (b := b) (K := 1) (x := x) (by decide)
  simp only [cTe, h10, h3, h4, h38, h1, asSd]
theorem asTo {Z : cZ} {c a b K i f : Nat} {x : Int32} (h0 : ¬ (K = 0 ∧ i = 8 + c)) (h1 : ¬ (K = 1 ∧ f = 14)) (h3 : K = 3 → i < 8) (hr : cRef K f = true) : cTo (zAs Z c a b) x K i f = cTo Z x K i f := by
  have e1 := fun x => asOp (Z := Z) (c := c) (a := a) (b := b) (K := 1) (x := x) (by decide)
  have e53 := fun x => asOp (Z := Z) (c := c) (a := a) (b := b) (K := 53) (x := x) (by decide)
  have e37 := fun x => asOp (Z := Z) (c := c) (a := a) (b := b) (K := 37) (x := x) (by decide)
  have hk : ∀ K' i', (K' ≠ 0 ∧ K' ≠ 16) → (zAs Z c a b).ad K' i' = Z.ad K' i' := fun _ _ h => asK h
  have hn : (zAs Z c a b).n = Z.n := rfl
  by_cases hK0 : K = 0
  · subst hK0
    show some ((zAs Z c a b).ad 16 i) = some (Z.ad 16 i)
    rw [asd (fun z => h0 ⟨rfl, z.2⟩)]
  by_cases hK1 : K = 1
  · subst hK1
    have hf : f ≠ 14 := fun z => h1 ⟨rfl, z⟩
    have hr' : f = 0 ∨ (11 ≤ f ∧ f ≤ 14) := by
      have h2 : (decide (f = 0) || (decide (11 ≤ f) && decide (f ≤ 14))) = true := hr
      simpa using h2
    rcases (by omega : f = 0 ∨ f = 11 ∨ f = 12 ∨ f = 13) with e | e | e | e <;> subst e
    · show some (cSd (zAs Z c a b) x.toInt.toNat) = some (cSd Z x.toInt.toNat)
      rw [asSd]
    · exact e1 x
    · exact e53 x
    · exact e37 x
  by_cases hK3 : K = 3
  · subst hK3
    have hi := h3 rfl
    have h03 : (zAs Z c a b).ad 0 i = Z.ad 0 i := asd (by omega)
    have q2 := fun i => hk 2 i (by decide)
    have q7 := fun i => hk 7 i (by decide)
    have q19 := fun i => hk 19 i (by decide)
    have q20 := fun i => hk 20 i (by decide)
    have q21 := fun i => hk 21 i (by decide)
    have q22 := fun i => hk 22 i (by decide)
    have q23 := fun i => hk 23 i (by decide)
    have q24 := fun i => hk 24 i (by decide)
    simp only [cTo, h03, q2, q7, q19, q20, q21, q22, q23, q24]
  · simp only [cTo]
    split
    all_goals first
      | (exact absurd rfl hK0)
      | (exact absurd rfl hK1)
      | (exact absurd rfl hK3)
      | (rw [hk _ _ (by decide)]; done)
      | (split <;> first | (rw [hk _ _ (by decide)]; done) | (rw [hn, hk _ _ (by decide)]; done))
      | (rw [hk _ _ (by decide), hk _ _ (by decide)]; done)
