/-! rows of frames: int[4][240] -/
theorem outer_shape (c : ClassId) (N h0 : Nat) : ∀ i, Jvm.Free.Multi.outerC c N h0 i = { cls := c, slots := (Jvm.Free.Multi.outerC c N h0 i).slots, vm := .none }
  | 0 => rfl
  | i + 1 => by
    have ih := outer_shape c N h0 i
    show (Jvm.Free.Multi.outerC c N h0 i).setSlot i _ = ({ cls := c, slots := ((Jvm.Free.Multi.outerC c N h0 i).setSlot i _).slots, vm := .none } : Cell)
    rw [ih]
    rfl
theorem outer_arrV (c : ClassId) (N h0 : Nat) : Jvm.Free.Multi.outerC c N h0 N = arrV c N (fun k => .ref (h0 + 1 + k)) := by
  rw [outer_shape]
  unfold arrV
  have hs := (Jvm.Free.Multi.outerC_facts c N h0 N).2.2
  congr 1
  refine Array.ext (by rw [hs, Array.size_ofFn]) (fun i h1 h2 => ?_)
  have h := Jvm.Free.Multi.outerC_slot c N h0 N i (by omega)
  rw [if_pos (by omega), Array.getElem?_eq_getElem h1] at h
  rw [Option.some.inj h, Array.getElem_ofFn]
section KGrid
variable {p : Program} {l : Launch} {e : Env} {R : Room} {s : State} {m : MethodId} {args : Array Value} {below : List Frame} {meth : Method} {c : Code} {H : Heap} {locs : List Loc} {cells slots : Nat} {Q : State → Prop} {cc : ByteArray} {pc : Nat} {ls : Array Slot} {rest : List Value}
theorem W.grid (hexec : p.tables.exec = Jvm.exec) (hb : c.code = cc) {own : String} {index : Nat} (hown : s.vm.findClass own = some m.cls) (hclink : (Cond.classLink own index "[[I").before args s = true) (hover : (Cond.arrayOver (.array .int)).before args s = true) (harr : (Cond.arrayClass .int).before args s = true) {n k : Int32} {N M : Nat} (hn : n.toInt = (N : Int)) (hk : k.toInt = (M : Int)) (hN : N ≤ 1000 ∧ M ≤ 1000) (hcells : cells + (1 + N) ≤ R.cells) (hslots : slots + (N + N * M) ≤ R.slots) (hdg : decode cc pc = .ok (.multianewarray index 2, 4))
    (kk : ∀ (H1 : Heap) (cA comp : ClassId), s.vm.findClass ("[" ++ (FieldType.array .int).toString) = some cA → s.vm.findClass (FieldType.array .int).toString = some comp → H1.size = H.size + 1 + N → H1[H.size]? = some (arrV cA N (fun j => .ref (H.size + 1 + j))) → (∀ j, j < N → H1[H.size + 1 + j]? = some (arrV comp M (fun _ => .int 0))) → (∀ q : Nat, q < H.size → H1[q]? = H[q]?) → W p l e R s m args below meth c H1 locs (cells + 1 + N) (slots + N + N * M) Q (F0 m (pc + 4) ls (.ref H.size :: rest))) : W p l e R s m args below meth c H locs cells slots Q (F0 m pc ls (.int k :: .int n :: rest)) := by
  intro T hT X
  subst hb
  have cn := tc_n hn
  have ck := tc_n hk
  have h1 : n.toNatClampNeg * 4 ≤ 536870912 := by rw [cn]; omega
  have h2 : k.toNatClampNeg * componentBytes .int ≤ 536870912 := by rw [ck]; show M * 4 ≤ _; omega
  obtain ⟨vm₁, cA, comp, hW, hfA, hfC, hO, hI, X1, st⟩ := X.multianewarray2F hexec (ty := .int) hown hclink hover harr (g := F0 m pc ls (.int k :: .int n :: rest)) rfl hdg rfl (nl_0 (by omega)) (nl_0 (by omega)) h1 h2 (by rw [ck]; omega) rfl rfl (by rw [cn]; exact hcells) (by rw [cn, ck]; exact hslots)
  rw [cn, ck] at X1 st
  have f1 := Jvm.Free.Multi.fill_facts (T.setVm vm₁) cA comp N M (defaultValue .int) N
  have fi := fun (j : Nat) (hj : j < N) => Jvm.Free.Multi.fill_inner (T.setVm vm₁) cA comp N M (defaultValue .int) N j hj
  have fo := fun (a : Addr) (ha : a < T.heap.size) => Jvm.Free.Multi.fill_old (T.setVm vm₁) cA comp N M (defaultValue .int) (a := a) ha N
  have hs : (T.setVm vm₁).heap = H := hT
  rw [hs] at f1 fi
  rw [hT] at st
  have g2 := f1.2.1
  rw [outer_arrV] at g2
  obtain ⟨t, a1, b1⟩ := kk _ cA comp hfA hfC f1.1 g2 (fun j hj => by rw [fi j hj, ← arrV_new]; rfl) (fun q hq => by rw [fo q (by rw [hT]; exact hq), hs]) _ rfl X1
  exact ⟨t, st t a1, b1⟩
end KGrid
def zFr (Z : cZ) (c a b : Nat) : cZ := (fun K i => if K = 53 ∧ i = c then a else if K = 38 ∧ i / 4 = c then a + 1 + i % 4 else if K = 37 ∧ i = c then b else Z.ad K i, fun K i => Z.al K i ∨ ((K = 53 ∨ K = 37) ∧ i = c) ∨ (K = 38 ∧ i / 4 = c), Z.n, fun k => Z.w k + (if k = 0 then 6 else if k = 1 then 968 else if k = 3 then 968 else if k = 4 then 6 else 0))
def gFr (g : mSt) (c : Nat) (v : Int32) : mSt := fun j i => if (j = 44 ∨ j = 45) ∧ i = c then v else if j = 1184 ∧ i / 8192 = c then 0 else if j = 1216 ∧ i / 32768 = c then 0 else g j i
def frN (c K i : Nat) : Prop := ((K = 53 ∨ K = 37) ∧ i = c) ∨ (K = 38 ∧ i / 4 = c)
theorem frd {Z : cZ} {c a b K i : Nat} (h : ¬ frN c K i) : (zFr Z c a b).ad K i = Z.ad K i := by
  show (if K = 53 ∧ i = c then a else if K = 38 ∧ i / 4 = c then a + 1 + i % 4 else if K = 37 ∧ i = c then b else Z.ad K i) = Z.ad K i
  unfold frN at h
  rw [if_neg (fun z => h (Or.inl ⟨Or.inl z.1, z.2⟩)), if_neg (fun z => h (Or.inr z)), if_neg (fun z => h (Or.inl ⟨Or.inr z.1, z.2⟩))]
theorem frK {Z : cZ} {c a b K i : Nat} (h : K ≠ 53 ∧ K ≠ 38 ∧ K ≠ 37) : (zFr Z c a b).ad K i = Z.ad K i := frd (by unfold frN; omega)
theorem fr53 {Z : cZ} {c a b : Nat} : (zFr Z c a b).ad 53 c = a := if_pos ⟨rfl, rfl⟩
theorem fr38 {Z : cZ} {c a b k : Nat} (hk : k < 4) : (zFr Z c a b).ad 38 (4 * c + k) = a + 1 + k := by
  show (if (38 : Nat) = 53 ∧ 4 * c + k = c then a else if (38 : Nat) = 38 ∧ (4 * c + k) / 4 = c then a + 1 + (4 * c + k) % 4 else if (38 : Nat) = 37 ∧ 4 * c + k = c then b else Z.ad 38 (4 * c + k)) = a + 1 + k
  rw [if_neg (by omega), if_pos (by omega)]
  omega
theorem fr37 {Z : cZ} {c a b : Nat} : (zFr Z c a b).ad 37 c = b := by
  show (if (37 : Nat) = 53 ∧ c = c then a else if (37 : Nat) = 38 ∧ c / 4 = c then a + 1 + c % 4 else if (37 : Nat) = 37 ∧ c = c then b else Z.ad 37 c) = b
  rw [if_neg (by omega), if_neg (by omega), if_pos ⟨rfl, rfl⟩]
theorem frSd {Z : cZ} {c a b k : Nat} : cSd (zFr Z c a b) k = cSd Z k := by
  unfold cSd
  rw [show (zFr Z c a b).n = Z.n from rfl, frK (by decide), frK (by decide)]
theorem frOp {Z : cZ} {c a b K : Nat} {x : Int32} (h : K ≠ 53 ∧ K ≠ 38 ∧ K ≠ 37) : cOpt (zFr Z c a b) K x = cOpt Z K x := by
  unfold cOpt
  rw [frK h]
theorem gFr_o {g : mSt} {c j i : Nat} {v : Int32} (h1 : ¬ ((j = 44 ∨ j = 45) ∧ i = c)) (h2 : ¬ (j = 1184 ∧ i / 8192 = c)) (h3 : ¬ (j = 1216 ∧ i / 32768 = c)) : gFr g c v j i = g j i := by
  unfold gFr
  rw [if_neg h1, if_neg h2, if_neg h3]
theorem gFr_r {g : mSt} {c j : Nat} {v : Int32} (h : j ≠ 44 ∧ j ≠ 45 ∧ j ≠ 1184 ∧ j ≠ 1216) : gFr g c v j = g j := funext fun i => gFr_o (by omega) (by omega) (by omega)
theorem gFr_44 {g : mSt} {c : Nat} {v : Int32} : gFr g c v 44 c = v := if_pos ⟨Or.inl rfl, rfl⟩
theorem gFr_45 {g : mSt} {c : Nat} {v : Int32} : gFr g c v 45 c = v := if_pos ⟨Or.inr rfl, rfl⟩
theorem frTo {Z : cZ} {c a b K i f : Nat} {x : Int32} (h1 : ¬ (K = 1 ∧ (f = 12 ∨ f = 13))) (hK : K < 16) (hr : cRef K f = true) (hf : f < cNn K) : cTo (zFr Z c a b) x K i f = cTo Z x K i f := by
  have hn : (zFr Z c a b).n = Z.n := rfl
  have hk : ∀ K' i', (K' ≠ 53 ∧ K' ≠ 38 ∧ K' ≠ 37) → (zFr Z c a b).ad K' i' = Z.ad K' i' := fun _ _ h => frK h
  by_cases hK1 : K = 1
  · subst hK1
    have hr' : f = 0 ∨ (11 ≤ f ∧ f ≤ 14) := by
      have h2 : (decide (f = 0) || (decide (11 ≤ f) && decide (f ≤ 14))) = true := hr
      simpa using h2
    rcases (by omega : f = 0 ∨ f = 11 ∨ f = 14) with e | e | e <;> subst e
    · show some (cSd (zFr Z c a b) x.toInt.toNat) = some (cSd Z x.toInt.toNat)
      rw [frSd]
    · exact frOp (K := 1) (by decide)
    · exact frOp (K := 0) (by decide)
  · simp only [cTo]
    split
    all_goals first
      | (exact absurd rfl hK1)
      | (rw [hk _ _ (by decide)]; done)
      | (split <;> first | (rw [hk _ _ (by decide)]; done) | (rw [hn, hk _ _ (by decide)]; done))
      | (rw [hk _ _ (by decide), hk _ _ (by decide)]; done)
theorem frTe {Z : cZ} {c a b K i k : Nat} {x : Int32} (h : ¬ (K = 53 ∧ i = c)) (hk : K = 53 → k < 4) : cTe (zFr Z c a b) x K i k = cTe Z x K i k := by
  by_cases h53 : K = 53
  · subst h53
    have := hk rfl
    have hi : i ≠ c := fun z => h ⟨rfl, z⟩
    show some ((zFr Z c a b).ad 38 (4 * i + k)) = some (Z.ad 38 (4 * i + k))
    rw [frd (by unfold frN; omega)]
  · have h10 := fun i => frK (Z := Z) (c := c) (a := a) (b := b) (K := 10) (i := i) (by decide)
    have h3 := fun i => frK (Z := Z) (c := c) (a := a) (b := b) (K := 3) (i := i) (by decide)
    have h4 := fun i => frK (Z := Z) (c := c) (a := a) (b := b) (K := 4) (i := i) (by decide)
    have h1 := fun x => frOp (Z := Z) (c := c) (a := a) (b := b) (K := 1) (x := x) (by decide)
    simp only [cTe]
    split
    all_goals first
      | rfl
      | (exact absurd rfl h53)
      | (rw [h10]; done)
      | (rw [h3]; done)
      | (rw [h4]; done)
      | (rw [frSd]; done)
      | (exact h1 _)
theorem cH.frm {G : cG} {Z : cZ} {g : mSt} {H H1 : Heap} (hM : cH G Z g H) (hJ : cJ Z g) {c a b : Nat} {v : Int32} (hc : Z.al 1 c) (hv : v.toInt = (c : Int)) (eA : H1[a]? = some (arrV (G.2.2.2.2 53) 4 (fun j => .ref (a + 1 + j)))) (eI : ∀ j, j < 4 → H1[a + 1 + j]? = some (arrV G.2.2.1 240 (fun _ => .int 0))) (eB : H1[b]? = some (arrV G.2.2.1 4 (fun _ => .int 0))) (eO : t_OB (Z.ad 1 c) (G.1 1) (cNn 1) (G.2.1 1) H1 (updV (updV (cV Z g 1 c) 12 (.ref a)) 13 (.ref b))) (oq : ∀ K i, Z.al K i → ¬ (K = 1 ∧ i = c) → H1[Z.ad K i]? = H[Z.ad K i]?) : cH G (zFr Z c a b) (gFr g c v) H1 := by
  intro K i hal
  refine ⟨fun h55 => ?_, fun h55 => by
    have h0 : ¬ frN c K i := by unfold frN; omega
    have hal2 : Z.al K i := by
      rcases hal with h | h
      · exact h
      · exact absurd h h0
    rw [frd h0, oq K i hal2 (by omega)]
    exact (hM K i hal2).2 h55⟩
  by_cases h0 : frN c K i
  · rcases h0 with ⟨hK, rfl⟩ | ⟨rfl, hi⟩
    · rcases hK with rfl | rfl
      · unfold cC
        rw [if_neg (by decide), if_neg (by decide), fr53, eA]
        show some (arrV (G.2.2.2.2 53) 4 (fun j => .ref (a + 1 + j))) = some (vp_cell (G.2.2.2.2 53) (4, .inr (.inr (.inr (.inr (fun k => some ((zFr Z i a b).ad 38 (4 * i + k))))))))
        rw [vp_cell_q]
        refine congrArg some (arrV_cg (fun k hk => ?_))
        rw [fr38 hk]
        rfl
      · unfold cC
        rw [if_neg (by decide), if_pos (by decide), fr37, eB]
        show some (arrV G.2.2.1 4 (fun _ => .int 0)) = some (vp_cell G.2.2.1 (4, .inl (fun k => gFr g i v 1184 (8192 * i + k))))
        rw [vp_cell_i]
        refine congrArg some (arrV_cg (fun k hk => congrArg Value.int ?_))
        have n1 : ¬ (((1184 : Nat) = 44 ∨ (1184 : Nat) = 45) ∧ 8192 * i + k = i) := by omega
        have n2 : (1184 : Nat) = 1184 ∧ (8192 * i + k) / 8192 = i := by omega
        unfold gFr
        rw [if_neg n1, if_pos n2]
    · obtain ⟨k0, hk0, rfl⟩ : ∃ k0, k0 < 4 ∧ i = 4 * c + k0 := ⟨i % 4, by omega, by omega⟩
      unfold cC
      rw [if_neg (by decide), if_pos (by decide), fr38 hk0, eI k0 hk0]
      show some (arrV G.2.2.1 240 (fun _ => .int 0)) = some (vp_cell G.2.2.1 (240, .inl (fun k => gFr g c v 1216 (8192 * (4 * c + k0) + k))))
      rw [vp_cell_i]
      refine congrArg some (arrV_cg (fun k hk => congrArg Value.int ?_))
      have n1 : ¬ (((1216 : Nat) = 44 ∨ (1216 : Nat) = 45) ∧ 8192 * (4 * c + k0) + k = c) := by omega
      have n2 : ¬ ((1216 : Nat) = 1184 ∧ (8192 * (4 * c + k0) + k) / 8192 = c) := by omega
      have n3 : (1216 : Nat) = 1216 ∧ (8192 * (4 * c + k0) + k) / 32768 = c := by omega
      unfold gFr
      rw [if_neg n1, if_neg n2, if_pos n3]
  · have hal2 : Z.al K i := by
      rcases hal with h | h
      · exact h
      · exact absurd h h0
    unfold cC
    rw [frd h0]
    unfold frN at h0
    by_cases h1 : K = 1 ∧ i = c
    · obtain ⟨rfl, rfl⟩ := h1
      rw [if_pos (by decide)]
      refine eO.to (fun f hf => ?_)
      have hf18 : f < 18 := hf
      unfold updV
      by_cases h13 : f = 13
      · subst h13
        rw [if_pos rfl]
        show Value.ref b = va_rf (cOpt (zFr Z i a b) 37 (gFr g i v 45 i))
        rw [gFr_45, cOpt_some (by omega), show v.toInt.toNat = i by omega, fr37]
        rfl
      · rw [if_neg h13]
        by_cases h12 : f = 12
        · subst h12
          rw [if_pos rfl]
          show Value.ref a = va_rf (cOpt (zFr Z i a b) 53 (gFr g i v 44 i))
          rw [gFr_44, cOpt_some (by omega), show v.toInt.toNat = i by omega, fr53]
          rfl
        · rw [if_neg h12]
          unfold cV
          rw [gFr_r (j := 32 * 1 + f) (by omega)]
          by_cases hr : cRef 1 f = true
          · rw [if_pos hr, if_pos hr, frTo (by omega) (by decide) hr hf]
          · rw [if_neg hr, if_neg hr]
            rfl
    · have hC := (hM K i hal2).1 h55
      unfold cC at hC
      have ho := oq K i hal2 h1
      have hNn := cNn_le K
      by_cases h16 : K < 16
      · rw [if_pos h16] at hC ⊢
        refine (hC.kept ho).to (fun f hf => ?_)
        unfold cV
        have e : gFr g c v (32 * K + f) i = g (32 * K + f) i := gFr_o (fun z => h1 (by omega)) (by omega) (by omega)
        rw [e]
        by_cases hr : cRef K f = true
        · rw [if_pos hr, if_pos hr]
          by_cases h112 : K = 1 ∧ (f = 12 ∨ f = 13)
          · obtain ⟨rfl, hf2⟩ := h112
            have hne : i ≠ c := fun z => h1 ⟨rfl, z⟩
            rcases hf2 with rfl | rfl
            · have hd := (hJ.2.1 i hal2).2.2.1
              show va_rf (cOpt Z 53 (g (32 * 1 + 12) i)) = va_rf (cOpt (zFr Z c a b) 53 (g (32 * 1 + 12) i))
              rcases hd with z | z
              · have z' : (g (32 * 1 + 12) i).toInt < 0 := z
                rw [cOpt_none z', cOpt_none z']
              · have z' : (g (32 * 1 + 12) i).toInt = (i : Int) := z.1
                rw [cOpt_some (by omega), cOpt_some (by omega), frd (by unfold frN; omega)]
            · have hd := (hJ.2.1 i hal2).2.2.2.1
              show va_rf (cOpt Z 37 (g (32 * 1 + 13) i)) = va_rf (cOpt (zFr Z c a b) 37 (g (32 * 1 + 13) i))
              rcases hd with z | z
              · have z' : (g (32 * 1 + 13) i).toInt < 0 := z
                rw [cOpt_none z', cOpt_none z']
              · have z' : (g (32 * 1 + 13) i).toInt = (i : Int) := z.1
                rw [cOpt_some (by omega), cOpt_some (by omega), frd (by unfold frN; omega)]
          · rw [frTo h112 h16 hr hf]
        · rw [if_neg hr, if_neg hr]
          rfl
      · rw [if_neg h16] at hC ⊢
        by_cases h48 : K < 48
        · rw [if_pos h48] at hC ⊢
          rw [ho, hC, vp_cell_i, vp_cell_i]
          have hlen := cLen_le K
          refine congrArg some (arrV_cg (fun k hk => congrArg Value.int ?_))
          rw [gFr_o (by omega) (by omega) (by omega)]
        · rw [if_neg h48] at hC ⊢
          have e1 : cLeR (zFr Z c a b) (gFr g c v) K i = cLeR Z g K i := by
            unfold cLeR
            rw [gFr_r (j := 1729) (by decide)]
            rfl
          rw [ho, hC, e1, vp_cell_q, vp_cell_q]
          refine congrArg some (arrV_cg (fun k hk => congrArg va_rf ?_))
          rw [frTe (fun z => h0 (Or.inl ⟨Or.inl z.1, z.2⟩)) (fun z => by rw [z] at hk; exact hk), gFr_r (by omega)]
theorem cJ_frm {Z : cZ} {g : mSt} (h : cJ Z g) {c a b : Nat} {v : Int32} (hv : v.toInt = (c : Int)) : cJ (zFr Z c a b) (gFr g c v) := by
  have q : ∀ j, j ≠ 44 ∧ j ≠ 45 ∧ j ≠ 1184 ∧ j ≠ 1216 → gFr g c v j = g j := fun j h => gFr_r h
  have al : ∀ K i, Z.al K i → (zFr Z c a b).al K i := fun K i h => Or.inl h
  have m4 : ∀ x : Int32, cD4 Z x → cD4 (zFr Z c a b) x := fun x hx => hx.elim Or.inl (fun h => Or.inr (al _ _ h))
  have m2 : ∀ (k : Nat) (x : Int32), cD2 Z g k x → cD2 (zFr Z c a b) (gFr g c v) k x := fun k x hx => ⟨hx.1, al _ _ hx.2.1, by rw [q 32 (by decide)]; exact hx.2.2⟩
  have wo : ∀ k, k ≠ 0 ∧ k ≠ 1 ∧ k ≠ 3 ∧ k ≠ 4 → (zFr Z c a b).w k = Z.w k := fun k hk => by
    show Z.w k + (if k = 0 then 6 else if k = 1 then 968 else if k = 3 then 968 else if k = 4 then 6 else 0) = Z.w k
    rw [if_neg hk.1, if_neg hk.2.1, if_neg hk.2.2.1, if_neg hk.2.2.2]
    rfl
  obtain ⟨h0, h1, h2, h3, h5, h4⟩ := h
  refine ⟨?_, fun c' hc' => ?_, fun k hk => ?_, fun k hk j hj => ?_, ⟨?_, fun k hk => ?_⟩, fun i => ?_⟩
  · unfold cJ0 at *
    rw [q 640 (by decide), q 704 (by decide), q 225 (by decide), q 233 (by decide), q 49 (by decide)]
    exact h0
  · have hal : Z.al 1 c' := by
      rcases hc' with h | h
      · exact h
      · omega
    obtain ⟨a1, a2, a3, a4, a5⟩ := h1 c' hal
    unfold cD1
    rw [q 32 (by decide), q 43 (by decide), q 46 (by decide)]
    by_cases hcc : c' = c
    · subst hcc
      rw [gFr_44, gFr_45]
      exact ⟨a1, a2.elim Or.inl (fun h => Or.inr (al _ _ h)), Or.inr ⟨hv, Or.inr (Or.inl ⟨Or.inl rfl, rfl⟩), fun k hk => Or.inr (Or.inr ⟨rfl, by omega⟩)⟩, Or.inr ⟨hv, Or.inr (Or.inl ⟨Or.inr rfl, rfl⟩)⟩, a5.elim Or.inl (fun h => Or.inr ⟨h.1, al _ _ h.2.1, al _ _ h.2.2⟩)⟩
    · rw [gFr_o (j := 44) (by omega) (by omega) (by omega), gFr_o (j := 45) (by omega) (by omega) (by omega)]
      exact ⟨a1, a2.elim Or.inl (fun h => Or.inr (al _ _ h)), a3.elim Or.inl (fun h => Or.inr ⟨h.1, al _ _ h.2.1, fun k hk => al _ _ (h.2.2 k hk)⟩), a4.elim Or.inl (fun h => Or.inr ⟨h.1, al _ _ h.2⟩), a5.elim Or.inl (fun h => Or.inr ⟨h.1, al _ _ h.2.1, al _ _ h.2.2⟩)⟩
  · obtain ⟨b1, b2, b3⟩ := h2 k hk
    rw [q 386 (by decide), q 1729 (by decide), q 1728 (by decide)]
    exact ⟨b1, b2, fun j hj => m2 _ _ (b3 j hj)⟩
  · rw [q 135 (by decide)] at hj
    rw [q 1536 (by decide)]
    exact m2 _ _ (h3 k hk j hj)
  · obtain ⟨a1, a2, a3, a4, a5⟩ := h5.1
    have w0 : (zFr Z c a b).w 0 = Z.w 0 + 6 := rfl
    have w1 : (zFr Z c a b).w 1 = Z.w 1 + 968 := rfl
    have w3 : (zFr Z c a b).w 3 = Z.w 3 + 968 := rfl
    have w4 : (zFr Z c a b).w 4 = Z.w 4 + 6 := rfl
    refine ⟨fun K i hi => ?_, fun d hd => ?_, ?_, ?_, fun x h1 h2 => ?_⟩
    · rcases hi with hi | hi
      · exact a1 K i hi
      · exact ⟨by omega, fun z => by omega, fun z => by omega⟩
    · rw [wo 2 (by decide)]
      rcases hd with hd | hd
      · exact a2 d hd
      · omega
    · rw [w1, w3, wo 2 (by decide), wo 10 (by decide), wo 11 (by decide), wo 12 (by decide), wo 13 (by decide), wo 14 (by decide), wo 15 (by decide), wo 16 (by decide), wo 17 (by decide), a3]
      omega
    · rw [w0, w4, wo 2 (by decide), a4]
      omega
    · have h1 : 10 + 2 * Z.n ≤ x := h1
      rw [wo x (by omega)]
      exact a5 x h1 h2
  · rw [q 385 (by decide), q 1729 (by decide), wo (10 + k) (by omega)]
    exact ⟨(h5.2 k hk).1.elim Or.inl (fun z => Or.inr ⟨z.1, al _ _ z.2.1, z.2.2⟩), (h5.2 k hk).2⟩
  · rw [q 43 (by decide), q 1728 (by decide), q 1536 (by decide)]
    exact ⟨m4 _ (h4 i).1, m4 _ (h4 i).2.1, m4 _ (h4 i).2.2⟩
theorem fr_cases {Z : cZ} {c a b K i : Nat} (h : (zFr Z c a b).al K i) : (Z.al K i ∧ ¬ frN c K i ∧ (zFr Z c a b).ad K i = Z.ad K i) ∨ (K = 53 ∧ i = c ∧ (zFr Z c a b).ad K i = a) ∨ (K = 37 ∧ i = c ∧ (zFr Z c a b).ad K i = b) ∨ (∃ k, k < 4 ∧ K = 38 ∧ i = 4 * c + k ∧ (zFr Z c a b).ad K i = a + 1 + k) := by
  by_cases h0 : frN c K i
  · rcases h0 with ⟨hK, rfl⟩ | ⟨rfl, hi⟩
    · rcases hK with rfl | rfl
      · exact Or.inr (Or.inl ⟨rfl, rfl, fr53⟩)
      · exact Or.inr (Or.inr (Or.inl ⟨rfl, rfl, fr37⟩))
    · obtain ⟨k0, hk0, rfl⟩ : ∃ k0, k0 < 4 ∧ i = 4 * c + k0 := ⟨i % 4, by omega, by omega⟩
      exact Or.inr (Or.inr (Or.inr ⟨k0, hk0, rfl, rfl, fr38 hk0⟩))
  · left
    rcases h with h | h
    · exact ⟨h, h0, frd h0⟩
    · exact absurd h h0
theorem cAp_frm {Z : cZ} {c a : Nat} (h : cAp Z) (ha : ∀ K i, Z.al K i → Z.ad K i < a) : cAp (zFr Z c a (a + 5)) := by
  intro K i K' i' h1 h2 e
  rcases fr_cases h1 with ⟨e1, e2, e3⟩ | ⟨e1, e2, e3⟩ | ⟨e1, e2, e3⟩ | ⟨k, hk, e1, e2, e3⟩ <;> rcases fr_cases h2 with ⟨f1, f2, f3⟩ | ⟨f1, f2, f3⟩ | ⟨f1, f2, f3⟩ | ⟨k', hk', f1, f2, f3⟩ <;> rw [e3, f3] at e
  · exact h K i K' i' e1 f1 e
  · have := ha K i e1; omega
  · have := ha K i e1; omega
  · have := ha K i e1; omega
  · have := ha K' i' f1; omega
  · omega
  · omega
  · omega
  · have := ha K' i' f1; omega
  · omega
  · omega
  · omega
  · have := ha K' i' f1; omega
  · omega
  · omega
  · omega
theorem cSt_frm {Z : cZ} {c a b : Nat} (h : cSt Z) : cSt (zFr Z c a b) := ⟨h.1, fun K i hi => Or.inl (h.2 K i hi)⟩
theorem cI_frm {X : Int} {g : mSt} {c : Nat} {v : Int32} (h : cI X g) : cI X (gFr g c v) := by
  intro j i
  unfold gFr
  split
  · rename_i q
    rcases q.1 with e | e <;> rw [e] <;> exact rg_any v
  · split
    · rename_i q; rw [q.1]; exact (show rg 0 5 (0 : Int32) from ⟨by decide, by decide⟩)
    · split
      · rename_i q; rw [q.1]; exact rg_any (0 : Int32)
      · exact h j i
theorem cAd_frm {Z : cZ} {c a q : Nat} (h : cAd (zFr Z c a (a + 5)) q) : cAd Z q ∨ a ≤ q := by
  obtain ⟨K, i, hal, n55, e⟩ := h
  rcases fr_cases hal with ⟨e1, e2, e3⟩ | ⟨e1, e2, e3⟩ | ⟨e1, e2, e3⟩ | ⟨k, hk, e1, e2, e3⟩
  · exact Or.inl ⟨K, i, e1, n55, e.trans e3⟩
  · right; omega
  · right; omega
  · right; omega
theorem cZl_frm {Z : cZ} {c a b : Nat} : cZl Z (zFr Z c a b) 6 968 := ⟨rfl, fun _ _ h => Or.inl h, fun K i _ h => frK ⟨h.2.1, h.2.2.1, h.2.2.2.1⟩, rfl, rfl⟩
theorem mFr_frm {g : mSt} {c : Nat} {v : Int32} : mFr [44, 45, 1184, 1216] g (gFr g c v) := by
  intro j hj
  simp only [List.mem_cons, List.not_mem_nil, or_false, not_or] at hj
  exact gFr_r (by omega)
set_option maxHeartbeats 4000000 in
set_option maxRecDepth 100000 in
theorem k_frames {p : Program} {l : Launch} {e : Env} {R : Room} {s : State} {m : MethodId} {args : Array Value} {below : List Frame} {meth : Method} {c : Code} {H : Heap} {locs : List Loc} {cells slots : Nat} {Q : State → Prop} {ls : Array Slot} {G : cG} {Z : cZ} {g : mSt} {H0 : Heap} {Ts : List Cond} {X : Int} {A : Nat → Prop} (xa : cXA p c cX1_addFrame s args Ts m G Z A RX1 H0) (L : cL G Z A H0 X g H locs) (i0 : Nat) (hal0 : Z.al 1 i0) (hJ : cJ Z g) (hw2 : Z.w 2 ≤ 1000000) (h0 : ls[0]? = some (Slot.val (.ref (Z.ad 1 i0)))) (hcells : cells + 6 ≤ R.cells) (hslots : slots + 968 ≤ R.slots)
    (kk : ∀ (v : Int32) (Z1 : cZ) (g1 : mSt) (H1 : Heap) (locs1 : List Loc), cZl Z Z1 6 968 → Z1.w 2 = Z.w 2 → cXA p c cX1_addFrame s args Ts m G Z1 A RX1 H0 → cL G Z1 A H0 X g1 H1 locs1 → cJ Z1 g1 → g1 = gFr g i0 v → v.toInt = (i0 : Int) → W p l e R s m args below meth c H1 locs1 (cells + 6) (slots + 968) Q (F0 m 61 ls [])) : W p l e R s m args below meth c H locs cells slots Q (F0 m 47 ls [.int 240, .int 4, .ref (Z.ad 1 i0)]) := by
  have xa' := xa
  obtain ⟨⟨hx, hb, hts, hin, hown, hK1, hA, hZ, hh, hne, hAd⟩, hE, hB⟩ := xa'
  have hlt : ∀ K i, Z.al K i → Z.ad K i < H.size := fun K i h => L.1.lt h
  have hsz := L.2.1.1
  have hc0 := hJ.2.2.2.2.1.1.2.1 _ hal0
  refine W.grid (N := 4) (M := 240) hx hb hown (hts _ (hin _ kc_lX1_68)) (Jvm.Stand.arrayOver_alikeB (Vm.Alike.refl s.vm) hE.1.1.2.2.2) (hts _ (hin _ ka_int)) (by decide) (by decide) ⟨by decide, by decide⟩ (by omega) (by omega) dX1_addFrame_47 (fun H1 cA comp f1 f2 z1 e1 e2 o1 => ?_)
  have hcA : cA = G.2.2.2.2 53 := Option.some.inj (f1.symm.trans hE.1.1.2.2.1)
  have hcB : comp = G.2.2.1 := Option.some.inj (f2.symm.trans hE.1.1.1)
  subst hcA hcB
  have hM1 : cH G Z g H1 := L.1.keep (fun K i h => o1 _ (hlt K i h))
  have hn0 := hlt 1 i0 hal0
  refine k_put (ty := tyX1 12) hx hb hts hin hown hK1 1 (hM1.ob hal0 rfl) 12 rfl rfl (tyX1_ok 12 (by decide)) rfl rfl (hin _ kf_X1_38) dX1_addFrame_51 (fun H2 O2 z2 q2 => ?_)
  refine lv_aload_n hx hb dX1_addFrame_54 rfl h0 ?_
  refine lv_iconst (v := 4) hx hb dX1_addFrame_55 (by decide) ?_
  refine W.newa (atype := .int) hx hb (hts _ (hin _ ka_int)) rfl dX1_addFrame_56 rfl (by decide) (by decide) (by omega) (by show slots + 4 + 4 * 240 + 4 ≤ _; omega) fun cA2 kA2 comp2 k1 k2 k3 => ?_
  have hcC : cA2 = G.2.2.1 := Option.some.inj (k1.symm.trans hE.1.1.1)
  subst hcC
  generalize hH3 : H2.push ({ cls := G.2.2.1, slots := Array.replicate (4 : Int32).toNatClampNeg (defaultValue (newarray.typeOf .int)), vm := .none } : Cell) = H3
  have z3 : H3.size = H2.size + 1 := by rw [← hH3, Array.size_push]
  have e3 : H3[H2.size]? = some (arrV G.2.2.1 4 (fun _ => .int 0)) := by rw [← hH3, Array.getElem?_push_size, ← arrV_new]; rfl
  have o3 : ∀ q : Nat, q < H2.size → H3[q]? = H2[q]? := fun q hq => by rw [← hH3, Array.getElem?_push, if_neg (Nat.ne_of_lt hq)]
  refine W.eq (g2 := F0 m 58 ls [.ref H2.size, .ref (Z.ad 1 i0)]) rfl ?_
  refine k_put (ty := tyX1 13) hx hb hts hin hown hK1 1 (O2.kept (o3 _ (by omega))) 13 rfl rfl (tyX1_ok 13 (by decide)) rfl rfl (hin _ kf_X1_42) dX1_addFrame_58 (fun H4 O4 z4 q4 => ?_)
  obtain ⟨v, hv⟩ := k_sd i0 (by omega)
  have hb5 : H2.size = H.size + 5 := by omega
  have g1 : ∀ q : Nat, q ≠ Z.ad 1 i0 → q < H.size + 5 → H4[q]? = H1[q]? := fun q h1 h2 => by rw [q4 q h1, o3 q (by omega), q2 q h1]
  have hM4 : cH G (zFr Z i0 H.size (H.size + 5)) (gFr g i0 v) H4 := hM1.frm hJ hal0 hv (by rw [g1 _ (by omega) (by omega)]; exact e1) (fun j hj => by rw [g1 _ (by omega) (by omega)]; exact e2 j hj) (by rw [← hb5, q4 _ (by omega)]; exact e3) (by rw [← hb5]; exact O4) (fun K i hi h1 => by have := hlt K i hi; rw [g1 _ (fun z => h1 (hA K i 1 i0 hi hal0 z)) (by omega)])
  have hz : cZl Z (zFr Z i0 H.size (H.size + 5)) 6 968 := cZl_frm
  have xa1 : cXA p c cX1_addFrame s args Ts m G (zFr Z i0 H.size (H.size + 5)) A RX1 H0 := xa.next (H := H) hz (cAp_frm hA hlt) (cSt_frm hZ) hsz (fun q h => cAd_frm h)
  have hmem : A (Z.ad 1 i0) := hAd _ ⟨1, i0, hal0, by decide, rfl⟩
  have e6 : cells + 1 + 4 + 1 = cells + 6 := by omega
  have e968 : slots + 4 + 4 * 240 + (4 : Int32).toNatClampNeg = slots + 968 := by show slots + 4 + 4 * 240 + 4 = slots + 968; omega
  rw [e6, e968]
  refine kk v _ _ H4 _ hz rfl xa1 ⟨hM4, ⟨by omega, fun q h1 h2 => ?_, fun q hq => ?_⟩, cI_frm L.2.2⟩ (cJ_frm hJ hv) rfl hv
  · rw [g1 q (fun z => h2 (by rw [z]; exact hmem)) (by omega), o1 q (by omega)]
    exact L.2.1.2.1 q h1 h2
  · rcases List.mem_append.mp hq with h | h
    · rcases List.mem_append.mp h with h | h
      · exact L.2.1.2.2 q h
      · rw [List.mem_singleton.mp h]; exact hmem
    · rw [List.mem_singleton.mp h]; exact hmem
