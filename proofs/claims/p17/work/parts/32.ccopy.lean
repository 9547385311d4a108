/-! arrays as wholes: arraycopy; the least, the largest -/
theorem cH.arr {G : cG} {Z : cZ} {g g1 : mSt} {H H1 : Heap} (hA : cAp Z) (hM : cH G Z g H) {K0 i0 : Nat} {F : Nat → Int32} (hal : Z.al K0 i0) (hK : 16 ≤ K0 ∧ K0 < 48)
    (h1 : ∀ j, j ≠ 32 * K0 → g1 j = g j) (h2 : ∀ k, k < cLen K0 → g1 (32 * K0) (8192 * i0 + k) = F k) (h3 : ∀ i k, i ≠ i0 → k < cLen K0 → g1 (32 * K0) (8192 * i + k) = g (32 * K0) (8192 * i + k))
    (e1 : H1[Z.ad K0 i0]? = some (vp_cell (if cBo K0 then G.2.2.2.1 else G.2.2.1) (cLen K0, .inl F))) (oq : ∀ q : Nat, q ≠ Z.ad K0 i0 → H1[q]? = H[q]?) : cH G Z g1 H1 := by
  intro K i hKi
  refine ⟨fun h55 => ?_, fun h55 => ⟨((hM K i hKi).2 h55).1, Exists.imp (fun c0 hc0 => by rw [oq _ (fun z => by have := (hA K i K0 i0 hKi hal z).1; omega)]; exact hc0) ((hM K i hKi).2 h55).2⟩⟩
  by_cases hs : K = K0 ∧ i = i0
  · obtain ⟨rfl, rfl⟩ := hs
    unfold cC
    rw [if_neg (by omega), if_pos hK.2, e1, vp_cell_i, vp_cell_i]
    exact congrArg some (arrV_cg (fun k hk => by rw [h2 k hk]))
  · have hne : Z.ad K i ≠ Z.ad K0 i0 := fun z => hs (hA K i K0 i0 hKi hal z)
    have hc := (hM K i hKi).1 h55
    unfold cC at hc ⊢
    have hN := cNn_le K
    by_cases h16 : K < 16
    · rw [if_pos h16] at hc ⊢
      refine (hc.kept (oq _ hne)).to (fun k hk => ?_)
      unfold cV
      rw [h1 _ (by omega)]
    · rw [if_neg h16] at hc ⊢
      by_cases h40 : K < 48
      · rw [if_pos h40] at hc ⊢
        rw [oq _ hne, hc]
        by_cases hKK : K = K0
        · subst hKK
          have hii : i ≠ i0 := fun z => hs ⟨rfl, z⟩
          rw [vp_cell_i, vp_cell_i]
          exact congrArg some (arrV_cg (fun k hk => by rw [h3 i k hii hk]))
        · rw [h1 _ (by omega)]
      · rw [if_neg h40] at hc ⊢
        have e2 : cLeR Z g1 K i = cLeR Z g K i := by
          unfold cLeR
          rw [h1 _ (by omega)]
        rw [oq _ hne, h1 _ (by omega), e2]
        exact hc
def cCpy (g : mSt) (j1 a j2 b n : Nat) : mSt := fun j k => if j = j2 ∧ b ≤ k ∧ k < b + n then g j1 (a + (k - b)) else g j k
theorem cCpy_o {g : mSt} {j1 a j2 b n j : Nat} (h : j ≠ j2) : cCpy g j1 a j2 b n j = g j := funext fun k => if_neg (fun q => h q.1)
theorem cCpy_fr {g g1 : mSt} {j1 a j2 b n : Nat} (e : g1 = cCpy g j1 a j2 b n) : mFr [j2] g g1 := by
  intro j hj
  rw [e]
  exact cCpy_o (fun z => hj (by rw [z]; exact List.mem_cons_self))
section CCopy
variable {p : Program} {l : Launch} {e : Env} {R : Room} {s : State} {m : MethodId} {args : Array Value} {below : List Frame} {meth : Method} {c : Code} {H : Heap} {locs : List Loc} {cells slots : Nat} {Q : State → Prop}
variable {cc : ByteArray} {pc : Nat} {ls : Array Slot} {rest : List Value} {G : cG} {Z : cZ} {g : mSt} {H0 : Heap} {Ts : List Cond} {X : Int} {own : String} {A : Nat → Prop}
theorem c_copy (x : cX p c cc s args Ts m G Z A own H0) (hml : c.maxLocals = ls.size) (L : cL G Z A H0 X g H locs) (K1 i1 K2 i2 j1 j2 : Nat) (al1 : Z.al K1 i1) (al2 : Z.al K2 i2) (hj1 : j1 = 32 * K1) (hj2 : j2 = 32 * K2)
    (hk1 : (decide (16 ≤ K1) && (decide (K1 < 48) && !(cBo K1))) = true) (hk2 : (decide (16 ≤ K2) && (decide (K2 < 48) && !(cBo K2))) = true) (hlo : cLo j2 = -2147483648 ∧ cHi X j2 = 2147483647)
    {index : Nat} (hw : Cond.methodLink own index arraycopyName ∈ wsUC) (hw2 : Cond.native arraycopyName ∈ wsUC ∧ Cond.static arraycopyName ∈ wsUC ∧ Cond.initialized "java/lang/System" ∈ wsUC) {sp dp n : Int32} (h1 : 0 ≤ sp.toInt) (h2 : 0 ≤ dp.toInt) (h3 : 0 ≤ n.toInt) (h4 : sp.toInt + n.toInt ≤ (cLen K1 : Int)) (h5 : dp.toInt + n.toInt ≤ (cLen K2 : Int))
    (hframes : 1 ≤ R.frames) (hlocals : (rest.map fun v => v.category).sum + (nativeFrameWords "java/lang/System" "arraycopy" 5 + 11) ≤ R.locals) (hdg : decode cc pc = .ok (.invokestatic index, 3))
    (kk : ∀ (g1 : mSt) (H1 : Heap) (locs1 : List Loc), g1 = cCpy g j1 (8192 * i1 + sp.toNatClampNeg) j2 (8192 * i2 + dp.toNatClampNeg) n.toNatClampNeg → cL G Z A H0 X g1 H1 locs1 → W p l e R s m args below meth c H1 locs1 cells slots Q (F0 m (pc + 3) ls rest)) : W p l e R s m args below meth c H locs cells slots Q (F0 m pc ls (.int n :: .int dp :: .ref (Z.ad K2 i2) :: .int sp :: .ref (Z.ad K1 i1) :: rest)) := by
  subst hj1
  subst hj2
  obtain ⟨hx, hb, hts, hin, hown, hK1, hA, -, -, -, hAd⟩ := x
  rw [Bool.and_eq_true, Bool.and_eq_true, Bool.not_eq_true'] at hk1 hk2
  have hc0 := L.1.ar al1 ⟨of_decide_eq_true hk1.1, of_decide_eq_true hk1.2.1⟩
  have hc1 := L.1.ar al2 ⟨of_decide_eq_true hk2.1, of_decide_eq_true hk2.2.1⟩
  have n55 : K2 ≠ 55 := by have := of_decide_eq_true hk2.2.1; omega
  rw [hk1.2.2] at hc0
  rw [hk2.2.2] at hc1
  have hc0 : H[Z.ad K1 i1]? = some (vp_cell G.2.2.1 (cLen K1, .inl (fun k => g (32 * K1) (8192 * i1 + k)))) := hc0
  have hc1 : H[Z.ad K2 i2]? = some (vp_cell G.2.2.1 (cLen K2, .inl (fun k => g (32 * K2) (8192 * i2 + k)))) := hc1
  have hl1 := cLen_le K1
  have hl2 := cLen_le K2
  have n1 : ¬ sp < 0 := fun q => by have := Int32.lt_iff_toInt_lt.mp q; have z : (0 : Int32).toInt = 0 := (by decide); omega
  have n2 : ¬ dp < 0 := fun q => by have := Int32.lt_iff_toInt_lt.mp q; have z : (0 : Int32).toInt = 0 := (by decide); omega
  have n3 : ¬ n < 0 := fun q => by have := Int32.lt_iff_toInt_lt.mp q; have z : (0 : Int32).toInt = 0 := (by decide); omega
  have c1 : ((sp.toNatClampNeg : Nat) : Int) = sp.toInt := by show ((sp.toInt.toNat : Nat) : Int) = sp.toInt; omega
  have c2 : ((dp.toNatClampNeg : Nat) : Int) = dp.toInt := by show ((dp.toInt.toNat : Nat) : Int) = dp.toInt; omega
  have c3 : ((n.toNatClampNeg : Nat) : Int) = n.toInt := by show ((n.toInt.toNat : Nat) : Int) = n.toInt; omega
  intro T hT XX
  obtain ⟨-, k0, hk0, cm0, hkk0⟩ := hK1.2.1.1 (cLen K1) (fun k => .int (g (32 * K1) (8192 * i1 + k)))
  obtain ⟨-, k1, hk1', cm1, hkk1⟩ := hK1.2.1.1 (cLen K2) (fun k => .int (g (32 * K2) (8192 * i2 + k)))
  obtain ⟨vm', X', step⟩ := XX.arraycopy hx hown (hts _ (hin _ hw)) (hts _ (hin _ hw2.1)) (hts _ (hin _ hw2.2.1)) (hts _ (hin _ hw2.2.2)) (src := Z.ad K1 i1) (dst := Z.ad K2 i2) (cs := vp_cell G.2.2.1 (cLen K1, .inl (fun k => g (32 * K1) (8192 * i1 + k)))) (cd := vp_cell G.2.2.1 (cLen K2, .inl (fun k => g (32 * K2) (8192 * i2 + k)))) (srcPos := sp) (destPos := dp) (n := n) (by rw [hT]; exact hc0) (by rw [hT]; exact hc1)
    (fun _ h => by cases h) (fun _ h => by cases h) (fun h => by cases h) (fun h => by cases h) hk0 hk1' hkk0 hkk1 (by simp [refKind]) n1 n2 n3
    (by show ¬ _ > ((arrV _ _ _).slots.size : Int); rw [arrV_size]; omega)
    (by show ¬ _ > ((arrV _ _ _).slots.size : Int); rw [arrV_size]; omega)
    (fun vm₁ _ i hi => by
      have e : (vp_cell G.2.2.1 (cLen K1, .inl (fun k => g (32 * K1) (8192 * i1 + k)))).slots.getD (sp.toNatClampNeg + i) .null = .int (g (32 * K1) (8192 * i1 + (sp.toNatClampNeg + i))) := by
        show (arrV _ _ _).slots.getD _ _ = _
        rw [Array.getD_eq_getD_getElem?, arrV_read _ _ (by omega)]
        rfl
      refine ⟨?_, ?_⟩
      · rw [e]; rfl
      · rw [e]; exact trivial)
    (g := F0 m pc ls (.int n :: .int dp :: .ref (Z.ad K2 i2) :: .int sp :: .ref (Z.ad K1 i1) :: rest)) rfl (by rw [hml]) (rest := rest) rfl (by rw [hb]; exact hdg) hframes (by show 2 * 0 + _ + _ ≤ _; omega)
  have e1 : copied (vp_cell G.2.2.1 (cLen K1, .inl (fun k => g (32 * K1) (8192 * i1 + k)))) (vp_cell G.2.2.1 (cLen K2, .inl (fun k => g (32 * K2) (8192 * i2 + k)))) sp dp n = vp_cell G.2.2.1 (cLen K2, .inl (va_cpy (fun k => g (32 * K1) (8192 * i1 + k)) (fun k => g (32 * K2) (8192 * i2 + k)) sp.toNatClampNeg dp.toNatClampNeg n.toNatClampNeg)) := va_copied (fun z => .int z) G.2.2.1 G.2.2.1 (fun k => g (32 * K1) (8192 * i1 + k)) (fun k => g (32 * K2) (8192 * i2 + k)) (by omega)
  rw [e1] at X' step
  have hl : Z.ad K2 i2 < H.size := (Array.getElem?_eq_some_iff.mp hc1).1
  have oq : ∀ q : Nat, q ≠ Z.ad K2 i2 → (H.setIfInBounds (Z.ad K2 i2) (vp_cell G.2.2.1 (cLen K2, .inl (va_cpy (fun k => g (32 * K1) (8192 * i1 + k)) (fun k => g (32 * K2) (8192 * i2 + k)) sp.toNatClampNeg dp.toNatClampNeg n.toNatClampNeg))))[q]? = H[q]? := fun q hq => by simp [Array.getElem?_setIfInBounds, Ne.symm hq]
  have hheap : ((T.setVm vm').setCell (Z.ad K2 i2) (vp_cell G.2.2.1 (cLen K2, .inl (va_cpy (fun k => g (32 * K1) (8192 * i1 + k)) (fun k => g (32 * K2) (8192 * i2 + k)) sp.toNatClampNeg dp.toNatClampNeg n.toNatClampNeg)))).heap = H.setIfInBounds (Z.ad K2 i2) (vp_cell G.2.2.1 (cLen K2, .inl (va_cpy (fun k => g (32 * K1) (8192 * i1 + k)) (fun k => g (32 * K2) (8192 * i2 + k)) sp.toNatClampNeg dp.toNatClampNeg n.toNatClampNeg))) := by rw [← hT]; rfl
  obtain ⟨t, a1, b1⟩ := kk _ _ _ rfl ⟨L.1.arr (F := va_cpy (fun k => g (32 * K1) (8192 * i1 + k)) (fun k => g (32 * K2) (8192 * i2 + k)) sp.toNatClampNeg dp.toNatClampNeg n.toNatClampNeg) hA al2 ⟨of_decide_eq_true hk2.1, of_decide_eq_true hk2.2.1⟩ (fun j hj => cCpy_o hj)
      (fun k hk => by
        unfold cCpy va_cpy
        by_cases q : dp.toNatClampNeg ≤ k ∧ k < dp.toNatClampNeg + n.toNatClampNeg
        · rw [if_pos ⟨rfl, by omega, by omega⟩, if_pos q]
          congr 1
          omega
        · rw [if_neg (fun z => q ⟨by omega, by omega⟩), if_neg q])
      (fun i k hi hk => by
        unfold cCpy
        rw [if_neg (fun z => by omega)])
      (by rw [hk2.2.2]; show (H.setIfInBounds (Z.ad K2 i2) _)[Z.ad K2 i2]? = some _; simp [Array.getElem?_setIfInBounds, hl]) oq, ⟨by simp; exact L.2.1.1, fun q g1 g2 => by
      rw [oq q (fun e => g2 (by rw [e]; exact hAd _ ⟨K2, i2, al2, n55, rfl⟩))]
      exact L.2.1.2.1 q g1 g2, fun q hq => by
      rcases List.mem_append.mp hq with h | h
      · exact L.2.1.2.2 q h
      · obtain ⟨z, -, hz⟩ := List.mem_map.mp h
        rw [← hz]
        exact hAd _ ⟨K2, i2, al2, n55, rfl⟩⟩, fun j k => by
      unfold cCpy
      by_cases q : j = 32 * K2 ∧ 8192 * i2 + dp.toNatClampNeg ≤ k ∧ k < 8192 * i2 + dp.toNatClampNeg + n.toNatClampNeg
      · rw [if_pos q, q.1, hlo.1, hlo.2]; exact rg_any _
      · rw [if_neg q]; exact L.2.2 j k⟩ _ hheap X'
  exact ⟨t, step t a1, b1⟩
end CCopy
theorem rg_min {x y v : Int32} {a b a' b' : Int} (e : v = if y < x then y else x) (rx : rg a b x) (ry : rg a' b' y) : rg (min a a') (min b b') v ∧ v.toInt ≤ x.toInt ∧ v.toInt ≤ y.toInt ∧ (v.toInt = x.toInt ∨ v.toInt = y.toInt) := by
  have rx : a ≤ x.toInt ∧ x.toInt ≤ b := rx
  have ry : a' ≤ y.toInt ∧ y.toInt ≤ b' := ry
  have h : (v.toInt ≤ x.toInt ∧ v.toInt ≤ y.toInt) ∧ (v.toInt = x.toInt ∨ v.toInt = y.toInt) := by
    by_cases q : y < x
    · rw [if_pos q] at e; subst e
      have := Int32.lt_iff_toInt_lt.mp q
      exact ⟨⟨by omega, by omega⟩, Or.inr rfl⟩
    · rw [if_neg q] at e; subst e
      have := Int32.le_iff_toInt_le.mp (Int32.not_lt.mp q)
      exact ⟨⟨by omega, by omega⟩, Or.inl rfl⟩
  exact ⟨⟨by show min a a' ≤ v.toInt; omega, by show v.toInt ≤ min b b'; omega⟩, h.1.1, h.1.2, h.2⟩
theorem rg_max {x y v : Int32} {a b a' b' : Int} (e : v = if x < y then y else x) (rx : rg a b x) (ry : rg a' b' y) : rg (max a a') (max b b') v ∧ x.toInt ≤ v.toInt ∧ y.toInt ≤ v.toInt ∧ (v.toInt = x.toInt ∨ v.toInt = y.toInt) := by
  have rx : a ≤ x.toInt ∧ x.toInt ≤ b := rx
  have ry : a' ≤ y.toInt ∧ y.toInt ≤ b' := ry
  have h : (x.toInt ≤ v.toInt ∧ y.toInt ≤ v.toInt) ∧ (v.toInt = x.toInt ∨ v.toInt = y.toInt) := by
    by_cases q : x < y
    · rw [if_pos q] at e; subst e
      have := Int32.lt_iff_toInt_lt.mp q
      exact ⟨⟨by omega, by omega⟩, Or.inr rfl⟩
    · rw [if_neg q] at e; subst e
      have := Int32.le_iff_toInt_le.mp (Int32.not_lt.mp q)
      exact ⟨⟨by omega, by omega⟩, Or.inl rfl⟩
  exact ⟨⟨by show max a a' ≤ v.toInt; omega, by show v.toInt ≤ max b b'; omega⟩, h.1.1, h.1.2, h.2⟩
theorem cOut_lt {n i : Nat} (h : i < 2 * n) : cOut n i < 2 * n := by
  unfold cOut
  split <;> omega
