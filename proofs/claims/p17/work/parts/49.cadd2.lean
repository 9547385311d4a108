/-! a call is put into a list, or among the numbered -/
theorem cH.str {G : cG} {Z : cZ} {g : mSt} {H H1 : Heap} (hA : cAp Z) (hM : cH G Z g H) {K0 i0 k0 : Nat} {v : Int32} (hal : Z.al K0 i0) (hK : K0 = 48 ∨ K0 = 54) (hk : k0 < cLeR Z g K0 i0) (hcap : ∀ i, Z.al K0 i → cLeR Z g K0 i ≤ 16777216)
    (e1 : H1[Z.ad K0 i0]? = some (vp_cell (G.2.2.2.2 K0) (cLeR Z g K0 i0, .inr (.inr (.inr (.inr (va_up (fun k => cTe Z (g (32 * K0) (16777216 * i0 + k)) K0 i0 k) k0 (cOpt Z 1 v)))))))) (oq : ∀ q : Nat, q ≠ Z.ad K0 i0 → H1[q]? = H[q]?) : cH G Z (up2 g (32 * K0) (16777216 * i0 + k0) v) H1 := by
  intro K i hKi
  refine ⟨fun h55 => ?_, fun h55 => ⟨((hM K i hKi).2 h55).1, Exists.imp (fun c0 hc0 => by rw [oq _ (fun z => by have := (hA K i K0 i0 hKi hal z).1; omega)]; exact hc0) ((hM K i hKi).2 h55).2⟩⟩
  have hc0 := hcap i0 hal
  have hle : ∀ K i, cLeR Z (up2 g (32 * K0) (16777216 * i0 + k0) v) K i = cLeR Z g K i := fun K i => by
    unfold cLeR
    rw [up2_of (by omega)]
  by_cases hs : K = K0 ∧ i = i0
  · obtain ⟨rfl, rfl⟩ := hs
    unfold cC
    rw [if_neg (by omega), if_neg (by omega), e1, hle, vp_cell_q, vp_cell_q]
    refine congrArg some (arrV_cg (fun k hk2 => congrArg va_rf ?_))
    unfold va_up
    have hT : ∀ y : Int32, cTe Z y K i k = cOpt Z 1 y := fun y => by rcases hK with e | e <;> subst e <;> rfl
    by_cases hkk : k = k0
    · subst hkk
      rw [if_pos rfl, up2_i, hT]
    · rw [if_neg hkk, up2_n (by omega)]
  · have hne : Z.ad K i ≠ Z.ad K0 i0 := fun z => hs (hA K i K0 i0 hKi hal z)
    have hc := (hM K i hKi).1 h55
    unfold cC at hc ⊢
    have hN := cNn_le K
    by_cases h16 : K < 16
    · rw [if_pos h16] at hc ⊢
      refine (hc.kept (oq _ hne)).to (fun k hk => ?_)
      unfold cV
      rw [up2_o (by omega)]
    · rw [if_neg h16] at hc ⊢
      by_cases h48 : K < 48
      · rw [if_pos h48] at hc ⊢
        rw [oq _ hne, up2_of (by omega)]
        exact hc
      · rw [if_neg h48] at hc ⊢
        rw [oq _ hne, hc, hle, vp_cell_q, vp_cell_q]
        refine congrArg some (arrV_cg (fun k hk2 => congrArg va_rf ?_))
        by_cases hKK : K = K0
        · subst hKK
          have hii : i ≠ i0 := fun z => hs ⟨rfl, z⟩
          have hci := hcap i hKi
          rw [up2_n (by omega)]
        · rw [up2_o (by omega)]
theorem k_caps {Z : cZ} {g : mSt} (hJ : cJ Z g) {K0 : Nat} (hK : K0 = 48 ∨ K0 = 54) : ∀ i, Z.al K0 i → cLeR Z g K0 i ≤ 16777216 := by
  intro i hi
  rcases hK with e | e <;> subst e
  · show 40 ≤ 16777216
    decide
  · show (g 1729 i).toInt.toNat ≤ 16777216
    rcases (hJ.2.2.2.2.1.2 i ((hJ.2.2.2.2.1.1.1 54 i hi).2.1 rfl)).1 with z | z
    · omega
    · omega
section KStr
variable {p : Program} {l : Launch} {e : Env} {R : Room} {s : State} {m : MethodId} {args : Array Value} {below : List Frame} {meth : Method} {c : Code} {H : Heap} {locs : List Loc} {cells slots : Nat} {Q : State → Prop}
variable {cc : ByteArray} {pc : Nat} {ls : Array Slot} {rest : List Value} {G : cG} {Z : cZ} {g : mSt} {H0 : Heap} {Ts : List Cond} {X : Int} {own : String} {A : Nat → Prop}
theorem c_str (x : cXA p c cc s args Ts m G Z A own H0) (L : cL G Z A H0 X g H locs) (K i0 j : Nat) (hal : Z.al K i0) (hK : K = 48 ∨ K = 54) (hj : j = 32 * K) (hJ : cJ Z g) {i : Int32} (h0 : 0 ≤ i.toInt) (h1 : i.toInt < (cLeR Z g K i0 : Int)) {v : Int32} (hv : 0 ≤ v.toInt) (halv : Z.al 1 v.toInt.toNat) (hdg : decode cc pc = .ok (.aastore, 1))
    (kk : ∀ (g1 : mSt) (H1 : Heap) (locs1 : List Loc), g1 = up2 g j (16777216 * i0 + i.toNatClampNeg) v → cL G Z A H0 X g1 H1 locs1 → W p l e R s m args below meth c H1 locs1 cells slots Q (F0 m (pc + 1) ls rest)) : W p l e R s m args below meth c H locs cells slots Q (F0 m pc ls (.ref (Z.ad 1 v.toInt.toNat) :: .int i :: .ref (Z.ad K i0) :: rest)) := by
  subst hj
  obtain ⟨⟨hx, hb, hts, hin, hown, hK1, hA, hZ, hh, hne, hAd⟩, hE, hB⟩ := x
  have e0 : ((i.toNatClampNeg : Nat) : Int) = i.toInt := by show ((i.toInt.toNat : Nat) : Int) = i.toInt; omega
  have hc := (L.1 K i0 hal).1 (by omega)
  unfold cC at hc
  rw [if_neg (by omega), if_neg (by omega)] at hc
  have hcv := hc
  obtain ⟨cell, q1, q2, q3, q4⟩ := L.1.ob halv (K := 1) rfl
  obtain ⟨hS, hfc, kC, hkC, hkind⟩ := hK1.1 1 rfl
  obtain ⟨kA, comp, k1, k2, k3, k4⟩ := (hK1.2.2.1 K (by omega) (by omega)).2
  obtain ⟨kE, hkE, -⟩ := Vm.findClass_spec k3
  have hasg : s.vm.assignable cell.cls comp = true := by
    rw [q2]
    rcases hK with eK | eK
    · subst eK
      have : comp = G.1 1 := Option.some.inj (k3.symm.trans hfc)
      rw [this]
      exact va_assign (hK1.1 1 rfl).2
    · subst eK
      exact vb_asgC (hE.1.2.2.2.2 (RX1, "java/lang/Object") (by decide)) comp _ k3 hfc
  refine W.aast hx hb hc (fun q h => by cases h) (fun h => by cases h) k1 k2 rfl hkE ⟨nl_0 h0, by show _ < (arrV _ _ _).slots.size; rw [arrV_size]; omega⟩ q1 (fun q h => by rw [q3] at h; cases h) (by rw [q2]; exact hkC) hasg rfl rfl hdg fun H1 e1 z oq => ?_
  refine kk _ H1 _ rfl ⟨L.1.str hA hal hK (by omega) (k_caps hJ hK) ?_ oq, L.2.1.put z oq (hAd _ ⟨K, i0, hal, by omega, rfl⟩), L.2.2.up ?_⟩
  · rw [e1, vp_cell_q, vp_cell_q, arrV_store]
    congr 2
    funext q
    unfold updV va_up
    by_cases hq : q = i.toNatClampNeg
    · rw [if_pos hq, if_pos hq, cOpt_some hv]
      rfl
    · rw [if_neg hq, if_neg hq]
  · rcases hK with eK | eK <;> subst eK <;> exact rg_any v
end KStr
/-- an element more -/
theorem cJ_add {Z : cZ} {g g1 g2 : mSt} (h : cJ Z g) {s : Nat} {v w : Int32} {k : Nat} (hs : s < 2 * Z.n) (hk : (k : Int) = (g 386 s).toInt) (hcap : (g 386 s).toInt < (g 1729 s).toInt) (hv : cD2 Z g s v) (e1 : g1 = up2 g 1728 (16777216 * s + k) v) (e2 : g2 = up2 g1 386 s w) (hw : w.toInt = (g 386 s).toInt + 1) : cJ Z g2 := by
  have q : ∀ j, j ≠ 386 → j ≠ 1728 → g2 j = g j := fun j h1 h2 => by rw [e2, up2_of h1, e1, up2_of h2]
  obtain ⟨h0, h1, h2, h3, h5, h4⟩ := h
  have m2 : ∀ (k : Nat) (x : Int32), cD2 Z g k x → cD2 Z g2 k x := fun k x hx => ⟨hx.1, hx.2.1, by rw [q 32 (by decide) (by decide)]; exact hx.2.2⟩
  have hcp : ∀ k, k < 2 * Z.n → (g 1729 k).toInt ≤ 10000000 := fun k hk' => by
    rcases (h5.2 k hk').1 with z | z
    · omega
    · exact z.2.2.2
  have e18 : ∀ i, g2 1728 i = if i = 16777216 * s + k then v else g 1728 i := fun i => by
    rw [e2, up2_o (by decide), e1]
    by_cases hi : i = 16777216 * s + k
    · rw [if_pos hi, hi, up2_i]
    · rw [if_neg hi, up2_n hi]
  refine ⟨?_, fun c' hc' => ?_, fun k' hk' => ?_, fun k' hk' j hj => ?_, ⟨h5.1, fun k' hk' => ?_⟩, fun i => ?_⟩
  · unfold cJ0 at *
    rw [q 640 (by decide) (by decide), q 704 (by decide) (by decide), q 225 (by decide) (by decide), q 233 (by decide) (by decide), q 49 (by decide) (by decide)]
    exact h0
  · have := h1 c' hc'
    unfold cD1 at *
    rw [q 32 (by decide) (by decide), q 43 (by decide) (by decide), q 44 (by decide) (by decide), q 45 (by decide) (by decide), q 46 (by decide) (by decide)]
    exact this
  · obtain ⟨b1, b2, b3⟩ := h2 k' hk'
    rw [q 1729 (by decide) (by decide)]
    by_cases hks : k' = s
    · subst hks
      have e386 : g2 386 k' = w := by rw [e2, up2_i]
      rw [e386]
      refine ⟨by omega, by omega, fun j hj => ?_⟩
      rw [e18]
      by_cases hjk : 16777216 * k' + j = 16777216 * k' + k
      · rw [if_pos hjk]; exact m2 _ _ hv
      · rw [if_neg hjk]; exact m2 _ _ (b3 j (by omega))
    · have e386 : g2 386 k' = g 386 k' := by rw [e2, up2_n hks, e1, up2_o (by decide)]
      rw [e386]
      refine ⟨b1, b2, fun j hj => ?_⟩
      have hc1 := hcp k' hk'
      have hc2 := hcp s hs
      rw [e18, if_neg (by omega)]
      exact m2 _ _ (b3 j hj)
  · rw [q 135 (by decide) (by decide)] at hj
    rw [q 1536 (by decide) (by decide)]
    exact m2 _ _ (h3 k' hk' j hj)
  · rw [q 385 (by decide) (by decide), q 1729 (by decide) (by decide)]
    exact h5.2 k' hk'
  · rw [q 43 (by decide) (by decide), q 1536 (by decide) (by decide), e18]
    refine ⟨(h4 i).1, ?_, (h4 i).2.2⟩
    by_cases hi : i = 16777216 * s + k
    · rw [if_pos hi]; exact Or.inr hv.2.1
    · rw [if_neg hi]; exact (h4 i).2.1
