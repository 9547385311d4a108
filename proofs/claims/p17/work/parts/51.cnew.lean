/-! new calls, partners, numbered calls -/
/-- with so many adds more a list's new array has at most m places -/
def cMz (m a : Nat) (Z : cZ) (g : mSt) : Prop := (10 ≤ m ∧ m ≤ 6000000) ∧ ∀ s, s < 2 * Z.n → 3 * ((g 386 s).toInt + (a : Int)) ≤ 2 * (m : Int)
theorem cMz.fr {m a b : Nat} {Z Z1 : cZ} {g g1 : mSt} (h : cMz m (a + b) Z g) (hn : Z1.n = Z.n) (hg : ∀ s, (g1 386 s).toInt ≤ (g 386 s).toInt + (b : Int)) : cMz m a Z1 g1 := ⟨h.1, fun s hs => by
  have h1 := h.2 s (by rw [← hn]; exact hs)
  have h2 := hg s
  omega⟩
theorem cMz.le {m a b : Nat} {Z : cZ} {g : mSt} (h : cMz m a Z g) (hb : b ≤ a) : cMz m b Z g := ⟨h.1, fun s hs => by
  have h1 := h.2 s hs
  omega⟩
theorem cMz.mv {m r : Nat} {Z Z1 : cZ} {g g1 : mSt} (h : cMz m r Z g) (hn : Z1.n = Z.n) (e : g1 386 = g 386) : cMz m r Z1 g1 := ⟨h.1, fun s hs => by
  rw [e]
  exact h.2 s (by rw [← hn]; exact hs)⟩
theorem cMz.eq {m r a : Nat} {Z : cZ} {g g1 : mSt} (h : cMz m r Z g) (e : g1 386 = g 386) (ha : a ≤ r) : cMz m a Z g1 := ⟨h.1, fun s hs => by
  have h1 := h.2 s hs
  rw [e]
  omega⟩
def rm_kladd (ms : Nat) : Room := rm_kladd0 (0 + 1 * ms)
theorem hd_kladd : yJx4a65c_add_9ea2d.cls = cRn 12 ∧ yJx4a65c_add_9ea2d.cls ≠ "java/lang/invoke/MethodHandle" ∧ yJx4a65c_add_9ea2d.cls ≠ "java/lang/invoke/VarHandle" ∧ (parseMethodDescriptor yJx4a65c_add_9ea2d.desc).map (fun d => d.parameters.length) = some 1 := hd_kadd1
theorem c_kladd (l : Launch) {G : cG} {Z : cZ} (X : Int) (g : mSt) (i0 : Nat) (p1 : Int32) (sz ms : Nat) (hX : 0 ≤ X ∧ X ≤ 2000000000) (hJ : cJ Z g) (hMz : cMz ms 1 Z g) (hw2 : Z.w 2 + 0 ≤ 1000000) (hi0 : i0 < 2 * Z.n) (hc1 : 0 ≤ p1.toInt) (hq1 : Z.al 1 p1.toInt.toNat) (hsd : (g 32 p1.toInt.toNat).toInt = (i0 : Int)) : Met l yJx4a65c_add_9ea2d (wk (Cond.code yJx4a65c_add_9ea2d cJx4a65c_add_9ea2d 2 (some .boolean))) (rm_kladd ms) (va_Pc [.ref (Z.ad 12 i0), .ref (Z.ad 1 p1.toInt.toNat)] (cPreA G Z X g sz)) (kE 1 (0 + 1 * ms) (cAf Z sz) (cQiA G Z X (fun r Z1 g1 => mFr [384, 385, 386, 1728, 1729] g g1 ∧ rg (1) (1) r ∧ cJ Z1 g1 ∧ (∀ s, (g 386 s).toInt ≤ (g1 386 s).toInt ∧ (g1 386 s).toInt ≤ (g 386 s).toInt + 1) ∧ Z1.w 2 ≤ Z.w 2 + 0 ∧ True))) 1 (0 + 1 * ms) (cAf Z sz) := by
  have h := hMz.2 i0 hi0
  have h1 := hMz.1
  exact c_kladd0 l X g i0 sz (0 + 1 * ms) p1 hX hJ hi0 ⟨hc1, hq1, hsd⟩ (by omega)
/-- an element is put in another's place -/
theorem cJ_set {Z : cZ} {g g1 : mSt} (h : cJ Z g) {s : Nat} {v : Int32} {k : Nat} (hs : s < 2 * Z.n) (hk : (k : Int) < (g 386 s).toInt) (hv : cD2 Z g s v) (e1 : g1 = up2 g 1728 (16777216 * s + k) v) : cJ Z g1 := by
  have q : ∀ j, j ≠ 1728 → g1 j = g j := fun j h2 => by rw [e1, up2_of h2]
  obtain ⟨h0, h1, h2, h3, h5, h4⟩ := h
  have m2 : ∀ (k : Nat) (x : Int32), cD2 Z g k x → cD2 Z g1 k x := fun k x hx => ⟨hx.1, hx.2.1, by rw [q 32 (by decide)]; exact hx.2.2⟩
  have e18 : ∀ i, g1 1728 i = if i = 16777216 * s + k then v else g 1728 i := fun i => by
    rw [e1]
    by_cases hi : i = 16777216 * s + k
    · rw [if_pos hi, hi, up2_i]
    · rw [if_neg hi, up2_n hi]
  have hcp : ∀ k, k < 2 * Z.n → (g 1729 k).toInt ≤ 10000000 := fun k hk' => by
    rcases (h5.2 k hk').1 with z | z
    · omega
    · exact z.2.2.2
  refine ⟨cJ0_q h0 q (by decide), fun c' hc' => ?_, fun k' hk' => ?_, fun k' hk' j hj => ?_, by unfold cD5 at *; rw [q 385 (by decide), q 1729 (by decide)]; exact h5, fun i => ?_⟩
  · have := h1 c' hc'
    unfold cD1 at *
    rw [q 32 (by decide), q 43 (by decide), q 44 (by decide), q 45 (by decide), q 46 (by decide)]
    exact this
  · obtain ⟨b1, b2, b3⟩ := h2 k' hk'
    rw [q 386 (by decide), q 1729 (by decide)]
    refine ⟨b1, b2, fun j hj => ?_⟩
    rw [e18]
    by_cases hi : 16777216 * k' + j = 16777216 * s + k
    · have hc1 := hcp k' hk'
      have hc2 := hcp s hs
      have b2' := (h2 s hs).2.1
      have hks : k' = s := by omega
      subst hks
      rw [if_pos hi]
      exact m2 _ _ hv
    · rw [if_neg hi]
      exact m2 _ _ (b3 j hj)
  · rw [q 135 (by decide)] at hj
    rw [q 1536 (by decide)]
    exact m2 _ _ (h3 k' hk' j hj)
  · rw [q 43 (by decide), q 1536 (by decide), e18]
    refine ⟨(h4 i).1, ?_, (h4 i).2.2⟩
    by_cases hi : i = 16777216 * s + k
    · rw [if_pos hi]; exact Or.inr hv.2.1
    · rw [if_neg hi]; exact (h4 i).2.1
theorem gNew_fr {g : mSt} {c : Nat} {sd r o : Int32} : mFr [32, 33, 34, 35, 36, 37, 38, 39, 40, 41, 42, 43, 44, 45, 46, 47, 48, 49] g (gNew g c sd r o) := by
  intro j hj
  funext i
  refine gNew_o (fun z => hj ?_)
  have : j = 32 ∨ j = 33 ∨ j = 34 ∨ j = 35 ∨ j = 36 ∨ j = 37 ∨ j = 38 ∨ j = 39 ∨ j = 40 ∨ j = 41 ∨ j = 42 ∨ j = 43 ∨ j = 44 ∨ j = 45 ∨ j = 46 ∨ j = 47 ∨ j = 48 ∨ j = 49 := by omega
  simp only [List.mem_cons, List.not_mem_nil, or_false]
  exact this
theorem k_sd (n : Nat) (h : n < 2147483648) : ∃ x : Int32, x.toInt = (n : Int) := ⟨Int32.ofNat n, nI_toInt (n := n) h⟩
theorem cSd_4 {Z : cZ} {x : Int32} {i : Nat} (e : x.toInt = (i : Int)) (h : i < Z.n) : cSd Z x.toInt.toNat = Z.ad 4 i := by
  have : x.toInt.toNat = i := by omega
  unfold cSd
  rw [this, if_pos h]
theorem cSd_10 {Z : cZ} {x : Int32} {i : Nat} (e : x.toInt = ((Z.n + i : Nat) : Int)) : cSd Z x.toInt.toNat = Z.ad 10 i := by
  have : x.toInt.toNat = Z.n + i := by omega
  unfold cSd
  rw [this, if_neg (by omega)]
  congr 1
  omega
section KNew
variable {p : Program} {l : Launch} {e : Env} {R : Room} {s : State} {m : MethodId} {args : Array Value} {below : List Frame} {meth : Method} {c : Code} {H : Heap} {locs : List Loc} {cells slots : Nat} {Q : State → Prop}
variable {cc : ByteArray} {pc : Nat} {ls : Array Slot} {rest : List Value} {G : cG} {Z : cZ} {g : mSt} {H0 : Heap} {Ts : List Cond} {X : Int} {own : String} {A : Nat → Prop}
theorem k_newCall (x : cXA p c cc s args Ts m G Z A own H0) (L : cL G Z A H0 X g H locs) {index : Nat} (hw : Cond.classLink own index RX1 ∈ Ts) (hi : Cond.instantiable RX1 18 ∈ Ts) (hini : Cond.initialized RX1 ∈ Ts) (hcells : cells + 1 ≤ R.cells) (hslots : slots + 18 ≤ R.slots) (hdg : decode cc pc = .ok (.new index, 3))
    (kk : ∀ (a : Nat) (H1 : Heap), t_OB a (G.1 1) 18 (G.2.1 1) H1 (fun k => defaultValue (tyX1 k)) → (∀ K i, Z.al K i → Z.ad K i ≠ a) → A a → cL G Z A H0 X g H1 locs → W p l e R s m args below meth c H1 locs (cells + 1) (slots + 18) Q (F0 m (pc + 3) ls (.ref a :: rest))) : W p l e R s m args below meth c H locs cells slots Q (F0 m pc ls rest) := by
  have x' := x
  obtain ⟨⟨hx, hb, hts, hin, hown, hK1, hA, hZ, hh, hne, hAd⟩, hE, hB⟩ := x'
  refine k_new hx hb hts hin hown hK1 1 rfl tyX1 tyX1_ok hw hi hini hcells hslots hdg (fun H1 O s1 q1 => ?_)
  have hlt : ∀ K i, Z.al K i → Z.ad K i < H.size := fun K i h => L.1.lt h
  refine kk H.size H1 O (fun K i h z => by have := hlt K i h; omega) (hB _ L.2.1.1) ⟨L.1.keep (fun K i h => q1 _ (hlt K i h)), ⟨by have := L.2.1.1; omega, fun q h1 h2 => ?_, L.2.1.2.2⟩, L.2.2⟩
  rw [q1 q (Nat.lt_of_lt_of_le h1 L.2.1.1)]
  exact L.2.1.2.1 q h1 h2
/-- behind its constructor the call is one of the world's -/
theorem k_initCall (x : cXA p c cc s args Ts m G Z A own H0) (hml : c.maxLocals = ls.size) (L : cL G Z A H0 X g H locs) {a : Nat} (O : t_OB a (G.1 1) 18 (G.2.1 1) H (fun k => defaultValue (tyX1 k))) (hfr : ∀ K i, Z.al K i → Z.ad K i ≠ a) (hAa : A a) (hJ : cJ Z g) (hw2 : Z.w 2 ≤ 2000000) {sa : Nat} (sd r o : Int32) (hsa : cSd Z sd.toInt.toNat = sa) (hsd : 0 ≤ sd.toInt ∧ sd.toInt < 2 * (Z.n : Int)) (ho : rg 0 1 o) {index : Nat} (hT : GoodIn Ts (wk (Cond.code yX1_init cX1_init 4 none))) (hlk : Cond.methodLink own index yX1_init ∈ Ts) (hinst : Cond.instanceMethod yX1_init ∈ Ts) (hini : Cond.initialized RX1 ∈ Ts) (hR : 2 ≤ R.frames ∧ 35 ≤ R.locals) (hroom : (rest.map fun v => v.category).sum ≤ 8) (hcs : cells ≤ R.cells ∧ slots ≤ R.slots) (hdg : decode cc pc = .ok (.invokespecial index, 3))
    (kk : ∀ (v : Int32) (Z1 : cZ) (g1 : mSt) (H1 : Heap) (locs1 : List Loc), v.toInt = (Z.w 2 : Int) → cZl Z Z1 1 18 → Z1.w 2 = Z.w 2 + 1 → cXA p c cc s args Ts m G Z1 A own H0 → cL G Z1 A H0 X g1 H1 locs1 → cJ Z1 g1 → Z1.al 1 v.toInt.toNat → Z1.ad 1 v.toInt.toNat = a → g1 = gNew g v.toInt.toNat sd r o → (∀ c, Z.al 1 c → c ≠ v.toInt.toNat) → W p l e R s m args below meth c H1 locs1 cells slots Q (F0 m (pc + 3) ls rest)) : W p l e R s m args below meth c H locs cells slots Q (F0 m pc ls (.int o :: .int r :: .ref sa :: .ref a :: rest)) := by
  have x' := x
  obtain ⟨⟨hx, hb, hts, hin, hown, hK1, hA, hZ, hh, hne, hAd⟩, hE, hB⟩ := x'
  subst hsa
  obtain ⟨v, hv⟩ := k_sd (Z.w 2) (by omega)
  have hvn : v.toInt.toNat = Z.w 2 := by omega
  refine k_raw (va_runI (As := [.ref (cSd Z sd.toInt.toNat), .int r, .int o]) (rest := rest) ⟨hx, hb, hml, hown, hts⟩ (c_kcallInit l (G := G) a (cSd Z sd.toInt.toNat) r o ho) ⟨callB_of 3 hts hT rfl rfl rfl (hts _ hini) (hts _ hlk) (by decide +kernel) ⟨hR.1, hR.2⟩, rfl, hts _ hinst⟩ ⟨fun a U gg mk q => ⟨q.1, q.2.1, cK.moved (Vm.Alike.refl U.vm) q.2.2⟩, fun U hU hW => ⟨rfl, by rw [hU]; exact O, hK1.moved hW.alike⟩⟩ rfl rfl rfl rfl (by show 2 * 0 + _ ≤ 8; omega) hdg hcs) (fun w st t L0 h0 hq hL0 => ?_)
  obtain ⟨ew, q1, q2, q3⟩ := hq
  cases ew
  have hc : ¬ Z.al 1 v.toInt.toNat := fun z => by have := hJ.2.2.2.2.1.1.2.1 _ z; omega
  rw [h0] at q2 q3
  have hM1 : cH G Z g t.heap := L.1.keep (fun K i h => q3 _ (hfr K i h))
  have hM2 : cH G (zNew Z v.toInt.toNat a) (gNew g v.toInt.toNat sd r o) t.heap := hM1.adopt hc (cD_no hJ.2 hc) (fun K i h => (hJ.2.2.2.2.1.1.1 K i h).1) q1
  have hz : cZl Z (zNew Z v.toInt.toNat a) 1 18 := ⟨rfl, fun _ _ h => Or.inl h, fun K i h _ => zad (fun z => hc (by rw [← z.2]; rw [z.1] at h; exact h)), rfl, rfl⟩
  have hd1 : ∀ q, cAd (zNew Z v.toInt.toNat a) q → A q := fun q h => (cAd_adopt h).elim (hAd q) (fun z => by rw [z]; exact hAa)
  have x1 : cXA p c cc s args Ts m G (zNew Z v.toInt.toNat a) A own H0 := by
    refine ⟨⟨hx, hb, hts, hin, hown, hK1, cAp_adopt hA hfr hc, cSt_adopt hZ, hh, hne, hd1⟩, ?_, hB⟩
    unfold hcE
    rw [hz.2.2.1 55 0 (hZ.2 55 0 (show 0 < 1 by decide)) (by omega)]
    exact hE
  refine kk v (zNew Z v.toInt.toNat a) (gNew g v.toInt.toNat sd r o) t.heap (locs ++ L0) hv hz rfl x1 ⟨hM2, ⟨by have := L.2.1.1; omega, fun q h1 h2 => ?_, fun q hq => ?_⟩, cI_adopt L.2.2 ho⟩ (cJ_adopt hJ hvn hc hsd) (Or.inr ⟨rfl, rfl⟩) (if_pos ⟨rfl, rfl⟩) rfl (fun c h z => hc (by rw [← z]; exact h))
  · rw [q3 q (fun z => h2 (by rw [z]; exact hAa))]
    exact L.2.1.2.1 q h1 h2
  · rcases List.mem_append.mp hq with h | h
    · exact L.2.1.2.2 q h
    · rw [hL0 q h]; exact hAa
end KNew
/-- a call's partner is set -/
theorem cJ_p43 {Z : cZ} {g g1 : mSt} {c : Nat} {v : Int32} (h : cJ Z g) (e : g1 = up2 g 43 c v) (hv : Z.al 1 v.toInt.toNat) : cJ Z g1 := by
  have q : ∀ k, k ≠ 43 → g1 k = g k := fun k hk => by rw [e, up2_of hk]
  obtain ⟨h0, h1, h2, h3, h5, h4⟩ := h
  refine ⟨cJ0_q h0 q (by decide), fun c' hc' => ?_, ?_, ?_, by unfold cD5 at *; rw [q 385 (by decide), q 1729 (by decide)]; exact h5, fun i => ?_⟩
  · obtain ⟨a1, a2, a3, a4, a5⟩ := h1 c' hc'
    unfold cD1
    rw [q 32 (by decide), q 44 (by decide), q 45 (by decide), q 46 (by decide)]
    refine ⟨a1, ?_, a3, a4, a5⟩
    by_cases z : c' = c
    · right; rw [z, e, up2_i]; exact hv
    · rw [e, up2_n z]; exact a2
  · unfold cD2 at *
    rw [q 386 (by decide), q 1729 (by decide), q 1728 (by decide), q 32 (by decide)]
    exact h2
  · unfold cD2 at *
    rw [q 135 (by decide), q 1536 (by decide), q 32 (by decide)]
    exact h3
  · rw [q 1728 (by decide), q 1536 (by decide)]
    refine ⟨?_, (h4 i).2⟩
    by_cases z : i = c
    · right; rw [z, e, up2_i]; exact hv
    · rw [e, up2_n z]; exact (h4 i).1
/-- a call is numbered -/
theorem cJ_num {Z : cZ} {g g1 g2 : mSt} (h : cJ Z g) {s k : Nat} {v w : Int32} (hk : (k : Int) = (g 135 s).toInt) (hk40 : ∀ s, (g 135 s).toInt ≤ 40) (hv : cD2 Z g s v) (e1 : g1 = up2 g 1536 (16777216 * s + k) v) (e2 : g2 = up2 g1 135 s w) (hw : w.toInt = (g 135 s).toInt + 1) : cJ Z g2 := by
  have q : ∀ j, j ≠ 135 → j ≠ 1536 → g2 j = g j := fun j h1 h2 => by rw [e2, up2_of h1, e1, up2_of h2]
  obtain ⟨h0, h1, h2, h3, h5, h4⟩ := h
  have m2 : ∀ (k : Nat) (x : Int32), cD2 Z g k x → cD2 Z g2 k x := fun k x hx => ⟨hx.1, hx.2.1, by rw [q 32 (by decide) (by decide)]; exact hx.2.2⟩
  have e15 : ∀ i, g2 1536 i = if i = 16777216 * s + k then v else g 1536 i := fun i => by
    rw [e2, up2_o (by decide), e1]
    by_cases hi : i = 16777216 * s + k
    · rw [if_pos hi, hi, up2_i]
    · rw [if_neg hi, up2_n hi]
  refine ⟨?_, fun c' hc' => ?_, fun k' hk' => ?_, fun k' hk' j hj => ?_, ?_, fun i => ?_⟩
  · unfold cJ0 at *
    rw [q 640 (by decide) (by decide), q 704 (by decide) (by decide), q 225 (by decide) (by decide), q 233 (by decide) (by decide), q 49 (by decide) (by decide)]
    exact h0
  · have := h1 c' hc'
    unfold cD1 at *
    rw [q 32 (by decide) (by decide), q 43 (by decide) (by decide), q 44 (by decide) (by decide), q 45 (by decide) (by decide), q 46 (by decide) (by decide)]
    exact this
  · have := h2 k' hk'
    rw [q 386 (by decide) (by decide), q 1729 (by decide) (by decide), q 1728 (by decide) (by decide)]
    exact ⟨this.1, this.2.1, fun j hj => m2 _ _ (this.2.2 j hj)⟩
  · rw [e15]
    by_cases hks : k' = s
    · subst hks
      have e135 : g2 135 k' = w := by rw [e2, up2_i]
      rw [e135] at hj
      by_cases hjk : 16777216 * k' + j = 16777216 * k' + k
      · rw [if_pos hjk]; exact m2 _ _ hv
      · rw [if_neg hjk]; exact m2 _ _ (h3 k' hk' j (by omega))
    · have e135 : g2 135 k' = g 135 k' := by rw [e2, up2_n hks, e1, up2_o (by decide)]
      rw [e135] at hj
      have hc1 := hk40 k'
      have hc2 := hk40 s
      rw [if_neg (by omega)]
      exact m2 _ _ (h3 k' hk' j hj)
  · unfold cD5 at *
    rw [q 385 (by decide) (by decide), q 1729 (by decide) (by decide)]
    exact h5
  · rw [q 43 (by decide) (by decide), q 1728 (by decide) (by decide), e15]
    refine ⟨(h4 i).1, (h4 i).2.1, ?_⟩
    by_cases hi : i = 16777216 * s + k
    · rw [if_pos hi]; exact Or.inr hv.2.1
    · rw [if_neg hi]; exact (h4 i).2.2
