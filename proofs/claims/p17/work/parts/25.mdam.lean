/-! the reference's damages -/
theorem apL {a b c d : List Int32} (h : a = c) (k : b = d) : a ++ b = c ++ d := by rw [h, k]
def rDm (g : mSt) (q : Nat) : List Int32 := (List.range (min 8 (g 16 q).toInt.toNat)).map fun i => g 13 (8 * q + i)
theorem rDm_eq {g g1 : mSt} {q : Nat} (h1 : g1 16 q = g 16 q) (h2 : ∀ i, i < 8 → g1 13 (8 * q + i) = g 13 (8 * q + i)) : rDm g1 q = rDm g q := by
  unfold rDm
  rw [h1]
  exact List.map_congr_left (fun k hk => h2 k (by have := List.mem_range.mp hk; omega))
theorem rDm_fr {M : List Nat} {g g1 : mSt} (h : mFr M g g1) (h1 : M.elem 13 = false) (h2 : M.elem 16 = false) (q : Nat) : rDm g1 q = rDm g q := rDm_eq (by rw [h.at 16 h2]) (fun i _ => by rw [h.at 13 h1])
/-- one cell of direction d is put -/
def hmD (d : Nat) (g g1 : mSt) : Prop := ∀ q, rDm g1 q = if q = d then dStep (rDm g q) else rDm g q
def ffr (v : Int32) : Option Int32 := if v = 0 then none else some (v - 1)
/-- harm's loop: I of the damages are seen, L of them kept -/
def hmI (d : Nat) (g g1 : mSt) (L I : Nat) : Prop := cpI ffr (fun i => g 13 (8 * d + i)) (fun i => g1 13 (8 * d + i)) L I ∧ (∀ x, x < 8 * d → g1 13 x = g 13 x) ∧ I ≤ (g 16 d).toInt.toNat
theorem hmI.z {d I : Nat} {g : mSt} (h : I = 0) : hmI d g g 0 I := by
  subst h
  exact ⟨cpI.z, fun _ _ => rfl, Nat.zero_le _⟩
theorem hmI.fr {d L I : Nat} {g g1 g2 : mSt} (h : hmI d g g1 L I) (e : g2 13 = g1 13) : hmI d g g2 L I := by
  unfold hmI
  rw [e]
  exact h
theorem hmI.dr {d L I I1 : Nat} {g g1 : mSt} {v i : Int32} (h : hmI d g g1 L I) (hI : I1 = I + 1) (hc : I < (g 16 d).toInt.toNat) (ev : v = g1 13 i.toNatClampNeg) (hi : i.toInt.toNat = 8 * d + I) (h0 : v = 0) : hmI d g g1 L I1 := by
  subst hI
  refine ⟨h.1.drop ?_, h.2.1, hc⟩
  show ffr (g1 13 (8 * d + I)) = none
  rw [← hi, ← ntc, ← ev, h0]
  rfl
theorem hmI.kp {d L I I1 L1 : Nat} {g g1 g2 g3 g4 g5 : mSt} {v w i j : Int32} {x2 x4 x5 : Nat} {y2 y4 y5 : Int32} (h : hmI d g g1 L I) (hI : I1 = I + 1) (hL : L1 = L + 1) (hLI : L ≤ I) (hc : I < (g 16 d).toInt.toNat) (ev : v = g1 13 i.toNatClampNeg) (hi : i.toInt.toNat = 8 * d + I) (h0 : v ≠ 0) (ew : w = v - 1) (hj : j.toInt.toNat = 8 * d + L) (e2 : g2 = up2 g1 12 x2 y2) (e3 : g3 = up2 g2 13 j.toNatClampNeg w) (e4 : g4 = up2 g3 14 x4 y4) (e5 : g5 = up2 g4 15 x5 y5) : hmI d g g5 L1 I1 := by
  subst hI
  subst hL
  have a : g5 13 = g3 13 := by rw [e5, up2_of (by decide), e4, up2_of (by decide)]
  have b : g2 13 = g1 13 := by rw [e2, up2_of (by decide)]
  unfold hmI
  rw [a]
  refine ⟨h.1.keep (w := w) hLI ?_ ?_ (fun k hk => ?_), fun x hx => ?_, hc⟩
  · show ffr (g1 13 (8 * d + I)) = some w
    rw [← hi, ← ntc, ← ev, ew]
    exact if_neg h0
  · show g3 13 (8 * d + L) = w
    rw [e3, ntc, hj, up2_i]
  · show g3 13 (8 * d + k) = g1 13 (8 * d + k)
    rw [e3, ntc, hj, up2_n (by omega), b]
  · rw [e3, ntc, hj, up2_n (by omega), b]
    exact h.2.1 x hx
theorem hmI.en {d L I : Nat} {g g1 g2 g3 : mSt} {v a p1 : Int32} {y : Nat} {w : Int32} (h : hmI d g g1 L I) (hF : g1 16 = g 16) (hp : p1.toInt.toNat = d) (hv : v = g1 16 p1.toNatClampNeg) (rv : 0 ≤ v.toInt ∧ v.toInt ≤ 8) (hI : v.toInt.toNat ≤ I) (ha : a.toInt.toNat = L) (hLI : L ≤ I) (e2 : g2 = up2 g1 16 p1.toNatClampNeg a) (e3 : g3 = up2 g2 18 y w) : hmD d g g3 := fun q => by
  have a13 : g3 13 = g1 13 := by rw [e3, up2_of (by decide), e2, up2_of (by decide)]
  have a16 : g3 16 = g2 16 := by rw [e3, up2_of (by decide)]
  have ev : v = g 16 d := by rw [hv, ntc, hp, hF]
  have hI2 := h.2.2
  rw [← ev] at hI2
  by_cases z : q = d
  · rw [if_pos z, z]
    unfold rDm dStep
    rw [a16, a13, e2, ntc, hp, up2_i, ha, ← ev, show min 8 L = L by omega, show min 8 v.toInt.toNat = I by omega]
    exact h.1.1
  · rw [if_neg z]
    refine rDm_eq ?_ (fun i hi => ?_)
    · rw [a16, e2, ntc, hp, up2_n z, hF]
    · rw [a13]
      by_cases c : 8 * q + i < 8 * d
      · exact h.2.1 _ c
      · have hq : 8 * q + i = 8 * d + (8 * (q - d) + i) := by omega
        rw [hq]
        exact h.1.2 _ (by omega)
theorem rD_put {M : List Nat} {d : Nat} {g g1 g2 : mSt} (h : mFr M g g1) (h1 : M.elem 13 = false) (h2 : M.elem 16 = false) (k : hmD d g1 g2) : hmD d g g2 := fun q => by
  rw [k q, rDm_fr h h1 h2 q]
/-- cells of one direction in a tick; directions whose cells are put -/
def otK (d k : Nat) (g g1 : mSt) : Prop := ∀ q, rDm g1 q = if q = d then dIt k (rDm g q) else rDm g q
def otP (d : Int) (g g1 : mSt) : Prop := ∀ q : Nat, rDm g1 q = if (q : Int) < d then dIt 4 (rDm g q) else rDm g q
theorem otK.z {d k : Nat} {g : mSt} (h : k = 0) : otK d k g g := fun q => by
  subst h
  split <;> rfl
theorem otK.s {d k k1 : Nat} {g g1 g2 : mSt} (h : otK d k g g1) (hk : k1 = k + 1) (k2 : hmD d g1 g2) : otK d k1 g g2 := fun q => by
  subst hk
  rw [k2 q, h q]
  by_cases z : q = d
  · rw [if_pos z, if_pos z, if_pos z]
    rfl
  · rw [if_neg z, if_neg z, if_neg z]
theorem otP.z {d : Int} {g : mSt} (h : d ≤ 0) : otP d g g := fun q => by
  rw [if_neg (by omega)]
theorem otP.s {d d1 : Int} {e k : Nat} {g g1 g2 : mSt} (h : otP d g g1) (hd : d = (e : Int)) (hd1 : d1 = d + 1) (hk : k = 4) (k2 : otK e k g1 g2) : otP d1 g g2 := fun q => by
  subst hk
  rw [k2 q, h q]
  by_cases z : q = e
  · rw [if_pos z, if_neg (by omega), if_pos (by omega)]
  · rw [if_neg z]
    by_cases w : (q : Int) < d
    · rw [if_pos w, if_pos (by omega)]
    · rw [if_neg w, if_neg (by omega)]
theorem otP.fr {d d1 : Int} {g g0 g1 g2 : mSt} (h : otP d g0 g1) (a : ∀ q, rDm g0 q = rDm g q) (b : ∀ q, rDm g2 q = rDm g1 q) (hd : d1 = d) : otP d1 g g2 := fun q => by
  subst hd
  rw [b q, h q, a q]
/-- so many ticks -/
def otT (nn : Int) (k : Nat) (g g1 : mSt) : Prop := ∀ q : Nat, rDm g1 q = if (q : Int) < 2 * nn then dIt (4 * k) (rDm g q) else rDm g q
theorem otT.z {nn : Int} {k : Nat} {g : mSt} (h : k = 0) : otT nn k g g := fun q => by
  subst h
  split <;> rfl
theorem otT.s {nn : Int} {k k1 : Nat} {g g1 g2 : mSt} (h : otT nn k g g1) (hk : k1 = k + 1) (k2 : otP (2 * nn) g1 g2) : otT nn k1 g g2 := fun q => by
  subst hk
  rw [k2 q, h q]
  by_cases z : (q : Int) < 2 * nn
  · rw [if_pos z, if_pos z, if_pos z]
    exact dIt_add
  · rw [if_neg z, if_neg z, if_neg z]
theorem dmA_bad {nn : Int} {p1 p2 p3 p4 p5 : Int32} {g g1 : mSt} (h : badD nn p1 p2 p3 p4 p5) (k : mFr [] g g1) : dmA nn p1 p2 p3 p4 p5 (rDm g) (rDm g1) (-1) := ⟨fun _ => ⟨rfl, rDm_fr k rfl rfl⟩, fun z => absurd h z⟩
theorem rDm_len {g : mSt} {q : Nat} : (rDm g q).length = min 8 (g 16 q).toInt.toNat := by
  unfold rDm
  rw [List.length_map, List.length_range]
theorem dmA_full {nn : Int} {p1 p2 p3 p4 p5 v : Int32} {g g1 : mSt} (h : ¬ badD nn p1 p2 p3 p4 p5) (k : mFr [] g g1) (hv : v = g1 16 p1.toNatClampNeg) (rv : 8 ≤ v.toInt) : dmA nn p1 p2 p3 p4 p5 (rDm g) (rDm g1) (-3) := by
  refine ⟨fun z => absurd z h, fun _ => ⟨fun _ => ⟨rfl, rDm_fr k rfl rfl⟩, fun z => absurd ?_ z⟩⟩
  have e : g 16 p1.toInt.toNat = v := by rw [hv, ntc, k.at 16 rfl]
  rw [rDm_len, e]
  omega
theorem dmA_add {nn : Int} {p1 p2 p3 p4 p5 v w a : Int32} {g g1 g2 g3 g4 g5 g6 : mSt} {x2 x4 x5 : Nat} {y2 y4 y5 : Int32} (h : ¬ badD nn p1 p2 p3 p4 p5) (k : mFr [] g g1) (hv : v = g1 16 p1.toNatClampNeg) (rv : 0 ≤ v.toInt ∧ v.toInt ≤ 7) (ha : a.toInt = 8 * p1.toInt + v.toInt) (hp : 0 ≤ p1.toInt) (e2 : g2 = up2 g1 12 x2 y2) (e3 : g3 = up2 g2 13 a.toNatClampNeg p3) (e4 : g4 = up2 g3 14 x4 y4) (e5 : g5 = up2 g4 15 x5 y5) (e6 : g6 = up2 g5 16 p1.toNatClampNeg w) (hw : w.toInt = v.toInt + 1) : dmA nn p1 p2 p3 p4 p5 (rDm g) (rDm g6) w := by
  have a16 : g5 16 = g 16 := by rw [e5, up2_of (by decide), e4, up2_of (by decide), e3, up2_of (by decide), e2, up2_of (by decide), k.at 16 rfl]
  have a13 : g6 13 = g3 13 := by rw [e6, up2_of (by decide), e5, up2_of (by decide), e4, up2_of (by decide)]
  have b13 : g2 13 = g 13 := by rw [e2, up2_of (by decide), k.at 13 rfl]
  have ev : v = g 16 p1.toInt.toNat := by rw [hv, ntc, k.at 16 rfl]
  have w6 : g6 16 p1.toInt.toNat = w := by rw [e6, ntc, up2_i]
  have la : a.toInt.toNat = 8 * p1.toInt.toNat + v.toInt.toNat := by omega
  have len : (rDm g p1.toInt.toNat).length = v.toInt.toNat := by
    rw [rDm_len, ← ev]
    omega
  refine ⟨fun z => absurd z h, fun _ => ⟨fun z => by omega, fun _ => ⟨by omega, ?_, fun q hq => ?_⟩⟩⟩
  · unfold rDm
    rw [w6, a13, ← ev, show min 8 w.toInt.toNat = v.toInt.toNat + 1 by omega, show min 8 v.toInt.toNat = v.toInt.toNat by omega, List.range_succ, List.map_append]
    refine apL (List.map_congr_left (fun i hi => ?_)) ?_
    · have := List.mem_range.mp hi
      rw [e3, ntc, la, up2_n (by omega), b13]
    · show [g3 13 (8 * p1.toInt.toNat + v.toInt.toNat)] = [p3]
      rw [e3, ntc, la, up2_i]
  · refine rDm_eq ?_ (fun i hi => ?_)
    · rw [e6, ntc, up2_n hq, a16]
    · rw [a13, e3, ntc, la, up2_n (by omega), b13]
set_option maxHeartbeats 4000000 in
set_option maxRecDepth 100000 in
theorem wD_isDirection {p : Program} {l : Launch} {e : Env} {s : State} {m : MethodId} {args : Array Value} {below : List Frame} {meth : Method} {c : Code} {H : Heap} {locs : List Loc} {Q : State → Prop} {ls : Array Slot} {G : mG} {h0 : Nat} {ad : Nat → Nat} {g : mSt} {H0 : Heap} {nn X : Int} (x : mX p c cX12_isDirection s args (wm (Cond.code yX12_isDirection cX12_isDirection 2 (some .boolean))) m G h0 ad) (hml : c.maxLocals = 2) (L : mL G h0 ad H0 nn X g H locs) (hnn : 2 ≤ nn ∧ nn ≤ 4) (hX : 0 ≤ X ∧ X ≤ 2000000000) (p1 : Int32) (hl : lv_has ls 2 [(0, .ref h0), (1, .int p1)]) (hQ : ∀ (pc' : Nat) (ls' : Array Slot) (r : Int32) (g1 : mSt) (H1 : Heap) (locs1 : List Loc), decode cX12_isDirection pc' = .ok (.ireturn, 1) → mL G h0 ad H0 nn X g1 H1 locs1 → (mFr [] g g1 ∧ rg (0) (1) r ∧ (¬ r = 0 → rg (0) (7) p1 ∧ p1.toInt < 2 * nn) ∧ (r = 0 → ¬ (0 ≤ p1.toInt ∧ p1.toInt < 2 * nn))) → W p l e rm_isDirection s m args below meth c H1 locs1 0 0 Q (F0 m pc' ls' [.int r])) : W p l e rm_isDirection s m args below meth c H locs 0 0 Q (F0 m 0 ls []) := by
  have hx := x.1
  have hb := x.2.1
  refine lv_iload_n hx hb dX12_isDirection_0 rfl (lv_at hl 1 rfl) ?_
  refine lv_if_lt (tgt := 18) hx hb dX12_isDirection_1 (by decide) (fun c1_1 => ?_) (fun c1_1 => ?_)
  · skip
    have q2 : rg (-2147483648) (-1) p1 := (rg_lt c1_1 (rg_any p1) kc_0).1
    refine lv_iconst (v := 0) hx hb dX12_isDirection_18 (by decide) ?_
    exact hQ _ _ (0 : Int32) _ _ _ dX12_isDirection_19 L ⟨mFr.rf, rg_w kc_0 rfl, (fun h => absurd rfl h), fun _ => by have uq2 : (-2147483648 : Int) ≤ p1.toInt ∧ p1.toInt ≤ -1 := q2; omega⟩
  · skip
    have q3 : rg (0) (2147483647) p1 := (rg_le (rg_nlt c1_1) kc_0 (rg_any p1)).2
    refine lv_iload_n hx hb dX12_isDirection_4 rfl (lv_at hl 1 rfl) ?_
    refine lv_iconst (v := 2) hx hb dX12_isDirection_5 (by decide) ?_
    refine lv_aload_n hx hb dX12_isDirection_6 rfl (lv_at hl 0 rfl) ?_
    refine m_geti x L 0 rfl rfl (wm_in uf_260) dX12_isDirection_7 (fun v4 ev4 wv4 => ?_)
    have rv4 : rg 2 4 v4 := rg_nn hnn wv4
    have tv4 : v4.toInt = nn := rg_n0 wv4
    have lv4 : v4.toInt = 1 * nn + 0 := by omega
    refine lv_imul hx hb dX12_isDirection_10 ?_
    refine lv_topi (fun v5 ev5 => ?_)
    have rv5 : rg (4) (8) v5 := (rg_mulL ev5 kc_2 rv4 rfl).1
    have tv5 := (rg_mulL ev5 kc_2 rv4 rfl).2
    have lv5 : v5.toInt = 2 * nn + 0 := by have := lv4; have : (2 : Int32).toInt = 2 := (by decide); omega
    refine lv_icmp_ge (tgt := 18) hx hb dX12_isDirection_11 (by decide) (fun c11_6 => ?_) (fun c11_6 => ?_)
    · skip
      have q7 : rg (4) (2147483647) p1 := (rg_le c11_6 rv5 q3).2
      refine lv_iconst (v := 0) hx hb dX12_isDirection_18 (by decide) ?_
      exact hQ _ _ (0 : Int32) _ _ _ dX12_isDirection_19 L ⟨mFr.rf, rg_w kc_0 rfl, (fun h => absurd rfl h), fun _ => by have ic := Int32.le_iff_toInt_le.mp c11_6; omega⟩
    · skip
      have b2p1_8 : p1.toInt < 2 * nn := by have := Int32.lt_iff_toInt_lt.mp (rg_nle c11_6); have := lv5; omega
      have q9 : rg (0) (7) p1 := (rg_lt (rg_nle c11_6) q3 rv5).1
      refine lv_iconst (v := 1) hx hb dX12_isDirection_14 (by decide) ?_
      refine lv_goto (tgt := 19) hx hb dX12_isDirection_15 (by decide) ?_
      exact hQ _ _ (1 : Int32) _ _ _ dX12_isDirection_19 L ⟨mFr.rf, rg_w kc_1 rfl, (fun _ => ⟨rg_w q9 rfl, b2p1_8⟩), fun z => absurd z (by decide)⟩
theorem cD_isDirection (l : Launch) {G : mG} {h0 : Nat} {ad : Nat → Nat} (nn X : Int) (g : mSt) (p1 : Int32) (hnn : 2 ≤ nn ∧ nn ≤ 4) (hX : 0 ≤ X ∧ X ≤ 2000000000) : Met l yX12_isDirection (wm (Cond.code yX12_isDirection cX12_isDirection 2 (some .boolean))) rm_isDirection (va_Pc [.ref h0, .int p1] (mPre G h0 ad nn X g)) (mQi G h0 ad nn X (fun r g1 => mFr [] g g1 ∧ rg (0) (1) r ∧ (¬ r = 0 → rg (0) (7) p1 ∧ p1.toInt < 2 * nn) ∧ (r = 0 → ¬ (0 ≤ p1.toInt ∧ p1.toInt < 2 * nn)))) 0 0 (mA h0 ad) := by
  refine Met.ofW (cc := cX12_isDirection) (maxL := 2) (ret := (some .boolean)) (by decide) rfl ?_
  intro p e s m args below meth c s₁ B hml hv
  obtain ⟨rfl, hv⟩ := hv
  have hr := B.returns
  have hlocks := B.notSynchronized
  obtain ⟨x, L⟩ := m_start B rfl wm_X hv
  have hl := lv_entry ([.ref h0, .int p1]) (n := 2) (Nat.le_of_ble_eq_true rfl)
  rw [lg_entry_eq]
  generalize (lg_sl ([.ref h0, .int p1]) ++ List.replicate (2 - (lg_sl ([.ref h0, .int p1])).length) Slot.unset).toArray = ls at hl ⊢
  exact wD_isDirection x hml L hnn hX p1 hl (fun pc' ls' r g1 H1 locs1 hdg L hp => m_zret x L hr hlocks (nar01 (rg_w hp.2.1 rfl)) (Int.le_refl _) hp hdg)
set_option maxHeartbeats 4000000 in
set_option maxRecDepth 100000 in
theorem wD_damage {p : Program} {l : Launch} {e : Env} {s : State} {m : MethodId} {args : Array Value} {below : List Frame} {meth : Method} {c : Code} {H : Heap} {locs : List Loc} {Q : State → Prop} {ls : Array Slot} {G : mG} {h0 : Nat} {ad : Nat → Nat} {g : mSt} {H0 : Heap} {nn X : Int} (x : mX p c cX12_damage s args (wm (Cond.code yX12_damage cX12_damage 8 (some .int))) m G h0 ad) (hml : c.maxLocals = 8) (L : mL G h0 ad H0 nn X g H locs) (hnn : 2 ≤ nn ∧ nn ≤ 4) (hX : 0 ≤ X ∧ X ≤ 2000000000) (p1 : Int32) (p2 : Int32) (p3 : Int32) (p4 : Int32) (p5 : Int32) (hJ : mJ nn [] g) (hl : lv_has ls 8 [(0, .ref h0), (1, .int p1), (2, .int p2), (3, .int p3), (4, .int p4), (5, .int p5)]) (hQ : ∀ (pc' : Nat) (ls' : Array Slot) (r : Int32) (g1 : mSt) (H1 : Heap) (locs1 : List Loc), decode cX12_damage pc' = .ok (.ireturn, 1) → mL G h0 ad H0 nn X g1 H1 locs1 → (mFr [12, 13, 14, 15, 16] g g1 ∧ rg (-3) (8) r ∧ mJ nn [] g1 ∧ dmA nn p1 p2 p3 p4 p5 (rDm g) (rDm g1) r) → W p l e rm_damage s m args below meth c H1 locs1 0 0 Q (F0 m pc' ls' [.int r])) : W p l e rm_damage s m args below meth c H locs 0 0 Q (F0 m 0 ls []) := by
  have hx := x.1
  have hb := x.2.1
  have up1 : (-2147483648 : Int) ≤ p1.toInt ∧ p1.toInt ≤ 2147483647 := (rg_any p1)
  have up2 : (-2147483648 : Int) ≤ p2.toInt ∧ p2.toInt ≤ 2147483647 := (rg_any p2)
  have up3 : (-2147483648 : Int) ≤ p3.toInt ∧ p3.toInt ≤ 2147483647 := (rg_any p3)
  have up4 : (-2147483648 : Int) ≤ p4.toInt ∧ p4.toInt ≤ 2147483647 := (rg_any p4)
  have up5 : (-2147483648 : Int) ≤ p5.toInt ∧ p5.toInt ≤ 2147483647 := (rg_any p5)
  refine lv_aload_n hx hb dX12_damage_0 rfl (lv_at hl 0 rfl) ?_
  refine lv_iload_n hx hb dX12_damage_1 rfl (lv_at hl 1 rfl) ?_
  refine m_ci (As := [.int p1]) (rest := []) x hml L (cD_isDirection l nn X g p1 hnn hX) (wm_V uc_isDirection ul_319 ui_isDirection us_isDirection u_init) rfl ⟨rfl, rfl⟩ hd_isDirection ⟨Nat.le_of_ble_eq_true rfl, Nat.le_of_ble_eq_true rfl⟩ rfl hl.1 rfl (lv_room (Nat.le_of_ble_eq_true rfl)) dX12_damage_2 (fun v2 g1 H1 k1 hp1 L1 => ?_)
  have rv2 : rg (0) (1) v2 := hp1.2.1
  have uv2 : (0 : Int) ≤ v2.toInt ∧ v2.toInt ≤ 1 := rv2
  refine lv_if_eq (tgt := 32) hx hb dX12_damage_5 (by decide) (fun c5_3 => ?_) (fun c5_3 => ?_)
  · skip
    have ic5_3 := congrArg Int32.toInt c5_3
    have y4 : (0 : Int32).toInt = 0 := by decide
    have q5 : rg (0) (0) v2 := (rg_eq c5_3 rv2 kc_0).1
    have uq5 : (0 : Int) ≤ v2.toInt ∧ v2.toInt ≤ 0 := q5
    refine lv_iconst (v := 0) hx hb dX12_damage_32 (by decide) ?_
    refine lv_istore (lv' := [(6, .int (0 : Int32)), (0, .ref h0), (1, .int p1), (2, .int p2), (3, .int p3), (4, .int p4), (5, .int p5)]) hx hb dX12_damage_33 hl (by decide) rfl (fun ls hl => ?_)
    refine lv_iload hx hb dX12_damage_35 (lv_at hl 0 rfl) ?_
    refine lv_if_eq (tgt := 75) hx hb dX12_damage_37 (by decide) (fun c37_6 => ?_) (fun c37_6 => ?_)
    · skip
      refine lv_iconst (v := 0) hx hb dX12_damage_75 (by decide) ?_
      refine lv_istore (lv' := [(6, .int (0 : Int32)), (0, .ref h0), (1, .int p1), (2, .int p2), (3, .int p3), (4, .int p4), (5, .int p5)]) hx hb dX12_damage_76 hl (by decide) rfl (fun ls hl => ?_)
      refine lv_iload hx hb dX12_damage_78 (lv_at hl 0 rfl) ?_
      refine lv_if_ne (tgt := 85) hx hb dX12_damage_80 (by decide) (fun c80_7 => ?_) (fun c80_7 => ?_)
      · skip
        exact absurd c80_7 (by decide)
      · skip
        refine lv_iconst (v := (-1)) hx hb dX12_damage_83 (by decide) ?_
        exact hQ _ _ (-1 : Int32) _ _ _ dX12_damage_84 L1 ⟨(mFr.tr mFr.rf hp1.1 rfl), rg_w kc_m1 rfl, (mJ_fr hJ hp1.1 rfl), (dmA_bad (Or.inl (hp1.2.2.2 c5_3)) hp1.1)⟩
    · skip
      exact absurd c37_6 (by decide)
  · skip
    have ic5_3 : v2.toInt ≠ (0 : Int32).toInt := fun z => c5_3 (Int32.toInt_inj.mp z)
    have y8 : (0 : Int32).toInt = 0 := by decide
    have q9 : rg (0) (7) p1 ∧ p1.toInt < 2 * nn := hp1.2.2.1 c5_3
    have uq9 : (0 : Int) ≤ p1.toInt ∧ p1.toInt ≤ 7 := q9.1
    have wq9 := q9.2
    have q10 : rg (1) (1) v2 := rg_neL c5_3 rv2 kc_0
    have uq10 : (1 : Int) ≤ v2.toInt ∧ v2.toInt ≤ 1 := q10
    refine lv_iload_n hx hb dX12_damage_8 rfl (lv_at hl 2 rfl) ?_
    refine lv_if_lt (tgt := 32) hx hb dX12_damage_9 (by decide) (fun c9_11 => ?_) (fun c9_11 => ?_)
    · skip
      have ic9_11 := Int32.lt_iff_toInt_lt.mp c9_11
      have q12 : rg (-2147483648) (-1) p2 := (rg_lt c9_11 (rg_any p2) kc_0).1
      have uq12 : (-2147483648 : Int) ≤ p2.toInt ∧ p2.toInt ≤ -1 := q12
      refine lv_iconst (v := 0) hx hb dX12_damage_32 (by decide) ?_
      refine lv_istore (lv' := [(6, .int (0 : Int32)), (0, .ref h0), (1, .int p1), (2, .int p2), (3, .int p3), (4, .int p4), (5, .int p5)]) hx hb dX12_damage_33 hl (by decide) rfl (fun ls hl => ?_)
      refine lv_iload hx hb dX12_damage_35 (lv_at hl 0 rfl) ?_
      refine lv_if_eq (tgt := 75) hx hb dX12_damage_37 (by decide) (fun c37_13 => ?_) (fun c37_13 => ?_)
      · skip
        refine lv_iconst (v := 0) hx hb dX12_damage_75 (by decide) ?_
        refine lv_istore (lv' := [(6, .int (0 : Int32)), (0, .ref h0), (1, .int p1), (2, .int p2), (3, .int p3), (4, .int p4), (5, .int p5)]) hx hb dX12_damage_76 hl (by decide) rfl (fun ls hl => ?_)
        refine lv_iload hx hb dX12_damage_78 (lv_at hl 0 rfl) ?_
        refine lv_if_ne (tgt := 85) hx hb dX12_damage_80 (by decide) (fun c80_14 => ?_) (fun c80_14 => ?_)
        · skip
          exact absurd c80_14 (by decide)
        · skip
          refine lv_iconst (v := (-1)) hx hb dX12_damage_83 (by decide) ?_
          exact hQ _ _ (-1 : Int32) _ _ _ dX12_damage_84 L1 ⟨(mFr.tr mFr.rf hp1.1 rfl), rg_w kc_m1 rfl, (mJ_fr hJ hp1.1 rfl), (dmA_bad (by unfold badD; omega) hp1.1)⟩
      · skip
        exact absurd c37_13 (by decide)
    · skip
      have ic9_11 := Int32.le_iff_toInt_le.mp (rg_nlt c9_11)
      have q15 : rg (0) (2147483647) p2 := (rg_le (rg_nlt c9_11) kc_0 (rg_any p2)).2
      have uq15 : (0 : Int) ≤ p2.toInt ∧ p2.toInt ≤ 2147483647 := q15
      refine lv_iload_n hx hb dX12_damage_12 rfl (lv_at hl 2 rfl) ?_
      refine lv_iconst (v := 2) hx hb dX12_damage_13 (by decide) ?_
      refine lv_icmp_gt (tgt := 32) hx hb dX12_damage_14 (by decide) (fun c14_16 => ?_) (fun c14_16 => ?_)
      · skip
        have ic14_16 := Int32.lt_iff_toInt_lt.mp c14_16
        have q17 : rg (3) (2147483647) p2 := (rg_lt c14_16 kc_2 q15).2
        have uq17 : (3 : Int) ≤ p2.toInt ∧ p2.toInt ≤ 2147483647 := q17
        refine lv_iconst (v := 0) hx hb dX12_damage_32 (by decide) ?_
        refine lv_istore (lv' := [(6, .int (0 : Int32)), (0, .ref h0), (1, .int p1), (2, .int p2), (3, .int p3), (4, .int p4), (5, .int p5)]) hx hb dX12_damage_33 hl (by decide) rfl (fun ls hl => ?_)
        refine lv_iload hx hb dX12_damage_35 (lv_at hl 0 rfl) ?_
        refine lv_if_eq (tgt := 75) hx hb dX12_damage_37 (by decide) (fun c37_18 => ?_) (fun c37_18 => ?_)
        · skip
          refine lv_iconst (v := 0) hx hb dX12_damage_75 (by decide) ?_
          refine lv_istore (lv' := [(6, .int (0 : Int32)), (0, .ref h0), (1, .int p1), (2, .int p2), (3, .int p3), (4, .int p4), (5, .int p5)]) hx hb dX12_damage_76 hl (by decide) rfl (fun ls hl => ?_)
          refine lv_iload hx hb dX12_damage_78 (lv_at hl 0 rfl) ?_
          refine lv_if_ne (tgt := 85) hx hb dX12_damage_80 (by decide) (fun c80_19 => ?_) (fun c80_19 => ?_)
          · skip
            exact absurd c80_19 (by decide)
          · skip
            refine lv_iconst (v := (-1)) hx hb dX12_damage_83 (by decide) ?_
            exact hQ _ _ (-1 : Int32) _ _ _ dX12_damage_84 L1 ⟨(mFr.tr mFr.rf hp1.1 rfl), rg_w kc_m1 rfl, (mJ_fr hJ hp1.1 rfl), (dmA_bad (by unfold badD; omega) hp1.1)⟩
        · skip
          exact absurd c37_18 (by decide)
      · skip
        have ic14_16 := Int32.le_iff_toInt_le.mp (rg_nlt c14_16)
        have q20 : rg (0) (2) p2 := (rg_le (rg_nlt c14_16) q15 kc_2).1
        have uq20 : (0 : Int) ≤ p2.toInt ∧ p2.toInt ≤ 2 := q20
        refine lv_iload_n hx hb dX12_damage_17 rfl (lv_at hl 3 rfl) ?_
        refine lv_if_lt (tgt := 32) hx hb dX12_damage_18 (by decide) (fun c18_21 => ?_) (fun c18_21 => ?_)
        · skip
          have ic18_21 := Int32.lt_iff_toInt_lt.mp c18_21
          have q22 : rg (-2147483648) (-1) p3 := (rg_lt c18_21 (rg_any p3) kc_0).1
          have uq22 : (-2147483648 : Int) ≤ p3.toInt ∧ p3.toInt ≤ -1 := q22
          refine lv_iconst (v := 0) hx hb dX12_damage_32 (by decide) ?_
          refine lv_istore (lv' := [(6, .int (0 : Int32)), (0, .ref h0), (1, .int p1), (2, .int p2), (3, .int p3), (4, .int p4), (5, .int p5)]) hx hb dX12_damage_33 hl (by decide) rfl (fun ls hl => ?_)
          refine lv_iload hx hb dX12_damage_35 (lv_at hl 0 rfl) ?_
          refine lv_if_eq (tgt := 75) hx hb dX12_damage_37 (by decide) (fun c37_23 => ?_) (fun c37_23 => ?_)
          · skip
            refine lv_iconst (v := 0) hx hb dX12_damage_75 (by decide) ?_
            refine lv_istore (lv' := [(6, .int (0 : Int32)), (0, .ref h0), (1, .int p1), (2, .int p2), (3, .int p3), (4, .int p4), (5, .int p5)]) hx hb dX12_damage_76 hl (by decide) rfl (fun ls hl => ?_)
            refine lv_iload hx hb dX12_damage_78 (lv_at hl 0 rfl) ?_
            refine lv_if_ne (tgt := 85) hx hb dX12_damage_80 (by decide) (fun c80_24 => ?_) (fun c80_24 => ?_)
            · skip
              exact absurd c80_24 (by decide)
            · skip
              refine lv_iconst (v := (-1)) hx hb dX12_damage_83 (by decide) ?_
              exact hQ _ _ (-1 : Int32) _ _ _ dX12_damage_84 L1 ⟨(mFr.tr mFr.rf hp1.1 rfl), rg_w kc_m1 rfl, (mJ_fr hJ hp1.1 rfl), (dmA_bad (by unfold badD; omega) hp1.1)⟩
          · skip
            exact absurd c37_23 (by decide)
        · skip
          have ic18_21 := Int32.le_iff_toInt_le.mp (rg_nlt c18_21)
          have q25 : rg (0) (2147483647) p3 := (rg_le (rg_nlt c18_21) kc_0 (rg_any p3)).2
          have uq25 : (0 : Int) ≤ p3.toInt ∧ p3.toInt ≤ 2147483647 := q25
          refine lv_iload_n hx hb dX12_damage_21 rfl (lv_at hl 3 rfl) ?_
          refine lv_sipush (v := 999) hx hb dX12_damage_22 (by decide) ?_
          refine lv_icmp_gt (tgt := 32) hx hb dX12_damage_25 (by decide) (fun c25_26 => ?_) (fun c25_26 => ?_)
          · skip
            have ic25_26 := Int32.lt_iff_toInt_lt.mp c25_26
            have q27 : rg (1000) (2147483647) p3 := (rg_lt c25_26 kc_999 q25).2
            have uq27 : (1000 : Int) ≤ p3.toInt ∧ p3.toInt ≤ 2147483647 := q27
            refine lv_iconst (v := 0) hx hb dX12_damage_32 (by decide) ?_
            refine lv_istore (lv' := [(6, .int (0 : Int32)), (0, .ref h0), (1, .int p1), (2, .int p2), (3, .int p3), (4, .int p4), (5, .int p5)]) hx hb dX12_damage_33 hl (by decide) rfl (fun ls hl => ?_)
            refine lv_iload hx hb dX12_damage_35 (lv_at hl 0 rfl) ?_
            refine lv_if_eq (tgt := 75) hx hb dX12_damage_37 (by decide) (fun c37_28 => ?_) (fun c37_28 => ?_)
            · skip
              refine lv_iconst (v := 0) hx hb dX12_damage_75 (by decide) ?_
              refine lv_istore (lv' := [(6, .int (0 : Int32)), (0, .ref h0), (1, .int p1), (2, .int p2), (3, .int p3), (4, .int p4), (5, .int p5)]) hx hb dX12_damage_76 hl (by decide) rfl (fun ls hl => ?_)
              refine lv_iload hx hb dX12_damage_78 (lv_at hl 0 rfl) ?_
              refine lv_if_ne (tgt := 85) hx hb dX12_damage_80 (by decide) (fun c80_29 => ?_) (fun c80_29 => ?_)
              · skip
                exact absurd c80_29 (by decide)
              · skip
                refine lv_iconst (v := (-1)) hx hb dX12_damage_83 (by decide) ?_
                exact hQ _ _ (-1 : Int32) _ _ _ dX12_damage_84 L1 ⟨(mFr.tr mFr.rf hp1.1 rfl), rg_w kc_m1 rfl, (mJ_fr hJ hp1.1 rfl), (dmA_bad (by unfold badD; omega) hp1.1)⟩
            · skip
              exact absurd c37_28 (by decide)
          · skip
            have ic25_26 := Int32.le_iff_toInt_le.mp (rg_nlt c25_26)
            have q30 : rg (0) (999) p3 := (rg_le (rg_nlt c25_26) q25 kc_999).1
            have uq30 : (0 : Int) ≤ p3.toInt ∧ p3.toInt ≤ 999 := q30
            refine lv_iconst (v := 1) hx hb dX12_damage_28 (by decide) ?_
            refine lv_goto (tgt := 33) hx hb dX12_damage_29 (by decide) ?_
            refine lv_istore (lv' := [(6, .int (1 : Int32)), (0, .ref h0), (1, .int p1), (2, .int p2), (3, .int p3), (4, .int p4), (5, .int p5)]) hx hb dX12_damage_33 hl (by decide) rfl (fun ls hl => ?_)
            refine lv_iload hx hb dX12_damage_35 (lv_at hl 0 rfl) ?_
            refine lv_if_eq (tgt := 75) hx hb dX12_damage_37 (by decide) (fun c37_31 => ?_) (fun c37_31 => ?_)
            · skip
              exact absurd c37_31 (by decide)
            · skip
              refine lv_iload_n hx hb dX12_damage_40 rfl (lv_at hl 3 rfl) ?_
              refine lv_iconst (v := 1) hx hb dX12_damage_41 (by decide) ?_
              refine lv_icmp_ne (tgt := 71) hx hb dX12_damage_42 (by decide) (fun c42_32 => ?_) (fun c42_32 => ?_)
              · skip
                have ic42_32 : p2.toInt ≠ (1 : Int32).toInt := fun z => c42_32 (Int32.toInt_inj.mp z)
                have y33 : (1 : Int32).toInt = 1 := by decide
                refine lv_iconst (v := 1) hx hb dX12_damage_71 (by decide) ?_
                refine lv_goto (tgt := 76) hx hb dX12_damage_72 (by decide) ?_
                refine lv_istore (lv' := [(6, .int (1 : Int32)), (0, .ref h0), (1, .int p1), (2, .int p2), (3, .int p3), (4, .int p4), (5, .int p5)]) hx hb dX12_damage_76 hl (by decide) rfl (fun ls hl => ?_)
                refine lv_iload hx hb dX12_damage_78 (lv_at hl 0 rfl) ?_
                refine lv_if_ne (tgt := 85) hx hb dX12_damage_80 (by decide) (fun c80_34 => ?_) (fun c80_34 => ?_)
                · skip
                  refine lv_aload_n hx hb dX12_damage_85 rfl (lv_at hl 1 rfl) ?_
                  refine m_geta x L1 16 rfl rfl (wm_in uf_44) dX12_damage_86 ?_
                  refine lv_iload_n hx hb dX12_damage_89 rfl (lv_at hl 2 rfl) ?_
                  refine m_ld x L1 16 rfl q9.1 rfl dX12_damage_90 (fun v35 ev35 wv35 => ?_)
                  have rv35 : rg (0) (8) v35 := lj_16 wv35
                  have uv35 : (0 : Int) ≤ v35.toInt ∧ v35.toInt ≤ 8 := rv35
                  refine lv_bipush (v := 8) hx hb dX12_damage_91 (by decide) ?_
                  refine lv_icmp_ne (tgt := 99) hx hb dX12_damage_93 (by decide) (fun c93_36 => ?_) (fun c93_36 => ?_)
                  · skip
                    have ic93_36 : v35.toInt ≠ (8 : Int32).toInt := fun z => c93_36 (Int32.toInt_inj.mp z)
                    have y37 : (8 : Int32).toInt = 8 := by decide
                    have q38 : rg (0) (7) v35 := rg_neH c93_36 rv35 kc_8
                    have uq38 : (0 : Int) ≤ v35.toInt ∧ v35.toInt ≤ 7 := q38
                    refine lv_bipush (v := 8) hx hb dX12_damage_99 (by decide) ?_
                    refine lv_iload_n hx hb dX12_damage_101 rfl (lv_at hl 2 rfl) ?_
                    refine lv_imul hx hb dX12_damage_102 ?_
                    refine lv_topi (fun v39 ev39 => ?_)
                    have rv39 : rg (0) (56) v39 := (rg_mulL ev39 kc_8 q9.1 rfl).1
                    have tv39 := (rg_mulL ev39 kc_8 q9.1 rfl).2
                    have y40 : (8 : Int32).toInt = 8 := by decide
                    have b16v39 : v39.toInt < 16 * nn := by have := q9.2; have : (8 : Int32).toInt = 8 := (by decide); omega
                    have uv39 : (0 : Int) ≤ v39.toInt ∧ v39.toInt ≤ 56 := rv39
                    refine lv_aload_n hx hb dX12_damage_103 rfl (lv_at hl 1 rfl) ?_
                    refine m_geta x L1 16 rfl rfl (wm_in uf_44) dX12_damage_104 ?_
                    refine lv_iload_n hx hb dX12_damage_107 rfl (lv_at hl 2 rfl) ?_
                    refine m_ld x L1 16 rfl q9.1 rfl dX12_damage_108 (fun v41 ev41 wv41 => ?_)
                    refine m_top ((ev35).trans ev41.symm) ?_
                    refine lv_iadd hx hb dX12_damage_109 ?_
                    refine lv_topi (fun v42 ev42 => ?_)
                    have rv42 : rg (0) (63) v42 := (rg_add ev42 rv39 q38 rfl).1
                    have tv42 := (rg_add ev42 rv39 q38 rfl).2
                    have uv42 : (0 : Int) ≤ v42.toInt ∧ v42.toInt ≤ 63 := rv42
                    refine lv_istore (lv' := [(7, .int v42), (6, .int (1 : Int32)), (0, .ref h0), (1, .int p1), (2, .int p2), (3, .int p3), (4, .int p4), (5, .int p5)]) hx hb dX12_damage_110 hl (by decide) rfl (fun ls hl => ?_)
                    refine lv_aload_n hx hb dX12_damage_112 rfl (lv_at hl 2 rfl) ?_
                    refine m_geta x L1 12 rfl rfl (wm_in uf_32) dX12_damage_113 ?_
                    refine lv_iload hx hb dX12_damage_116 (lv_at hl 0 rfl) ?_
                    refine lv_iload_n hx hb dX12_damage_118 rfl (lv_at hl 4 rfl) ?_
                    refine m_st x L1 12 rfl rv42 rfl (rj_12 (rg_w q20 rfl)) dX12_damage_119 (fun g43 H43 k43 eg43 L43 => ?_)
                    refine lv_aload_n hx hb dX12_damage_120 rfl (lv_at hl 2 rfl) ?_
                    refine m_geta x L43 13 rfl rfl (wm_in uf_35) dX12_damage_121 ?_
                    refine lv_iload hx hb dX12_damage_124 (lv_at hl 0 rfl) ?_
                    refine lv_iload_n hx hb dX12_damage_126 rfl (lv_at hl 5 rfl) ?_
                    refine m_st x L43 13 rfl rv42 rfl (rj_13 (rg_any p3)) dX12_damage_127 (fun g44 H44 k44 eg44 L44 => ?_)
                    refine lv_aload_n hx hb dX12_damage_128 rfl (lv_at hl 2 rfl) ?_
                    refine m_geta x L44 14 rfl rfl (wm_in uf_38) dX12_damage_129 ?_
                    refine lv_iload hx hb dX12_damage_132 (lv_at hl 0 rfl) ?_
                    refine lv_iload hx hb dX12_damage_134 (lv_at hl 6 rfl) ?_
                    refine m_st x L44 14 rfl rv42 rfl (rj_14 (rg_any p4)) dX12_damage_136 (fun g45 H45 k45 eg45 L45 => ?_)
                    have hJ46 := mJ_dmg (mJ_fr hJ hp1.1 rfl) eg43 eg44 eg45 (fun z => ⟨by omega, by omega⟩)
                    refine lv_aload_n hx hb dX12_damage_137 rfl (lv_at hl 2 rfl) ?_
                    refine m_geta x L45 15 rfl rfl (wm_in uf_41) dX12_damage_138 ?_
                    refine lv_iload hx hb dX12_damage_141 (lv_at hl 0 rfl) ?_
                    refine lv_iload hx hb dX12_damage_143 (lv_at hl 7 rfl) ?_
                    refine m_st x L45 15 rfl rv42 rfl (rj_15 (rg_any p5)) dX12_damage_145 (fun g47 H47 k47 eg47 L47 => ?_)
                    refine lv_aload_n hx hb dX12_damage_146 rfl (lv_at hl 2 rfl) ?_
                    refine m_geta x L47 16 rfl rfl (wm_in uf_44) dX12_damage_147 ?_
                    refine lv_iload_n hx hb dX12_damage_150 rfl (lv_at hl 3 rfl) ?_
                    refine lv_dup2_11 hx hb dX12_damage_151 rfl rfl ?_
                    refine m_ld x L47 16 rfl q9.1 rfl dX12_damage_152 (fun v48 ev48 wv48 => ?_)
                    refine m_top (((mm_up (mm_up (mm_up (mm_up ev35 eg43 rfl) eg44 rfl) eg45 rfl) eg47 rfl)).trans ev48.symm) ?_
                    refine lv_iconst (v := 1) hx hb dX12_damage_153 (by decide) ?_
                    refine lv_iadd hx hb dX12_damage_154 ?_
                    refine lv_topi (fun v49 ev49 => ?_)
                    have rv49 : rg (1) (8) v49 := (rg_add ev49 q38 kc_1 rfl).1
                    have tv49 := (rg_add ev49 q38 kc_1 rfl).2
                    have y50 : (1 : Int32).toInt = 1 := by decide
                    have uv49 : (1 : Int) ≤ v49.toInt ∧ v49.toInt ≤ 8 := rv49
                    refine m_st x L47 16 rfl q9.1 rfl (rj_16 (rg_w rv49 rfl)) dX12_damage_155 (fun g51 H51 k51 eg51 L51 => ?_)
                    refine lv_aload_n hx hb dX12_damage_156 rfl (lv_at hl 2 rfl) ?_
                    refine m_geta x L51 16 rfl rfl (wm_in uf_44) dX12_damage_157 ?_
                    refine lv_iload_n hx hb dX12_damage_160 rfl (lv_at hl 3 rfl) ?_
                    refine m_ld x L51 16 rfl q9.1 rfl dX12_damage_161 (fun v52 ev52 wv52 => ?_)
                    refine m_top (((mm_st eg51)).trans ev52.symm) ?_
                    exact hQ _ _ v49 _ _ _ dX12_damage_162 L51 ⟨(mFr.upE (mFr.upE (mFr.upE (mFr.upE (mFr.upE (mFr.tr mFr.rf hp1.1 rfl) eg43 rfl) eg44 rfl) eg45 rfl) eg47 rfl) eg51 rfl), rg_w rv49 rfl, (mJ_up (mJ_up hJ46 eg47 rfl) eg51 rfl), (dmA_add (a := v42) (by unfold badD; omega) hp1.1 ev35 (by omega) (by omega) (by omega) eg43 eg44 eg45 eg47 eg51 (by omega))⟩
                  · skip
                    have ic93_36 := congrArg Int32.toInt c93_36
                    have y53 : (8 : Int32).toInt = 8 := by decide
                    have q54 : rg (8) (8) v35 := (rg_eq c93_36 rv35 kc_8).1
                    have uq54 : (8 : Int) ≤ v35.toInt ∧ v35.toInt ≤ 8 := q54
                    refine lv_bipush (v := (-3)) hx hb dX12_damage_96 (by decide) ?_
                    exact hQ _ _ (-3 : Int32) _ _ _ dX12_damage_98 L1 ⟨(mFr.tr mFr.rf hp1.1 rfl), rg_w kc_m3 rfl, (mJ_fr hJ hp1.1 rfl), (dmA_full (by unfold badD; omega) hp1.1 ev35 (by omega))⟩
                · skip
                  exact absurd c80_34 (by decide)
              · skip
                have ic42_32 := congrArg Int32.toInt c42_32
                have y55 : (1 : Int32).toInt = 1 := by decide
                have q56 : rg (1) (1) p2 := (rg_eq c42_32 q20 kc_1).1
                have uq56 : (1 : Int) ≤ p2.toInt ∧ p2.toInt ≤ 1 := q56
                refine lv_iload hx hb dX12_damage_45 (lv_at hl 5 rfl) ?_
                refine lv_if_lt (tgt := 75) hx hb dX12_damage_47 (by decide) (fun c47_57 => ?_) (fun c47_57 => ?_)
                · skip
                  have ic47_57 := Int32.lt_iff_toInt_lt.mp c47_57
                  have q58 : rg (-2147483648) (-1) p4 := (rg_lt c47_57 (rg_any p4) kc_0).1
                  have uq58 : (-2147483648 : Int) ≤ p4.toInt ∧ p4.toInt ≤ -1 := q58
                  refine lv_iconst (v := 0) hx hb dX12_damage_75 (by decide) ?_
                  refine lv_istore (lv' := [(6, .int (0 : Int32)), (0, .ref h0), (1, .int p1), (2, .int p2), (3, .int p3), (4, .int p4), (5, .int p5)]) hx hb dX12_damage_76 hl (by decide) rfl (fun ls hl => ?_)
                  refine lv_iload hx hb dX12_damage_78 (lv_at hl 0 rfl) ?_
                  refine lv_if_ne (tgt := 85) hx hb dX12_damage_80 (by decide) (fun c80_59 => ?_) (fun c80_59 => ?_)
                  · skip
                    exact absurd c80_59 (by decide)
                  · skip
                    refine lv_iconst (v := (-1)) hx hb dX12_damage_83 (by decide) ?_
                    exact hQ _ _ (-1 : Int32) _ _ _ dX12_damage_84 L1 ⟨(mFr.tr mFr.rf hp1.1 rfl), rg_w kc_m1 rfl, (mJ_fr hJ hp1.1 rfl), (dmA_bad (by unfold badD; omega) hp1.1)⟩
                · skip
                  have ic47_57 := Int32.le_iff_toInt_le.mp (rg_nlt c47_57)
                  have q60 : rg (0) (2147483647) p4 := (rg_le (rg_nlt c47_57) kc_0 (rg_any p4)).2
                  have uq60 : (0 : Int) ≤ p4.toInt ∧ p4.toInt ≤ 2147483647 := q60
                  refine lv_iload hx hb dX12_damage_50 (lv_at hl 5 rfl) ?_
                  refine lv_bipush (v := 52) hx hb dX12_damage_52 (by decide) ?_
                  refine lv_icmp_gt (tgt := 75) hx hb dX12_damage_54 (by decide) (fun c54_61 => ?_) (fun c54_61 => ?_)
                  · skip
                    have ic54_61 := Int32.lt_iff_toInt_lt.mp c54_61
                    have q62 : rg (53) (2147483647) p4 := (rg_lt c54_61 kc_52 q60).2
                    have uq62 : (53 : Int) ≤ p4.toInt ∧ p4.toInt ≤ 2147483647 := q62
                    refine lv_iconst (v := 0) hx hb dX12_damage_75 (by decide) ?_
                    refine lv_istore (lv' := [(6, .int (0 : Int32)), (0, .ref h0), (1, .int p1), (2, .int p2), (3, .int p3), (4, .int p4), (5, .int p5)]) hx hb dX12_damage_76 hl (by decide) rfl (fun ls hl => ?_)
                    refine lv_iload hx hb dX12_damage_78 (lv_at hl 0 rfl) ?_
                    refine lv_if_ne (tgt := 85) hx hb dX12_damage_80 (by decide) (fun c80_63 => ?_) (fun c80_63 => ?_)
                    · skip
                      exact absurd c80_63 (by decide)
                    · skip
                      refine lv_iconst (v := (-1)) hx hb dX12_damage_83 (by decide) ?_
                      exact hQ _ _ (-1 : Int32) _ _ _ dX12_damage_84 L1 ⟨(mFr.tr mFr.rf hp1.1 rfl), rg_w kc_m1 rfl, (mJ_fr hJ hp1.1 rfl), (dmA_bad (by unfold badD; omega) hp1.1)⟩
                  · skip
                    have ic54_61 := Int32.le_iff_toInt_le.mp (rg_nlt c54_61)
                    have q64 : rg (0) (52) p4 := (rg_le (rg_nlt c54_61) q60 kc_52).1
                    have uq64 : (0 : Int) ≤ p4.toInt ∧ p4.toInt ≤ 52 := q64
                    refine lv_iload hx hb dX12_damage_57 (lv_at hl 6 rfl) ?_
                    refine lv_iconst (v := 1) hx hb dX12_damage_59 (by decide) ?_
                    refine lv_icmp_lt (tgt := 75) hx hb dX12_damage_60 (by decide) (fun c60_65 => ?_) (fun c60_65 => ?_)
                    · skip
                      have ic60_65 := Int32.lt_iff_toInt_lt.mp c60_65
                      have q66 : rg (-2147483648) (0) p5 := (rg_lt c60_65 (rg_any p5) kc_1).1
                      have uq66 : (-2147483648 : Int) ≤ p5.toInt ∧ p5.toInt ≤ 0 := q66
                      refine lv_iconst (v := 0) hx hb dX12_damage_75 (by decide) ?_
                      refine lv_istore (lv' := [(6, .int (0 : Int32)), (0, .ref h0), (1, .int p1), (2, .int p2), (3, .int p3), (4, .int p4), (5, .int p5)]) hx hb dX12_damage_76 hl (by decide) rfl (fun ls hl => ?_)
                      refine lv_iload hx hb dX12_damage_78 (lv_at hl 0 rfl) ?_
                      refine lv_if_ne (tgt := 85) hx hb dX12_damage_80 (by decide) (fun c80_67 => ?_) (fun c80_67 => ?_)
                      · skip
                        exact absurd c80_67 (by decide)
                      · skip
                        refine lv_iconst (v := (-1)) hx hb dX12_damage_83 (by decide) ?_
                        exact hQ _ _ (-1 : Int32) _ _ _ dX12_damage_84 L1 ⟨(mFr.tr mFr.rf hp1.1 rfl), rg_w kc_m1 rfl, (mJ_fr hJ hp1.1 rfl), (dmA_bad (by unfold badD; omega) hp1.1)⟩
                    · skip
                      have ic60_65 := Int32.le_iff_toInt_le.mp (rg_nlt c60_65)
                      have q68 : rg (1) (2147483647) p5 := (rg_le (rg_nlt c60_65) kc_1 (rg_any p5)).2
                      have uq68 : (1 : Int) ≤ p5.toInt ∧ p5.toInt ≤ 2147483647 := q68
                      refine lv_iload hx hb dX12_damage_63 (lv_at hl 6 rfl) ?_
                      refine lv_sipush (v := 255) hx hb dX12_damage_65 (by decide) ?_
                      refine lv_icmp_gt (tgt := 75) hx hb dX12_damage_68 (by decide) (fun c68_69 => ?_) (fun c68_69 => ?_)
                      · skip
                        have ic68_69 := Int32.lt_iff_toInt_lt.mp c68_69
                        have q70 : rg (256) (2147483647) p5 := (rg_lt c68_69 kc_255 q68).2
                        have uq70 : (256 : Int) ≤ p5.toInt ∧ p5.toInt ≤ 2147483647 := q70
                        refine lv_iconst (v := 0) hx hb dX12_damage_75 (by decide) ?_
                        refine lv_istore (lv' := [(6, .int (0 : Int32)), (0, .ref h0), (1, .int p1), (2, .int p2), (3, .int p3), (4, .int p4), (5, .int p5)]) hx hb dX12_damage_76 hl (by decide) rfl (fun ls hl => ?_)
                        refine lv_iload hx hb dX12_damage_78 (lv_at hl 0 rfl) ?_
                        refine lv_if_ne (tgt := 85) hx hb dX12_damage_80 (by decide) (fun c80_71 => ?_) (fun c80_71 => ?_)
                        · skip
                          exact absurd c80_71 (by decide)
                        · skip
                          refine lv_iconst (v := (-1)) hx hb dX12_damage_83 (by decide) ?_
                          exact hQ _ _ (-1 : Int32) _ _ _ dX12_damage_84 L1 ⟨(mFr.tr mFr.rf hp1.1 rfl), rg_w kc_m1 rfl, (mJ_fr hJ hp1.1 rfl), (dmA_bad (by unfold badD; omega) hp1.1)⟩
                      · skip
                        have ic68_69 := Int32.le_iff_toInt_le.mp (rg_nlt c68_69)
                        have q72 : rg (1) (255) p5 := (rg_le (rg_nlt c68_69) q68 kc_255).1
                        have uq72 : (1 : Int) ≤ p5.toInt ∧ p5.toInt ≤ 255 := q72
                        refine lv_iconst (v := 1) hx hb dX12_damage_71 (by decide) ?_
                        refine lv_goto (tgt := 76) hx hb dX12_damage_72 (by decide) ?_
                        refine lv_istore (lv' := [(6, .int (1 : Int32)), (0, .ref h0), (1, .int p1), (2, .int p2), (3, .int p3), (4, .int p4), (5, .int p5)]) hx hb dX12_damage_76 hl (by decide) rfl (fun ls hl => ?_)
                        refine lv_iload hx hb dX12_damage_78 (lv_at hl 0 rfl) ?_
                        refine lv_if_ne (tgt := 85) hx hb dX12_damage_80 (by decide) (fun c80_73 => ?_) (fun c80_73 => ?_)
                        · skip
                          refine lv_aload_n hx hb dX12_damage_85 rfl (lv_at hl 1 rfl) ?_
                          refine m_geta x L1 16 rfl rfl (wm_in uf_44) dX12_damage_86 ?_
                          refine lv_iload_n hx hb dX12_damage_89 rfl (lv_at hl 2 rfl) ?_
                          refine m_ld x L1 16 rfl q9.1 rfl dX12_damage_90 (fun v74 ev74 wv74 => ?_)
                          have rv74 : rg (0) (8) v74 := lj_16 wv74
                          have uv74 : (0 : Int) ≤ v74.toInt ∧ v74.toInt ≤ 8 := rv74
                          refine lv_bipush (v := 8) hx hb dX12_damage_91 (by decide) ?_
                          refine lv_icmp_ne (tgt := 99) hx hb dX12_damage_93 (by decide) (fun c93_75 => ?_) (fun c93_75 => ?_)
                          · skip
                            have ic93_75 : v74.toInt ≠ (8 : Int32).toInt := fun z => c93_75 (Int32.toInt_inj.mp z)
                            have y76 : (8 : Int32).toInt = 8 := by decide
                            have q77 : rg (0) (7) v74 := rg_neH c93_75 rv74 kc_8
                            have uq77 : (0 : Int) ≤ v74.toInt ∧ v74.toInt ≤ 7 := q77
                            refine lv_bipush (v := 8) hx hb dX12_damage_99 (by decide) ?_
                            refine lv_iload_n hx hb dX12_damage_101 rfl (lv_at hl 2 rfl) ?_
                            refine lv_imul hx hb dX12_damage_102 ?_
                            refine lv_topi (fun v78 ev78 => ?_)
                            have rv78 : rg (0) (56) v78 := (rg_mulL ev78 kc_8 q9.1 rfl).1
                            have tv78 := (rg_mulL ev78 kc_8 q9.1 rfl).2
                            have y79 : (8 : Int32).toInt = 8 := by decide
                            have b16v78 : v78.toInt < 16 * nn := by have := q9.2; have : (8 : Int32).toInt = 8 := (by decide); omega
                            have uv78 : (0 : Int) ≤ v78.toInt ∧ v78.toInt ≤ 56 := rv78
                            refine lv_aload_n hx hb dX12_damage_103 rfl (lv_at hl 1 rfl) ?_
                            refine m_geta x L1 16 rfl rfl (wm_in uf_44) dX12_damage_104 ?_
                            refine lv_iload_n hx hb dX12_damage_107 rfl (lv_at hl 2 rfl) ?_
                            refine m_ld x L1 16 rfl q9.1 rfl dX12_damage_108 (fun v80 ev80 wv80 => ?_)
                            refine m_top ((ev74).trans ev80.symm) ?_
                            refine lv_iadd hx hb dX12_damage_109 ?_
                            refine lv_topi (fun v81 ev81 => ?_)
                            have rv81 : rg (0) (63) v81 := (rg_add ev81 rv78 q77 rfl).1
                            have tv81 := (rg_add ev81 rv78 q77 rfl).2
                            have uv81 : (0 : Int) ≤ v81.toInt ∧ v81.toInt ≤ 63 := rv81
                            refine lv_istore (lv' := [(7, .int v81), (6, .int (1 : Int32)), (0, .ref h0), (1, .int p1), (2, .int p2), (3, .int p3), (4, .int p4), (5, .int p5)]) hx hb dX12_damage_110 hl (by decide) rfl (fun ls hl => ?_)
                            refine lv_aload_n hx hb dX12_damage_112 rfl (lv_at hl 2 rfl) ?_
                            refine m_geta x L1 12 rfl rfl (wm_in uf_32) dX12_damage_113 ?_
                            refine lv_iload hx hb dX12_damage_116 (lv_at hl 0 rfl) ?_
                            refine lv_iload_n hx hb dX12_damage_118 rfl (lv_at hl 4 rfl) ?_
                            refine m_st x L1 12 rfl rv81 rfl (rj_12 (rg_w q56 rfl)) dX12_damage_119 (fun g82 H82 k82 eg82 L82 => ?_)
                            refine lv_aload_n hx hb dX12_damage_120 rfl (lv_at hl 2 rfl) ?_
                            refine m_geta x L82 13 rfl rfl (wm_in uf_35) dX12_damage_121 ?_
                            refine lv_iload hx hb dX12_damage_124 (lv_at hl 0 rfl) ?_
                            refine lv_iload_n hx hb dX12_damage_126 rfl (lv_at hl 5 rfl) ?_
                            refine m_st x L82 13 rfl rv81 rfl (rj_13 (rg_any p3)) dX12_damage_127 (fun g83 H83 k83 eg83 L83 => ?_)
                            refine lv_aload_n hx hb dX12_damage_128 rfl (lv_at hl 2 rfl) ?_
                            refine m_geta x L83 14 rfl rfl (wm_in uf_38) dX12_damage_129 ?_
                            refine lv_iload hx hb dX12_damage_132 (lv_at hl 0 rfl) ?_
                            refine lv_iload hx hb dX12_damage_134 (lv_at hl 6 rfl) ?_
                            refine m_st x L83 14 rfl rv81 rfl (rj_14 (rg_any p4)) dX12_damage_136 (fun g84 H84 k84 eg84 L84 => ?_)
                            have hJ85 := mJ_dmg (mJ_fr hJ hp1.1 rfl) eg82 eg83 eg84 (fun z => ⟨by omega, by omega⟩)
                            refine lv_aload_n hx hb dX12_damage_137 rfl (lv_at hl 2 rfl) ?_
                            refine m_geta x L84 15 rfl rfl (wm_in uf_41) dX12_damage_138 ?_
                            refine lv_iload hx hb dX12_damage_141 (lv_at hl 0 rfl) ?_
                            refine lv_iload hx hb dX12_damage_143 (lv_at hl 7 rfl) ?_
                            refine m_st x L84 15 rfl rv81 rfl (rj_15 (rg_any p5)) dX12_damage_145 (fun g86 H86 k86 eg86 L86 => ?_)
                            refine lv_aload_n hx hb dX12_damage_146 rfl (lv_at hl 2 rfl) ?_
                            refine m_geta x L86 16 rfl rfl (wm_in uf_44) dX12_damage_147 ?_
                            refine lv_iload_n hx hb dX12_damage_150 rfl (lv_at hl 3 rfl) ?_
                            refine lv_dup2_11 hx hb dX12_damage_151 rfl rfl ?_
                            refine m_ld x L86 16 rfl q9.1 rfl dX12_damage_152 (fun v87 ev87 wv87 => ?_)
                            refine m_top (((mm_up (mm_up (mm_up (mm_up ev74 eg82 rfl) eg83 rfl) eg84 rfl) eg86 rfl)).trans ev87.symm) ?_
                            refine lv_iconst (v := 1) hx hb dX12_damage_153 (by decide) ?_
                            refine lv_iadd hx hb dX12_damage_154 ?_
                            refine lv_topi (fun v88 ev88 => ?_)
                            have rv88 : rg (1) (8) v88 := (rg_add ev88 q77 kc_1 rfl).1
                            have tv88 := (rg_add ev88 q77 kc_1 rfl).2
                            have y89 : (1 : Int32).toInt = 1 := by decide
                            have uv88 : (1 : Int) ≤ v88.toInt ∧ v88.toInt ≤ 8 := rv88
                            refine m_st x L86 16 rfl q9.1 rfl (rj_16 (rg_w rv88 rfl)) dX12_damage_155 (fun g90 H90 k90 eg90 L90 => ?_)
                            refine lv_aload_n hx hb dX12_damage_156 rfl (lv_at hl 2 rfl) ?_
                            refine m_geta x L90 16 rfl rfl (wm_in uf_44) dX12_damage_157 ?_
                            refine lv_iload_n hx hb dX12_damage_160 rfl (lv_at hl 3 rfl) ?_
                            refine m_ld x L90 16 rfl q9.1 rfl dX12_damage_161 (fun v91 ev91 wv91 => ?_)
                            refine m_top (((mm_st eg90)).trans ev91.symm) ?_
                            exact hQ _ _ v88 _ _ _ dX12_damage_162 L90 ⟨(mFr.upE (mFr.upE (mFr.upE (mFr.upE (mFr.upE (mFr.tr mFr.rf hp1.1 rfl) eg82 rfl) eg83 rfl) eg84 rfl) eg86 rfl) eg90 rfl), rg_w rv88 rfl, (mJ_up (mJ_up hJ85 eg86 rfl) eg90 rfl), (dmA_add (a := v81) (by unfold badD; omega) hp1.1 ev74 (by omega) (by omega) (by omega) eg82 eg83 eg84 eg86 eg90 (by omega))⟩
                          · skip
                            have ic93_75 := congrArg Int32.toInt c93_75
                            have y92 : (8 : Int32).toInt = 8 := by decide
                            have q93 : rg (8) (8) v74 := (rg_eq c93_75 rv74 kc_8).1
                            have uq93 : (8 : Int) ≤ v74.toInt ∧ v74.toInt ≤ 8 := q93
                            refine lv_bipush (v := (-3)) hx hb dX12_damage_96 (by decide) ?_
                            exact hQ _ _ (-3 : Int32) _ _ _ dX12_damage_98 L1 ⟨(mFr.tr mFr.rf hp1.1 rfl), rg_w kc_m3 rfl, (mJ_fr hJ hp1.1 rfl), (dmA_full (by unfold badD; omega) hp1.1 ev74 (by omega))⟩
                        · skip
                          exact absurd c80_73 (by decide)
theorem cD_damage (l : Launch) {G : mG} {h0 : Nat} {ad : Nat → Nat} (nn X : Int) (g : mSt) (p1 : Int32) (p2 : Int32) (p3 : Int32) (p4 : Int32) (p5 : Int32) (hnn : 2 ≤ nn ∧ nn ≤ 4) (hX : 0 ≤ X ∧ X ≤ 2000000000) (hJ : mJ nn [] g) : Met l yX12_damage (wm (Cond.code yX12_damage cX12_damage 8 (some .int))) rm_damage (va_Pc [.ref h0, .int p1, .int p2, .int p3, .int p4, .int p5] (mPre G h0 ad nn X g)) (mQi G h0 ad nn X (fun r g1 => mFr [12, 13, 14, 15, 16] g g1 ∧ rg (-3) (8) r ∧ mJ nn [] g1 ∧ dmA nn p1 p2 p3 p4 p5 (rDm g) (rDm g1) r)) 0 0 (mA h0 ad) := by
  refine Met.ofW (cc := cX12_damage) (maxL := 8) (ret := (some .int)) (by decide) rfl ?_
  intro p e s m args below meth c s₁ B hml hv
  obtain ⟨rfl, hv⟩ := hv
  have hr := B.returns
  have hlocks := B.notSynchronized
  obtain ⟨x, L⟩ := m_start B rfl wm_X hv
  have hl := lv_entry ([.ref h0, .int p1, .int p2, .int p3, .int p4, .int p5]) (n := 8) (Nat.le_of_ble_eq_true rfl)
  rw [lg_entry_eq]
  generalize (lg_sl ([.ref h0, .int p1, .int p2, .int p3, .int p4, .int p5]) ++ List.replicate (8 - (lg_sl ([.ref h0, .int p1, .int p2, .int p3, .int p4, .int p5])).length) Slot.unset).toArray = ls at hl ⊢
  exact wD_damage x hml L hnn hX p1 p2 p3 p4 p5 hJ hl (fun pc' ls' r g1 H1 locs1 hdg L hp => m_iret x L hr hlocks (Int.le_refl _) hp hdg)
set_option maxHeartbeats 4000000 in
set_option maxRecDepth 100000 in
theorem wD_harm {p : Program} {l : Launch} {e : Env} {s : State} {m : MethodId} {args : Array Value} {below : List Frame} {meth : Method} {c : Code} {H : Heap} {locs : List Loc} {Q : State → Prop} {ls : Array Slot} {G : mG} {h0 : Nat} {ad : Nat → Nat} {g : mSt} {H0 : Heap} {nn X : Int} (x : mX p c cX12_harm s args (wm (Cond.code yX12_harm cX12_harm 8 none)) m G h0 ad) (hml : c.maxLocals = 8) (L : mL G h0 ad H0 nn X g H locs) (hnn : 2 ≤ nn ∧ nn ≤ 4) (hX : 0 ≤ X ∧ X ≤ 2000000000) (p1 : Int32) (p2 : Int32) (p3 : Int32) (hJ : mJ nn [] g) (rp1 : rg (0) (7) p1) (rp2 : rg (0) (3) p2) (rp3 : rg (0) (1643) p3) (hl : lv_has ls 8 [(0, .ref h0), (1, .int p1), (2, .int p2), (3, .int p3)]) (hQ : ∀ (pc' : Nat) (ls' : Array Slot) (g1 : mSt) (H1 : Heap) (locs1 : List Loc), decode cX12_harm pc' = .ok (.return_, 1) → mL G h0 ad H0 nn X g1 H1 locs1 → (mFr [12, 13, 14, 15, 16, 17, 18] g g1 ∧ mJ nn [] g1 ∧ hmD p1.toInt.toNat g g1) → W p l e rm_harm s m args below meth c H1 locs1 0 0 Q (F0 m pc' ls' [])) : W p l e rm_harm s m args below meth c H locs 0 0 Q (F0 m 0 ls []) := by
  have hx := x.1
  have hb := x.2.1
  have up1 : (0 : Int) ≤ p1.toInt ∧ p1.toInt ≤ 7 := rp1
  have up2 : (0 : Int) ≤ p2.toInt ∧ p2.toInt ≤ 3 := rp2
  have up3 : (0 : Int) ≤ p3.toInt ∧ p3.toInt ≤ 1643 := rp3
  refine lv_iconst (v := 0) hx hb dX12_harm_0 (by decide) ?_
  refine lv_istore (lv' := [(4, .int (0 : Int32)), (0, .ref h0), (1, .int p1), (2, .int p2), (3, .int p3)]) hx hb dX12_harm_1 hl (by decide) rfl (fun ls hl => ?_)
  refine lv_bipush (v := 53) hx hb dX12_harm_3 (by decide) ?_
  refine lv_istore (lv' := [(5, .int (53 : Int32)), (4, .int (0 : Int32)), (0, .ref h0), (1, .int p1), (2, .int p2), (3, .int p3)]) hx hb dX12_harm_5 hl (by decide) rfl (fun ls hl => ?_)
  refine lv_bipush (v := 8) hx hb dX12_harm_7 (by decide) ?_
  refine lv_iload_n hx hb dX12_harm_9 rfl (lv_at hl 3 rfl) ?_
  refine lv_imul hx hb dX12_harm_10 ?_
  refine lv_topi (fun v1 ev1 => ?_)
  have rv1 : rg (0) (56) v1 := (rg_mulL ev1 kc_8 rp1 rfl).1
  have tv1 := (rg_mulL ev1 kc_8 rp1 rfl).2
  have y2 : (8 : Int32).toInt = 8 := by decide
  have uv1 : (0 : Int) ≤ v1.toInt ∧ v1.toInt ≤ 56 := rv1
  refine lv_istore (lv' := [(6, .int v1), (5, .int (53 : Int32)), (4, .int (0 : Int32)), (0, .ref h0), (1, .int p1), (2, .int p2), (3, .int p3)]) hx hb dX12_harm_11 hl (by decide) rfl (fun ls hl => ?_)
  have j13_6 : ∀ (n : Nat) (a13_4_3 a13_5_4 a13_6_5 : Int32) (g6 : mSt) (H6 : Heap) (k6 : List Loc) (ls : Array Slot), mFr [12, 13, 14, 15, 17] g g6 → mL G h0 ad H0 nn X g6 H6 k6 → mJ nn [] g6 → hmI p1.toInt.toNat g g6 a13_4_3.toInt.toNat (a13_6_5.toInt.toNat - 8 * p1.toInt.toNat) → rg (0) (8) a13_4_3 → rg (0) (53) a13_5_4 → rg (0) (64) a13_6_5 → (0 ≤ a13_4_3.toInt ∧ a13_4_3.toInt ≤ a13_6_5.toInt - 8 * p1.toInt ∧ 8 * p1.toInt ≤ a13_6_5.toInt ∧ a13_6_5.toInt ≤ 8 * p1.toInt + 8) → lv_has ls 8 [(0, .ref h0), (1, .int p1), (2, .int p2), (3, .int p3), (4, .int a13_4_3), (5, .int a13_5_4), (6, .int a13_6_5)] → ((64 : Int) - a13_6_5.toInt).toNat = n → W p l e rm_harm s m args below meth c H6 k6 0 0 Q (F0 m 13 ls []) := by
    intro n
    induction n using Nat.strongRecOn with
    | _ n ih6 =>
      intro a13_4_3 a13_5_4 a13_6_5 g6 H6 k6 ls hF6 L6 hJ6 hM6 ra13_4_3 ra13_5_4 ra13_6_5 hv6_0 hl hn6
      subst hn6
      have ua13_4_3 : (0 : Int) ≤ a13_4_3.toInt ∧ a13_4_3.toInt ≤ 8 := ra13_4_3
      have ua13_5_4 : (0 : Int) ≤ a13_5_4.toInt ∧ a13_5_4.toInt ≤ 53 := ra13_5_4
      have ua13_6_5 : (0 : Int) ≤ a13_6_5.toInt ∧ a13_6_5.toInt ≤ 64 := ra13_6_5
      refine lv_iload hx hb dX12_harm_13 (lv_at hl 6 rfl) ?_
      refine lv_bipush (v := 8) hx hb dX12_harm_15 (by decide) ?_
      refine lv_iload_n hx hb dX12_harm_17 rfl (lv_at hl 1 rfl) ?_
      refine lv_imul hx hb dX12_harm_18 ?_
      refine m_top ev1 ?_
      refine lv_aload_n hx hb dX12_harm_19 rfl (lv_at hl 0 rfl) ?_
      refine m_geta x L6 16 rfl rfl (wm_in uf_44) dX12_harm_20 ?_
      refine lv_iload_n hx hb dX12_harm_23 rfl (lv_at hl 1 rfl) ?_
      refine m_ld x L6 16 rfl rp1 rfl dX12_harm_24 (fun v7 ev7 wv7 => ?_)
      have rv7 : rg (0) (8) v7 := lj_16 wv7
      have uv7 : (0 : Int) ≤ v7.toInt ∧ v7.toInt ≤ 8 := rv7
      refine lv_iadd hx hb dX12_harm_25 ?_
      refine lv_topi (fun v8 ev8 => ?_)
      have rv8 : rg (0) (64) v8 := (rg_add ev8 rv1 rv7 rfl).1
      have tv8 := (rg_add ev8 rv1 rv7 rfl).2
      have uv8 : (0 : Int) ≤ v8.toInt ∧ v8.toInt ≤ 64 := rv8
      refine lv_icmp_ge (tgt := 183) hx hb dX12_harm_26 (by decide) (fun c26_9 => ?_) (fun c26_9 => ?_)
      · skip
        have ic26_9 := Int32.le_iff_toInt_le.mp c26_9
        refine lv_aload_n hx hb dX12_harm_183 rfl (lv_at hl 0 rfl) ?_
        refine m_geta x L6 16 rfl rfl (wm_in uf_44) dX12_harm_184 ?_
        refine lv_iload_n hx hb dX12_harm_187 rfl (lv_at hl 1 rfl) ?_
        refine lv_iload hx hb dX12_harm_188 (lv_at hl 4 rfl) ?_
        refine m_st x L6 16 rfl rp1 rfl (rj_16 (rg_w ra13_4_3 rfl)) dX12_harm_190 (fun g10 H10 k10 eg10 L10 => ?_)
        refine lv_aload_n hx hb dX12_harm_191 rfl (lv_at hl 0 rfl) ?_
        refine m_geta x L10 18 rfl rfl (wm_in uf_50) dX12_harm_192 ?_
        refine lv_iconst (v := 4) hx hb dX12_harm_195 (by decide) ?_
        refine lv_iload_n hx hb dX12_harm_196 rfl (lv_at hl 1 rfl) ?_
        refine lv_imul hx hb dX12_harm_197 ?_
        refine lv_topi (fun v11 ev11 => ?_)
        have rv11 : rg (0) (28) v11 := (rg_mulL ev11 kc_4 rp1 rfl).1
        have tv11 := (rg_mulL ev11 kc_4 rp1 rfl).2
        have y12 : (4 : Int32).toInt = 4 := by decide
        have uv11 : (0 : Int) ≤ v11.toInt ∧ v11.toInt ≤ 28 := rv11
        refine lv_iload_n hx hb dX12_harm_198 rfl (lv_at hl 2 rfl) ?_
        refine lv_iadd hx hb dX12_harm_199 ?_
        refine lv_topi (fun v13 ev13 => ?_)
        have rv13 : rg (0) (31) v13 := (rg_add ev13 rv11 rp2 rfl).1
        have tv13 := (rg_add ev13 rv11 rp2 rfl).2
        have uv13 : (0 : Int) ≤ v13.toInt ∧ v13.toInt ≤ 31 := rv13
        refine lv_iload hx hb dX12_harm_200 (lv_at hl 5 rfl) ?_
        refine m_st x L10 18 rfl rv13 rfl (rj_18 (rg_w ra13_5_4 rfl)) dX12_harm_202 (fun g14 H14 k14 eg14 L14 => ?_)
        exact hQ _ _ _ _ _ dX12_harm_203 L14 ⟨(mFr.upE (mFr.upE (mFr.tr mFr.rf hF6 rfl) eg10 rfl) eg14 rfl), (mJ_up (mJ_up hJ6 eg10 rfl) eg14 rfl), hM6.en (hF6.at 16 rfl) rfl ev7 uv7 (by omega) rfl (by omega) eg10 eg14⟩
      · skip
        have ic26_9 := Int32.lt_iff_toInt_lt.mp (rg_nle c26_9)
        have q15 : rg (0) (63) a13_6_5 := (rg_lt (rg_nle c26_9) ra13_6_5 rv8).1
        have uq15 : (0 : Int) ≤ a13_6_5.toInt ∧ a13_6_5.toInt ≤ 63 := q15
        have q16 : rg (1) (64) v8 := (rg_lt (rg_nle c26_9) ra13_6_5 rv8).2
        have uq16 : (1 : Int) ≤ v8.toInt ∧ v8.toInt ≤ 64 := q16
        have e16 : v7 = g 16 p1.toInt.toNat := by rw [ev7, ntc, hF6.at 16 rfl]
        have hcn : a13_6_5.toInt.toNat - 8 * p1.toInt.toNat < (g 16 p1.toInt.toNat).toInt.toNat := by rw [← e16]; omega
        refine lv_aload_n hx hb dX12_harm_29 rfl (lv_at hl 0 rfl) ?_
        refine m_geta x L6 13 rfl rfl (wm_in uf_35) dX12_harm_30 ?_
        refine lv_iload hx hb dX12_harm_33 (lv_at hl 6 rfl) ?_
        refine m_ld x L6 13 rfl q15 rfl dX12_harm_35 (fun v17 ev17 wv17 => ?_)
        have rv17 : rg (-2147483648) (2147483647) v17 := lj_13 wv17
        have uv17 : (-2147483648 : Int) ≤ v17.toInt ∧ v17.toInt ≤ 2147483647 := rv17
        have j177_20 : ∀ (a177_4_18 a177_5_19 : Int32) (g20 : mSt) (H20 : Heap) (k20 : List Loc) (ls : Array Slot), mFr [12, 13, 14, 15, 17] g6 g20 → mL G h0 ad H0 nn X g20 H20 k20 → mJ nn [] g20 → hmI p1.toInt.toNat g g20 a177_4_18.toInt.toNat (a13_6_5.toInt.toNat - 8 * p1.toInt.toNat + 1) → rg (0) (8) a177_4_18 → rg (0) (53) a177_5_19 → (0 ≤ a177_4_18.toInt ∧ a177_4_18.toInt ≤ a13_6_5.toInt + 1 - 8 * p1.toInt ∧ 8 * p1.toInt ≤ a13_6_5.toInt ∧ a13_6_5.toInt + 1 ≤ 8 * p1.toInt + 8) → lv_has ls 8 [(0, .ref h0), (1, .int p1), (2, .int p2), (3, .int p3), (4, .int a177_4_18), (5, .int a177_5_19), (6, .int a13_6_5)] → W p l e rm_harm s m args below meth c H20 k20 0 0 Q (F0 m 177 ls []) := by
          intro a177_4_18 a177_5_19 g20 H20 k20 ls hF20 L20 hJ20 hM20 ra177_4_18 ra177_5_19 hv20_0 hl
          have ua177_4_18 : (0 : Int) ≤ a177_4_18.toInt ∧ a177_4_18.toInt ≤ 8 := ra177_4_18
          have ua177_5_19 : (0 : Int) ≤ a177_5_19.toInt ∧ a177_5_19.toInt ≤ 53 := ra177_5_19
          obtain ⟨v21, ev21, fv21⟩ := inc_ex a13_6_5 (1) (1 : Int32) (by decide)
          have rv21 : rg (1) (64) v21 := (rg_add ev21 q15 kc_1 rfl).1
          have tv21 := (rg_add ev21 q15 kc_1 rfl).2
          have yv21 : (1 : Int32).toInt = 1 := by decide
          refine lv_iinc (v := v21) (lv' := [(6, .int v21), (0, .ref h0), (1, .int p1), (2, .int p2), (3, .int p3), (4, .int a177_4_18), (5, .int a177_5_19)]) hx hb dX12_harm_177 hl (k := 6) rfl fv21 (by decide) rfl (fun ls hl => ?_)
          refine lv_goto (tgt := 13) hx hb dX12_harm_180 (by decide) ?_
          exact ih6 _ (ms_up tv21 kc_1 q15 rfl rfl) a177_4_18 a177_5_19 v21 g20 _ _ ls (mFr.tr hF6 hF20 rfl) L20 hJ20 (by rw [show v21.toInt.toNat - 8 * p1.toInt.toNat = a13_6_5.toInt.toNat - 8 * p1.toInt.toNat + 1 by omega]; exact hM20) (rg_w ra177_4_18 rfl) (rg_w ra177_5_19 rfl) (rg_w rv21 rfl) (by omega) (lv_sub hl [1, 2, 3, 4, 5, 6, 0] rfl) rfl
        refine lv_if_ne (tgt := 107) hx hb dX12_harm_36 (by decide) (fun c36_22 => ?_) (fun c36_22 => ?_)
        · skip
          have ic36_22 : v17.toInt ≠ (0 : Int32).toInt := fun z => c36_22 (Int32.toInt_inj.mp z)
          have y23 : (0 : Int32).toInt = 0 := by decide
          refine lv_bipush (v := 8) hx hb dX12_harm_107 (by decide) ?_
          refine lv_iload_n hx hb dX12_harm_109 rfl (lv_at hl 1 rfl) ?_
          refine lv_imul hx hb dX12_harm_110 ?_
          refine m_top ev1 ?_
          refine lv_iload hx hb dX12_harm_111 (lv_at hl 4 rfl) ?_
          refine lv_iadd hx hb dX12_harm_113 ?_
          refine lv_topi (fun v24 ev24 => ?_)
          have rv24 : rg (0) (64) v24 := (rg_add ev24 rv1 ra13_4_3 rfl).1
          have tv24 := (rg_add ev24 rv1 ra13_4_3 rfl).2
          have q25 : rg (0) (63) v24 := ⟨by omega, by omega⟩
          have uv24 : (0 : Int) ≤ v24.toInt ∧ v24.toInt ≤ 63 := q25
          refine lv_istore (lv' := [(7, .int v24), (0, .ref h0), (1, .int p1), (2, .int p2), (3, .int p3), (4, .int a13_4_3), (5, .int a13_5_4), (6, .int a13_6_5)]) hx hb dX12_harm_114 hl (by decide) rfl (fun ls hl => ?_)
          refine lv_aload_n hx hb dX12_harm_116 rfl (lv_at hl 1 rfl) ?_
          refine m_geta x L6 12 rfl rfl (wm_in uf_32) dX12_harm_117 ?_
          refine lv_iload hx hb dX12_harm_120 (lv_at hl 0 rfl) ?_
          refine lv_aload_n hx hb dX12_harm_122 rfl (lv_at hl 1 rfl) ?_
          refine m_geta x L6 12 rfl rfl (wm_in uf_32) dX12_harm_123 ?_
          refine lv_iload hx hb dX12_harm_126 (lv_at hl 7 rfl) ?_
          refine m_ld x L6 12 rfl q15 rfl dX12_harm_128 (fun v26 ev26 wv26 => ?_)
          have rv26 : rg (0) (2) v26 := lj_12 wv26
          have uv26 : (0 : Int) ≤ v26.toInt ∧ v26.toInt ≤ 2 := rv26
          refine m_st x L6 12 rfl q25 rfl (rj_12 (rg_w rv26 rfl)) dX12_harm_129 (fun g27 H27 k27 eg27 L27 => ?_)
          refine lv_aload_n hx hb dX12_harm_130 rfl (lv_at hl 1 rfl) ?_
          refine m_geta x L27 13 rfl rfl (wm_in uf_35) dX12_harm_131 ?_
          refine lv_iload hx hb dX12_harm_134 (lv_at hl 0 rfl) ?_
          refine lv_aload_n hx hb dX12_harm_136 rfl (lv_at hl 1 rfl) ?_
          refine m_geta x L27 13 rfl rfl (wm_in uf_35) dX12_harm_137 ?_
          refine lv_iload hx hb dX12_harm_140 (lv_at hl 7 rfl) ?_
          refine m_ld x L27 13 rfl q15 rfl dX12_harm_142 (fun v28 ev28 wv28 => ?_)
          refine m_top (((mm_up ev17 eg27 rfl)).trans ev28.symm) ?_
          refine lv_iconst (v := 1) hx hb dX12_harm_143 (by decide) ?_
          refine lv_isub hx hb dX12_harm_144 ?_
          refine lv_topi (fun v29 ev29 => ?_)
          have rv29 : rg (-2147483648) (2147483647) v29 := rg_any v29
          have uv29 : (-2147483648 : Int) ≤ v29.toInt ∧ v29.toInt ≤ 2147483647 := rv29
          refine m_st x L27 13 rfl q25 rfl (rj_13 (rg_any v29)) dX12_harm_145 (fun g30 H30 k30 eg30 L30 => ?_)
          refine lv_aload_n hx hb dX12_harm_146 rfl (lv_at hl 1 rfl) ?_
          refine m_geta x L30 14 rfl rfl (wm_in uf_38) dX12_harm_147 ?_
          refine lv_iload hx hb dX12_harm_150 (lv_at hl 0 rfl) ?_
          refine lv_aload_n hx hb dX12_harm_152 rfl (lv_at hl 1 rfl) ?_
          refine m_geta x L30 14 rfl rfl (wm_in uf_38) dX12_harm_153 ?_
          refine lv_iload hx hb dX12_harm_156 (lv_at hl 7 rfl) ?_
          refine m_ld x L30 14 rfl q15 rfl dX12_harm_158 (fun v31 ev31 wv31 => ?_)
          have rv31 : rg (-2147483648) (2147483647) v31 := lj_14 wv31
          have uv31 : (-2147483648 : Int) ≤ v31.toInt ∧ v31.toInt ≤ 2147483647 := rv31
          refine m_st x L30 14 rfl q25 rfl (rj_14 (rg_any v31)) dX12_harm_159 (fun g32 H32 k32 eg32 L32 => ?_)
          have hJ33 := mJ_dmg hJ6 eg27 eg30 eg32 (fun z => by have w := hJ6.1 a13_6_5.toNatClampNeg (by rw [← ev26]; exact z); have h14 : g6 14 a13_6_5.toNatClampNeg = g30 14 a13_6_5.toNatClampNeg := mm_up (mm_up rfl eg27 rfl) eg30 rfl; rw [h14, ← ev31] at w; exact w)
          refine lv_aload_n hx hb dX12_harm_160 rfl (lv_at hl 1 rfl) ?_
          refine m_geta x L32 15 rfl rfl (wm_in uf_41) dX12_harm_161 ?_
          refine lv_iload hx hb dX12_harm_164 (lv_at hl 0 rfl) ?_
          refine lv_aload_n hx hb dX12_harm_166 rfl (lv_at hl 1 rfl) ?_
          refine m_geta x L32 15 rfl rfl (wm_in uf_41) dX12_harm_167 ?_
          refine lv_iload hx hb dX12_harm_170 (lv_at hl 7 rfl) ?_
          refine m_ld x L32 15 rfl q15 rfl dX12_harm_172 (fun v34 ev34 wv34 => ?_)
          have rv34 : rg (-2147483648) (2147483647) v34 := lj_15 wv34
          have uv34 : (-2147483648 : Int) ≤ v34.toInt ∧ v34.toInt ≤ 2147483647 := rv34
          refine m_st x L32 15 rfl q25 rfl (rj_15 (rg_any v34)) dX12_harm_173 (fun g35 H35 k35 eg35 L35 => ?_)
          obtain ⟨v36, ev36, fv36⟩ := inc_ex a13_4_3 (1) (1 : Int32) (by decide)
          have rv36 : rg (1) (9) v36 := (rg_add ev36 ra13_4_3 kc_1 rfl).1
          have tv36 := (rg_add ev36 ra13_4_3 kc_1 rfl).2
          have yv36 : (1 : Int32).toInt = 1 := by decide
          refine lv_iinc (v := v36) (lv' := [(4, .int v36), (7, .int v24), (0, .ref h0), (1, .int p1), (2, .int p2), (3, .int p3), (5, .int a13_5_4), (6, .int a13_6_5)]) hx hb dX12_harm_174 hl (k := 5) rfl fv36 (by decide) rfl (fun ls hl => ?_)
          exact j177_20 v36 a13_5_4 g35 _ _ ls (mFr.upE (mFr.upE (mFr.upE (mFr.upE mFr.rf eg27 rfl) eg30 rfl) eg32 rfl) eg35 rfl) L35 (mJ_up hJ33 eg35 rfl) (hM6.kp rfl (by omega) (by omega) hcn ev17 (by omega) c36_22 ev29 (by omega) eg27 eg30 eg32 eg35) ⟨by omega, by omega⟩ (rg_w ra13_5_4 rfl) (by omega) (lv_sub hl [2, 3, 4, 5, 0, 6, 7] rfl)
        · skip
          have ic36_22 := congrArg Int32.toInt c36_22
          have y37 : (0 : Int32).toInt = 0 := by decide
          have q38 : rg (0) (0) v17 := (rg_eq c36_22 rv17 kc_0).1
          have uq38 : (0 : Int) ≤ v17.toInt ∧ v17.toInt ≤ 0 := q38
          refine lv_aload_n hx hb dX12_harm_39 rfl (lv_at hl 0 rfl) ?_
          refine m_geta x L6 12 rfl rfl (wm_in uf_32) dX12_harm_40 ?_
          refine lv_iload hx hb dX12_harm_43 (lv_at hl 6 rfl) ?_
          refine m_ld x L6 12 rfl q15 rfl dX12_harm_45 (fun v39 ev39 wv39 => ?_)
          have rv39 : rg (0) (2) v39 := lj_12 wv39
          have uv39 : (0 : Int) ≤ v39.toInt ∧ v39.toInt ≤ 2 := rv39
          refine lv_iconst (v := 1) hx hb dX12_harm_46 (by decide) ?_
          refine lv_icmp_ne (tgt := 77) hx hb dX12_harm_47 (by decide) (fun c47_40 => ?_) (fun c47_40 => ?_)
          · skip
            have ic47_40 : v39.toInt ≠ (1 : Int32).toInt := fun z => c47_40 (Int32.toInt_inj.mp z)
            have y41 : (1 : Int32).toInt = 1 := by decide
            refine lv_aload_n hx hb dX12_harm_77 rfl (lv_at hl 0 rfl) ?_
            refine m_geta x L6 12 rfl rfl (wm_in uf_32) dX12_harm_78 ?_
            refine lv_iload hx hb dX12_harm_81 (lv_at hl 6 rfl) ?_
            refine m_ld x L6 12 rfl q15 rfl dX12_harm_83 (fun v42 ev42 wv42 => ?_)
            refine m_top ((ev39).trans ev42.symm) ?_
            have j102_44 : ∀ (b102_0_43 : Int32) (g44 : mSt) (H44 : Heap) (k44 : List Loc) (ls : Array Slot), mFr [] g6 g44 → mL G h0 ad H0 nn X g44 H44 k44 → mJ nn [] g44 → rg (0) (52) b102_0_43 → lv_has ls 8 [(0, .ref h0), (1, .int p1), (2, .int p2), (3, .int p3), (4, .int a13_4_3), (6, .int a13_6_5)] → W p l e rm_harm s m args below meth c H44 k44 0 0 Q (F0 m 102 ls [.int b102_0_43]) := by
              intro b102_0_43 g44 H44 k44 ls hF44 L44 hJ44 rb102_0_43 hl
              have ub102_0_43 : (0 : Int) ≤ b102_0_43.toInt ∧ b102_0_43.toInt ≤ 52 := rb102_0_43
              refine lv_istore (lv' := [(5, .int b102_0_43), (0, .ref h0), (1, .int p1), (2, .int p2), (3, .int p3), (4, .int a13_4_3), (6, .int a13_6_5)]) hx hb dX12_harm_102 hl (by decide) rfl (fun ls hl => ?_)
              refine lv_goto (tgt := 177) hx hb dX12_harm_104 (by decide) ?_
              exact j177_20 a13_4_3 b102_0_43 g44 _ _ ls (mFr.tr mFr.rf hF44 rfl) L44 hJ44 ((hM6.dr rfl hcn ev17 (by omega) c36_22).fr (hF44.at 13 rfl)) (rg_w ra13_4_3 rfl) (rg_w rb102_0_43 rfl) (by omega) (lv_sub hl [1, 2, 3, 4, 5, 0, 6] rfl)
            refine lv_if_ne (tgt := 91) hx hb dX12_harm_84 (by decide) (fun c84_45 => ?_) (fun c84_45 => ?_)
            · skip
              have ic84_45 : v39.toInt ≠ (0 : Int32).toInt := fun z => c84_45 (Int32.toInt_inj.mp z)
              have y46 : (0 : Int32).toInt = 0 := by decide
              have q47 : rg (1) (2) v39 := rg_neL c84_45 rv39 kc_0
              have uq47 : (1 : Int) ≤ v39.toInt ∧ v39.toInt ≤ 2 := q47
              refine lv_iload hx hb dX12_harm_91 (lv_at hl 5 rfl) ?_
              refine lv_if_ne (tgt := 100) hx hb dX12_harm_93 (by decide) (fun c93_48 => ?_) (fun c93_48 => ?_)
              · skip
                have ic93_48 : a13_5_4.toInt ≠ (0 : Int32).toInt := fun z => c93_48 (Int32.toInt_inj.mp z)
                have y49 : (0 : Int32).toInt = 0 := by decide
                have q50 : rg (1) (53) a13_5_4 := rg_neL c93_48 ra13_5_4 kc_0
                have uq50 : (1 : Int) ≤ a13_5_4.toInt ∧ a13_5_4.toInt ≤ 53 := q50
                refine lv_bipush (v := 52) hx hb dX12_harm_100 (by decide) ?_
                have y51 : (52 : Int32).toInt = 52 := by decide
                exact j102_44 (52 : Int32) g6 _ _ ls mFr.rf L6 hJ6 (rg_w kc_52 rfl) (lv_sub hl [0, 1, 2, 3, 4, 6] rfl)
              · skip
                have ic93_48 := congrArg Int32.toInt c93_48
                have y52 : (0 : Int32).toInt = 0 := by decide
                have q53 : rg (0) (0) a13_5_4 := (rg_eq c93_48 ra13_5_4 kc_0).1
                have uq53 : (0 : Int) ≤ a13_5_4.toInt ∧ a13_5_4.toInt ≤ 0 := q53
                refine lv_iconst (v := 0) hx hb dX12_harm_96 (by decide) ?_
                refine lv_goto (tgt := 102) hx hb dX12_harm_97 (by decide) ?_
                have y54 : (0 : Int32).toInt = 0 := by decide
                exact j102_44 (0 : Int32) g6 _ _ ls mFr.rf L6 hJ6 (rg_w kc_0 rfl) (lv_sub hl [0, 1, 2, 3, 4, 6] rfl)
            · skip
              have ic84_45 := congrArg Int32.toInt c84_45
              have y55 : (0 : Int32).toInt = 0 := by decide
              have q56 : rg (0) (0) v39 := (rg_eq c84_45 rv39 kc_0).1
              have uq56 : (0 : Int) ≤ v39.toInt ∧ v39.toInt ≤ 0 := q56
              refine lv_iconst (v := 0) hx hb dX12_harm_87 (by decide) ?_
              refine lv_goto (tgt := 102) hx hb dX12_harm_88 (by decide) ?_
              have y57 : (0 : Int32).toInt = 0 := by decide
              exact j102_44 (0 : Int32) g6 _ _ ls mFr.rf L6 hJ6 (rg_w kc_0 rfl) (lv_sub hl [0, 1, 2, 3, 4, 6] rfl)
          · skip
            have ic47_40 := congrArg Int32.toInt c47_40
            have y58 : (1 : Int32).toInt = 1 := by decide
            have q59 : rg (1) (1) v39 := (rg_eq c47_40 rv39 kc_1).1
            have uq59 : (1 : Int) ≤ v39.toInt ∧ v39.toInt ≤ 1 := q59
            refine lv_aload_n hx hb dX12_harm_50 rfl (lv_at hl 0 rfl) ?_
            refine m_geta x L6 17 rfl rfl (wm_in uf_47) dX12_harm_51 ?_
            refine lv_iload_n hx hb dX12_harm_54 rfl (lv_at hl 3 rfl) ?_
            refine lv_aload_n hx hb dX12_harm_55 rfl (lv_at hl 0 rfl) ?_
            refine m_geta x L6 14 rfl rfl (wm_in uf_38) dX12_harm_56 ?_
            refine lv_iload hx hb dX12_harm_59 (lv_at hl 6 rfl) ?_
            refine m_ld x L6 14 rfl q15 rfl dX12_harm_61 (fun v60 ev60 wv60 => ?_)
            have rv60 : rg (-2147483648) (2147483647) v60 := lj_14 wv60
            have rrv60 : rg (0) (52) v60 := rg_eqv ev60.symm (show rg 0 52 (g6 14 a13_6_5.toNatClampNeg) from hJ6.1 _ (by rw [← ev39]; omega))
            have uv60 : (0 : Int) ≤ v60.toInt ∧ v60.toInt ≤ 52 := rrv60
            refine lv_iadd hx hb dX12_harm_62 ?_
            refine lv_topi (fun v61 ev61 => ?_)
            have rv61 : rg (0) (1695) v61 := (rg_add ev61 rp3 rrv60 rfl).1
            have tv61 := (rg_add ev61 rp3 rrv60 rfl).2
            have uv61 : (0 : Int) ≤ v61.toInt ∧ v61.toInt ≤ 1695 := rv61
            refine lv_dup2_11 hx hb dX12_harm_63 rfl rfl ?_
            refine m_ld x L6 17 rfl rv61 rfl dX12_harm_64 (fun v62 ev62 wv62 => ?_)
            have rv62 : rg (-2147483648) (2147483647) v62 := lj_17 wv62
            have uv62 : (-2147483648 : Int) ≤ v62.toInt ∧ v62.toInt ≤ 2147483647 := rv62
            refine lv_aload_n hx hb dX12_harm_65 rfl (lv_at hl 0 rfl) ?_
            refine m_geta x L6 15 rfl rfl (wm_in uf_41) dX12_harm_66 ?_
            refine lv_iload hx hb dX12_harm_69 (lv_at hl 6 rfl) ?_
            refine m_ld x L6 15 rfl q15 rfl dX12_harm_71 (fun v63 ev63 wv63 => ?_)
            have rv63 : rg (-2147483648) (2147483647) v63 := lj_15 wv63
            have uv63 : (-2147483648 : Int) ≤ v63.toInt ∧ v63.toInt ≤ 2147483647 := rv63
            refine lv_ixor hx hb dX12_harm_72 ?_
            refine lv_topi (fun v64 ev64 => ?_)
            have rv64 : rg (-2147483648) (2147483647) v64 := rg_any v64
            have uv64 : (-2147483648 : Int) ≤ v64.toInt ∧ v64.toInt ≤ 2147483647 := rv64
            refine m_st x L6 17 rfl rv61 rfl (rj_17 (rg_any v64)) dX12_harm_73 (fun g65 H65 k65 eg65 L65 => ?_)
            refine lv_goto (tgt := 177) hx hb dX12_harm_74 (by decide) ?_
            exact j177_20 a13_4_3 a13_5_4 g65 _ _ ls (mFr.upE mFr.rf eg65 rfl) L65 (mJ_up hJ6 eg65 rfl) ((hM6.dr rfl hcn ev17 (by omega) c36_22).fr (by rw [eg65, up2_of (by decide)])) (rg_w ra13_4_3 rfl) (rg_w ra13_5_4 rfl) (by omega) (lv_sub hl [0, 1, 2, 3, 4, 5, 6] rfl)
  have y66 : (0 : Int32).toInt = 0 := by decide
  have y67 : (53 : Int32).toInt = 53 := by decide
  exact j13_6 _ (0 : Int32) (53 : Int32) v1 g _ _ ls mFr.rf L hJ (hmI.z (by omega)) (rg_w kc_0 rfl) (rg_w kc_53 rfl) (rg_w rv1 rfl) (by omega) (lv_sub hl [3, 4, 5, 6, 2, 1, 0] rfl) rfl
theorem cD_harm (l : Launch) {G : mG} {h0 : Nat} {ad : Nat → Nat} (nn X : Int) (g : mSt) (p1 : Int32) (p2 : Int32) (p3 : Int32) (hnn : 2 ≤ nn ∧ nn ≤ 4) (hX : 0 ≤ X ∧ X ≤ 2000000000) (hJ : mJ nn [] g) (rp1 : rg (0) (7) p1) (rp2 : rg (0) (3) p2) (rp3 : rg (0) (1643) p3) : Met l yX12_harm (wm (Cond.code yX12_harm cX12_harm 8 none)) rm_harm (va_Pc [.ref h0, .int p1, .int p2, .int p3] (mPre G h0 ad nn X g)) (mQv G h0 ad nn X (fun g1 => mFr [12, 13, 14, 15, 16, 17, 18] g g1 ∧ mJ nn [] g1 ∧ hmD p1.toInt.toNat g g1)) 0 0 (mA h0 ad) := by
  refine Met.ofW (cc := cX12_harm) (maxL := 8) (ret := none) (by decide) rfl ?_
  intro p e s m args below meth c s₁ B hml hv
  obtain ⟨rfl, hv⟩ := hv
  have hr := B.returns
  have hlocks := B.notSynchronized
  obtain ⟨x, L⟩ := m_start B rfl wm_X hv
  have hl := lv_entry ([.ref h0, .int p1, .int p2, .int p3]) (n := 8) (Nat.le_of_ble_eq_true rfl)
  rw [lg_entry_eq]
  generalize (lg_sl ([.ref h0, .int p1, .int p2, .int p3]) ++ List.replicate (8 - (lg_sl ([.ref h0, .int p1, .int p2, .int p3])).length) Slot.unset).toArray = ls at hl ⊢
  exact wD_harm x hml L hnn hX p1 p2 p3 hJ rp1 rp2 rp3 hl (fun pc' ls' g1 H1 locs1 hdg L hp => m_vret x L hr hlocks (Int.le_refl _) hp hdg)
set_option maxHeartbeats 4000000 in
set_option maxRecDepth 100000 in
theorem wD_putOne {p : Program} {l : Launch} {e : Env} {s : State} {m : MethodId} {args : Array Value} {below : List Frame} {meth : Method} {c : Code} {H : Heap} {locs : List Loc} {Q : State → Prop} {ls : Array Slot} {G : mG} {h0 : Nat} {ad : Nat → Nat} {g : mSt} {H0 : Heap} {nn X : Int} (x : mX p c cX12_putOne s args (wm (Cond.code yX12_putOne cX12_putOne 8 none)) m G h0 ad) (hml : c.maxLocals = 8) (L : mL G h0 ad H0 nn X g H locs) (hnn : 2 ≤ nn ∧ nn ≤ 4) (hX : 0 ≤ X ∧ X ≤ 2000000000) (p1 : Int32) (p2 : Int32) (hJ : mJ nn [] g) (rp1 : rg (0) (7) p1) (rp2 : rg (0) (3) p2) (hl : lv_has ls 8 [(0, .ref h0), (1, .int p1), (2, .int p2)]) (hQ : ∀ (pc' : Nat) (ls' : Array Slot) (g1 : mSt) (H1 : Heap) (locs1 : List Loc), decode cX12_putOne pc' = .ok (.return_, 1) → mL G h0 ad H0 nn X g1 H1 locs1 → (mFr [6, 7, 12, 13, 14, 15, 16, 17, 18, 19, 20] g g1 ∧ mJ nn [] g1 ∧ hmD p1.toInt.toNat g g1) → W p l e rm_putOne s m args below meth c H1 locs1 0 0 Q (F0 m pc' ls' [])) : W p l e rm_putOne s m args below meth c H locs 0 0 Q (F0 m 0 ls []) := by
  have hx := x.1
  have hb := x.2.1
  refine lv_aload_n hx hb dX12_putOne_0 rfl (lv_at hl 0 rfl) ?_
  refine m_geta x L 7 rfl rfl (wm_in uf_20) dX12_putOne_1 ?_
  refine lv_iconst (v := 2) hx hb dX12_putOne_4 (by decide) ?_
  refine lv_iload_n hx hb dX12_putOne_5 rfl (lv_at hl 1 rfl) ?_
  refine lv_imul hx hb dX12_putOne_6 ?_
  refine lv_topi (fun v1 ev1 => ?_)
  have rv1 : rg (0) (14) v1 := (rg_mulL ev1 kc_2 rp1 rfl).1
  refine m_ld x L 7 rfl rv1 rfl dX12_putOne_7 (fun v2 ev2 wv2 => ?_)
  have rv2 : rg (0) (40) v2 := lj_7 wv2
  refine lv_if_le (tgt := 15) hx hb dX12_putOne_8 (by decide) (fun c8_3 => ?_) (fun c8_3 => ?_)
  · skip
    have q4 : rg (0) (0) v2 := (rg_le c8_3 rv2 kc_0).1
    refine lv_aload_n hx hb dX12_putOne_15 rfl (lv_at hl 0 rfl) ?_
    refine m_geta x L 7 rfl rfl (wm_in uf_20) dX12_putOne_16 ?_
    refine lv_iconst (v := 2) hx hb dX12_putOne_19 (by decide) ?_
    refine lv_iload_n hx hb dX12_putOne_20 rfl (lv_at hl 1 rfl) ?_
    refine lv_imul hx hb dX12_putOne_21 ?_
    refine m_top ev1 ?_
    refine lv_iconst (v := 1) hx hb dX12_putOne_22 (by decide) ?_
    refine lv_iadd hx hb dX12_putOne_23 ?_
    refine lv_topi (fun v5 ev5 => ?_)
    have rv5 : rg (1) (15) v5 := (rg_add ev5 rv1 kc_1 rfl).1
    refine m_ld x L 7 rfl rv5 rfl dX12_putOne_24 (fun v6 ev6 wv6 => ?_)
    have rv6 : rg (0) (40) v6 := lj_7 wv6
    refine lv_if_le (tgt := 32) hx hb dX12_putOne_25 (by decide) (fun c25_7 => ?_) (fun c25_7 => ?_)
    · skip
      have q8 : rg (0) (0) v6 := (rg_le c25_7 rv6 kc_0).1
      refine lv_iconst (v := 2) hx hb dX12_putOne_32 (by decide) ?_
      refine lv_istore_n (lv' := [(3, .int (2 : Int32)), (0, .ref h0), (1, .int p1), (2, .int p2)]) hx hb dX12_putOne_33 rfl hl (by decide) rfl (fun ls hl => ?_)
      refine lv_bipush (v := 53) hx hb dX12_putOne_34 (by decide) ?_
      refine lv_iconst (v := 4) hx hb dX12_putOne_36 (by decide) ?_
      refine lv_iload_n hx hb dX12_putOne_37 rfl (lv_at hl 2 rfl) ?_
      refine lv_imul hx hb dX12_putOne_38 ?_
      refine lv_topi (fun v9 ev9 => ?_)
      have rv9 : rg (0) (28) v9 := (rg_mulL ev9 kc_4 rp1 rfl).1
      refine lv_iload_n hx hb dX12_putOne_39 rfl (lv_at hl 3 rfl) ?_
      refine lv_iadd hx hb dX12_putOne_40 ?_
      refine lv_topi (fun v10 ev10 => ?_)
      have rv10 : rg (0) (31) v10 := (rg_add ev10 rv9 rp2 rfl).1
      refine lv_imul hx hb dX12_putOne_41 ?_
      refine lv_topi (fun v11 ev11 => ?_)
      have rv11 : rg (0) (1643) v11 := (rg_mulL ev11 kc_53 rv10 rfl).1
      refine lv_istore (lv' := [(4, .int v11), (3, .int (2 : Int32)), (0, .ref h0), (1, .int p1), (2, .int p2)]) hx hb dX12_putOne_42 hl (by decide) rfl (fun ls hl => ?_)
      refine lv_aload_n hx hb dX12_putOne_44 rfl (lv_at hl 2 rfl) ?_
      refine lv_dup hx hb dX12_putOne_45 rfl ?_
      refine m_geti x L 19 rfl rfl (wm_in uf_323) dX12_putOne_46 (fun v12 ev12 wv12 => ?_)
      have rv12 : rg (-2147483648) (2147483647) v12 := lj_19 wv12
      refine lv_iconst (v := 1) hx hb dX12_putOne_49 (by decide) ?_
      refine lv_iadd hx hb dX12_putOne_50 ?_
      refine lv_topi (fun v13 ev13 => ?_)
      have rv13 : rg (-2147483648) (2147483647) v13 := rg_any v13
      refine m_puti x L 19 rfl fi_19 (wm_in uf_323) dX12_putOne_51 (rj_19 (rg_any v13)) (fun g14 H14 k14 eg14 L14 => ?_)
      refine lv_iload_n hx hb dX12_putOne_54 rfl (lv_at hl 1 rfl) ?_
      refine lv_iconst (v := 2) hx hb dX12_putOne_55 (by decide) ?_
      refine lv_icmp_ne (tgt := 133) hx hb dX12_putOne_56 (by decide) (fun c56_15 => ?_) (fun c56_15 => ?_)
      · skip
        exact absurd c56_15 (by decide)
      · skip
        refine lv_aload_n hx hb dX12_putOne_59 rfl (lv_at hl 2 rfl) ?_
        refine lv_dup hx hb dX12_putOne_60 rfl ?_
        refine m_geti x L14 20 rfl rfl (wm_in uf_326) dX12_putOne_61 (fun v16 ev16 wv16 => ?_)
        have rv16 : rg (-2147483648) (2147483647) v16 := lj_20 wv16
        refine lv_iconst (v := 1) hx hb dX12_putOne_64 (by decide) ?_
        refine lv_iadd hx hb dX12_putOne_65 ?_
        refine lv_topi (fun v17 ev17 => ?_)
        have rv17 : rg (-2147483648) (2147483647) v17 := rg_any v17
        refine m_puti x L14 20 rfl fi_20 (wm_in uf_326) dX12_putOne_66 (rj_20 (rg_any v17)) (fun g18 H18 k18 eg18 L18 => ?_)
        refine lv_iconst (v := 0) hx hb dX12_putOne_69 (by decide) ?_
        refine lv_istore (lv' := [(5, .int (0 : Int32)), (4, .int v11), (3, .int (2 : Int32)), (0, .ref h0), (1, .int p1), (2, .int p2)]) hx hb dX12_putOne_70 hl (by decide) rfl (fun ls hl => ?_)
        have j72_20 : ∀ (n : Nat) (a72_5_19 : Int32) (g20 : mSt) (H20 : Heap) (k20 : List Loc) (ls : Array Slot), mFr [17] g18 g20 → mL G h0 ad H0 nn X g20 H20 k20 → mJ nn [] g20 → rg (0) (53) a72_5_19 → lv_has ls 8 [(0, .ref h0), (1, .int p1), (2, .int p2), (4, .int v11), (5, .int a72_5_19)] → ((53 : Int) - a72_5_19.toInt).toNat = n → W p l e rm_putOne s m args below meth c H20 k20 0 0 Q (F0 m 72 ls []) := by
          intro n
          induction n using Nat.strongRecOn with
          | _ n ih20 =>
            intro a72_5_19 g20 H20 k20 ls hF20 L20 hJ20 ra72_5_19 hl hn20
            subst hn20
            refine lv_iload hx hb dX12_putOne_72 (lv_at hl 4 rfl) ?_
            refine lv_bipush (v := 53) hx hb dX12_putOne_74 (by decide) ?_
            refine lv_icmp_ge (tgt := 130) hx hb dX12_putOne_76 (by decide) (fun c76_21 => ?_) (fun c76_21 => ?_)
            · skip
              have q22 : rg (53) (53) a72_5_19 := (rg_le c76_21 kc_53 ra72_5_19).2
              refine lv_goto (tgt := 224) hx hb dX12_putOne_130 (by decide) ?_
              refine lv_aload_n hx hb dX12_putOne_224 rfl (lv_at hl 0 rfl) ?_
              refine m_geta x L20 18 rfl rfl (wm_in uf_50) dX12_putOne_225 ?_
              refine lv_iconst (v := 4) hx hb dX12_putOne_228 (by decide) ?_
              refine lv_iload_n hx hb dX12_putOne_229 rfl (lv_at hl 1 rfl) ?_
              refine lv_imul hx hb dX12_putOne_230 ?_
              refine m_top ev9 ?_
              refine lv_iload_n hx hb dX12_putOne_231 rfl (lv_at hl 2 rfl) ?_
              refine lv_iadd hx hb dX12_putOne_232 ?_
              refine m_top ev10 ?_
              refine lv_bipush (v := 53) hx hb dX12_putOne_233 (by decide) ?_
              refine m_st x L20 18 rfl rv10 rfl (rj_18 (rg_w kc_53 rfl)) dX12_putOne_235 (fun g23 H23 k23 eg23 L23 => ?_)
              refine lv_aload_n hx hb dX12_putOne_236 rfl (lv_at hl 0 rfl) ?_
              refine lv_iload_n hx hb dX12_putOne_237 rfl (lv_at hl 1 rfl) ?_
              refine lv_iload_n hx hb dX12_putOne_238 rfl (lv_at hl 2 rfl) ?_
              refine lv_iload hx hb dX12_putOne_239 (lv_at hl 3 rfl) ?_
              refine m_cv (As := [.int p1, .int p2, .int v11]) (rest := []) x hml L23 (cD_harm l nn X g23 p1 p2 v11 hnn hX (mJ_up hJ20 eg23 rfl) (rg_w rp1 rfl) (rg_w rp2 rfl) (rg_w rv11 rfl)) (wm_V uc_harm ul_329 ui_harm us_harm u_init) rfl ⟨rfl, rfl⟩ hd_harm ⟨Nat.le_of_ble_eq_true rfl, Nat.le_of_ble_eq_true rfl⟩ rfl hl.1 rfl (lv_room (Nat.le_of_ble_eq_true rfl)) dX12_putOne_241 (fun  g24 H24 k24 hp24 L24 => ?_)
              exact hQ _ _ _ _ _ dX12_putOne_244 L24 ⟨(mFr.tr (mFr.upE (mFr.tr (mFr.upE (mFr.upE mFr.rf eg14 rfl) eg18 rfl) hF20 rfl) eg23 rfl) hp24.1 rfl), hp24.2.1, rD_put (show mFr [6, 7, 17, 18, 19, 20] g g23 from (mFr.upE (mFr.tr (mFr.upE (mFr.upE mFr.rf eg14 rfl) eg18 rfl) hF20 rfl) eg23 rfl)) rfl rfl hp24.2.2⟩
            · skip
              have q25 : rg (0) (52) a72_5_19 := (rg_lt (rg_nle c76_21) ra72_5_19 kc_53).1
              refine lv_aload_n hx hb dX12_putOne_79 rfl (lv_at hl 0 rfl) ?_
              refine m_geta x L20 17 rfl rfl (wm_in uf_47) dX12_putOne_80 ?_
              refine lv_iload hx hb dX12_putOne_83 (lv_at hl 3 rfl) ?_
              refine lv_iload hx hb dX12_putOne_85 (lv_at hl 4 rfl) ?_
              refine lv_iadd hx hb dX12_putOne_87 ?_
              refine lv_topi (fun v26 ev26 => ?_)
              have rv26 : rg (0) (1695) v26 := (rg_add ev26 rv11 q25 rfl).1
              refine lv_iload hx hb dX12_putOne_88 (lv_at hl 4 rfl) ?_
              refine lv_iconst (v := 3) hx hb dX12_putOne_90 (by decide) ?_
              refine lv_icmp_ge (tgt := 98) hx hb dX12_putOne_91 (by decide) (fun c91_27 => ?_) (fun c91_27 => ?_)
              · skip
                have q28 : rg (3) (52) a72_5_19 := (rg_le c91_27 kc_3 q25).2
                refine lv_iload hx hb dX12_putOne_98 (lv_at hl 4 rfl) ?_
                refine lv_iconst (v := 3) hx hb dX12_putOne_100 (by decide) ?_
                refine lv_icmp_ne (tgt := 108) hx hb dX12_putOne_101 (by decide) (fun c101_29 => ?_) (fun c101_29 => ?_)
                · skip
                  have q30 : rg (4) (52) a72_5_19 := rg_neL c101_29 q28 kc_3
                  refine lv_iload hx hb dX12_putOne_108 (lv_at hl 4 rfl) ?_
                  refine lv_iconst (v := 4) hx hb dX12_putOne_110 (by decide) ?_
                  refine lv_icmp_ne (tgt := 121) hx hb dX12_putOne_111 (by decide) (fun c111_31 => ?_) (fun c111_31 => ?_)
                  · skip
                    have q32 : rg (5) (52) a72_5_19 := rg_neL c111_31 q30 kc_4
                    refine lv_bipush (v := 106) hx hb dX12_putOne_121 (by decide) ?_
                    refine m_st x L20 17 rfl rv26 rfl (rj_17 (rg_any (106 : Int32))) dX12_putOne_123 (fun g33 H33 k33 eg33 L33 => ?_)
                    obtain ⟨v34, ev34, fv34⟩ := inc_ex a72_5_19 (1) (1 : Int32) (by decide)
                    have rv34 : rg (6) (53) v34 := (rg_add ev34 q32 kc_1 rfl).1
                    have tv34 := (rg_add ev34 q32 kc_1 rfl).2
                    refine lv_iinc (v := v34) (lv' := [(5, .int v34), (0, .ref h0), (1, .int p1), (2, .int p2), (4, .int v11)]) hx hb dX12_putOne_124 hl (k := 4) rfl fv34 (by decide) rfl (fun ls hl => ?_)
                    refine lv_goto (tgt := 72) hx hb dX12_putOne_127 (by decide) ?_
                    exact ih20 _ (ms_up tv34 kc_1 q32 rfl rfl) v34 g33 _ _ ls (mFr.upE hF20 eg33 rfl) L33 (mJ_up hJ20 eg33 rfl) (rg_w rv34 rfl) (lv_sub hl [1, 2, 3, 4, 0] rfl) rfl
                  · skip
                    have q35 : rg (4) (4) a72_5_19 := (rg_eq c111_31 q30 kc_4).1
                    refine lv_iconst (v := 1) hx hb dX12_putOne_114 (by decide) ?_
                    refine pf_call (va_runS (As := [.int (1 : Int32)]) (rest := [.int v26, .ref (ad 17)]) ⟨hx, hb, hml, x.2.2.2.2.1, x.2.2.1⟩ (c_hm l (1 : Int32)) (va_cwS 1 x.2.2.1 (wm_T ut_hecOf ul_267 u_init us_hecOf') rfl rfl rfl (by decide +kernel) ⟨Nat.le_of_ble_eq_true rfl, Nat.le_of_ble_eq_true rfl⟩) ⟨fun _ _ _ _ q => q, fun _ _ _ => ⟨rfl, trivial⟩⟩ rfl rfl hl.1 rfl (lv_room (Nat.le_of_ble_eq_true rfl)) dX12_putOne_115 ⟨Nat.le_of_ble_eq_true rfl, Nat.le_of_ble_eq_true rfl⟩) ?_
                    refine lv_topi (fun v36 ev36 => ?_)
                    have rv36 : rg (-2147483648) (2147483647) v36 := rg_any v36
                    refine lv_goto (tgt := 123) hx hb dX12_putOne_118 (by decide) ?_
                    refine m_st x L20 17 rfl rv26 rfl (rj_17 (rg_any v36)) dX12_putOne_123 (fun g37 H37 k37 eg37 L37 => ?_)
                    obtain ⟨v38, ev38, fv38⟩ := inc_ex a72_5_19 (1) (1 : Int32) (by decide)
                    have rv38 : rg (5) (5) v38 := (rg_add ev38 q35 kc_1 rfl).1
                    have tv38 := (rg_add ev38 q35 kc_1 rfl).2
                    refine lv_iinc (v := v38) (lv' := [(5, .int v38), (0, .ref h0), (1, .int p1), (2, .int p2), (4, .int v11)]) hx hb dX12_putOne_124 hl (k := 4) rfl fv38 (by decide) rfl (fun ls hl => ?_)
                    refine lv_goto (tgt := 72) hx hb dX12_putOne_127 (by decide) ?_
                    exact ih20 _ (ms_up tv38 kc_1 q35 rfl rfl) v38 g37 _ _ ls (mFr.upE hF20 eg37 rfl) L37 (mJ_up hJ20 eg37 rfl) (rg_w rv38 rfl) (lv_sub hl [1, 2, 3, 4, 0] rfl) rfl
                · skip
                  have q39 : rg (3) (3) a72_5_19 := (rg_eq c101_29 q28 kc_3).1
                  refine lv_iconst (v := 1) hx hb dX12_putOne_104 (by decide) ?_
                  refine lv_goto (tgt := 123) hx hb dX12_putOne_105 (by decide) ?_
                  refine m_st x L20 17 rfl rv26 rfl (rj_17 (rg_any (1 : Int32))) dX12_putOne_123 (fun g40 H40 k40 eg40 L40 => ?_)
                  obtain ⟨v41, ev41, fv41⟩ := inc_ex a72_5_19 (1) (1 : Int32) (by decide)
                  have rv41 : rg (4) (4) v41 := (rg_add ev41 q39 kc_1 rfl).1
                  have tv41 := (rg_add ev41 q39 kc_1 rfl).2
                  refine lv_iinc (v := v41) (lv' := [(5, .int v41), (0, .ref h0), (1, .int p1), (2, .int p2), (4, .int v11)]) hx hb dX12_putOne_124 hl (k := 4) rfl fv41 (by decide) rfl (fun ls hl => ?_)
                  refine lv_goto (tgt := 72) hx hb dX12_putOne_127 (by decide) ?_
                  exact ih20 _ (ms_up tv41 kc_1 q39 rfl rfl) v41 g40 _ _ ls (mFr.upE hF20 eg40 rfl) L40 (mJ_up hJ20 eg40 rfl) (rg_w rv41 rfl) (lv_sub hl [1, 2, 3, 4, 0] rfl) rfl
              · skip
                have q42 : rg (0) (2) a72_5_19 := (rg_lt (rg_nle c91_27) q25 kc_3).1
                refine lv_iconst (v := 0) hx hb dX12_putOne_94 (by decide) ?_
                refine lv_goto (tgt := 123) hx hb dX12_putOne_95 (by decide) ?_
                refine m_st x L20 17 rfl rv26 rfl (rj_17 (rg_any (0 : Int32))) dX12_putOne_123 (fun g43 H43 k43 eg43 L43 => ?_)
                obtain ⟨v44, ev44, fv44⟩ := inc_ex a72_5_19 (1) (1 : Int32) (by decide)
                have rv44 : rg (1) (3) v44 := (rg_add ev44 q42 kc_1 rfl).1
                have tv44 := (rg_add ev44 q42 kc_1 rfl).2
                refine lv_iinc (v := v44) (lv' := [(5, .int v44), (0, .ref h0), (1, .int p1), (2, .int p2), (4, .int v11)]) hx hb dX12_putOne_124 hl (k := 4) rfl fv44 (by decide) rfl (fun ls hl => ?_)
                refine lv_goto (tgt := 72) hx hb dX12_putOne_127 (by decide) ?_
                exact ih20 _ (ms_up tv44 kc_1 q42 rfl rfl) v44 g43 _ _ ls (mFr.upE hF20 eg43 rfl) L43 (mJ_up hJ20 eg43 rfl) (rg_w rv44 rfl) (lv_sub hl [1, 2, 3, 4, 0] rfl) rfl
        exact j72_20 _ (0 : Int32) g18 _ _ ls mFr.rf L18 (mJ_up (mJ_up hJ eg14 rfl) eg18 rfl) (rg_w kc_0 rfl) (lv_sub hl [3, 4, 5, 1, 0] rfl) rfl
    · skip
      have q45 : rg (1) (40) v6 := (rg_lt (rg_nle c25_7) kc_0 rv6).2
      refine lv_iconst (v := 1) hx hb dX12_putOne_28 (by decide) ?_
      refine lv_goto (tgt := 33) hx hb dX12_putOne_29 (by decide) ?_
      refine lv_istore_n (lv' := [(3, .int (1 : Int32)), (0, .ref h0), (1, .int p1), (2, .int p2)]) hx hb dX12_putOne_33 rfl hl (by decide) rfl (fun ls hl => ?_)
      refine lv_bipush (v := 53) hx hb dX12_putOne_34 (by decide) ?_
      refine lv_iconst (v := 4) hx hb dX12_putOne_36 (by decide) ?_
      refine lv_iload_n hx hb dX12_putOne_37 rfl (lv_at hl 2 rfl) ?_
      refine lv_imul hx hb dX12_putOne_38 ?_
      refine lv_topi (fun v46 ev46 => ?_)
      have rv46 : rg (0) (28) v46 := (rg_mulL ev46 kc_4 rp1 rfl).1
      refine lv_iload_n hx hb dX12_putOne_39 rfl (lv_at hl 3 rfl) ?_
      refine lv_iadd hx hb dX12_putOne_40 ?_
      refine lv_topi (fun v47 ev47 => ?_)
      have rv47 : rg (0) (31) v47 := (rg_add ev47 rv46 rp2 rfl).1
      refine lv_imul hx hb dX12_putOne_41 ?_
      refine lv_topi (fun v48 ev48 => ?_)
      have rv48 : rg (0) (1643) v48 := (rg_mulL ev48 kc_53 rv47 rfl).1
      refine lv_istore (lv' := [(4, .int v48), (3, .int (1 : Int32)), (0, .ref h0), (1, .int p1), (2, .int p2)]) hx hb dX12_putOne_42 hl (by decide) rfl (fun ls hl => ?_)
      refine lv_aload_n hx hb dX12_putOne_44 rfl (lv_at hl 2 rfl) ?_
      refine lv_dup hx hb dX12_putOne_45 rfl ?_
      refine m_geti x L 19 rfl rfl (wm_in uf_323) dX12_putOne_46 (fun v49 ev49 wv49 => ?_)
      have rv49 : rg (-2147483648) (2147483647) v49 := lj_19 wv49
      refine lv_iconst (v := 1) hx hb dX12_putOne_49 (by decide) ?_
      refine lv_iadd hx hb dX12_putOne_50 ?_
      refine lv_topi (fun v50 ev50 => ?_)
      have rv50 : rg (-2147483648) (2147483647) v50 := rg_any v50
      refine m_puti x L 19 rfl fi_19 (wm_in uf_323) dX12_putOne_51 (rj_19 (rg_any v50)) (fun g51 H51 k51 eg51 L51 => ?_)
      refine lv_iload_n hx hb dX12_putOne_54 rfl (lv_at hl 1 rfl) ?_
      refine lv_iconst (v := 2) hx hb dX12_putOne_55 (by decide) ?_
      refine lv_icmp_ne (tgt := 133) hx hb dX12_putOne_56 (by decide) (fun c56_52 => ?_) (fun c56_52 => ?_)
      · skip
        refine lv_iconst (v := 2) hx hb dX12_putOne_133 (by decide) ?_
        refine lv_iload_n hx hb dX12_putOne_134 rfl (lv_at hl 3 rfl) ?_
        refine lv_imul hx hb dX12_putOne_135 ?_
        refine m_top ev1 ?_
        refine lv_iload_n hx hb dX12_putOne_136 rfl (lv_at hl 1 rfl) ?_
        refine lv_iadd hx hb dX12_putOne_137 ?_
        refine m_top ev5 ?_
        refine lv_istore (lv' := [(5, .int v5), (4, .int v48), (3, .int (1 : Int32)), (0, .ref h0), (1, .int p1), (2, .int p2)]) hx hb dX12_putOne_138 hl (by decide) rfl (fun ls hl => ?_)
        refine lv_bipush (v := 53) hx hb dX12_putOne_140 (by decide) ?_
        refine lv_bipush (v := 40) hx hb dX12_putOne_142 (by decide) ?_
        refine lv_iload hx hb dX12_putOne_144 (lv_at hl 0 rfl) ?_
        refine lv_imul hx hb dX12_putOne_146 ?_
        refine lv_topi (fun v53 ev53 => ?_)
        have rv53 : rg (40) (600) v53 := (rg_mulL ev53 kc_40 rv5 rfl).1
        refine lv_aload_n hx hb dX12_putOne_147 rfl (lv_at hl 3 rfl) ?_
        refine m_geta x L51 6 rfl rfl (wm_in uf_17) dX12_putOne_148 ?_
        refine lv_iload hx hb dX12_putOne_151 (lv_at hl 0 rfl) ?_
        refine m_ld x L51 6 rfl rv5 rfl dX12_putOne_153 (fun v54 ev54 wv54 => ?_)
        have rv54 : rg (0) (39) v54 := lj_6 wv54
        refine lv_iadd hx hb dX12_putOne_154 ?_
        refine lv_topi (fun v55 ev55 => ?_)
        have rv55 : rg (40) (639) v55 := (rg_add ev55 rv53 rv54 rfl).1
        refine lv_imul hx hb dX12_putOne_155 ?_
        refine lv_topi (fun v56 ev56 => ?_)
        have rv56 : rg (2120) (33867) v56 := (rg_mulL ev56 kc_53 rv55 rfl).1
        refine lv_istore (lv' := [(6, .int v56), (5, .int v5), (4, .int v48), (3, .int (1 : Int32)), (0, .ref h0), (1, .int p1), (2, .int p2)]) hx hb dX12_putOne_156 hl (by decide) rfl (fun ls hl => ?_)
        refine lv_iconst (v := 0) hx hb dX12_putOne_158 (by decide) ?_
        refine lv_istore (lv' := [(7, .int (0 : Int32)), (6, .int v56), (5, .int v5), (4, .int v48), (3, .int (1 : Int32)), (0, .ref h0), (1, .int p1), (2, .int p2)]) hx hb dX12_putOne_159 hl (by decide) rfl (fun ls hl => ?_)
        have j161_58 : ∀ (n : Nat) (a161_7_57 : Int32) (g58 : mSt) (H58 : Heap) (k58 : List Loc) (ls : Array Slot), mFr [17] g51 g58 → mL G h0 ad H0 nn X g58 H58 k58 → mJ nn [] g58 → rg (0) (53) a161_7_57 → lv_has ls 8 [(0, .ref h0), (1, .int p1), (2, .int p2), (4, .int v48), (5, .int v5), (6, .int v56), (7, .int a161_7_57)] → ((53 : Int) - a161_7_57.toInt).toNat = n → W p l e rm_putOne s m args below meth c H58 k58 0 0 Q (F0 m 161 ls []) := by
          intro n
          induction n using Nat.strongRecOn with
          | _ n ih58 =>
            intro a161_7_57 g58 H58 k58 ls hF58 L58 hJ58 ra161_7_57 hl hn58
            subst hn58
            refine lv_iload hx hb dX12_putOne_161 (lv_at hl 6 rfl) ?_
            refine lv_bipush (v := 53) hx hb dX12_putOne_163 (by decide) ?_
            refine lv_icmp_ge (tgt := 194) hx hb dX12_putOne_165 (by decide) (fun c165_59 => ?_) (fun c165_59 => ?_)
            · skip
              have q60 : rg (53) (53) a161_7_57 := (rg_le c165_59 kc_53 ra161_7_57).2
              refine lv_aload_n hx hb dX12_putOne_194 rfl (lv_at hl 0 rfl) ?_
              refine m_geta x L58 6 rfl rfl (wm_in uf_17) dX12_putOne_195 ?_
              refine lv_iload hx hb dX12_putOne_198 (lv_at hl 4 rfl) ?_
              refine lv_aload_n hx hb dX12_putOne_200 rfl (lv_at hl 0 rfl) ?_
              refine m_geta x L58 6 rfl rfl (wm_in uf_17) dX12_putOne_201 ?_
              refine lv_iload hx hb dX12_putOne_204 (lv_at hl 4 rfl) ?_
              refine m_ld x L58 6 rfl rv5 rfl dX12_putOne_206 (fun v61 ev61 wv61 => ?_)
              refine m_top (((mm_fr ev54 hF58 rfl)).trans ev61.symm) ?_
              refine lv_iconst (v := 1) hx hb dX12_putOne_207 (by decide) ?_
              refine lv_iadd hx hb dX12_putOne_208 ?_
              refine lv_topi (fun v62 ev62 => ?_)
              have rv62 : rg (1) (40) v62 := (rg_add ev62 rv54 kc_1 rfl).1
              refine lv_bipush (v := 40) hx hb dX12_putOne_209 (by decide) ?_
              refine lv_irem hx hb dX12_putOne_211 (by decide) ?_
              refine lv_topi (fun v63 ev63 => ?_)
              have rv63 : rg (0) (39) v63 := (rg_rem ev63 rv62 kc_40 rfl).1
              refine m_st x L58 6 rfl rv5 rfl (rj_6 (rg_w rv63 rfl)) dX12_putOne_212 (fun g64 H64 k64 eg64 L64 => ?_)
              refine lv_aload_n hx hb dX12_putOne_213 rfl (lv_at hl 0 rfl) ?_
              refine m_geta x L64 7 rfl rfl (wm_in uf_20) dX12_putOne_214 ?_
              refine lv_iload hx hb dX12_putOne_217 (lv_at hl 4 rfl) ?_
              refine lv_dup2_11 hx hb dX12_putOne_219 rfl rfl ?_
              refine m_ld x L64 7 rfl rv5 rfl dX12_putOne_220 (fun v65 ev65 wv65 => ?_)
              refine m_top (((mm_up (mm_fr (mm_up ev6 eg51 rfl) hF58 rfl) eg64 rfl)).trans ev65.symm) ?_
              refine lv_iconst (v := 1) hx hb dX12_putOne_221 (by decide) ?_
              refine lv_isub hx hb dX12_putOne_222 ?_
              refine lv_topi (fun v66 ev66 => ?_)
              have rv66 : rg (0) (39) v66 := (rg_sub ev66 q45 kc_1 rfl).1
              refine m_st x L64 7 rfl rv5 rfl (rj_7 (rg_w rv66 rfl)) dX12_putOne_223 (fun g67 H67 k67 eg67 L67 => ?_)
              refine lv_aload_n hx hb dX12_putOne_224 rfl (lv_at hl 0 rfl) ?_
              refine m_geta x L67 18 rfl rfl (wm_in uf_50) dX12_putOne_225 ?_
              refine lv_iconst (v := 4) hx hb dX12_putOne_228 (by decide) ?_
              refine lv_iload_n hx hb dX12_putOne_229 rfl (lv_at hl 1 rfl) ?_
              refine lv_imul hx hb dX12_putOne_230 ?_
              refine m_top ev46 ?_
              refine lv_iload_n hx hb dX12_putOne_231 rfl (lv_at hl 2 rfl) ?_
              refine lv_iadd hx hb dX12_putOne_232 ?_
              refine m_top ev47 ?_
              refine lv_bipush (v := 53) hx hb dX12_putOne_233 (by decide) ?_
              refine m_st x L67 18 rfl rv47 rfl (rj_18 (rg_w kc_53 rfl)) dX12_putOne_235 (fun g68 H68 k68 eg68 L68 => ?_)
              refine lv_aload_n hx hb dX12_putOne_236 rfl (lv_at hl 0 rfl) ?_
              refine lv_iload_n hx hb dX12_putOne_237 rfl (lv_at hl 1 rfl) ?_
              refine lv_iload_n hx hb dX12_putOne_238 rfl (lv_at hl 2 rfl) ?_
              refine lv_iload hx hb dX12_putOne_239 (lv_at hl 3 rfl) ?_
              refine m_cv (As := [.int p1, .int p2, .int v48]) (rest := []) x hml L68 (cD_harm l nn X g68 p1 p2 v48 hnn hX (mJ_up (mJ_up (mJ_up hJ58 eg64 rfl) eg67 rfl) eg68 rfl) (rg_w rp1 rfl) (rg_w rp2 rfl) (rg_w rv48 rfl)) (wm_V uc_harm ul_329 ui_harm us_harm u_init) rfl ⟨rfl, rfl⟩ hd_harm ⟨Nat.le_of_ble_eq_true rfl, Nat.le_of_ble_eq_true rfl⟩ rfl hl.1 rfl (lv_room (Nat.le_of_ble_eq_true rfl)) dX12_putOne_241 (fun  g69 H69 k69 hp69 L69 => ?_)
              exact hQ _ _ _ _ _ dX12_putOne_244 L69 ⟨(mFr.tr (mFr.upE (mFr.upE (mFr.upE (mFr.tr (mFr.upE mFr.rf eg51 rfl) hF58 rfl) eg64 rfl) eg67 rfl) eg68 rfl) hp69.1 rfl), hp69.2.1, rD_put (show mFr [6, 7, 17, 18, 19, 20] g g68 from (mFr.upE (mFr.upE (mFr.upE (mFr.tr (mFr.upE mFr.rf eg51 rfl) hF58 rfl) eg64 rfl) eg67 rfl) eg68 rfl)) rfl rfl hp69.2.2⟩
            · skip
              have q70 : rg (0) (52) a161_7_57 := (rg_lt (rg_nle c165_59) ra161_7_57 kc_53).1
              refine lv_aload_n hx hb dX12_putOne_168 rfl (lv_at hl 0 rfl) ?_
              refine m_geta x L58 17 rfl rfl (wm_in uf_47) dX12_putOne_169 ?_
              refine lv_iload hx hb dX12_putOne_172 (lv_at hl 3 rfl) ?_
              refine lv_iload hx hb dX12_putOne_174 (lv_at hl 6 rfl) ?_
              refine lv_iadd hx hb dX12_putOne_176 ?_
              refine lv_topi (fun v71 ev71 => ?_)
              have rv71 : rg (0) (1695) v71 := (rg_add ev71 rv48 q70 rfl).1
              refine lv_aload_n hx hb dX12_putOne_177 rfl (lv_at hl 0 rfl) ?_
              refine m_geta x L58 5 rfl rfl (wm_in uf_14) dX12_putOne_178 ?_
              refine lv_iload hx hb dX12_putOne_181 (lv_at hl 5 rfl) ?_
              refine lv_iload hx hb dX12_putOne_183 (lv_at hl 6 rfl) ?_
              refine lv_iadd hx hb dX12_putOne_185 ?_
              refine lv_topi (fun v72 ev72 => ?_)
              have rv72 : rg (2120) (33919) v72 := (rg_add ev72 rv56 q70 rfl).1
              refine m_ld x L58 5 rfl rv72 rfl dX12_putOne_186 (fun v73 ev73 wv73 => ?_)
              have rv73 : rg (-2147483648) (2147483647) v73 := lj_5 wv73
              refine m_st x L58 17 rfl rv71 rfl (rj_17 (rg_any v73)) dX12_putOne_187 (fun g74 H74 k74 eg74 L74 => ?_)
              obtain ⟨v75, ev75, fv75⟩ := inc_ex a161_7_57 (1) (1 : Int32) (by decide)
              have rv75 : rg (1) (53) v75 := (rg_add ev75 q70 kc_1 rfl).1
              have tv75 := (rg_add ev75 q70 kc_1 rfl).2
              refine lv_iinc (v := v75) (lv' := [(7, .int v75), (0, .ref h0), (1, .int p1), (2, .int p2), (4, .int v48), (5, .int v5), (6, .int v56)]) hx hb dX12_putOne_188 hl (k := 6) rfl fv75 (by decide) rfl (fun ls hl => ?_)
              refine lv_goto (tgt := 161) hx hb dX12_putOne_191 (by decide) ?_
              exact ih58 _ (ms_up tv75 kc_1 q70 rfl rfl) v75 g74 _ _ ls (mFr.upE hF58 eg74 rfl) L74 (mJ_up hJ58 eg74 rfl) (rg_w rv75 rfl) (lv_sub hl [1, 2, 3, 4, 5, 6, 0] rfl) rfl
        exact j161_58 _ (0 : Int32) g51 _ _ ls mFr.rf L51 (mJ_up hJ eg51 rfl) (rg_w kc_0 rfl) (lv_sub hl [5, 6, 7, 3, 2, 1, 0] rfl) rfl
      · skip
        exact absurd c56_52 (by decide)
  · skip
    have q76 : rg (1) (40) v2 := (rg_lt (rg_nle c8_3) kc_0 rv2).2
    refine lv_iconst (v := 0) hx hb dX12_putOne_11 (by decide) ?_
    refine lv_goto (tgt := 33) hx hb dX12_putOne_12 (by decide) ?_
    refine lv_istore_n (lv' := [(3, .int (0 : Int32)), (0, .ref h0), (1, .int p1), (2, .int p2)]) hx hb dX12_putOne_33 rfl hl (by decide) rfl (fun ls hl => ?_)
    refine lv_bipush (v := 53) hx hb dX12_putOne_34 (by decide) ?_
    refine lv_iconst (v := 4) hx hb dX12_putOne_36 (by decide) ?_
    refine lv_iload_n hx hb dX12_putOne_37 rfl (lv_at hl 2 rfl) ?_
    refine lv_imul hx hb dX12_putOne_38 ?_
    refine lv_topi (fun v77 ev77 => ?_)
    have rv77 : rg (0) (28) v77 := (rg_mulL ev77 kc_4 rp1 rfl).1
    refine lv_iload_n hx hb dX12_putOne_39 rfl (lv_at hl 3 rfl) ?_
    refine lv_iadd hx hb dX12_putOne_40 ?_
    refine lv_topi (fun v78 ev78 => ?_)
    have rv78 : rg (0) (31) v78 := (rg_add ev78 rv77 rp2 rfl).1
    refine lv_imul hx hb dX12_putOne_41 ?_
    refine lv_topi (fun v79 ev79 => ?_)
    have rv79 : rg (0) (1643) v79 := (rg_mulL ev79 kc_53 rv78 rfl).1
    refine lv_istore (lv' := [(4, .int v79), (3, .int (0 : Int32)), (0, .ref h0), (1, .int p1), (2, .int p2)]) hx hb dX12_putOne_42 hl (by decide) rfl (fun ls hl => ?_)
    refine lv_aload_n hx hb dX12_putOne_44 rfl (lv_at hl 2 rfl) ?_
    refine lv_dup hx hb dX12_putOne_45 rfl ?_
    refine m_geti x L 19 rfl rfl (wm_in uf_323) dX12_putOne_46 (fun v80 ev80 wv80 => ?_)
    have rv80 : rg (-2147483648) (2147483647) v80 := lj_19 wv80
    refine lv_iconst (v := 1) hx hb dX12_putOne_49 (by decide) ?_
    refine lv_iadd hx hb dX12_putOne_50 ?_
    refine lv_topi (fun v81 ev81 => ?_)
    have rv81 : rg (-2147483648) (2147483647) v81 := rg_any v81
    refine m_puti x L 19 rfl fi_19 (wm_in uf_323) dX12_putOne_51 (rj_19 (rg_any v81)) (fun g82 H82 k82 eg82 L82 => ?_)
    refine lv_iload_n hx hb dX12_putOne_54 rfl (lv_at hl 1 rfl) ?_
    refine lv_iconst (v := 2) hx hb dX12_putOne_55 (by decide) ?_
    refine lv_icmp_ne (tgt := 133) hx hb dX12_putOne_56 (by decide) (fun c56_83 => ?_) (fun c56_83 => ?_)
    · skip
      refine lv_iconst (v := 2) hx hb dX12_putOne_133 (by decide) ?_
      refine lv_iload_n hx hb dX12_putOne_134 rfl (lv_at hl 3 rfl) ?_
      refine lv_imul hx hb dX12_putOne_135 ?_
      refine m_top ev1 ?_
      refine lv_iload_n hx hb dX12_putOne_136 rfl (lv_at hl 1 rfl) ?_
      refine lv_iadd hx hb dX12_putOne_137 ?_
      refine m_top (show v1 = v1 + 0 from (Int32.add_zero v1).symm) ?_
      refine lv_istore (lv' := [(5, .int v1), (4, .int v79), (3, .int (0 : Int32)), (0, .ref h0), (1, .int p1), (2, .int p2)]) hx hb dX12_putOne_138 hl (by decide) rfl (fun ls hl => ?_)
      refine lv_bipush (v := 53) hx hb dX12_putOne_140 (by decide) ?_
      refine lv_bipush (v := 40) hx hb dX12_putOne_142 (by decide) ?_
      refine lv_iload hx hb dX12_putOne_144 (lv_at hl 0 rfl) ?_
      refine lv_imul hx hb dX12_putOne_146 ?_
      refine lv_topi (fun v84 ev84 => ?_)
      have rv84 : rg (0) (560) v84 := (rg_mulL ev84 kc_40 rv1 rfl).1
      refine lv_aload_n hx hb dX12_putOne_147 rfl (lv_at hl 3 rfl) ?_
      refine m_geta x L82 6 rfl rfl (wm_in uf_17) dX12_putOne_148 ?_
      refine lv_iload hx hb dX12_putOne_151 (lv_at hl 0 rfl) ?_
      refine m_ld x L82 6 rfl rv1 rfl dX12_putOne_153 (fun v85 ev85 wv85 => ?_)
      have rv85 : rg (0) (39) v85 := lj_6 wv85
      refine lv_iadd hx hb dX12_putOne_154 ?_
      refine lv_topi (fun v86 ev86 => ?_)
      have rv86 : rg (0) (599) v86 := (rg_add ev86 rv84 rv85 rfl).1
      refine lv_imul hx hb dX12_putOne_155 ?_
      refine lv_topi (fun v87 ev87 => ?_)
      have rv87 : rg (0) (31747) v87 := (rg_mulL ev87 kc_53 rv86 rfl).1
      refine lv_istore (lv' := [(6, .int v87), (5, .int v1), (4, .int v79), (3, .int (0 : Int32)), (0, .ref h0), (1, .int p1), (2, .int p2)]) hx hb dX12_putOne_156 hl (by decide) rfl (fun ls hl => ?_)
      refine lv_iconst (v := 0) hx hb dX12_putOne_158 (by decide) ?_
      refine lv_istore (lv' := [(7, .int (0 : Int32)), (6, .int v87), (5, .int v1), (4, .int v79), (3, .int (0 : Int32)), (0, .ref h0), (1, .int p1), (2, .int p2)]) hx hb dX12_putOne_159 hl (by decide) rfl (fun ls hl => ?_)
      have j161_89 : ∀ (n : Nat) (a161_7_88 : Int32) (g89 : mSt) (H89 : Heap) (k89 : List Loc) (ls : Array Slot), mFr [17] g82 g89 → mL G h0 ad H0 nn X g89 H89 k89 → mJ nn [] g89 → rg (0) (53) a161_7_88 → lv_has ls 8 [(0, .ref h0), (1, .int p1), (2, .int p2), (4, .int v79), (5, .int v1), (6, .int v87), (7, .int a161_7_88)] → ((53 : Int) - a161_7_88.toInt).toNat = n → W p l e rm_putOne s m args below meth c H89 k89 0 0 Q (F0 m 161 ls []) := by
        intro n
        induction n using Nat.strongRecOn with
        | _ n ih89 =>
          intro a161_7_88 g89 H89 k89 ls hF89 L89 hJ89 ra161_7_88 hl hn89
          subst hn89
          refine lv_iload hx hb dX12_putOne_161 (lv_at hl 6 rfl) ?_
          refine lv_bipush (v := 53) hx hb dX12_putOne_163 (by decide) ?_
          refine lv_icmp_ge (tgt := 194) hx hb dX12_putOne_165 (by decide) (fun c165_90 => ?_) (fun c165_90 => ?_)
          · skip
            have q91 : rg (53) (53) a161_7_88 := (rg_le c165_90 kc_53 ra161_7_88).2
            refine lv_aload_n hx hb dX12_putOne_194 rfl (lv_at hl 0 rfl) ?_
            refine m_geta x L89 6 rfl rfl (wm_in uf_17) dX12_putOne_195 ?_
            refine lv_iload hx hb dX12_putOne_198 (lv_at hl 4 rfl) ?_
            refine lv_aload_n hx hb dX12_putOne_200 rfl (lv_at hl 0 rfl) ?_
            refine m_geta x L89 6 rfl rfl (wm_in uf_17) dX12_putOne_201 ?_
            refine lv_iload hx hb dX12_putOne_204 (lv_at hl 4 rfl) ?_
            refine m_ld x L89 6 rfl rv1 rfl dX12_putOne_206 (fun v92 ev92 wv92 => ?_)
            refine m_top (((mm_fr ev85 hF89 rfl)).trans ev92.symm) ?_
            refine lv_iconst (v := 1) hx hb dX12_putOne_207 (by decide) ?_
            refine lv_iadd hx hb dX12_putOne_208 ?_
            refine lv_topi (fun v93 ev93 => ?_)
            have rv93 : rg (1) (40) v93 := (rg_add ev93 rv85 kc_1 rfl).1
            refine lv_bipush (v := 40) hx hb dX12_putOne_209 (by decide) ?_
            refine lv_irem hx hb dX12_putOne_211 (by decide) ?_
            refine lv_topi (fun v94 ev94 => ?_)
            have rv94 : rg (0) (39) v94 := (rg_rem ev94 rv93 kc_40 rfl).1
            refine m_st x L89 6 rfl rv1 rfl (rj_6 (rg_w rv94 rfl)) dX12_putOne_212 (fun g95 H95 k95 eg95 L95 => ?_)
            refine lv_aload_n hx hb dX12_putOne_213 rfl (lv_at hl 0 rfl) ?_
            refine m_geta x L95 7 rfl rfl (wm_in uf_20) dX12_putOne_214 ?_
            refine lv_iload hx hb dX12_putOne_217 (lv_at hl 4 rfl) ?_
            refine lv_dup2_11 hx hb dX12_putOne_219 rfl rfl ?_
            refine m_ld x L95 7 rfl rv1 rfl dX12_putOne_220 (fun v96 ev96 wv96 => ?_)
            refine m_top (((mm_up (mm_fr (mm_up ev2 eg82 rfl) hF89 rfl) eg95 rfl)).trans ev96.symm) ?_
            refine lv_iconst (v := 1) hx hb dX12_putOne_221 (by decide) ?_
            refine lv_isub hx hb dX12_putOne_222 ?_
            refine lv_topi (fun v97 ev97 => ?_)
            have rv97 : rg (0) (39) v97 := (rg_sub ev97 q76 kc_1 rfl).1
            refine m_st x L95 7 rfl rv1 rfl (rj_7 (rg_w rv97 rfl)) dX12_putOne_223 (fun g98 H98 k98 eg98 L98 => ?_)
            refine lv_aload_n hx hb dX12_putOne_224 rfl (lv_at hl 0 rfl) ?_
            refine m_geta x L98 18 rfl rfl (wm_in uf_50) dX12_putOne_225 ?_
            refine lv_iconst (v := 4) hx hb dX12_putOne_228 (by decide) ?_
            refine lv_iload_n hx hb dX12_putOne_229 rfl (lv_at hl 1 rfl) ?_
            refine lv_imul hx hb dX12_putOne_230 ?_
            refine m_top ev77 ?_
            refine lv_iload_n hx hb dX12_putOne_231 rfl (lv_at hl 2 rfl) ?_
            refine lv_iadd hx hb dX12_putOne_232 ?_
            refine m_top ev78 ?_
            refine lv_bipush (v := 53) hx hb dX12_putOne_233 (by decide) ?_
            refine m_st x L98 18 rfl rv78 rfl (rj_18 (rg_w kc_53 rfl)) dX12_putOne_235 (fun g99 H99 k99 eg99 L99 => ?_)
            refine lv_aload_n hx hb dX12_putOne_236 rfl (lv_at hl 0 rfl) ?_
            refine lv_iload_n hx hb dX12_putOne_237 rfl (lv_at hl 1 rfl) ?_
            refine lv_iload_n hx hb dX12_putOne_238 rfl (lv_at hl 2 rfl) ?_
            refine lv_iload hx hb dX12_putOne_239 (lv_at hl 3 rfl) ?_
            refine m_cv (As := [.int p1, .int p2, .int v79]) (rest := []) x hml L99 (cD_harm l nn X g99 p1 p2 v79 hnn hX (mJ_up (mJ_up (mJ_up hJ89 eg95 rfl) eg98 rfl) eg99 rfl) (rg_w rp1 rfl) (rg_w rp2 rfl) (rg_w rv79 rfl)) (wm_V uc_harm ul_329 ui_harm us_harm u_init) rfl ⟨rfl, rfl⟩ hd_harm ⟨Nat.le_of_ble_eq_true rfl, Nat.le_of_ble_eq_true rfl⟩ rfl hl.1 rfl (lv_room (Nat.le_of_ble_eq_true rfl)) dX12_putOne_241 (fun  g100 H100 k100 hp100 L100 => ?_)
            exact hQ _ _ _ _ _ dX12_putOne_244 L100 ⟨(mFr.tr (mFr.upE (mFr.upE (mFr.upE (mFr.tr (mFr.upE mFr.rf eg82 rfl) hF89 rfl) eg95 rfl) eg98 rfl) eg99 rfl) hp100.1 rfl), hp100.2.1, rD_put (show mFr [6, 7, 17, 18, 19, 20] g g99 from (mFr.upE (mFr.upE (mFr.upE (mFr.tr (mFr.upE mFr.rf eg82 rfl) hF89 rfl) eg95 rfl) eg98 rfl) eg99 rfl)) rfl rfl hp100.2.2⟩
          · skip
            have q101 : rg (0) (52) a161_7_88 := (rg_lt (rg_nle c165_90) ra161_7_88 kc_53).1
            refine lv_aload_n hx hb dX12_putOne_168 rfl (lv_at hl 0 rfl) ?_
            refine m_geta x L89 17 rfl rfl (wm_in uf_47) dX12_putOne_169 ?_
            refine lv_iload hx hb dX12_putOne_172 (lv_at hl 3 rfl) ?_
            refine lv_iload hx hb dX12_putOne_174 (lv_at hl 6 rfl) ?_
            refine lv_iadd hx hb dX12_putOne_176 ?_
            refine lv_topi (fun v102 ev102 => ?_)
            have rv102 : rg (0) (1695) v102 := (rg_add ev102 rv79 q101 rfl).1
            refine lv_aload_n hx hb dX12_putOne_177 rfl (lv_at hl 0 rfl) ?_
            refine m_geta x L89 5 rfl rfl (wm_in uf_14) dX12_putOne_178 ?_
            refine lv_iload hx hb dX12_putOne_181 (lv_at hl 5 rfl) ?_
            refine lv_iload hx hb dX12_putOne_183 (lv_at hl 6 rfl) ?_
            refine lv_iadd hx hb dX12_putOne_185 ?_
            refine lv_topi (fun v103 ev103 => ?_)
            have rv103 : rg (0) (31799) v103 := (rg_add ev103 rv87 q101 rfl).1
            refine m_ld x L89 5 rfl rv103 rfl dX12_putOne_186 (fun v104 ev104 wv104 => ?_)
            have rv104 : rg (-2147483648) (2147483647) v104 := lj_5 wv104
            refine m_st x L89 17 rfl rv102 rfl (rj_17 (rg_any v104)) dX12_putOne_187 (fun g105 H105 k105 eg105 L105 => ?_)
            obtain ⟨v106, ev106, fv106⟩ := inc_ex a161_7_88 (1) (1 : Int32) (by decide)
            have rv106 : rg (1) (53) v106 := (rg_add ev106 q101 kc_1 rfl).1
            have tv106 := (rg_add ev106 q101 kc_1 rfl).2
            refine lv_iinc (v := v106) (lv' := [(7, .int v106), (0, .ref h0), (1, .int p1), (2, .int p2), (4, .int v79), (5, .int v1), (6, .int v87)]) hx hb dX12_putOne_188 hl (k := 6) rfl fv106 (by decide) rfl (fun ls hl => ?_)
            refine lv_goto (tgt := 161) hx hb dX12_putOne_191 (by decide) ?_
            exact ih89 _ (ms_up tv106 kc_1 q101 rfl rfl) v106 g105 _ _ ls (mFr.upE hF89 eg105 rfl) L105 (mJ_up hJ89 eg105 rfl) (rg_w rv106 rfl) (lv_sub hl [1, 2, 3, 4, 5, 6, 0] rfl) rfl
      exact j161_89 _ (0 : Int32) g82 _ _ ls mFr.rf L82 (mJ_up hJ eg82 rfl) (rg_w kc_0 rfl) (lv_sub hl [5, 6, 7, 3, 2, 1, 0] rfl) rfl
    · skip
      exact absurd c56_83 (by decide)
theorem cD_putOne (l : Launch) {G : mG} {h0 : Nat} {ad : Nat → Nat} (nn X : Int) (g : mSt) (p1 : Int32) (p2 : Int32) (hnn : 2 ≤ nn ∧ nn ≤ 4) (hX : 0 ≤ X ∧ X ≤ 2000000000) (hJ : mJ nn [] g) (rp1 : rg (0) (7) p1) (rp2 : rg (0) (3) p2) : Met l yX12_putOne (wm (Cond.code yX12_putOne cX12_putOne 8 none)) rm_putOne (va_Pc [.ref h0, .int p1, .int p2] (mPre G h0 ad nn X g)) (mQv G h0 ad nn X (fun g1 => mFr [6, 7, 12, 13, 14, 15, 16, 17, 18, 19, 20] g g1 ∧ mJ nn [] g1 ∧ hmD p1.toInt.toNat g g1)) 0 0 (mA h0 ad) := by
  refine Met.ofW (cc := cX12_putOne) (maxL := 8) (ret := none) (by decide) rfl ?_
  intro p e s m args below meth c s₁ B hml hv
  obtain ⟨rfl, hv⟩ := hv
  have hr := B.returns
  have hlocks := B.notSynchronized
  obtain ⟨x, L⟩ := m_start B rfl wm_X hv
  have hl := lv_entry ([.ref h0, .int p1, .int p2]) (n := 8) (Nat.le_of_ble_eq_true rfl)
  rw [lg_entry_eq]
  generalize (lg_sl ([.ref h0, .int p1, .int p2]) ++ List.replicate (8 - (lg_sl ([.ref h0, .int p1, .int p2])).length) Slot.unset).toArray = ls at hl ⊢
  exact wD_putOne x hml L hnn hX p1 p2 hJ rp1 rp2 hl (fun pc' ls' g1 H1 locs1 hdg L hp => m_vret x L hr hlocks (Int.le_refl _) hp hdg)
set_option maxHeartbeats 4000000 in
set_option maxRecDepth 100000 in
theorem wD_oneTick {p : Program} {l : Launch} {e : Env} {s : State} {m : MethodId} {args : Array Value} {below : List Frame} {meth : Method} {c : Code} {H : Heap} {locs : List Loc} {Q : State → Prop} {ls : Array Slot} {G : mG} {h0 : Nat} {ad : Nat → Nat} {g : mSt} {H0 : Heap} {nn X : Int} (x : mX p c cX12_oneTick s args (wm (Cond.code yX12_oneTick cX12_oneTick 5 none)) m G h0 ad) (hml : c.maxLocals = 5) (L : mL G h0 ad H0 nn X g H locs) (hnn : 2 ≤ nn ∧ nn ≤ 4) (hX : 0 ≤ X ∧ (X + 1696) ≤ 2000000000) (hJ : mJ nn [] g) (hl : lv_has ls 5 [(0, .ref h0)]) (hQ : ∀ (pc' : Nat) (ls' : Array Slot) (g1 : mSt) (H1 : Heap) (locs1 : List Loc), decode cX12_oneTick pc' = .ok (.return_, 1) → mL G h0 ad H0 nn (X + 1696) g1 H1 locs1 → (mFr [1, 4, 5, 6, 7, 8, 9, 10, 11, 12, 13, 14, 15, 16, 17, 18, 19, 20, 21, 22, 23, 24, 25, 26, 27, 28, 29, 30, 31, 32, 33, 34, 35, 36, 37, 38, 39, 40, 41, 42, 43, 44, 45, 46, 47, 48, 49, 50, 51, 52, 53, 54, 55, 56, 57, 58, 59, 60, 61, 62, 63, 64, 65, 66, 67, 68, 69, 70, 71, 72, 73, 74, 75, 76, 77, 78, 79, 80, 81, 84, 85, 86, 87, 88, 89, 90, 91] g g1 ∧ mJ nn [] g1 ∧ otP (2 * nn) g g1) → W p l e rm_oneTick s m args below meth c H1 locs1 0 0 Q (F0 m pc' ls' [])) : W p l e rm_oneTick s m args below meth c H locs 0 0 Q (F0 m 0 ls []) := by
  have hx := x.1
  have hb := x.2.1
  refine lv_aload_n hx hb dX12_oneTick_0 rfl (lv_at hl 0 rfl) ?_
  refine lv_dup hx hb dX12_oneTick_1 rfl ?_
  refine m_geti x L 1 rfl rfl (wm_in uf_378) dX12_oneTick_2 (fun v1 ev1 wv1 => ?_)
  have rv1 : rg (-2147483648) (2147483647) v1 := lj_1 wv1
  have uv1 : (-2147483648 : Int) ≤ v1.toInt ∧ v1.toInt ≤ 2147483647 := rv1
  have sv1 := congrArg Int32.toInt ev1
  refine lv_iconst (v := 1) hx hb dX12_oneTick_5 (by decide) ?_
  refine lv_iadd hx hb dX12_oneTick_6 ?_
  refine lv_topi (fun v2 ev2 => ?_)
  have rv2 : rg (-2147483648) (2147483647) v2 := rg_any v2
  have uv2 : (-2147483648 : Int) ≤ v2.toInt ∧ v2.toInt ≤ 2147483647 := rv2
  refine m_puti x L 1 rfl fi_1 (wm_in uf_378) dX12_oneTick_7 (rj_1 (rg_any v2)) (fun g3 H3 k3 eg3 L3 => ?_)
  refine lv_iconst (v := 0) hx hb dX12_oneTick_10 (by decide) ?_
  refine lv_istore_n (lv' := [(1, .int (0 : Int32)), (0, .ref h0)]) hx hb dX12_oneTick_11 rfl hl (by decide) rfl (fun ls hl => ?_)
  have j12_5 : ∀ (n : Nat) (a12_1_4 : Int32) (g5 : mSt) (H5 : Heap) (k5 : List Loc) (ls : Array Slot), mFr [4, 5, 7, 8, 9, 10, 11, 40, 41, 42, 43, 44, 45, 46, 47, 48, 49, 52, 53, 56, 57, 58, 59, 60, 61, 62, 63, 64, 67, 68, 74, 75, 76, 77, 86, 87, 89, 90, 91] g3 g5 → mL G h0 ad H0 nn X g5 H5 k5 → mJ nn [] g5 → rg (0) (8) a12_1_4 → lv_has ls 5 [(0, .ref h0), (1, .int a12_1_4)] → ((8 : Int) - a12_1_4.toInt).toNat = n → W p l e rm_oneTick s m args below meth c H5 k5 0 0 Q (F0 m 12 ls []) := by
    intro n
    induction n using Nat.strongRecOn with
    | _ n ih5 =>
      intro a12_1_4 g5 H5 k5 ls hF5 L5 hJ5 ra12_1_4 hl hn5
      subst hn5
      have ua12_1_4 : (0 : Int) ≤ a12_1_4.toInt ∧ a12_1_4.toInt ≤ 8 := ra12_1_4
      refine lv_iload_n hx hb dX12_oneTick_12 rfl (lv_at hl 1 rfl) ?_
      refine lv_iconst (v := 2) hx hb dX12_oneTick_13 (by decide) ?_
      refine lv_aload_n hx hb dX12_oneTick_14 rfl (lv_at hl 0 rfl) ?_
      refine m_geti x L5 0 rfl rfl (wm_in uf_260) dX12_oneTick_15 (fun v6 ev6 wv6 => ?_)
      have rv6 : rg 2 4 v6 := rg_nn hnn wv6
      have tv6 : v6.toInt = nn := rg_n0 wv6
      have lv6 : v6.toInt = 1 * nn + 0 := by omega
      have uv6 : (2 : Int) ≤ v6.toInt ∧ v6.toInt ≤ 4 := rv6
      have sv6 : v6.toInt = (g 0 0).toInt := congrArg Int32.toInt (ev6.trans (congrFun ((show mFr [1, 4, 5, 6, 7, 8, 9, 10, 11, 12, 13, 14, 15, 16, 17, 18, 19, 20, 21, 22, 23, 24, 25, 26, 27, 28, 29, 30, 31, 32, 33, 34, 35, 36, 37, 38, 39, 40, 41, 42, 43, 44, 45, 46, 47, 48, 49, 50, 51, 52, 53, 54, 55, 56, 57, 58, 59, 60, 61, 62, 63, 64, 65, 66, 67, 68, 69, 70, 71, 72, 73, 74, 75, 76, 77, 78, 79, 80, 81, 84, 85, 86, 87, 88, 89, 90, 91] g g5 from (mFr.tr (mFr.upE mFr.rf eg3 rfl) hF5 rfl)).at 0 rfl) _))
      refine lv_imul hx hb dX12_oneTick_18 ?_
      refine lv_topi (fun v7 ev7 => ?_)
      have rv7 : rg (4) (8) v7 := (rg_mulL ev7 kc_2 rv6 rfl).1
      have tv7 := (rg_mulL ev7 kc_2 rv6 rfl).2
      have y8 : (2 : Int32).toInt = 2 := by decide
      have lv7 : v7.toInt = 2 * nn + 0 := by have := lv6; have : (2 : Int32).toInt = 2 := (by decide); omega
      have uv7 : (4 : Int) ≤ v7.toInt ∧ v7.toInt ≤ 8 := rv7
      refine lv_icmp_ge (tgt := 43) hx hb dX12_oneTick_19 (by decide) (fun c19_9 => ?_) (fun c19_9 => ?_)
      · skip
        have ic19_9 := Int32.le_iff_toInt_le.mp c19_9
        have q10 : rg (4) (8) a12_1_4 := (rg_le c19_9 rv7 ra12_1_4).2
        have uq10 : (4 : Int) ≤ a12_1_4.toInt ∧ a12_1_4.toInt ≤ 8 := q10
        refine lv_iconst (v := 0) hx hb dX12_oneTick_43 (by decide) ?_
        refine lv_istore_n (lv' := [(1, .int (0 : Int32)), (0, .ref h0)]) hx hb dX12_oneTick_44 rfl hl (by decide) rfl (fun ls hl => ?_)
        have j45_12 : ∀ (n : Nat) (a45_1_11 : Int32) (g12 : mSt) (H12 : Heap) (k12 : List Loc) (ls : Array Slot), mFr [4, 5, 7, 8, 9, 10, 11, 84, 85, 86, 87] g5 g12 → mL G h0 ad H0 nn X g12 H12 k12 → mJ nn [] g12 → rg (0) (4) a45_1_11 → lv_has ls 5 [(0, .ref h0), (1, .int a45_1_11)] → ((4 : Int) - a45_1_11.toInt).toNat = n → W p l e rm_oneTick s m args below meth c H12 k12 0 0 Q (F0 m 45 ls []) := by
          intro n
          induction n using Nat.strongRecOn with
          | _ n ih12 =>
            intro a45_1_11 g12 H12 k12 ls hF12 L12 hJ12 ra45_1_11 hl hn12
            subst hn12
            have ua45_1_11 : (0 : Int) ≤ a45_1_11.toInt ∧ a45_1_11.toInt ≤ 4 := ra45_1_11
            refine lv_iload_n hx hb dX12_oneTick_45 rfl (lv_at hl 1 rfl) ?_
            refine lv_aload_n hx hb dX12_oneTick_46 rfl (lv_at hl 0 rfl) ?_
            refine m_geti x L12 0 rfl rfl (wm_in uf_260) dX12_oneTick_47 (fun v13 ev13 wv13 => ?_)
            refine m_top (((mm_fr ev6 hF12 rfl)).trans ev13.symm) ?_
            refine lv_icmp_ge (tgt := 98) hx hb dX12_oneTick_50 (by decide) (fun c50_14 => ?_) (fun c50_14 => ?_)
            · skip
              have ic50_14 := Int32.le_iff_toInt_le.mp c50_14
              have q15 : rg (2) (4) a45_1_11 := (rg_le c50_14 rv6 ra45_1_11).2
              have uq15 : (2 : Int) ≤ a45_1_11.toInt ∧ a45_1_11.toInt ≤ 4 := q15
              refine lv_iconst (v := 0) hx hb dX12_oneTick_98 (by decide) ?_
              refine lv_istore_n (lv' := [(1, .int (0 : Int32)), (0, .ref h0)]) hx hb dX12_oneTick_99 rfl hl (by decide) rfl (fun ls hl => ?_)
              have j100_17 : ∀ (n : Nat) (a100_1_16 : Int32) (g17 : mSt) (H17 : Heap) (k17 : List Loc) (ls : Array Slot), mFr [6, 7, 12, 13, 14, 15, 16, 17, 18, 19, 20] g12 g17 → mL G h0 ad H0 nn X g17 H17 k17 → mJ nn [] g17 → (otP a100_1_16.toInt g12 g17 ∧ a100_1_16.toInt ≤ 2 * nn) → rg (0) (8) a100_1_16 → lv_has ls 5 [(0, .ref h0), (1, .int a100_1_16)] → ((8 : Int) - a100_1_16.toInt).toNat = n → W p l e rm_oneTick s m args below meth c H17 k17 0 0 Q (F0 m 100 ls []) := by
                intro n
                induction n using Nat.strongRecOn with
                | _ n ih17 =>
                  intro a100_1_16 g17 H17 k17 ls hF17 L17 hJ17 hR17 ra100_1_16 hl hn17
                  subst hn17
                  have ua100_1_16 : (0 : Int) ≤ a100_1_16.toInt ∧ a100_1_16.toInt ≤ 8 := ra100_1_16
                  refine lv_iload_n hx hb dX12_oneTick_100 rfl (lv_at hl 1 rfl) ?_
                  refine lv_iconst (v := 2) hx hb dX12_oneTick_101 (by decide) ?_
                  refine lv_aload_n hx hb dX12_oneTick_102 rfl (lv_at hl 0 rfl) ?_
                  refine m_geti x L17 0 rfl rfl (wm_in uf_260) dX12_oneTick_103 (fun v18 ev18 wv18 => ?_)
                  refine m_top (((mm_fr (mm_fr ev6 hF12 rfl) hF17 rfl)).trans ev18.symm) ?_
                  refine lv_imul hx hb dX12_oneTick_106 ?_
                  refine m_top ev7 ?_
                  refine lv_icmp_ge (tgt := 135) hx hb dX12_oneTick_107 (by decide) (fun c107_19 => ?_) (fun c107_19 => ?_)
                  · skip
                    have ic107_19 := Int32.le_iff_toInt_le.mp c107_19
                    have q20 : rg (4) (8) a100_1_16 := (rg_le c107_19 rv7 ra100_1_16).2
                    have uq20 : (4 : Int) ≤ a100_1_16.toInt ∧ a100_1_16.toInt ≤ 8 := q20
                    refine lv_iconst (v := 0) hx hb dX12_oneTick_135 (by decide) ?_
                    refine lv_istore_n (lv' := [(1, .int (0 : Int32)), (0, .ref h0)]) hx hb dX12_oneTick_136 rfl hl (by decide) rfl (fun ls hl => ?_)
                    have j137_22 : ∀ (n : Nat) (a137_1_21 : Int32) (g22 : mSt) (H22 : Heap) (k22 : List Loc) (ls : Array Slot), mFr [4, 5, 7, 8, 9, 10, 11, 21, 22, 23, 24, 25, 26, 27, 28, 29, 30, 31, 32, 33, 34, 35, 36, 37, 38, 39, 40, 41, 42, 43, 44, 45, 46, 47, 48, 49, 50, 51, 52, 53, 54, 55, 56, 57, 58, 59, 60, 64, 65, 66, 67, 68, 69, 70, 71, 72, 73, 74, 75, 76, 77, 78, 79, 80, 81, 86, 87, 88, 89, 90, 91] g17 g22 → mL G h0 ad H0 nn (X + (212 * a137_1_21.toInt)) g22 H22 k22 → mJ nn [] g22 → rg (0) (8) a137_1_21 → lv_has ls 5 [(0, .ref h0), (1, .int a137_1_21)] → ((8 : Int) - a137_1_21.toInt).toNat = n → W p l e rm_oneTick s m args below meth c H22 k22 0 0 Q (F0 m 137 ls []) := by
                      intro n
                      induction n using Nat.strongRecOn with
                      | _ n ih22 =>
                        intro a137_1_21 g22 H22 k22 ls hF22 L22 hJ22 ra137_1_21 hl hn22
                        subst hn22
                        have ua137_1_21 : (0 : Int) ≤ a137_1_21.toInt ∧ a137_1_21.toInt ≤ 8 := ra137_1_21
                        refine lv_iload_n hx hb dX12_oneTick_137 rfl (lv_at hl 1 rfl) ?_
                        refine lv_iconst (v := 2) hx hb dX12_oneTick_138 (by decide) ?_
                        refine lv_aload_n hx hb dX12_oneTick_139 rfl (lv_at hl 0 rfl) ?_
                        refine m_geti x L22 0 rfl rfl (wm_in uf_260) dX12_oneTick_140 (fun v23 ev23 wv23 => ?_)
                        refine m_top (((mm_fr (mm_fr (mm_fr ev6 hF12 rfl) hF17 rfl) hF22 rfl)).trans ev23.symm) ?_
                        refine lv_imul hx hb dX12_oneTick_143 ?_
                        refine m_top ev7 ?_
                        refine lv_icmp_ge (tgt := 213) hx hb dX12_oneTick_144 (by decide) (fun c144_24 => ?_) (fun c144_24 => ?_)
                        · skip
                          have ic144_24 := Int32.le_iff_toInt_le.mp c144_24
                          have q25 : rg (4) (8) a137_1_21 := (rg_le c144_24 rv7 ra137_1_21).2
                          have uq25 : (4 : Int) ≤ a137_1_21.toInt ∧ a137_1_21.toInt ≤ 8 := q25
                          exact hQ _ _ _ _ _ dX12_oneTick_213 (mL.mono L22 (by omega)) ⟨(mFr.tr (mFr.tr (mFr.tr (mFr.tr (mFr.upE mFr.rf eg3 rfl) hF5 rfl) hF12 rfl) hF17 rfl) hF22 rfl), hJ22, hR17.1.fr (fun q => (rDm_fr hF12 rfl rfl q).trans ((rDm_fr hF5 rfl rfl q).trans (rDm_fr (show mFr [1] g g3 from mFr.upE mFr.rf eg3 rfl) rfl rfl q))) (rDm_fr hF22 rfl rfl) (by have := lv7; have := hR17.2; omega)⟩
                        · skip
                          have b2a137_1_21_26 : a137_1_21.toInt < 2 * nn := by have := Int32.lt_iff_toInt_lt.mp (rg_nle c144_24); have := lv7; omega
                          have ic144_24 := Int32.lt_iff_toInt_lt.mp (rg_nle c144_24)
                          have q27 : rg (0) (7) a137_1_21 := (rg_lt (rg_nle c144_24) ra137_1_21 rv7).1
                          have uq27 : (0 : Int) ≤ a137_1_21.toInt ∧ a137_1_21.toInt ≤ 7 := q27
                          refine lv_iconst (v := 0) hx hb dX12_oneTick_147 (by decide) ?_
                          refine lv_istore_n (lv' := [(2, .int (0 : Int32)), (0, .ref h0), (1, .int a137_1_21)]) hx hb dX12_oneTick_148 rfl hl (by decide) rfl (fun ls hl => ?_)
                          have j149_29 : ∀ (n : Nat) (a149_2_28 : Int32) (g29 : mSt) (H29 : Heap) (k29 : List Loc) (ls : Array Slot), mFr [4, 5, 7, 8, 9, 10, 11, 21, 22, 23, 24, 25, 26, 27, 28, 29, 30, 31, 32, 33, 34, 35, 36, 37, 38, 39, 40, 41, 42, 43, 44, 45, 46, 47, 48, 49, 50, 51, 52, 53, 54, 55, 56, 57, 58, 59, 60, 64, 65, 66, 67, 68, 69, 70, 71, 72, 73, 74, 75, 76, 77, 78, 79, 80, 81, 86, 87, 88, 89, 90, 91] g22 g29 → mL G h0 ad H0 nn (X + (212 * a137_1_21.toInt + 53 * a149_2_28.toInt)) g29 H29 k29 → mJ nn [] g29 → rg (0) (4) a149_2_28 → lv_has ls 5 [(0, .ref h0), (1, .int a137_1_21), (2, .int a149_2_28)] → ((4 : Int) - a149_2_28.toInt).toNat = n → W p l e rm_oneTick s m args below meth c H29 k29 0 0 Q (F0 m 149 ls []) := by
                            intro n
                            induction n using Nat.strongRecOn with
                            | _ n ih29 =>
                              intro a149_2_28 g29 H29 k29 ls hF29 L29 hJ29 ra149_2_28 hl hn29
                              subst hn29
                              have ua149_2_28 : (0 : Int) ≤ a149_2_28.toInt ∧ a149_2_28.toInt ≤ 4 := ra149_2_28
                              refine lv_iload_n hx hb dX12_oneTick_149 rfl (lv_at hl 2 rfl) ?_
                              refine lv_iconst (v := 4) hx hb dX12_oneTick_150 (by decide) ?_
                              refine lv_icmp_ge (tgt := 207) hx hb dX12_oneTick_151 (by decide) (fun c151_30 => ?_) (fun c151_30 => ?_)
                              · skip
                                have ic151_30 := Int32.le_iff_toInt_le.mp c151_30
                                have q31 : rg (4) (4) a149_2_28 := (rg_le c151_30 kc_4 ra149_2_28).2
                                have uq31 : (4 : Int) ≤ a149_2_28.toInt ∧ a149_2_28.toInt ≤ 4 := q31
                                obtain ⟨v32, ev32, fv32⟩ := inc_ex a137_1_21 (1) (1 : Int32) (by decide)
                                have rv32 : rg (1) (8) v32 := (rg_add ev32 q27 kc_1 rfl).1
                                have tv32 := (rg_add ev32 q27 kc_1 rfl).2
                                have yv32 : (1 : Int32).toInt = 1 := by decide
                                refine lv_iinc (v := v32) (lv' := [(1, .int v32), (0, .ref h0), (2, .int a149_2_28)]) hx hb dX12_oneTick_207 hl (k := 1) rfl fv32 (by decide) rfl (fun ls hl => ?_)
                                refine lv_goto (tgt := 137) hx hb dX12_oneTick_210 (by decide) ?_
                                exact ih22 _ (ms_up tv32 kc_1 q27 rfl rfl) v32 g29 _ _ ls (mFr.tr hF22 hF29 rfl) (mL.mono L29 (by omega)) hJ29 (rg_w rv32 rfl) (lv_sub hl [1, 0] rfl) rfl
                              · skip
                                have ic151_30 := Int32.lt_iff_toInt_lt.mp (rg_nle c151_30)
                                have q33 : rg (0) (3) a149_2_28 := (rg_lt (rg_nle c151_30) ra149_2_28 kc_4).1
                                have uq33 : (0 : Int) ≤ a149_2_28.toInt ∧ a149_2_28.toInt ≤ 3 := q33
                                refine lv_bipush (v := 53) hx hb dX12_oneTick_154 (by decide) ?_
                                refine lv_iconst (v := 4) hx hb dX12_oneTick_156 (by decide) ?_
                                refine lv_iload_n hx hb dX12_oneTick_157 rfl (lv_at hl 1 rfl) ?_
                                refine lv_imul hx hb dX12_oneTick_158 ?_
                                refine lv_topi (fun v34 ev34 => ?_)
                                have rv34 : rg (0) (28) v34 := (rg_mulL ev34 kc_4 q27 rfl).1
                                have tv34 := (rg_mulL ev34 kc_4 q27 rfl).2
                                have y35 : (4 : Int32).toInt = 4 := by decide
                                have b8v34 : v34.toInt < 8 * nn := by have := b2a137_1_21_26; have : (4 : Int32).toInt = 4 := (by decide); omega
                                have uv34 : (0 : Int) ≤ v34.toInt ∧ v34.toInt ≤ 28 := rv34
                                refine lv_iload_n hx hb dX12_oneTick_159 rfl (lv_at hl 2 rfl) ?_
                                refine lv_iadd hx hb dX12_oneTick_160 ?_
                                refine lv_topi (fun v36 ev36 => ?_)
                                have rv36 : rg (0) (31) v36 := (rg_add ev36 rv34 q33 rfl).1
                                have tv36 := (rg_add ev36 rv34 q33 rfl).2
                                have uv36 : (0 : Int) ≤ v36.toInt ∧ v36.toInt ≤ 31 := rv36
                                refine lv_imul hx hb dX12_oneTick_161 ?_
                                refine lv_topi (fun v37 ev37 => ?_)
                                have rv37 : rg (0) (1643) v37 := (rg_mulL ev37 kc_53 rv36 rfl).1
                                have tv37 := (rg_mulL ev37 kc_53 rv36 rfl).2
                                have y38 : (53 : Int32).toInt = 53 := by decide
                                have uv37 : (0 : Int) ≤ v37.toInt ∧ v37.toInt ≤ 1643 := rv37
                                refine lv_istore_n (lv' := [(3, .int v37), (0, .ref h0), (1, .int a137_1_21), (2, .int a149_2_28)]) hx hb dX12_oneTick_162 rfl hl (by decide) rfl (fun ls hl => ?_)
                                refine lv_iconst (v := 0) hx hb dX12_oneTick_163 (by decide) ?_
                                refine lv_istore (lv' := [(4, .int (0 : Int32)), (3, .int v37), (0, .ref h0), (1, .int a137_1_21), (2, .int a149_2_28)]) hx hb dX12_oneTick_164 hl (by decide) rfl (fun ls hl => ?_)
                                have j166_40 : ∀ (n : Nat) (a166_4_39 : Int32) (g40 : mSt) (H40 : Heap) (k40 : List Loc) (ls : Array Slot), mFr [4, 5, 7, 8, 9, 10, 11, 21, 22, 23, 24, 25, 26, 27, 28, 29, 30, 31, 32, 33, 34, 35, 36, 37, 38, 39, 40, 41, 42, 43, 44, 45, 46, 47, 48, 49, 50, 51, 52, 53, 54, 55, 56, 57, 58, 59, 60, 64, 65, 66, 67, 68, 69, 70, 71, 72, 73, 74, 75, 76, 77, 78, 79, 80, 81, 86, 87, 88, 89, 90, 91] g29 g40 → mL G h0 ad H0 nn (X + (212 * a137_1_21.toInt + 53 * a149_2_28.toInt + a166_4_39.toInt)) g40 H40 k40 → mJ nn [] g40 → rg (0) (53) a166_4_39 → lv_has ls 5 [(0, .ref h0), (1, .int a137_1_21), (2, .int a149_2_28), (3, .int v37), (4, .int a166_4_39)] → ((53 : Int) - a166_4_39.toInt).toNat = n → W p l e rm_oneTick s m args below meth c H40 k40 0 0 Q (F0 m 166 ls []) := by
                                  intro n
                                  induction n using Nat.strongRecOn with
                                  | _ n ih40 =>
                                    intro a166_4_39 g40 H40 k40 ls hF40 L40 hJ40 ra166_4_39 hl hn40
                                    subst hn40
                                    have ua166_4_39 : (0 : Int) ≤ a166_4_39.toInt ∧ a166_4_39.toInt ≤ 53 := ra166_4_39
                                    refine lv_iload hx hb dX12_oneTick_166 (lv_at hl 4 rfl) ?_
                                    refine lv_aload_n hx hb dX12_oneTick_168 rfl (lv_at hl 0 rfl) ?_
                                    refine m_geta x L40 18 rfl rfl (wm_in uf_50) dX12_oneTick_169 ?_
                                    refine lv_iconst (v := 4) hx hb dX12_oneTick_172 (by decide) ?_
                                    refine lv_iload_n hx hb dX12_oneTick_173 rfl (lv_at hl 1 rfl) ?_
                                    refine lv_imul hx hb dX12_oneTick_174 ?_
                                    refine m_top ev34 ?_
                                    refine lv_iload_n hx hb dX12_oneTick_175 rfl (lv_at hl 2 rfl) ?_
                                    refine lv_iadd hx hb dX12_oneTick_176 ?_
                                    refine m_top ev36 ?_
                                    refine m_ld x L40 18 rfl rv36 rfl dX12_oneTick_177 (fun v41 ev41 wv41 => ?_)
                                    have rv41 : rg (0) (53) v41 := lj_18 wv41
                                    have uv41 : (0 : Int) ≤ v41.toInt ∧ v41.toInt ≤ 53 := rv41
                                    refine lv_icmp_ge (tgt := 201) hx hb dX12_oneTick_178 (by decide) (fun c178_42 => ?_) (fun c178_42 => ?_)
                                    · skip
                                      have ic178_42 := Int32.le_iff_toInt_le.mp c178_42
                                      obtain ⟨v43, ev43, fv43⟩ := inc_ex a149_2_28 (1) (1 : Int32) (by decide)
                                      have rv43 : rg (1) (4) v43 := (rg_add ev43 q33 kc_1 rfl).1
                                      have tv43 := (rg_add ev43 q33 kc_1 rfl).2
                                      have yv43 : (1 : Int32).toInt = 1 := by decide
                                      refine lv_iinc (v := v43) (lv' := [(2, .int v43), (0, .ref h0), (1, .int a137_1_21), (3, .int v37), (4, .int a166_4_39)]) hx hb dX12_oneTick_201 hl (k := 2) rfl fv43 (by decide) rfl (fun ls hl => ?_)
                                      refine lv_goto (tgt := 149) hx hb dX12_oneTick_204 (by decide) ?_
                                      exact ih29 _ (ms_up tv43 kc_1 q33 rfl rfl) v43 g40 _ _ ls (mFr.tr hF29 hF40 rfl) (mL.mono L40 (by omega)) hJ40 (rg_w rv43 rfl) (lv_sub hl [1, 2, 0] rfl) rfl
                                    · skip
                                      have ic178_42 := Int32.lt_iff_toInt_lt.mp (rg_nle c178_42)
                                      have q44 : rg (0) (52) a166_4_39 := (rg_lt (rg_nle c178_42) ra166_4_39 rv41).1
                                      have uq44 : (0 : Int) ≤ a166_4_39.toInt ∧ a166_4_39.toInt ≤ 52 := q44
                                      have q45 : rg (1) (53) v41 := (rg_lt (rg_nle c178_42) ra166_4_39 rv41).2
                                      have uq45 : (1 : Int) ≤ v41.toInt ∧ v41.toInt ≤ 53 := q45
                                      refine lv_aload_n hx hb dX12_oneTick_181 rfl (lv_at hl 0 rfl) ?_
                                      refine lv_iload_n hx hb dX12_oneTick_182 rfl (lv_at hl 1 rfl) ?_
                                      refine lv_aload_n hx hb dX12_oneTick_183 rfl (lv_at hl 0 rfl) ?_
                                      refine m_geta x L40 17 rfl rfl (wm_in uf_47) dX12_oneTick_184 ?_
                                      refine lv_iload_n hx hb dX12_oneTick_187 rfl (lv_at hl 3 rfl) ?_
                                      refine lv_iload hx hb dX12_oneTick_188 (lv_at hl 4 rfl) ?_
                                      refine lv_iadd hx hb dX12_oneTick_190 ?_
                                      refine lv_topi (fun v46 ev46 => ?_)
                                      have rv46 : rg (0) (1695) v46 := (rg_add ev46 rv37 q44 rfl).1
                                      have tv46 := (rg_add ev46 rv37 q44 rfl).2
                                      have uv46 : (0 : Int) ≤ v46.toInt ∧ v46.toInt ≤ 1695 := rv46
                                      refine m_ld x L40 17 rfl rv46 rfl dX12_oneTick_191 (fun v47 ev47 wv47 => ?_)
                                      have rv47 : rg (-2147483648) (2147483647) v47 := lj_17 wv47
                                      have uv47 : (-2147483648 : Int) ≤ v47.toInt ∧ v47.toInt ≤ 2147483647 := rv47
                                      refine m_cv (As := [.int a137_1_21, .int v47]) (rest := []) x hml L40 (c_octet l nn (X + (212 * a137_1_21.toInt + 53 * a149_2_28.toInt + a166_4_39.toInt)) g40 a137_1_21 v47 hnn ⟨by omega, by omega⟩ hJ40 (rg_w q27 rfl) b2a137_1_21_26) (wm_V uc_octet ul_580 ui_octet us_octet u_init) rfl ⟨rfl, rfl⟩ hd_octet ⟨Nat.le_of_ble_eq_true rfl, Nat.le_of_ble_eq_true rfl⟩ rfl hl.1 rfl (lv_room (Nat.le_of_ble_eq_true rfl)) dX12_oneTick_192 (fun  g48 H48 k48 hp48 L48 => ?_)
                                      obtain ⟨v49, ev49, fv49⟩ := inc_ex a166_4_39 (1) (1 : Int32) (by decide)
                                      have rv49 : rg (1) (53) v49 := (rg_add ev49 q44 kc_1 rfl).1
                                      have tv49 := (rg_add ev49 q44 kc_1 rfl).2
                                      have yv49 : (1 : Int32).toInt = 1 := by decide
                                      refine lv_iinc (v := v49) (lv' := [(4, .int v49), (0, .ref h0), (1, .int a137_1_21), (2, .int a149_2_28), (3, .int v37)]) hx hb dX12_oneTick_195 hl (k := 4) rfl fv49 (by decide) rfl (fun ls hl => ?_)
                                      refine lv_goto (tgt := 166) hx hb dX12_oneTick_198 (by decide) ?_
                                      exact ih40 _ (ms_up tv49 kc_1 q44 rfl rfl) v49 g48 _ _ ls (mFr.tr hF40 hp48.1 rfl) (mL.mono L48 (by omega)) hp48.2.1 (rg_w rv49 rfl) (lv_sub hl [1, 2, 3, 4, 0] rfl) rfl
                                have y50 : (0 : Int32).toInt = 0 := by decide
                                exact j166_40 _ (0 : Int32) g29 _ _ ls mFr.rf (mL.mono L29 (by omega)) hJ29 (rg_w kc_0 rfl) (lv_sub hl [2, 3, 4, 1, 0] rfl) rfl
                          have y51 : (0 : Int32).toInt = 0 := by decide
                          exact j149_29 _ (0 : Int32) g22 _ _ ls mFr.rf (mL.mono L22 (by omega)) hJ22 (rg_w kc_0 rfl) (lv_sub hl [1, 2, 0] rfl) rfl
                    have y52 : (0 : Int32).toInt = 0 := by decide
                    exact j137_22 _ (0 : Int32) g17 _ _ ls mFr.rf (mL.mono L17 (by omega)) hJ17 (rg_w kc_0 rfl) (lv_sub hl [1, 0] rfl) rfl
                  · skip
                    have b2a100_1_16_53 : a100_1_16.toInt < 2 * nn := by have := Int32.lt_iff_toInt_lt.mp (rg_nle c107_19); have := lv7; omega
                    have ic107_19 := Int32.lt_iff_toInt_lt.mp (rg_nle c107_19)
                    have q54 : rg (0) (7) a100_1_16 := (rg_lt (rg_nle c107_19) ra100_1_16 rv7).1
                    have uq54 : (0 : Int) ≤ a100_1_16.toInt ∧ a100_1_16.toInt ≤ 7 := q54
                    refine lv_iconst (v := 0) hx hb dX12_oneTick_110 (by decide) ?_
                    refine lv_istore_n (lv' := [(2, .int (0 : Int32)), (0, .ref h0), (1, .int a100_1_16)]) hx hb dX12_oneTick_111 rfl hl (by decide) rfl (fun ls hl => ?_)
                    have j112_56 : ∀ (n : Nat) (a112_2_55 : Int32) (g56 : mSt) (H56 : Heap) (k56 : List Loc) (ls : Array Slot), mFr [6, 7, 12, 13, 14, 15, 16, 17, 18, 19, 20] g17 g56 → mL G h0 ad H0 nn X g56 H56 k56 → mJ nn [] g56 → otK a100_1_16.toInt.toNat a112_2_55.toInt.toNat g17 g56 → rg (0) (4) a112_2_55 → lv_has ls 5 [(0, .ref h0), (1, .int a100_1_16), (2, .int a112_2_55)] → ((4 : Int) - a112_2_55.toInt).toNat = n → W p l e rm_oneTick s m args below meth c H56 k56 0 0 Q (F0 m 112 ls []) := by
                      intro n
                      induction n using Nat.strongRecOn with
                      | _ n ih56 =>
                        intro a112_2_55 g56 H56 k56 ls hF56 L56 hJ56 hR56 ra112_2_55 hl hn56
                        subst hn56
                        have ua112_2_55 : (0 : Int) ≤ a112_2_55.toInt ∧ a112_2_55.toInt ≤ 4 := ra112_2_55
                        refine lv_iload_n hx hb dX12_oneTick_112 rfl (lv_at hl 2 rfl) ?_
                        refine lv_iconst (v := 4) hx hb dX12_oneTick_113 (by decide) ?_
                        refine lv_icmp_ge (tgt := 129) hx hb dX12_oneTick_114 (by decide) (fun c114_57 => ?_) (fun c114_57 => ?_)
                        · skip
                          have ic114_57 := Int32.le_iff_toInt_le.mp c114_57
                          have q58 : rg (4) (4) a112_2_55 := (rg_le c114_57 kc_4 ra112_2_55).2
                          have uq58 : (4 : Int) ≤ a112_2_55.toInt ∧ a112_2_55.toInt ≤ 4 := q58
                          obtain ⟨v59, ev59, fv59⟩ := inc_ex a100_1_16 (1) (1 : Int32) (by decide)
                          have rv59 : rg (1) (8) v59 := (rg_add ev59 q54 kc_1 rfl).1
                          have tv59 := (rg_add ev59 q54 kc_1 rfl).2
                          have yv59 : (1 : Int32).toInt = 1 := by decide
                          refine lv_iinc (v := v59) (lv' := [(1, .int v59), (0, .ref h0), (2, .int a112_2_55)]) hx hb dX12_oneTick_129 hl (k := 1) rfl fv59 (by decide) rfl (fun ls hl => ?_)
                          refine lv_goto (tgt := 100) hx hb dX12_oneTick_132 (by decide) ?_
                          exact ih17 _ (ms_up tv59 kc_1 q54 rfl rfl) v59 g56 _ _ ls (mFr.tr hF17 hF56 rfl) L56 hJ56 ⟨hR17.1.s (by omega) (by omega) (by omega) hR56, by omega⟩ (rg_w rv59 rfl) (lv_sub hl [1, 0] rfl) rfl
                        · skip
                          have ic114_57 := Int32.lt_iff_toInt_lt.mp (rg_nle c114_57)
                          have q60 : rg (0) (3) a112_2_55 := (rg_lt (rg_nle c114_57) ra112_2_55 kc_4).1
                          have uq60 : (0 : Int) ≤ a112_2_55.toInt ∧ a112_2_55.toInt ≤ 3 := q60
                          refine lv_aload_n hx hb dX12_oneTick_117 rfl (lv_at hl 0 rfl) ?_
                          refine lv_iload_n hx hb dX12_oneTick_118 rfl (lv_at hl 1 rfl) ?_
                          refine lv_iload_n hx hb dX12_oneTick_119 rfl (lv_at hl 2 rfl) ?_
                          refine m_cv (As := [.int a100_1_16, .int a112_2_55]) (rest := []) x hml L56 (cD_putOne l nn X g56 a100_1_16 a112_2_55 hnn ⟨by omega, by omega⟩ hJ56 (rg_w q54 rfl) (rg_w q60 rfl)) (wm_V uc_putOne ul_577 ui_putOne us_putOne u_init) rfl ⟨rfl, rfl⟩ hd_putOne ⟨Nat.le_of_ble_eq_true rfl, Nat.le_of_ble_eq_true rfl⟩ rfl hl.1 rfl (lv_room (Nat.le_of_ble_eq_true rfl)) dX12_oneTick_120 (fun  g61 H61 k61 hp61 L61 => ?_)
                          obtain ⟨v62, ev62, fv62⟩ := inc_ex a112_2_55 (1) (1 : Int32) (by decide)
                          have rv62 : rg (1) (4) v62 := (rg_add ev62 q60 kc_1 rfl).1
                          have tv62 := (rg_add ev62 q60 kc_1 rfl).2
                          have yv62 : (1 : Int32).toInt = 1 := by decide
                          refine lv_iinc (v := v62) (lv' := [(2, .int v62), (0, .ref h0), (1, .int a100_1_16)]) hx hb dX12_oneTick_123 hl (k := 2) rfl fv62 (by decide) rfl (fun ls hl => ?_)
                          refine lv_goto (tgt := 112) hx hb dX12_oneTick_126 (by decide) ?_
                          exact ih56 _ (ms_up tv62 kc_1 q60 rfl rfl) v62 g61 _ _ ls (mFr.tr hF56 hp61.1 rfl) L61 hp61.2.1 (hR56.s (by omega) hp61.2.2) (rg_w rv62 rfl) (lv_sub hl [1, 2, 0] rfl) rfl
                    have y63 : (0 : Int32).toInt = 0 := by decide
                    exact j112_56 _ (0 : Int32) g17 _ _ ls mFr.rf L17 hJ17 (otK.z rfl) (rg_w kc_0 rfl) (lv_sub hl [1, 2, 0] rfl) rfl
              have y64 : (0 : Int32).toInt = 0 := by decide
              exact j100_17 _ (0 : Int32) g12 _ _ ls mFr.rf L12 hJ12 ⟨otP.z (by omega), by omega⟩ (rg_w kc_0 rfl) (lv_sub hl [1, 0] rfl) rfl
            · skip
              have b1a45_1_11_65 : a45_1_11.toInt < 1 * nn := by have := Int32.lt_iff_toInt_lt.mp (rg_nle c50_14); have := lv6; omega
              have ic50_14 := Int32.lt_iff_toInt_lt.mp (rg_nle c50_14)
              have q66 : rg (0) (3) a45_1_11 := (rg_lt (rg_nle c50_14) ra45_1_11 rv6).1
              have uq66 : (0 : Int) ≤ a45_1_11.toInt ∧ a45_1_11.toInt ≤ 3 := q66
              refine lv_bipush (v := 40) hx hb dX12_oneTick_53 (by decide) ?_
              refine lv_iload_n hx hb dX12_oneTick_55 rfl (lv_at hl 1 rfl) ?_
              refine lv_imul hx hb dX12_oneTick_56 ?_
              refine lv_topi (fun v67 ev67 => ?_)
              have rv67 : rg (0) (120) v67 := (rg_mulL ev67 kc_40 q66 rfl).1
              have tv67 := (rg_mulL ev67 kc_40 q66 rfl).2
              have y68 : (40 : Int32).toInt = 40 := by decide
              have b40v67 : v67.toInt < 40 * nn := by have := b1a45_1_11_65; have : (40 : Int32).toInt = 40 := (by decide); omega
              have uv67 : (0 : Int) ≤ v67.toInt ∧ v67.toInt ≤ 120 := rv67
              refine lv_istore_n (lv' := [(2, .int v67), (0, .ref h0), (1, .int a45_1_11)]) hx hb dX12_oneTick_57 rfl hl (by decide) rfl (fun ls hl => ?_)
              have j58_70 : ∀ (n : Nat) (a58_2_69 : Int32) (g70 : mSt) (H70 : Heap) (k70 : List Loc) (ls : Array Slot), mFr [4, 5, 7, 8, 9, 10, 11, 84, 85, 86, 87] g12 g70 → mL G h0 ad H0 nn X g70 H70 k70 → mJ nn [] g70 → rg (0) (160) a58_2_69 → lv_has ls 5 [(0, .ref h0), (1, .int a45_1_11), (2, .int a58_2_69)] → ((160 : Int) - a58_2_69.toInt).toNat = n → W p l e rm_oneTick s m args below meth c H70 k70 0 0 Q (F0 m 58 ls []) := by
                intro n
                induction n using Nat.strongRecOn with
                | _ n ih70 =>
                  intro a58_2_69 g70 H70 k70 ls hF70 L70 hJ70 ra58_2_69 hl hn70
                  subst hn70
                  have ua58_2_69 : (0 : Int) ≤ a58_2_69.toInt ∧ a58_2_69.toInt ≤ 160 := ra58_2_69
                  refine lv_iload_n hx hb dX12_oneTick_58 rfl (lv_at hl 2 rfl) ?_
                  refine lv_bipush (v := 40) hx hb dX12_oneTick_59 (by decide) ?_
                  refine lv_iload_n hx hb dX12_oneTick_61 rfl (lv_at hl 1 rfl) ?_
                  refine lv_imul hx hb dX12_oneTick_62 ?_
                  refine m_top ev67 ?_
                  refine lv_bipush (v := 40) hx hb dX12_oneTick_63 (by decide) ?_
                  refine lv_iadd hx hb dX12_oneTick_65 ?_
                  refine lv_topi (fun v71 ev71 => ?_)
                  have rv71 : rg (40) (160) v71 := (rg_add ev71 rv67 kc_40 rfl).1
                  have tv71 := (rg_add ev71 rv67 kc_40 rfl).2
                  have y72 : (40 : Int32).toInt = 40 := by decide
                  have uv71 : (40 : Int) ≤ v71.toInt ∧ v71.toInt ≤ 160 := rv71
                  refine lv_icmp_ge (tgt := 92) hx hb dX12_oneTick_66 (by decide) (fun c66_73 => ?_) (fun c66_73 => ?_)
                  · skip
                    have ic66_73 := Int32.le_iff_toInt_le.mp c66_73
                    have q74 : rg (40) (160) a58_2_69 := (rg_le c66_73 rv71 ra58_2_69).2
                    have uq74 : (40 : Int) ≤ a58_2_69.toInt ∧ a58_2_69.toInt ≤ 160 := q74
                    obtain ⟨v75, ev75, fv75⟩ := inc_ex a45_1_11 (1) (1 : Int32) (by decide)
                    have rv75 : rg (1) (4) v75 := (rg_add ev75 q66 kc_1 rfl).1
                    have tv75 := (rg_add ev75 q66 kc_1 rfl).2
                    have yv75 : (1 : Int32).toInt = 1 := by decide
                    refine lv_iinc (v := v75) (lv' := [(1, .int v75), (0, .ref h0), (2, .int a58_2_69)]) hx hb dX12_oneTick_92 hl (k := 1) rfl fv75 (by decide) rfl (fun ls hl => ?_)
                    refine lv_goto (tgt := 45) hx hb dX12_oneTick_95 (by decide) ?_
                    exact ih12 _ (ms_up tv75 kc_1 q66 rfl rfl) v75 g70 _ _ ls (mFr.tr hF12 hF70 rfl) L70 hJ70 (rg_w rv75 rfl) (lv_sub hl [1, 0] rfl) rfl
                  · skip
                    have ic66_73 := Int32.lt_iff_toInt_lt.mp (rg_nle c66_73)
                    have q76 : rg (0) (159) a58_2_69 := (rg_lt (rg_nle c66_73) ra58_2_69 rv71).1
                    have uq76 : (0 : Int) ≤ a58_2_69.toInt ∧ a58_2_69.toInt ≤ 159 := q76
                    refine lv_aload_n hx hb dX12_oneTick_69 rfl (lv_at hl 0 rfl) ?_
                    refine m_geta x L70 68 rfl rfl (wm_in uf_192) dX12_oneTick_70 ?_
                    refine lv_iload_n hx hb dX12_oneTick_73 rfl (lv_at hl 2 rfl) ?_
                    refine m_ld x L70 68 rfl q76 rfl dX12_oneTick_74 (fun v77 ev77 wv77 => ?_)
                    have rv77 : rg (0) (11) v77 := lj_68 wv77
                    have uv77 : (0 : Int) ≤ v77.toInt ∧ v77.toInt ≤ 11 := rv77
                    refine lv_bipush (v := 10) hx hb dX12_oneTick_75 (by decide) ?_
                    have j86_78 : ∀ (g78 : mSt) (H78 : Heap) (k78 : List Loc) (ls : Array Slot), mFr [4, 5, 7, 8, 9, 10, 11, 84, 85, 86, 87] g70 g78 → mL G h0 ad H0 nn X g78 H78 k78 → mJ nn [] g78 → lv_has ls 5 [(0, .ref h0), (1, .int a45_1_11), (2, .int a58_2_69)] → W p l e rm_oneTick s m args below meth c H78 k78 0 0 Q (F0 m 86 ls []) := by
                      intro  g78 H78 k78 ls hF78 L78 hJ78  hl
                      obtain ⟨v79, ev79, fv79⟩ := inc_ex a58_2_69 (1) (1 : Int32) (by decide)
                      have rv79 : rg (1) (160) v79 := (rg_add ev79 q76 kc_1 rfl).1
                      have tv79 := (rg_add ev79 q76 kc_1 rfl).2
                      have yv79 : (1 : Int32).toInt = 1 := by decide
                      refine lv_iinc (v := v79) (lv' := [(2, .int v79), (0, .ref h0), (1, .int a45_1_11)]) hx hb dX12_oneTick_86 hl (k := 2) rfl fv79 (by decide) rfl (fun ls hl => ?_)
                      refine lv_goto (tgt := 58) hx hb dX12_oneTick_89 (by decide) ?_
                      exact ih70 _ (ms_up tv79 kc_1 q76 rfl rfl) v79 g78 _ _ ls (mFr.tr hF70 hF78 rfl) L78 hJ78 (rg_w rv79 rfl) (lv_sub hl [1, 2, 0] rfl) rfl
                    refine lv_icmp_ne (tgt := 86) hx hb dX12_oneTick_77 (by decide) (fun c77_80 => ?_) (fun c77_80 => ?_)
                    · skip
                      have ic77_80 : v77.toInt ≠ (10 : Int32).toInt := fun z => c77_80 (Int32.toInt_inj.mp z)
                      have y81 : (10 : Int32).toInt = 10 := by decide
                      exact j86_78  g70 _ _ ls mFr.rf L70 hJ70 (lv_sub hl [0, 1, 2] rfl)
                    · skip
                      have ic77_80 := congrArg Int32.toInt c77_80
                      have y82 : (10 : Int32).toInt = 10 := by decide
                      have q83 : rg (10) (10) v77 := (rg_eq c77_80 rv77 kc_10).1
                      have uq83 : (10 : Int) ≤ v77.toInt ∧ v77.toInt ≤ 10 := q83
                      refine lv_aload_n hx hb dX12_oneTick_80 rfl (lv_at hl 0 rfl) ?_
                      refine lv_iload_n hx hb dX12_oneTick_81 rfl (lv_at hl 2 rfl) ?_
                      refine lv_iload_n hx hb dX12_oneTick_82 rfl (lv_at hl 1 rfl) ?_
                      refine m_cv (As := [.int a58_2_69, .int a45_1_11]) (rest := []) x hml L70 (c_sendCells l nn X g70 a58_2_69 a45_1_11 hnn ⟨by omega, by omega⟩ hJ70 (rg_w q76 rfl) (rg_w q66 rfl)) (wm_V uc_sendCells ul_574 ui_sendCells us_sendCells u_init) rfl ⟨rfl, rfl⟩ hd_sendCells ⟨Nat.le_of_ble_eq_true rfl, Nat.le_of_ble_eq_true rfl⟩ rfl hl.1 rfl (lv_room (Nat.le_of_ble_eq_true rfl)) dX12_oneTick_83 (fun  g84 H84 k84 hp84 L84 => ?_)
                      exact j86_78  g84 _ _ ls (mFr.tr mFr.rf hp84.1 rfl) L84 hp84.2.1 (lv_sub hl [0, 1, 2] rfl)
              exact j58_70 _ v67 g12 _ _ ls mFr.rf L12 hJ12 (rg_w rv67 rfl) (lv_sub hl [1, 2, 0] rfl) rfl
        have y85 : (0 : Int32).toInt = 0 := by decide
        exact j45_12 _ (0 : Int32) g5 _ _ ls mFr.rf L5 hJ5 (rg_w kc_0 rfl) (lv_sub hl [1, 0] rfl) rfl
      · skip
        have b2a12_1_4_86 : a12_1_4.toInt < 2 * nn := by have := Int32.lt_iff_toInt_lt.mp (rg_nle c19_9); have := lv7; omega
        have ic19_9 := Int32.lt_iff_toInt_lt.mp (rg_nle c19_9)
        have q87 : rg (0) (7) a12_1_4 := (rg_lt (rg_nle c19_9) ra12_1_4 rv7).1
        have uq87 : (0 : Int) ≤ a12_1_4.toInt ∧ a12_1_4.toInt ≤ 7 := q87
        refine lv_aload_n hx hb dX12_oneTick_22 rfl (lv_at hl 0 rfl) ?_
        refine lv_iload_n hx hb dX12_oneTick_23 rfl (lv_at hl 1 rfl) ?_
        refine m_cv (As := [.int a12_1_4]) (rest := []) x hml L5 (c_lineTimers l nn X g5 a12_1_4 hnn ⟨by omega, by omega⟩ hJ5 (rg_w q87 rfl) b2a12_1_4_86) (wm_V uc_lineTimers ul_565 ui_lineTimers us_lineTimers u_init) rfl ⟨rfl, rfl⟩ hd_lineTimers ⟨Nat.le_of_ble_eq_true rfl, Nat.le_of_ble_eq_true rfl⟩ rfl hl.1 rfl (lv_room (Nat.le_of_ble_eq_true rfl)) dX12_oneTick_24 (fun  g88 H88 k88 hp88 L88 => ?_)
        refine lv_aload_n hx hb dX12_oneTick_27 rfl (lv_at hl 0 rfl) ?_
        refine lv_iload_n hx hb dX12_oneTick_28 rfl (lv_at hl 1 rfl) ?_
        refine m_cv (As := [.int a12_1_4]) (rest := []) x hml L88 (c_callTimers l nn X g88 a12_1_4 hnn ⟨by omega, by omega⟩ hp88.2.1 (rg_w q87 rfl)) (wm_V uc_callTimers ul_568 ui_callTimers us_callTimers u_init) rfl ⟨rfl, rfl⟩ hd_callTimers ⟨Nat.le_of_ble_eq_true rfl, Nat.le_of_ble_eq_true rfl⟩ rfl hl.1 rfl (lv_room (Nat.le_of_ble_eq_true rfl)) dX12_oneTick_29 (fun  g89 H89 k89 hp89 L89 => ?_)
        refine lv_aload_n hx hb dX12_oneTick_32 rfl (lv_at hl 0 rfl) ?_
        refine lv_iload_n hx hb dX12_oneTick_33 rfl (lv_at hl 1 rfl) ?_
        refine m_cv (As := [.int a12_1_4]) (rest := []) x hml L89 (c_lineTurn l nn X g89 a12_1_4 hnn ⟨by omega, by omega⟩ (rg_w q87 rfl) b2a12_1_4_86) (wm_V uc_lineTurn ul_571 ui_lineTurn us_lineTurn u_init) rfl ⟨rfl, rfl⟩ hd_lineTurn ⟨Nat.le_of_ble_eq_true rfl, Nat.le_of_ble_eq_true rfl⟩ rfl hl.1 rfl (lv_room (Nat.le_of_ble_eq_true rfl)) dX12_oneTick_34 (fun  g90 H90 k90 hp90 L90 => ?_)
        obtain ⟨v91, ev91, fv91⟩ := inc_ex a12_1_4 (1) (1 : Int32) (by decide)
        have rv91 : rg (1) (8) v91 := (rg_add ev91 q87 kc_1 rfl).1
        have tv91 := (rg_add ev91 q87 kc_1 rfl).2
        have yv91 : (1 : Int32).toInt = 1 := by decide
        refine lv_iinc (v := v91) (lv' := [(1, .int v91), (0, .ref h0)]) hx hb dX12_oneTick_37 hl (k := 1) rfl fv91 (by decide) rfl (fun ls hl => ?_)
        refine lv_goto (tgt := 12) hx hb dX12_oneTick_40 (by decide) ?_
        exact ih5 _ (ms_up tv91 kc_1 q87 rfl rfl) v91 g90 _ _ ls (mFr.tr (mFr.tr (mFr.tr hF5 hp88.1 rfl) hp89.1 rfl) hp90.1 rfl) L90 (mJ_fr hp89.2.1 hp90.1 rfl) (rg_w rv91 rfl) (lv_sub hl [1, 0] rfl) rfl
  have y92 : (0 : Int32).toInt = 0 := by decide
  exact j12_5 _ (0 : Int32) g3 _ _ ls mFr.rf L3 (mJ_up hJ eg3 rfl) (rg_w kc_0 rfl) (lv_sub hl [1, 0] rfl) rfl
theorem cD_oneTick (l : Launch) {G : mG} {h0 : Nat} {ad : Nat → Nat} (nn X : Int) (g : mSt) (hnn : 2 ≤ nn ∧ nn ≤ 4) (hX : 0 ≤ X ∧ (X + 1696) ≤ 2000000000) (hJ : mJ nn [] g) : Met l yX12_oneTick (wm (Cond.code yX12_oneTick cX12_oneTick 5 none)) rm_oneTick (va_Pc [.ref h0] (mPre G h0 ad nn X g)) (mQv G h0 ad nn (X + 1696) (fun g1 => mFr [1, 4, 5, 6, 7, 8, 9, 10, 11, 12, 13, 14, 15, 16, 17, 18, 19, 20, 21, 22, 23, 24, 25, 26, 27, 28, 29, 30, 31, 32, 33, 34, 35, 36, 37, 38, 39, 40, 41, 42, 43, 44, 45, 46, 47, 48, 49, 50, 51, 52, 53, 54, 55, 56, 57, 58, 59, 60, 61, 62, 63, 64, 65, 66, 67, 68, 69, 70, 71, 72, 73, 74, 75, 76, 77, 78, 79, 80, 81, 84, 85, 86, 87, 88, 89, 90, 91] g g1 ∧ mJ nn [] g1 ∧ otP (2 * nn) g g1)) 0 0 (mA h0 ad) := by
  refine Met.ofW (cc := cX12_oneTick) (maxL := 5) (ret := none) (by decide) rfl ?_
  intro p e s m args below meth c s₁ B hml hv
  obtain ⟨rfl, hv⟩ := hv
  have hr := B.returns
  have hlocks := B.notSynchronized
  obtain ⟨x, L⟩ := m_start B rfl wm_X hv
  have hl := lv_entry ([.ref h0]) (n := 5) (Nat.le_of_ble_eq_true rfl)
  rw [lg_entry_eq]
  generalize (lg_sl ([.ref h0]) ++ List.replicate (5 - (lg_sl ([.ref h0])).length) Slot.unset).toArray = ls at hl ⊢
  exact wD_oneTick x hml L hnn hX hJ hl (fun pc' ls' g1 H1 locs1 hdg L hp => m_vret x L hr hlocks (Int.le_refl _) hp hdg)
set_option maxHeartbeats 4000000 in
set_option maxRecDepth 100000 in
theorem wD_tick {p : Program} {l : Launch} {e : Env} {s : State} {m : MethodId} {args : Array Value} {below : List Frame} {meth : Method} {c : Code} {H : Heap} {locs : List Loc} {Q : State → Prop} {ls : Array Slot} {G : mG} {h0 : Nat} {ad : Nat → Nat} {g : mSt} {H0 : Heap} {nn X : Int} (x : mX p c cX12_tick s args (wm (Cond.code yX12_tick cX12_tick 3 (some .int))) m G h0 ad) (hml : c.maxLocals = 3) (L : mL G h0 ad H0 nn X g H locs) (hnn : 2 ≤ nn ∧ nn ≤ 4) (hX : 0 ≤ X ∧ (X + 84800) ≤ 2000000000) (p1 : Int32) (hJ : mJ nn [] g) (hl : lv_has ls 3 [(0, .ref h0), (1, .int p1)]) (hQ : ∀ (pc' : Nat) (ls' : Array Slot) (r : Int32) (g1 : mSt) (H1 : Heap) (locs1 : List Loc), decode cX12_tick pc' = .ok (.ireturn, 1) → mL G h0 ad H0 nn (X + 84800) g1 H1 locs1 → (mFr [1, 4, 5, 6, 7, 8, 9, 10, 11, 12, 13, 14, 15, 16, 17, 18, 19, 20, 21, 22, 23, 24, 25, 26, 27, 28, 29, 30, 31, 32, 33, 34, 35, 36, 37, 38, 39, 40, 41, 42, 43, 44, 45, 46, 47, 48, 49, 50, 51, 52, 53, 54, 55, 56, 57, 58, 59, 60, 61, 62, 63, 64, 65, 66, 67, 68, 69, 70, 71, 72, 73, 74, 75, 76, 77, 78, 79, 80, 81, 84, 85, 86, 87, 88, 89, 90, 91] g g1 ∧ rg (-2147483648) (2147483647) r ∧ mJ nn [] g1 ∧ tkD nn p1 (rDm g) (rDm g1)) → W p l e rm_tick s m args below meth c H1 locs1 0 0 Q (F0 m pc' ls' [.int r])) : W p l e rm_tick s m args below meth c H locs 0 0 Q (F0 m 0 ls []) := by
  have hx := x.1
  have hb := x.2.1
  have up1 : (-2147483648 : Int) ≤ p1.toInt ∧ p1.toInt ≤ 2147483647 := (rg_any p1)
  refine lv_iload_n hx hb dX12_tick_0 rfl (lv_at hl 1 rfl) ?_
  refine lv_iconst (v := 1) hx hb dX12_tick_1 (by decide) ?_
  have j11_1 : ∀ (g1 : mSt) (H1 : Heap) (k1 : List Loc) (ls : Array Slot), ¬ (1 ≤ p1.toInt ∧ p1.toInt ≤ 50) → mFr [] g g1 → mL G h0 ad H0 nn X g1 H1 k1 → mJ nn [] g1 → lv_has ls 3 [(0, .ref h0)] → W p l e rm_tick s m args below meth c H1 k1 0 0 Q (F0 m 11 ls []) := by
    intro  g1 H1 k1 ls hbad hF1 L1 hJ1  hl
    refine lv_iconst (v := (-1)) hx hb dX12_tick_11 (by decide) ?_
    exact hQ _ _ (-1 : Int32) _ _ _ dX12_tick_12 (mL.mono L1 (by omega)) ⟨(mFr.tr mFr.rf hF1 rfl), rg_w kc_m1 rfl, hJ1, fun z => absurd z hbad, fun _ => rDm_fr hF1 rfl rfl⟩
  refine lv_icmp_lt (tgt := 11) hx hb dX12_tick_2 (by decide) (fun c2_2 => ?_) (fun c2_2 => ?_)
  · skip
    have ic2_2 := Int32.lt_iff_toInt_lt.mp c2_2
    have q3 : rg (-2147483648) (0) p1 := (rg_lt c2_2 (rg_any p1) kc_1).1
    have uq3 : (-2147483648 : Int) ≤ p1.toInt ∧ p1.toInt ≤ 0 := q3
    exact j11_1  g _ _ ls (by omega) mFr.rf L hJ (lv_sub hl [0] rfl)
  · skip
    have ic2_2 := Int32.le_iff_toInt_le.mp (rg_nlt c2_2)
    have q4 : rg (1) (2147483647) p1 := (rg_le (rg_nlt c2_2) kc_1 (rg_any p1)).2
    have uq4 : (1 : Int) ≤ p1.toInt ∧ p1.toInt ≤ 2147483647 := q4
    refine lv_iload_n hx hb dX12_tick_5 rfl (lv_at hl 1 rfl) ?_
    refine lv_bipush (v := 50) hx hb dX12_tick_6 (by decide) ?_
    refine lv_icmp_le (tgt := 13) hx hb dX12_tick_8 (by decide) (fun c8_5 => ?_) (fun c8_5 => ?_)
    · skip
      have ic8_5 := Int32.le_iff_toInt_le.mp c8_5
      have q6 : rg (1) (50) p1 := (rg_le c8_5 q4 kc_50).1
      have uq6 : (1 : Int) ≤ p1.toInt ∧ p1.toInt ≤ 50 := q6
      refine lv_iconst (v := 0) hx hb dX12_tick_13 (by decide) ?_
      refine lv_istore_n (lv' := [(2, .int (0 : Int32)), (0, .ref h0), (1, .int p1)]) hx hb dX12_tick_14 rfl hl (by decide) rfl (fun ls hl => ?_)
      have j15_8 : ∀ (n : Nat) (a15_2_7 : Int32) (g8 : mSt) (H8 : Heap) (k8 : List Loc) (ls : Array Slot), (otT nn a15_2_7.toInt.toNat g g8 ∧ a15_2_7.toInt ≤ p1.toInt) → mFr [1, 4, 5, 6, 7, 8, 9, 10, 11, 12, 13, 14, 15, 16, 17, 18, 19, 20, 21, 22, 23, 24, 25, 26, 27, 28, 29, 30, 31, 32, 33, 34, 35, 36, 37, 38, 39, 40, 41, 42, 43, 44, 45, 46, 47, 48, 49, 50, 51, 52, 53, 54, 55, 56, 57, 58, 59, 60, 61, 62, 63, 64, 65, 66, 67, 68, 69, 70, 71, 72, 73, 74, 75, 76, 77, 78, 79, 80, 81, 84, 85, 86, 87, 88, 89, 90, 91] g g8 → mL G h0 ad H0 nn (X + (1696 * a15_2_7.toInt)) g8 H8 k8 → mJ nn [] g8 → rg (0) (50) a15_2_7 → lv_has ls 3 [(0, .ref h0), (1, .int p1), (2, .int a15_2_7)] → ((50 : Int) - a15_2_7.toInt).toNat = n → W p l e rm_tick s m args below meth c H8 k8 0 0 Q (F0 m 15 ls []) := by
        intro n
        induction n using Nat.strongRecOn with
        | _ n ih8 =>
          intro a15_2_7 g8 H8 k8 ls htm hF8 L8 hJ8 ra15_2_7 hl hn8
          subst hn8
          have ua15_2_7 : (0 : Int) ≤ a15_2_7.toInt ∧ a15_2_7.toInt ≤ 50 := ra15_2_7
          refine lv_iload_n hx hb dX12_tick_15 rfl (lv_at hl 2 rfl) ?_
          refine lv_iload_n hx hb dX12_tick_16 rfl (lv_at hl 1 rfl) ?_
          refine lv_icmp_ge (tgt := 30) hx hb dX12_tick_17 (by decide) (fun c17_9 => ?_) (fun c17_9 => ?_)
          · skip
            have ic17_9 := Int32.le_iff_toInt_le.mp c17_9
            have q10 : rg (1) (50) a15_2_7 := (rg_le c17_9 q6 ra15_2_7).2
            have uq10 : (1 : Int) ≤ a15_2_7.toInt ∧ a15_2_7.toInt ≤ 50 := q10
            refine lv_aload_n hx hb dX12_tick_30 rfl (lv_at hl 0 rfl) ?_
            refine m_geti x L8 1 rfl rfl (wm_in uf_378) dX12_tick_31 (fun v11 ev11 wv11 => ?_)
            have rv11 : rg (-2147483648) (2147483647) v11 := lj_1 wv11
            have uv11 : (-2147483648 : Int) ≤ v11.toInt ∧ v11.toInt ≤ 2147483647 := rv11
            exact hQ _ _ v11 _ _ _ dX12_tick_34 (mL.mono L8 (by omega)) ⟨(mFr.tr mFr.rf hF8 rfl), rg_w rv11 rfl, hJ8, fun _ => (by have := htm.2; rw [show p1.toInt.toNat = a15_2_7.toInt.toNat by omega]; exact htm.1), fun z => absurd ⟨uq6.1, uq6.2⟩ z⟩
          · skip
            have ic17_9 := Int32.lt_iff_toInt_lt.mp (rg_nle c17_9)
            have q12 : rg (0) (49) a15_2_7 := (rg_lt (rg_nle c17_9) ra15_2_7 q6).1
            have uq12 : (0 : Int) ≤ a15_2_7.toInt ∧ a15_2_7.toInt ≤ 49 := q12
            refine lv_aload_n hx hb dX12_tick_20 rfl (lv_at hl 0 rfl) ?_
            refine m_cv (As := []) (rest := []) x hml L8 (cD_oneTick l nn (X + (1696 * a15_2_7.toInt)) g8 hnn ⟨by omega, by omega⟩ hJ8) (wm_V uc_oneTick ul_583 ui_oneTick us_oneTick u_init) rfl ⟨rfl, rfl⟩ hd_oneTick ⟨Nat.le_of_ble_eq_true rfl, Nat.le_of_ble_eq_true rfl⟩ rfl hl.1 rfl (lv_room (Nat.le_of_ble_eq_true rfl)) dX12_tick_21 (fun  g13 H13 k13 hp13 L13 => ?_)
            obtain ⟨v14, ev14, fv14⟩ := inc_ex a15_2_7 (1) (1 : Int32) (by decide)
            have rv14 : rg (1) (50) v14 := (rg_add ev14 q12 kc_1 rfl).1
            have tv14 := (rg_add ev14 q12 kc_1 rfl).2
            have yv14 : (1 : Int32).toInt = 1 := by decide
            refine lv_iinc (v := v14) (lv' := [(2, .int v14), (0, .ref h0), (1, .int p1)]) hx hb dX12_tick_24 hl (k := 2) rfl fv14 (by decide) rfl (fun ls hl => ?_)
            refine lv_goto (tgt := 15) hx hb dX12_tick_27 (by decide) ?_
            exact ih8 _ (ms_up tv14 kc_1 q12 rfl rfl) v14 g13 _ _ ls ⟨htm.1.s (by omega) hp13.2.2, by omega⟩ (mFr.tr hF8 hp13.1 rfl) (mL.mono L13 (by omega)) hp13.2.1 (rg_w rv14 rfl) (lv_sub hl [1, 2, 0] rfl) rfl
      have y15 : (0 : Int32).toInt = 0 := by decide
      exact j15_8 _ (0 : Int32) g _ _ ls ⟨otT.z rfl, by omega⟩ mFr.rf (mL.mono L (by omega)) hJ (rg_w kc_0 rfl) (lv_sub hl [1, 2, 0] rfl) rfl
    · skip
      have ic8_5 := Int32.lt_iff_toInt_lt.mp (rg_nle c8_5)
      have q16 : rg (51) (2147483647) p1 := (rg_lt (rg_nle c8_5) kc_50 q4).2
      have uq16 : (51 : Int) ≤ p1.toInt ∧ p1.toInt ≤ 2147483647 := q16
      exact j11_1  g _ _ ls (by omega) mFr.rf L hJ (lv_sub hl [0] rfl)
theorem cD_tick (l : Launch) {G : mG} {h0 : Nat} {ad : Nat → Nat} (nn X : Int) (g : mSt) (p1 : Int32) (hnn : 2 ≤ nn ∧ nn ≤ 4) (hX : 0 ≤ X ∧ (X + 84800) ≤ 2000000000) (hJ : mJ nn [] g) : Met l yX12_tick (wm (Cond.code yX12_tick cX12_tick 3 (some .int))) rm_tick (va_Pc [.ref h0, .int p1] (mPre G h0 ad nn X g)) (mQi G h0 ad nn (X + 84800) (fun r g1 => mFr [1, 4, 5, 6, 7, 8, 9, 10, 11, 12, 13, 14, 15, 16, 17, 18, 19, 20, 21, 22, 23, 24, 25, 26, 27, 28, 29, 30, 31, 32, 33, 34, 35, 36, 37, 38, 39, 40, 41, 42, 43, 44, 45, 46, 47, 48, 49, 50, 51, 52, 53, 54, 55, 56, 57, 58, 59, 60, 61, 62, 63, 64, 65, 66, 67, 68, 69, 70, 71, 72, 73, 74, 75, 76, 77, 78, 79, 80, 81, 84, 85, 86, 87, 88, 89, 90, 91] g g1 ∧ rg (-2147483648) (2147483647) r ∧ mJ nn [] g1 ∧ tkD nn p1 (rDm g) (rDm g1))) 0 0 (mA h0 ad) := by
  refine Met.ofW (cc := cX12_tick) (maxL := 3) (ret := (some .int)) (by decide) rfl ?_
  intro p e s m args below meth c s₁ B hml hv
  obtain ⟨rfl, hv⟩ := hv
  have hr := B.returns
  have hlocks := B.notSynchronized
  obtain ⟨x, L⟩ := m_start B rfl wm_X hv
  have hl := lv_entry ([.ref h0, .int p1]) (n := 3) (Nat.le_of_ble_eq_true rfl)
  rw [lg_entry_eq]
  generalize (lg_sl ([.ref h0, .int p1]) ++ List.replicate (3 - (lg_sl ([.ref h0, .int p1])).length) Slot.unset).toArray = ls at hl ⊢
  exact wD_tick x hml L hnn hX p1 hJ hl (fun pc' ls' r g1 H1 locs1 hdg L hp => m_iret x L hr hlocks (Int.le_refl _) hp hdg)
