/-! lists that grow: Arrays.copyOf, grow, add -/
def rm_kcopyOf3 (N : Nat) : Room := { frames := 1, cells := 1, slots := N, locals := 30 }
theorem k_two {D : va_G} {a0 a1 : Nat} {x0 x1 : ClassId × vp_A} {H : Heap} (h0 : H[a0]? = some (vp_cell x0.1 x0.2)) (h1 : H[a1]? = some (vp_cell x1.1 x1.2)) : va_P D [] [(a0, .inl x0), (a1, .inl x1)] H := by
  intro k q hk
  match k, hk with
  | 0, hk => cases hk; exact h0
  | 1, hk => cases hk; exact h1
theorem k_twoD {a0 a1 : Nat} {x0 x1 : ClassId × vp_A} (h : a0 ≠ a1) : va_D (fun q => q = a0 ∨ q = a1) [(a0, .inl x0), (a1, .inl x1)] := by
  refine ⟨fun i j p q hi hj e => ?_, fun k q hk => ?_⟩
  · match i, j, hi, hj with
    | 0, 0, _, _ => rfl
    | 1, 1, _, _ => rfl
    | 0, 1, hi, hj => cases hi; cases hj; exact absurd e h
    | 1, 0, hi, hj => cases hi; cases hj; exact absurd e.symm h
  · match k, hk with
    | 0, hk => cases hk; exact Or.inl rfl
    | 1, hk => cases hk; exact Or.inr rfl
theorem k_one {D : va_G} {s : State} {cA : ClassId} {ty : FieldType} (h : ArrOfT s cA ty ∧ va_RA s cA ty) : va_K D [] [(cA, ty)] s := by
  refine ⟨fun c q h => (by cases h), fun k q hk => ?_⟩
  match k, hk with
  | 0, hk => cases hk; exact h
theorem nl_0 {x : Int32} (h : 0 ≤ x.toInt) : ¬ x < 0 := by
  rw [Int32.lt_iff_toInt_lt]
  have : (0 : Int32).toInt = 0 := by decide
  omega
theorem tc_n {x : Int32} {N : Nat} (h : x.toInt = (N : Int)) : x.toNatClampNeg = N := by
  show x.toInt.toNat = N
  omega
theorem W.sz {p : Program} {l : Launch} {e : Env} {R : Room} {s : State} {m : MethodId} {args : Array Value} {below : List Frame} {meth : Method} {c : Code} {H : Heap} {locs : List Loc} {cells slots : Nat} {Q : State → Prop} {g : JFrame} (h : H.size ≤ s.heap.size + cells → W p l e R s m args below meth c H locs cells slots Q g) : W p l e R s m args below meth c H locs cells slots Q g := fun T hT X => h (by rw [← hT]; exact X.heapSize) T hT X
set_option maxHeartbeats 4000000 in
set_option maxRecDepth 100000 in
theorem c_kcopyOf3 (l : Launch) {cA : ClassId} (a0 mi n0 N sz : Nat) (f : Nat → Option Nat) (n : Int32) (hn : n.toInt = (N : Int)) (hN : n0 ≤ N ∧ N ≤ 100000000) :
    Met l yJ7_copyOf_6403c (wk (Cond.code yJ7_copyOf_6403c cJ7_copyOf_6403c 4 (some (.array (.object "java/lang/Object"))))) (rm_kcopyOf3 N) (va_Pc [.ref a0, .int n, .ref mi] (fun U => (U.heap[a0]? = some (vp_cell cA (n0, .inr (.inr (.inr (.inr f))))) ∧ ∀ i, i < n0 → ∀ y, f i = some y → va_Any "java/lang/Object" U U.heap y) ∧ U.heap.size = sz ∧ (ArrOfT U cA (.object "java/lang/Object") ∧ va_RA U cA (.object "java/lang/Object")) ∧ va_Mi "[Ljava/lang/Object;" mi U ∧ va_AO "java/lang/Object" U))
      (fun _ st oc t => oc = .returned (some (.ref sz)) ∧ t.heap[sz]? = some (vp_cell cA (N, .inr (.inr (.inr (.inr (va_cpy f (fun _ => none) 0 0 n0)))))) ∧ t.heap.size = sz + 1 ∧ ∀ q : Nat, q < sz → t.heap[q]? = st.heap[q]?) 1 N (fun q => q = a0 ∨ sz ≤ q) := by
  refine Met.ofW (cc := cJ7_copyOf_6403c) (maxL := 4) (ret := (some (.array (.object "java/lang/Object")))) (by decide) rfl ?_
  intro p e s m args below meth c s₁ B hml hv
  obtain ⟨rfl, ⟨h0, hel⟩, hsz, hAr, hMi, hAO⟩ := hv
  subst hsz
  have hr := B.returns
  have hlocks := B.notSynchronized
  have hx := B.exec
  have hb := B.bytes
  have hts := atoms_spec (ws := wk (Cond.code yJ7_copyOf_6403c cJ7_copyOf_6403c 4 (some (.array (.object "java/lang/Object"))))) B.pre
  have hown : s.vm.findClass RJ7 = some m.cls := findClass_of_methodNamed B.named
  have hl := lv_entry ([.ref a0, .int n, .ref mi]) (n := 4) (Nat.le_of_ble_eq_true rfl)
  rw [lg_entry_eq]
  generalize (lg_sl ([.ref a0, .int n, .ref mi]) ++ List.replicate (4 - (lg_sl ([.ref a0, .int n, .ref mi])).length) Slot.unset).toArray = ls at hl ⊢
  have hl : lv_has ls 4 [(0, .ref a0), (1, .int n), (2, .ref mi)] := hl
  have hcl := tc_n hn
  have k0 : (0 : Int32).toInt = 0 := by decide
  refine lv_aload_n hx hb dJ7_copyOf_6403c_0 rfl (lv_at hl 2 rfl) ?_
  refine va_ldcM hx hb hown (hts _ (wk_in kc_lJ7_110)) hMi dJ7_copyOf_6403c_1 ?_
  refine lv_acmp_ne (rx := some mi) (ry := some mi) (tgt := 13) hx hb dJ7_copyOf_6403c_3 (by decide) (fun z => absurd rfl z) (fun _ => ?_)
  refine lv_iload_n hx hb dJ7_copyOf_6403c_6 rfl (lv_at hl 1 rfl) ?_
  refine W.anew hx hb hown (hts _ (wk_in kc_lJ7_2)) (va_AO.use hAO) rfl dJ7_copyOf_6403c_7 rfl (nl_0 (by omega)) (by rw [hcl]; omega) (Nat.le_of_ble_eq_true rfl) (by rw [hcl]; exact Nat.le_of_eq (Nat.zero_add _)) fun cA1 kA comp f1 f2 f3 f4 => ?_
  have hcA : cA1 = cA := by
    obtain ⟨_, _, _, _, _, h4⟩ := hAr.2
    exact Option.some.inj (f1.symm.trans h4)
  subst hcA
  generalize hH1 : s.heap.push ({ cls := cA1, slots := Array.replicate n.toNatClampNeg .null, vm := .none } : Cell) = H1
  have z1 : H1.size = s.heap.size + 1 := by rw [← hH1, Array.size_push]
  have e1 : H1[s.heap.size]? = some (arrV cA1 N (fun _ => .null)) := by rw [← hH1, Array.getElem?_push_size, ← arrV_new, hcl]
  have o1 : ∀ q : Nat, q < s.heap.size → H1[q]? = s.heap[q]? := fun q hq => by rw [← hH1, Array.getElem?_push, if_neg (Nat.ne_of_lt hq)]
  have ha0 : a0 < s.heap.size := (Array.getElem?_eq_some_iff.mp h0).1
  rw [hcl, Nat.zero_add, Nat.zero_add]
  refine W.eq (g2 := F0 m 10 ls [.ref s.heap.size]) rfl ?_
  refine lv_goto (tgt := 24) hx hb dJ7_copyOf_6403c_10 (by decide) ?_
  refine lv_astore_n (lv' := [(3, .ref s.heap.size), (0, .ref a0), (1, .int n), (2, .ref mi)]) hx hb dJ7_copyOf_6403c_24 rfl hl (by decide) rfl (fun ls hl => ?_)
  refine lv_aload_n hx hb dJ7_copyOf_6403c_25 rfl (lv_at hl 1 rfl) ?_
  refine lv_iconst (v := 0) hx hb dJ7_copyOf_6403c_26 (by decide) ?_
  refine lv_aload_n hx hb dJ7_copyOf_6403c_27 rfl (lv_at hl 0 rfl) ?_
  refine lv_iconst (v := 0) hx hb dJ7_copyOf_6403c_28 (by decide) ?_
  refine lv_aload_n hx hb dJ7_copyOf_6403c_29 rfl (lv_at hl 1 rfl) ?_
  have h01 : H1[a0]? = some (vp_cell cA1 (n0, .inr (.inr (.inr (.inr f))))) := by rw [o1 a0 ha0]; exact h0
  obtain ⟨m0, hm0⟩ : ∃ m0 : Int32, m0 = (n0 : Nat).toInt32 := ⟨_, rfl⟩
  have hm1 : m0.toInt = (n0 : Int) := by
    rw [hm0]
    exact nI_toInt (n := n0) (by omega)
  refine W.alen (n := m0) hx hb h01 (hAr.1 n0 (fun j => va_rf (f j))) (by rw [hm0]; show (arrV _ _ _).slots.size.toInt32 = _; rw [arrV_size]) rfl rfl dJ7_copyOf_6403c_30 ?_
  refine lv_iload_n hx hb dJ7_copyOf_6403c_31 rfl (lv_at hl 2 rfl) ?_
  refine va_mmin (rest := [.int 0, .ref s.heap.size, .int 0, .ref a0]) hx hb (hml.trans hl.1.symm) hown (hts _ (wk_in kl_J7_304)) (hts _ (wk_in kw_min.1)) (hts _ (wk_in kw_min.2.1)) (hts _ (wk_in kw_min.2.2)) (Nat.le_of_ble_eq_true rfl) (Nat.le_of_ble_eq_true rfl) (Nat.le_refl 1) (Nat.le_refl N) dJ7_copyOf_6403c_32 ?_
  rw [show (if n < m0 then n else m0) = m0 from if_neg (by rw [Int32.lt_iff_toInt_lt]; omega)]
  have c0 := tc_n hm1
  have kz : (0 : Int32).toNatClampNeg = 0 := by decide
  refine va_copyM (D := (fun _ => cA1, fun _ _ => 0)) (cl := []) (tys := [(cA1, .object "java/lang/Object")]) (ws := [(a0, .inl (cA1, n0, .inr (.inr (.inr (.inr f))))), (s.heap.size, .inl (cA1, N, .inr (.inr (.inr (.inr (fun _ => none))))))]) (A := fun q => q = a0 ∨ q = s.heap.size) (H0 := H1) (rest := []) hx hb (hml.trans hl.1.symm) hown (hts _ (wk_in kl_J7_150)) (hts _ (wk_in kw_cp.1)) (hts _ (wk_in kw_cp.2.1)) (hts _ (wk_in kw_cp.2.2))
    (k_one hAr) (k_two h01 e1) (k_twoD (by omega)) ⟨Nat.le_refl _, fun _ _ _ => rfl, fun _ h => by cases h⟩ 0 1 0 0 rfl rfl rfl rfl (nl_0 (by omega)) (nl_0 (by omega)) (nl_0 (by omega)) (by rw [kz, c0]; omega) (by rw [kz, c0]; omega) (fun i hi y hy => ?_) (Nat.le_of_ble_eq_true rfl) (Nat.le_of_ble_eq_true rfl) dJ7_copyOf_6403c_35 (fun H2 locs2 hP2 hD2 hS2 => ?_)
  · rw [kz, Nat.zero_add] at hy
    rw [c0] at hi
    obtain ⟨cellV, g1, g2, g3⟩ := hel i hi y hy
    exact ⟨cellV, by rw [o1 y (Array.getElem?_eq_some_iff.mp g1).1]; exact g1, g2, g3⟩
  refine lv_aload_n hx hb dJ7_copyOf_6403c_38 rfl (lv_at hl 0 rfl) ?_
  have hZ : ∀ q : Nat, q < s.heap.size → H2[q]? = s.heap[q]? := fun q hq => by
    by_cases hqa : q = a0
    · rw [hqa, h0]
      exact hP2 0 (a0, .inl (cA1, n0, .inr (.inr (.inr (.inr f))))) rfl
    · rw [hS2.2.1 q (by omega) (fun z => by omega), o1 q hq]
  have hN2 : H2[s.heap.size]? = some (vp_cell cA1 (N, .inr (.inr (.inr (.inr (va_cpy f (fun _ => none) 0 0 n0)))))) := by
    have h := hP2 1 (s.heap.size, .inl (cA1, N, .inr (.inr (.inr (.inr (va_cpy f (fun _ => none) (0 : Int32).toNatClampNeg (0 : Int32).toNatClampNeg m0.toNatClampNeg)))))) rfl
    rw [kz, c0] at h
    exact h
  refine W.sz (fun hsz => ?_)
  exact W.aret hx hb hr (Or.inr ⟨_, rfl⟩) (Or.inr ⟨_, rfl⟩) (fun t ht _ => ⟨rfl, by rw [ht]; exact hN2, by have := hS2.1; rw [ht]; omega, fun q hq => by rw [ht]; exact hZ q hq⟩) (fun q hq => by rcases hS2.2.2 q hq with z | z; exact Or.inl z; exact Or.inr (by omega)) dJ7_copyOf_6403c_39
def rm_kcopyOf2 (N : Nat) : Room := { frames := 2, cells := 1, slots := N, locals := 8 + (4 + 11) + 30 }
theorem kMi_blind {av : List Value} {P : State → Prop} (h : ∀ (U V : State), U.heap = V.heap → U.vm = V.vm → P U → P V) : FrameBlind (va_Pc av P) := fun _ U _ _ q => ⟨q.1, h U _ rfl rfl q.2⟩
/-- a list has an array of its own, or a longer one -/
def zLs (Z : cZ) (s a n : Nat) : cZ := (fun K i => if K = 54 ∧ i = s then a else Z.ad K i, fun K i => Z.al K i ∨ (K = 54 ∧ i = s), Z.n, fun k => Z.w k + (if k = 0 then 1 else if k = 1 then n else if k = 4 then 1 else if k = 10 + s then n else 0))
def gLs (g : mSt) (s old : Nat) (cp : Int32) : mSt := fun j i => if j = 385 ∧ i = s then 0 else if j = 1729 ∧ i = s then cp else if j = 1728 ∧ i / 16777216 = s ∧ old ≤ i % 16777216 then -1 else g j i
theorem lad {Z : cZ} {s a n K i : Nat} (h : ¬ (K = 54 ∧ i = s)) : (zLs Z s a n).ad K i = Z.ad K i := if_neg h
theorem ladK {Z : cZ} {s a n K i : Nat} (h : K ≠ 54) : (zLs Z s a n).ad K i = Z.ad K i := lad (fun q => h q.1)
theorem lSd {Z : cZ} {s a n k : Nat} : cSd (zLs Z s a n) k = cSd Z k := by
  unfold cSd
  rw [show (zLs Z s a n).n = Z.n from rfl, ladK (by decide), ladK (by decide)]
theorem lOp {Z : cZ} {s a n K : Nat} {x : Int32} (h : K ≠ 54) : cOpt (zLs Z s a n) K x = cOpt Z K x := by
  unfold cOpt
  rw [ladK h]
theorem gLs_o {g : mSt} {s old : Nat} {cp : Int32} {j i : Nat} (h1 : ¬ (j = 385 ∧ i = s)) (h2 : ¬ (j = 1729 ∧ i = s)) (h3 : ¬ (j = 1728 ∧ i / 16777216 = s ∧ old ≤ i % 16777216)) : gLs g s old cp j i = g j i := by
  unfold gLs
  rw [if_neg h1, if_neg h2, if_neg h3]
theorem gLs_lo {g : mSt} {s old k : Nat} {cp : Int32} (h : k < old) (hk : k < 16777216) : gLs g s old cp 1728 (16777216 * s + k) = g 1728 (16777216 * s + k) := gLs_o (by omega) (by omega) (by omega)
theorem gLs_hi {g : mSt} {s old k : Nat} {cp : Int32} (h : old ≤ k) (hk : k < 16777216) : gLs g s old cp 1728 (16777216 * s + k) = -1 := by
  unfold gLs
  have n1 : ¬ ((1728 : Nat) = 385 ∧ 16777216 * s + k = s) := by omega
  have n2 : ¬ ((1728 : Nat) = 1729 ∧ 16777216 * s + k = s) := by omega
  have n3 : (1728 : Nat) = 1728 ∧ (16777216 * s + k) / 16777216 = s ∧ old ≤ (16777216 * s + k) % 16777216 := by omega
  rw [if_neg n1, if_neg n2, if_pos n3]
theorem gLs_cap {g : mSt} {s old : Nat} {cp : Int32} : gLs g s old cp 1729 s = cp := by
  unfold gLs
  have n1 : ¬ ((1729 : Nat) = 385 ∧ s = s) := by omega
  rw [if_neg n1, if_pos ⟨rfl, rfl⟩]
theorem gLs_code {g : mSt} {s old : Nat} {cp : Int32} : gLs g s old cp 385 s = 0 := if_pos ⟨rfl, rfl⟩
theorem gLs_r {g : mSt} {s old : Nat} {cp : Int32} {j : Nat} (h1 : j ≠ 385) (h2 : j ≠ 1729) (h3 : j ≠ 1728) : gLs g s old cp j = g j := funext fun i => gLs_o (fun z => h1 z.1) (fun z => h2 z.1) (fun z => h3 z.1)
theorem lTo {Z : cZ} {s a n K i f : Nat} {x : Int32} (h : ¬ (K = 12 ∧ i = s)) (hK : K < 16) (hr : cRef K f = true) (hf : f < cNn K) : cTo (zLs Z s a n) x K i f = cTo Z x K i f := by
  have hn : (zLs Z s a n).n = Z.n := rfl
  by_cases hi : i = s
  · have h12 : K ≠ 12 := fun z => h ⟨z, hi⟩
    rcases (by omega : K = 0 ∨ K = 1 ∨ K = 2 ∨ K = 3 ∨ K = 4 ∨ K = 5 ∨ K = 6 ∨ K = 7 ∨ K = 8 ∨ K = 9 ∨ K = 10 ∨ K = 11 ∨ K = 13 ∨ K = 14 ∨ K = 15) with e | e | e | e | e | e | e | e | e | e | e | e | e | e | e <;> subst e
    all_goals first
      | (exact absurd (show false = true from hr) (by decide))
      | (exact absurd hf (Nat.not_lt_zero _))
      | (simp only [cTo, ladK, lSd, lOp, hn, ne_eq, Nat.reduceEqDiff, not_false_eq_true]; done)
  · have q54 : (zLs Z s a n).ad 54 i = Z.ad 54 i := lad (fun q => hi q.2)
    simp only [cTo, ladK, lSd, lOp, hn, q54, ne_eq, Nat.reduceEqDiff, not_false_eq_true]
theorem lTe {Z : cZ} {s a n K i k : Nat} {x : Int32} : cTe (zLs Z s a n) x K i k = cTe Z x K i k := by
  simp only [cTe, ladK, lSd, lOp, ne_eq, Nat.reduceEqDiff, not_false_eq_true]
theorem cLeR_z {Z : cZ} {g : mSt} {K i : Nat} (h : 48 ≤ K ∧ K ≤ 55 ∧ K ≠ 54) : cLeR Z g K i = (if K = 48 then 40 else if K = 49 then Z.n else if K = 50 then 2 * Z.n else if K = 51 then Z.n else if K = 52 then 2 * Z.n else if K = 53 then 4 else 0) := by
  rcases (by omega : K = 48 ∨ K = 49 ∨ K = 50 ∨ K = 51 ∨ K = 52 ∨ K = 53 ∨ K = 55) with e | e | e | e | e | e | e <;> subst e <;> rfl
theorem cH.grow {G : cG} {Z : cZ} {g : mSt} {H H1 : Heap} (hM : cH G Z g H) {s a old N : Nat} {cp : Int32} (hmax : ∀ K i, Z.al K i → K ≤ 55) (hcaps : ∀ i, Z.al 54 i → (g 1729 i).toInt ≤ 10000000) (hcp : cp.toInt = (N : Int)) (hN : old ≤ N ∧ N ≤ 16777216)
    (eA : H1[a]? = some (vp_cell (G.2.2.2.2 54) (N, .inr (.inr (.inr (.inr (fun k => if k < old then cOpt Z 1 (g 1728 (16777216 * s + k)) else none)))))))
    (eO : t_OB (Z.ad 12 s) (G.1 12) (cNn 12) (G.2.1 12) H1 (updV (cV Z g 12 s) 1 (.ref a))) (oq : ∀ K i, Z.al K i → ¬ (K = 12 ∧ i = s) → H1[Z.ad K i]? = H[Z.ad K i]?) : cH G (zLs Z s a N) (gLs g s old cp) H1 := by
  intro K i hal
  refine ⟨fun h55 => ?_, fun h55 => by
    have h54 : ¬ (K = 54 ∧ i = s) := by omega
    have hal2 : Z.al K i := hal.resolve_right h54
    rw [lad h54, oq K i hal2 (by omega)]
    exact (hM K i hal2).2 h55⟩
  by_cases h54 : K = 54 ∧ i = s
  · obtain ⟨rfl, rfl⟩ := h54
    unfold cC
    rw [if_neg (by decide), if_neg (by decide), show (zLs Z i a N).ad 54 i = a from if_pos ⟨rfl, rfl⟩, eA]
    have e1 : cLeR (zLs Z i a N) (gLs g i old cp) 54 i = N := by
      show (gLs g i old cp 1729 i).toInt.toNat = N
      rw [gLs_cap]
      omega
    rw [e1, vp_cell_q, vp_cell_q]
    refine congrArg some (arrV_cg (fun k hk => congrArg va_rf ?_))
    show (if k < old then cOpt Z 1 (g 1728 (16777216 * i + k)) else none) = cOpt (zLs Z i a N) 1 (gLs g i old cp 1728 (16777216 * i + k))
    rw [lOp (by decide)]
    by_cases hko : k < old
    · rw [if_pos hko, gLs_lo hko (by omega)]
    · rw [if_neg hko, gLs_hi (by omega) (by omega), cOpt_none (by decide)]
  · have hal2 : Z.al K i := hal.resolve_right h54
    unfold cC
    rw [lad h54]
    by_cases h12 : K = 12 ∧ i = s
    · obtain ⟨rfl, rfl⟩ := h12
      rw [if_pos (by decide)]
      refine eO.to (fun f hf => ?_)
      have q : f = 0 ∨ f = 1 ∨ f = 2 := by
        have : f < 3 := hf
        omega
      unfold updV cV
      rcases q with e | e | e <;> subst e
      · rw [if_neg (by decide), gLs_r (by decide) (by decide) (by decide)]
        rfl
      · rw [if_pos rfl]
        show Value.ref a = va_rf (cTo (zLs Z i a N) (gLs g i old cp 385 i) 12 i 1)
        rw [gLs_code, cTo_own (by decide), show (zLs Z i a N).ad 54 i = a from if_pos ⟨rfl, rfl⟩]
        rfl
      · rw [if_neg (by decide), gLs_r (by decide) (by decide) (by decide)]
        rfl
    · have hC := (hM K i hal2).1 h55
      unfold cC at hC
      have ho := oq K i hal2 h12
      have hNn := cNn_le K
      by_cases h16 : K < 16
      · rw [if_pos h16] at hC ⊢
        refine (hC.kept ho).to (fun f hf => ?_)
        unfold cV
        have e : gLs g s old cp (32 * K + f) i = g (32 * K + f) i := gLs_o (fun z => h12 (by omega)) (by omega) (by omega)
        rw [e]
        by_cases hr : cRef K f = true
        · rw [if_pos hr, if_pos hr, lTo h12 h16 hr hf]
        · rw [if_neg hr, if_neg hr]
          rfl
      · rw [if_neg h16] at hC ⊢
        by_cases h48 : K < 48
        · rw [if_pos h48] at hC ⊢
          rw [ho, hC, gLs_r (by omega) (by omega) (by omega)]
        · rw [if_neg h48] at hC ⊢
          have hm := hmax K i hal2
          have e1 : cLeR (zLs Z s a N) (gLs g s old cp) K i = cLeR Z g K i := by
            by_cases hi : i = s
            · rw [cLeR_z (by omega), cLeR_z (g := g) (by omega)]
              rfl
            · unfold cLeR
              rw [gLs_o (by omega) (by omega) (by omega)]
              rfl
          rw [ho, hC, e1, vp_cell_q, vp_cell_q]
          refine congrArg some (arrV_cg (fun k hk => congrArg va_rf ?_))
          rw [lTe]
          by_cases hK54 : K = 54
          · subst hK54
            have hi : i ≠ s := fun z => h54 ⟨rfl, z⟩
            have hc := hcaps i hal2
            have hk2 : k < (g 1729 i).toInt.toNat := hk
            rw [gLs_o (by omega) (by omega) (by omega)]
          · rw [gLs_o (by omega) (by omega) (by omega)]
theorem lw {Z : cZ} {s a n k : Nat} : (zLs Z s a n).w k = Z.w k + (if k = 0 then 1 else if k = 1 then n else if k = 4 then 1 else if k = 10 + s then n else 0) := rfl
theorem lwo {Z : cZ} {s a n k : Nat} (h : k ≠ 0 ∧ k ≠ 1 ∧ k ≠ 4 ∧ k ≠ 10 + s) : (zLs Z s a n).w k = Z.w k := by
  rw [lw, if_neg h.1, if_neg h.2.1, if_neg h.2.2.1, if_neg h.2.2.2]
  rfl
theorem lws {Z : cZ} {s a n : Nat} : (zLs Z s a n).w (10 + s) = Z.w (10 + s) + n := by
  rw [lw, if_neg (by omega), if_neg (by omega), if_neg (by omega), if_pos rfl]
theorem zWl {Z : cZ} {s a n : Nat} (h : cWm Z) (hs : s < 2 * Z.n) (hn : Z.n ≤ 4) : cWm (zLs Z s a n) := by
  obtain ⟨a1, a2, a3, a4, a5⟩ := h
  have w0 : (zLs Z s a n).w 0 = Z.w 0 + 1 := rfl
  have w1 : (zLs Z s a n).w 1 = Z.w 1 + n := rfl
  have w4 : (zLs Z s a n).w 4 = Z.w 4 + 1 := rfl
  have w2 : (zLs Z s a n).w 2 = Z.w 2 := lwo (by omega)
  have w3 : (zLs Z s a n).w 3 = Z.w 3 := lwo (by omega)
  refine ⟨fun K i hi => ?_, fun d hd => ?_, ?_, ?_, fun x h1 h2 => ?_⟩
  · rcases hi with hi | hi
    · exact a1 K i hi
    · refine ⟨by omega, fun _ => ?_, fun z => by omega⟩
      show i < 2 * Z.n
      omega
  · rw [w2]
    rcases hd with hd | hd
    · exact a2 d hd
    · omega
  · have hsum : (zLs Z s a n).w 10 + (zLs Z s a n).w 11 + (zLs Z s a n).w 12 + (zLs Z s a n).w 13 + (zLs Z s a n).w 14 + (zLs Z s a n).w 15 + (zLs Z s a n).w 16 + (zLs Z s a n).w 17 = (Z.w 10 + Z.w 11 + Z.w 12 + Z.w 13 + Z.w 14 + Z.w 15 + Z.w 16 + Z.w 17) + n := by
      have hb : s < 8 := by omega
      have q : ∀ k, k ≠ s → k < 8 → (zLs Z s a n).w (10 + k) = Z.w (10 + k) := fun k h1 h2 => lwo (by omega)
      rcases (by omega : s = 0 ∨ s = 1 ∨ s = 2 ∨ s = 3 ∨ s = 4 ∨ s = 5 ∨ s = 6 ∨ s = 7) with e | e | e | e | e | e | e | e <;> subst e
      · have := q 1 (by decide) (by decide); have := q 2 (by decide) (by decide); have := q 3 (by decide) (by decide); have := q 4 (by decide) (by decide); have := q 5 (by decide) (by decide); have := q 6 (by decide) (by decide); have := q 7 (by decide) (by decide); have := lws (Z := Z) (s := 0) (a := a) (n := n); simp only [Nat.reduceAdd] at *; omega
      · have := q 0 (by decide) (by decide); have := q 2 (by decide) (by decide); have := q 3 (by decide) (by decide); have := q 4 (by decide) (by decide); have := q 5 (by decide) (by decide); have := q 6 (by decide) (by decide); have := q 7 (by decide) (by decide); have := lws (Z := Z) (s := 1) (a := a) (n := n); simp only [Nat.reduceAdd] at *; omega
      · have := q 0 (by decide) (by decide); have := q 1 (by decide) (by decide); have := q 3 (by decide) (by decide); have := q 4 (by decide) (by decide); have := q 5 (by decide) (by decide); have := q 6 (by decide) (by decide); have := q 7 (by decide) (by decide); have := lws (Z := Z) (s := 2) (a := a) (n := n); simp only [Nat.reduceAdd] at *; omega
      · have := q 0 (by decide) (by decide); have := q 1 (by decide) (by decide); have := q 2 (by decide) (by decide); have := q 4 (by decide) (by decide); have := q 5 (by decide) (by decide); have := q 6 (by decide) (by decide); have := q 7 (by decide) (by decide); have := lws (Z := Z) (s := 3) (a := a) (n := n); simp only [Nat.reduceAdd] at *; omega
      · have := q 0 (by decide) (by decide); have := q 1 (by decide) (by decide); have := q 2 (by decide) (by decide); have := q 3 (by decide) (by decide); have := q 5 (by decide) (by decide); have := q 6 (by decide) (by decide); have := q 7 (by decide) (by decide); have := lws (Z := Z) (s := 4) (a := a) (n := n); simp only [Nat.reduceAdd] at *; omega
      · have := q 0 (by decide) (by decide); have := q 1 (by decide) (by decide); have := q 2 (by decide) (by decide); have := q 3 (by decide) (by decide); have := q 4 (by decide) (by decide); have := q 6 (by decide) (by decide); have := q 7 (by decide) (by decide); have := lws (Z := Z) (s := 5) (a := a) (n := n); simp only [Nat.reduceAdd] at *; omega
      · have := q 0 (by decide) (by decide); have := q 1 (by decide) (by decide); have := q 2 (by decide) (by decide); have := q 3 (by decide) (by decide); have := q 4 (by decide) (by decide); have := q 5 (by decide) (by decide); have := q 7 (by decide) (by decide); have := lws (Z := Z) (s := 6) (a := a) (n := n); simp only [Nat.reduceAdd] at *; omega
      · have := q 0 (by decide) (by decide); have := q 1 (by decide) (by decide); have := q 2 (by decide) (by decide); have := q 3 (by decide) (by decide); have := q 4 (by decide) (by decide); have := q 5 (by decide) (by decide); have := q 6 (by decide) (by decide); have := lws (Z := Z) (s := 7) (a := a) (n := n); simp only [Nat.reduceAdd] at *; omega
    rw [w1, w2, w3, hsum, a3]
    omega
  · rw [w0, w2, w4, a4]
    omega
  · have h1 : 10 + 2 * Z.n ≤ x := h1
    rw [lwo (by omega)]
    exact a5 x h1 h2
theorem cJ_grow {Z : cZ} {g : mSt} (h : cJ Z g) {s a N old : Nat} {cp : Int32} (hn : Z.n ≤ 4) (hs : s < 2 * Z.n) (hsz : (g 386 s).toInt ≤ (old : Int)) (hold : (g 1729 s).toInt = (old : Int)) (hcp : cp.toInt = (N : Int)) (hN : (old = 0 ∧ N = 10) ∨ (10 ≤ old ∧ N = old + old / 2)) (hN2 : N ≤ 10000000) : cJ (zLs Z s a N) (gLs g s old cp) := by
  have q : ∀ j, j ≠ 385 → j ≠ 1729 → j ≠ 1728 → gLs g s old cp j = g j := fun j h1 h2 h3 => gLs_r h1 h2 h3
  have al : ∀ K i, Z.al K i → (zLs Z s a N).al K i := fun K i h => Or.inl h
  have m4 : ∀ x : Int32, cD4 Z x → cD4 (zLs Z s a N) x := fun x hx => hx.elim Or.inl (fun h => Or.inr (al _ _ h))
  have m2 : ∀ (k : Nat) (x : Int32), cD2 Z g k x → cD2 (zLs Z s a N) (gLs g s old cp) k x := fun k x hx => ⟨hx.1, al _ _ hx.2.1, by rw [q 32 (by decide) (by decide) (by decide)]; exact hx.2.2⟩
  obtain ⟨h0, h1, h2, h3, h5, h4⟩ := h
  refine ⟨?_, fun c' hc' => ?_, fun k hk => ?_, fun k hk j hj => ?_, ⟨zWl h5.1 hs hn, fun k hk => ?_⟩, fun i => ?_⟩
  · unfold cJ0 at *
    rw [q 640 (by decide) (by decide) (by decide), q 704 (by decide) (by decide) (by decide), q 225 (by decide) (by decide) (by decide), q 233 (by decide) (by decide) (by decide), q 49 (by decide) (by decide) (by decide)]
    exact h0
  · have hal : Z.al 1 c' := by
      rcases hc' with h | h
      · exact h
      · exact absurd h.1 (by decide)
    obtain ⟨a1, a2, a3, a4, a5⟩ := h1 c' hal
    unfold cD1
    rw [q 32 (by decide) (by decide) (by decide), q 43 (by decide) (by decide) (by decide), q 44 (by decide) (by decide) (by decide), q 45 (by decide) (by decide) (by decide), q 46 (by decide) (by decide) (by decide)]
    exact ⟨a1, a2.elim Or.inl (fun h => Or.inr (al _ _ h)), a3.elim Or.inl (fun h => Or.inr ⟨h.1, al _ _ h.2.1, fun k hk => al _ _ (h.2.2 k hk)⟩), a4.elim Or.inl (fun h => Or.inr ⟨h.1, al _ _ h.2⟩), a5.elim Or.inl (fun h => Or.inr ⟨h.1, al _ _ h.2.1, al _ _ h.2.2⟩)⟩
  · have hk' : k < 2 * Z.n := hk
    obtain ⟨b1, b2, b3⟩ := h2 k hk'
    rw [q 386 (by decide) (by decide) (by decide)]
    by_cases hks : k = s
    · subst hks
      rw [gLs_cap]
      refine ⟨b1, by omega, fun j hj => ?_⟩
      rw [gLs_lo (by omega) (by omega)]
      exact m2 _ _ (b3 j hj)
    · have e1 : gLs g s old cp 1729 k = g 1729 k := gLs_o (by omega) (fun z => hks z.2) (by omega)
      rw [e1]
      have hc : (g 1729 k).toInt ≤ 10000000 := by
        rcases (h5.2 k hk').1 with z | z
        · omega
        · exact z.2.2.2
      refine ⟨b1, b2, fun j hj => ?_⟩
      rw [gLs_o (by omega) (by omega) (by omega)]
      exact m2 _ _ (b3 j hj)
  · rw [q 135 (by decide) (by decide) (by decide)] at hj
    rw [q 1536 (by decide) (by decide) (by decide)]
    exact m2 _ _ (h3 k hk j hj)
  · have hk' : k < 2 * Z.n := hk
    by_cases hks : k = s
    · subst hks
      rw [gLs_cap, gLs_code, lws]
      have h6 := (h5.2 k hk').2
      refine ⟨Or.inr ⟨by decide, Or.inr ⟨rfl, rfl⟩, by omega, by omega⟩, ?_⟩
      omega
    · have e1 : gLs g s old cp 1729 k = g 1729 k := gLs_o (by omega) (fun z => hks z.2) (by omega)
      have e2 : gLs g s old cp 385 k = g 385 k := gLs_o (fun z => hks z.2) (by omega) (by omega)
      rw [e1, e2, lwo (by omega)]
      exact ⟨(h5.2 k hk').1.elim Or.inl (fun z => Or.inr ⟨z.1, al _ _ z.2.1, z.2.2⟩), (h5.2 k hk').2⟩
  · rw [q 43 (by decide) (by decide) (by decide), q 1536 (by decide) (by decide) (by decide)]
    refine ⟨m4 _ (h4 i).1, ?_, m4 _ (h4 i).2.2⟩
    by_cases hz : i / 16777216 = s ∧ old ≤ i % 16777216
    · left
      have e : gLs g s old cp 1728 i = -1 := by
        have := gLs_hi (g := g) (cp := cp) (s := s) (old := old) (k := i % 16777216) hz.2 (by omega)
        rw [show 16777216 * s + i % 16777216 = i by omega] at this
        exact this
      rw [e]
      decide
    · rw [gLs_o (by omega) (by omega) (fun z => hz z.2)]
      exact m4 _ (h4 i).2.1
theorem cAp_grow {Z : cZ} {s a n : Nat} (h : cAp Z) (ha : ∀ K i, Z.al K i → Z.ad K i ≠ a) : cAp (zLs Z s a n) := by
  intro K i K' i' h1 h2 e
  by_cases q1 : K = 54 ∧ i = s <;> by_cases q2 : K' = 54 ∧ i' = s
  · exact ⟨q1.1.trans q2.1.symm, q1.2.trans q2.2.symm⟩
  · rw [lad q2, q1.1, q1.2, show (zLs Z s a n).ad 54 s = a from if_pos ⟨rfl, rfl⟩] at e
    exact absurd e.symm (ha K' i' (h2.resolve_right q2))
  · rw [lad q1, q2.1, q2.2, show (zLs Z s a n).ad 54 s = a from if_pos ⟨rfl, rfl⟩] at e
    exact absurd e (ha K i (h1.resolve_right q1))
  · rw [lad q1, lad q2] at e
    exact h K i K' i' (h1.resolve_right q1) (h2.resolve_right q2) e
theorem cSt_grow {Z : cZ} {s a n : Nat} (h : cSt Z) : cSt (zLs Z s a n) := ⟨h.1, fun K i hi => Or.inl (h.2 K i hi)⟩
theorem cI_grow {X : Int} {g : mSt} {s old : Nat} {cp : Int32} (h : cI X g) : cI X (gLs g s old cp) := by
  intro j i
  by_cases q : j = 385 ∨ j = 1729 ∨ j = 1728
  · rcases q with q | q | q <;> subst q
    · exact rg_any (gLs g s old cp 385 i)
    · exact rg_any (gLs g s old cp 1729 i)
    · exact rg_any (gLs g s old cp 1728 i)
  · rw [gLs_r (by omega) (by omega) (by omega)]
    exact h j i
theorem cAd_grow {Z : cZ} {s a n q : Nat} (h : cAd (zLs Z s a n) q) : cAd Z q ∨ q = a := by
  obtain ⟨K, i, hal, n55, e⟩ := h
  by_cases hs : K = 54 ∧ i = s
  · right
    rw [e, hs.1, hs.2]
    exact if_pos ⟨rfl, rfl⟩
  · left
    rw [lad hs] at e
    exact ⟨K, i, hal.resolve_right hs, n55, e⟩
theorem cZl_grow {Z : cZ} {s a n : Nat} : cZl Z (zLs Z s a n) 1 n := ⟨rfl, fun _ _ h => Or.inl h, fun _ _ _ h => ladK h.1, rfl, rfl⟩
theorem mFr_grow {g : mSt} {s old : Nat} {cp : Int32} : mFr [385, 1728, 1729] g (gLs g s old cp) := by
  intro j hj
  simp only [List.mem_cons, List.not_mem_nil, or_false, not_or] at hj
  exact gLs_r hj.1 hj.2.2 hj.2.1
