/-! THE REFERENCE: ranges that every store keeps; rows over them -/
def mLoL : List Int := [-2147483648, -2147483648, -2147483648, 0, -2147483648, -2147483648, 0, 0, -2147483648, -2147483648, -2147483648, 0, 0, -2147483648, -2147483648, -2147483648, 0, -2147483648, 0, -2147483648, -2147483648, 0, 0, -2147483648, -2147483648, -2147483648, -2147483648, -2147483648, -2147483648, -2147483648, -2147483648, -2147483648, 0, -2147483648, 0, -2147483648, 0, -2147483648, -2147483648, 0, -2147483648, 0, 0, -2147483648, -2147483648, -2147483648, 0, -2147483648, -2147483648, -2147483648, -2147483648, -2147483648, -2147483648, -2147483648, 0, -2147483648, -2147483648, -2147483648, -2147483648, 0, 0, -2147483648, 0, -2147483648, 0, -2147483648, 0, 0, 0, -2147483648, 0, -2147483648, -2147483648, -2147483648, -2147483648, -2147483648, 0, -2, -2147483648, -2147483648, 0, -2147483648, -2147483648, -2147483648, -2147483648, 0, 0, 0, -2147483648, 0, -2147483648, 0]
def mHiL : List Int := [2147483647, 2147483647, 2147483647, 200, 2147483647, 2147483647, 39, 40, 2147483647, 2147483647, 2147483647, 256, 2, 2147483647, 2147483647, 2147483647, 8, 2147483647, 53, 2147483647, 2147483647, 2, 53, 2147483647, 2147483647, 2147483647, 2147483647, 2147483647, 2147483647, 2147483647, 2147483647, 2147483647, 5, 2147483647, 200, 2147483647, 200, 2147483647, 2147483647, 0, 2147483647, 2147483647, 2147483647, 2147483647, 2147483647, 2147483647, 16777224, 2147483647, 2147483647, 2147483647, 2147483647, 2147483647, 2147483647, 2147483647, 1, 2147483647, 2147483647, 2147483647, 2147483647, 60, 10, 2147483647, 60, 2147483647, 1, 2147483647, 60, 1, 11, 2147483647, 1, 2147483647, 2147483647, 2147483647, 2147483647, 2147483647, 1, 319, 2147483647, 2147483647, 40, 2147483647, 2147483647, 2147483647, 2147483647, 200, 4, 5, 2147483647, 5, 2147483647, 60]
def mCnt (j : Nat) : Bool := decide (j = 39)
def mLo (nn : Int) (j : Nat) : Int := if j = 0 then nn else mLoL.getD j 0
def mHi (nn X : Int) (j : Nat) : Int := if j = 0 then nn else if j = 77 then 80 * nn - 1 else if mCnt j then X else mHiL.getD j 0
def mI (nn X : Int) (g : mSt) : Prop := ∀ j i, rg (mLo nn j) (mHi nn X j) (g j i)
theorem mI.up {nn X : Int} {g : mSt} {j i : Nat} {v : Int32} (h : mI nn X g) (hv : rg (mLo nn j) (mHi nn X j) v) : mI nn X (up2 g j i v) := by
  intro a b
  unfold up2
  by_cases q : a = j ∧ b = i
  · rw [if_pos q, q.1]; exact hv
  · rw [if_neg q]; exact h a b
theorem mI.mono {nn X Y : Int} {g : mSt} (h : mI nn X g) (hXY : X ≤ Y) : mI nn Y g := by
  intro a b
  refine ⟨(h a b).1, Int.le_trans (h a b).2 ?_⟩
  unfold mHi
  split
  · exact Int.le_refl _
  · split
    · exact Int.le_refl _
    · split
      · exact hXY
      · exact Int.le_refl _
/-- what may have changed -/
def mFr (M : List Nat) (g g1 : mSt) : Prop := ∀ j, j ∉ M → g1 j = g j
theorem mFr.rf {M : List Nat} {g : mSt} : mFr M g g := fun _ _ => rfl
theorem mFr.up {M : List Nat} {g g1 : mSt} {j i : Nat} {v : Int32} (h : mFr M g g1) (hj : M.elem j = true) : mFr M g (up2 g1 j i v) := by
  intro a ha
  have hne : a ≠ j := fun z => ha (by rw [z]; exact List.elem_iff.mp hj)
  rw [up2_of hne]
  exact h a ha
theorem mFr.tr {M N : List Nat} {g g1 g2 : mSt} (h : mFr M g g1) (h2 : mFr N g1 g2) (hs : N.all (fun j => M.elem j) = true) : mFr M g g2 := by
  intro a ha
  have hn : a ∉ N := fun z => ha (List.elem_iff.mp (List.all_eq_true.mp hs a z))
  rw [h2 a hn, h a ha]
theorem mFr.at {M : List Nat} {g g1 : mSt} (h : mFr M g g1) (j : Nat) (hj : M.elem j = false) : g1 j = g j := h j (fun z => by rw [List.elem_iff.mpr z] at hj; cases hj)
def mX (p : Program) (c : Code) (cc : ByteArray) (s : State) (args : Array Value) (Ts : List Cond) (m : MethodId) (G : mG) (h0 : Nat) (ad : Nat → Nat) : Prop :=
  p.tables.exec = Jvm.exec ∧ c.code = cc ∧ (∀ w ∈ Ts, w.before args s = true) ∧ (∀ w ∈ wsX120, w ∈ Ts) ∧ s.vm.findClass RX12 = some m.cls ∧ mK G s ∧ mAp h0 ad
def mL (G : mG) (h0 : Nat) (ad : Nat → Nat) (H0 : Heap) (nn X : Int) (g : mSt) (H : Heap) (locs : List Loc) : Prop := mH G h0 ad g H ∧ va_S (mA h0 ad) H0 H locs ∧ mI nn X g
/-- a method of the reference: its start, its end -/
def mPre (G : mG) (h0 : Nat) (ad : Nat → Nat) (nn X : Int) (g : mSt) (U : State) : Prop := mH G h0 ad g U.heap ∧ mI nn X g ∧ mK G U ∧ mAp h0 ad
def mPo (G : mG) (h0 : Nat) (ad : Nat → Nat) (nn Y : Int) (g1 : mSt) (t : State) : Prop := mH G h0 ad g1 t.heap ∧ mI nn Y g1
def mQv (G : mG) (h0 : Nat) (ad : Nat → Nat) (nn Y : Int) (post : mSt → Prop) : Array Value → State → Outcome → State → Prop := va_Qv post (mPo G h0 ad nn Y) (mA h0 ad)
def mQi (G : mG) (h0 : Nat) (ad : Nat → Nat) (nn Y : Int) (post : Int32 → mSt → Prop) : Array Value → State → Outcome → State → Prop := va_Qi post (mPo G h0 ad nn Y) (mA h0 ad)
section MRows
variable {p : Program} {l : Launch} {e : Env} {R : Room} {s : State} {m : MethodId} {args : Array Value} {below : List Frame} {meth : Method} {c : Code} {H : Heap} {locs : List Loc} {cells slots : Nat} {Q : State → Prop}
variable {cc : ByteArray} {pc : Nat} {ls : Array Slot} {rest : List Value} {G : mG} {h0 : Nat} {ad : Nat → Nat} {g : mSt} {H0 : Heap} {Ts : List Cond} {nn X : Int}
theorem m_geti (x : mX p c cc s args Ts m G h0 ad) (L : mL G h0 ad H0 nn X g H locs) (k : Nat) {index : Nat} (hk : (decide (k < 92) && mInt k) = true) (hT : (TX12 k).1 = RX12) (hw : Cond.fieldLink RX12 index RX12 (TX12 k).2.1 (TX12 k).2.2.1 ∈ Ts) (hdg : decode cc pc = .ok (.getfield index, 3))
    (kk : ∀ v : Int32, v = g k 0 → rg (mLo nn k) (mHi nn X k) v → W p l e R s m args below meth c H locs cells slots Q (F0 m (pc + 3) ls (.int v :: rest))) : W p l e R s m args below meth c H locs cells slots Q (F0 m pc ls (.ref h0 :: rest)) := by
  obtain ⟨hx, hb, hts, hin, hown, hK, hA⟩ := x
  rw [Bool.and_eq_true] at hk
  exact mg_any hx hb hts hin hown hK L.1 k (of_decide_eq_true hk.1) (v := .int (g k 0)) (by unfold mV; rw [if_pos hk.2]) hT (hts _ hw) hdg (kk _ rfl (L.2.2 k 0))
theorem m_geta (x : mX p c cc s args Ts m G h0 ad) (L : mL G h0 ad H0 nn X g H locs) (k : Nat) {index : Nat} (hk : (decide (k < 92) && !(mInt k)) = true) (hT : (TX12 k).1 = RX12) (hw : Cond.fieldLink RX12 index RX12 (TX12 k).2.1 (TX12 k).2.2.1 ∈ Ts) (hdg : decode cc pc = .ok (.getfield index, 3))
    (kk : W p l e R s m args below meth c H locs cells slots Q (F0 m (pc + 3) ls (.ref (ad k) :: rest))) : W p l e R s m args below meth c H locs cells slots Q (F0 m pc ls (.ref h0 :: rest)) := by
  obtain ⟨hx, hb, hts, hin, hown, hK, hA⟩ := x
  rw [Bool.and_eq_true, Bool.not_eq_true'] at hk
  exact mg_any hx hb hts hin hown hK L.1 k (of_decide_eq_true hk.1) (v := .ref (ad k)) (by unfold mV; rw [if_neg (by rw [hk.2]; decide)]) hT (hts _ hw) hdg kk
theorem m_puti (x : mX p c cc s args Ts m G h0 ad) (L : mL G h0 ad H0 nn X g H locs) (k : Nat) {index : Nat} (hk : (decide (k < 92) && mInt k) = true) (hT : ((TX12 k).1 = RX12 ∧ (TX12 k).2.2.2 = false ∧ parseFieldDescriptor (TX12 k).2.2.1 = some .int)) (hw : Cond.fieldLink RX12 index RX12 (TX12 k).2.1 (TX12 k).2.2.1 ∈ Ts) (hdg : decode cc pc = .ok (.putfield index, 3)) {v : Int32} (hv : rg (mLo nn k) (mHi nn X k) v)
    (kk : ∀ (g1 : mSt) (H1 : Heap) (locs1 : List Loc), g1 = up2 g k 0 v → mL G h0 ad H0 nn X g1 H1 locs1 → W p l e R s m args below meth c H1 locs1 cells slots Q (F0 m (pc + 3) ls rest)) : W p l e R s m args below meth c H locs cells slots Q (F0 m pc ls (.int v :: .ref h0 :: rest)) := by
  obtain ⟨hx, hb, hts, hin, hown, hK, hA⟩ := x
  rw [Bool.and_eq_true] at hk
  exact mp_int hx hb hts hin hown hK hA L.1 L.2.1 k (of_decide_eq_true hk.1) hk.2 hT.1 hT.2.1 hT.2.2 (hts _ hw) hdg (fun H1 locs1 q1 q2 => kk _ H1 locs1 rfl ⟨q1, q2, L.2.2.up hv⟩)
theorem m_ld (x : mX p c cc s args Ts m G h0 ad) (L : mL G h0 ad H0 nn X g H locs) (j : Nat) (hj : (decide (j < 92) && (!(mInt j) && !(mBool j))) = true) {i : Int32} {a b : Int} (r : rg a b i) (hr : (decide (0 ≤ a) && decide (b < (mLen j : Int))) = true) (hdg : decode cc pc = .ok (.iaload, 1))
    (kk : ∀ v : Int32, v = g j i.toNatClampNeg → rg (mLo nn j) (mHi nn X j) v → W p l e R s m args below meth c H locs cells slots Q (F0 m (pc + 1) ls (.int v :: rest))) : W p l e R s m args below meth c H locs cells slots Q (F0 m pc ls (.int i :: .ref (ad j) :: rest)) := by
  obtain ⟨hx, hb, hts, hin, hown, hK, hA⟩ := x
  rw [Bool.and_eq_true, Bool.and_eq_true, Bool.not_eq_true', Bool.not_eq_true'] at hj
  exact ma_ld hx hb hK L.1 j (of_decide_eq_true hj.1) hj.2.1 hj.2.2 (rg_in r hr) hdg (kk _ rfl (L.2.2 j _))
theorem m_ldz (x : mX p c cc s args Ts m G h0 ad) (L : mL G h0 ad H0 nn X g H locs) (j : Nat) (hj : (decide (j < 92) && (!(mInt j) && mBool j)) = true) {i : Int32} {a b : Int} (r : rg a b i) (hr : (decide (0 ≤ a) && decide (b < (mLen j : Int))) = true) (hdg : decode cc pc = .ok (.baload, 1))
    (kk : ∀ v : Int32, v = g j i.toNatClampNeg → rg (mLo nn j) (mHi nn X j) v → W p l e R s m args below meth c H locs cells slots Q (F0 m (pc + 1) ls (.int v :: rest))) : W p l e R s m args below meth c H locs cells slots Q (F0 m pc ls (.int i :: .ref (ad j) :: rest)) := by
  obtain ⟨hx, hb, hts, hin, hown, hK, hA⟩ := x
  rw [Bool.and_eq_true, Bool.and_eq_true, Bool.not_eq_true'] at hj
  exact mz_ld hx hb hK L.1 j (of_decide_eq_true hj.1) hj.2.1 hj.2.2 (rg_in r hr) hdg (kk _ rfl (L.2.2 j _))
theorem m_st (x : mX p c cc s args Ts m G h0 ad) (L : mL G h0 ad H0 nn X g H locs) (j : Nat) (hj : (decide (j < 92) && (!(mInt j) && !(mBool j))) = true) {i v : Int32} {a b : Int} (r : rg a b i) (hr : (decide (0 ≤ a) && decide (b < (mLen j : Int))) = true) (hv : rg (mLo nn j) (mHi nn X j) v) (hdg : decode cc pc = .ok (.iastore, 1))
    (kk : ∀ (g1 : mSt) (H1 : Heap) (locs1 : List Loc), g1 = up2 g j i.toNatClampNeg v → mL G h0 ad H0 nn X g1 H1 locs1 → W p l e R s m args below meth c H1 locs1 cells slots Q (F0 m (pc + 1) ls rest)) : W p l e R s m args below meth c H locs cells slots Q (F0 m pc ls (.int v :: .int i :: .ref (ad j) :: rest)) := by
  obtain ⟨hx, hb, hts, hin, hown, hK, hA⟩ := x
  rw [Bool.and_eq_true, Bool.and_eq_true, Bool.not_eq_true', Bool.not_eq_true'] at hj
  exact ma_st hx hb hK hA L.1 L.2.1 j (of_decide_eq_true hj.1) hj.2.1 hj.2.2 (rg_in r hr) hdg (fun H1 locs1 q1 q2 => kk _ H1 locs1 rfl ⟨q1, q2, L.2.2.up hv⟩)
theorem nar01 {v : Int32} (h : rg 0 1 v) : vp_nar .boolean v = v := by
  have h1 : 0 ≤ v.toInt ∧ v.toInt ≤ 1 := h
  rcases (by omega : v.toInt = 0 ∨ v.toInt = 1) with q | q
  · have : v = 0 := Int32.toInt_inj.mp q
    subst this; rfl
  · have : v = 1 := Int32.toInt_inj.mp q
    subst this; rfl
theorem m_stz (x : mX p c cc s args Ts m G h0 ad) (L : mL G h0 ad H0 nn X g H locs) (j : Nat) (hj : (decide (j < 92) && (!(mInt j) && mBool j)) = true) {i v : Int32} {a b : Int} (r : rg a b i) (hr : (decide (0 ≤ a) && decide (b < (mLen j : Int))) = true) (hv01 : rg 0 1 v) (hv : rg (mLo nn j) (mHi nn X j) v) (hdg : decode cc pc = .ok (.bastore, 1))
    (kk : ∀ (g1 : mSt) (H1 : Heap) (locs1 : List Loc), g1 = up2 g j i.toNatClampNeg v → mL G h0 ad H0 nn X g1 H1 locs1 → W p l e R s m args below meth c H1 locs1 cells slots Q (F0 m (pc + 1) ls rest)) : W p l e R s m args below meth c H locs cells slots Q (F0 m pc ls (.int v :: .int i :: .ref (ad j) :: rest)) := by
  obtain ⟨hx, hb, hts, hin, hown, hK, hA⟩ := x
  rw [Bool.and_eq_true, Bool.and_eq_true, Bool.not_eq_true'] at hj
  exact mz_st hx hb hK hA L.1 L.2.1 j (of_decide_eq_true hj.1) hj.2.1 hj.2.2 (nar01 hv01) (rg_in r hr) hdg (fun H1 locs1 q1 q2 => kk _ H1 locs1 rfl ⟨q1, q2, L.2.2.up hv⟩)
theorem m_top {x y : Int32} (h : y = x) (k : W p l e R s m args below meth c H locs cells slots Q (F0 m pc ls (.int y :: rest))) : W p l e R s m args below meth c H locs cells slots Q (F0 m pc ls (.int x :: rest)) := by rw [← h]; exact k
/-- calls of the reference's own methods -/
theorem mPre.blind {av : List Value} : FrameBlind (va_Pc av (mPre G h0 ad nn X g)) := by
  intro a U gg mk q
  obtain ⟨q0, q1, q2, q3, q4⟩ := q
  exact ⟨q0, q1, q2, mK.moved (Vm.Alike.refl U.vm) q3, q4⟩
theorem m_recv (x : mX p c cc s args Ts m G h0 ad) (L : mL G h0 ad H0 nn X g H locs) : ∃ cellB : Cell, H[h0]? = some cellB ∧ cellB.vm.isStatics = false ∧ s.vm.findClass RX12 = some cellB.cls := by
  obtain ⟨-, -, -, -, hown, hK, -⟩ := x
  obtain ⟨⟨cell, q1, q2, q3, q4⟩, -⟩ := L.1
  obtain ⟨⟨hS, hfc, kC, hkC, hkind⟩, -⟩ := hK
  exact ⟨cell, q1, by rw [q3]; rfl, by rw [q2]; exact hfc⟩
theorem m_cv {y : MethodName} {bytes : ByteArray} {maxL index n nL : Nat} {ws ws' : List Cond} {rm : Room} {As stk : List Value} {Y : Int} {post : mSt → Prop} (x : mX p c cc s args Ts m G h0 ad) (hml : c.maxLocals = nL) (L : mL G h0 ad H0 nn X g H locs)
    (hM : Met l y ws rm (va_Pc (.ref h0 :: As) (mPre G h0 ad nn X g)) (mQv G h0 ad nn Y post) 0 0 (mA h0 ad)) (hT : GoodIn Ts (wsV RX12 index RX12 y ws)) (hw : ws = Cond.code y bytes maxL none :: ws') (hrm : rm.cells = 0 ∧ rm.slots = 0)
    (hd : y.cls = RX12 ∧ y.cls ≠ "java/lang/invoke/MethodHandle" ∧ y.cls ≠ "java/lang/invoke/VarHandle" ∧ (parseMethodDescriptor y.desc).map (fun d => d.parameters.length) = some n) (hR : rm.frames + 1 ≤ R.frames ∧ 8 + (maxL + 11) + rm.locals ≤ R.locals) (hn : As.length = n) (hls : ls.size = nL) (hst : stk = As.reverse ++ .ref h0 :: rest) (hroom : 2 * (F0 m pc ls stk).monitorRoom + (rest.map fun v => v.category).sum ≤ 8) (hdg : decode cc pc = .ok (.invokevirtual index, 3))
    (kk : ∀ (g1 : mSt) (H1 : Heap) (locs1 : List Loc), post g1 → mL G h0 ad H0 nn Y g1 H1 locs1 → W p l e R s m args below meth c H1 locs1 0 0 Q (F0 m (pc + 3) ls rest)) : W p l e R s m args below meth c H locs 0 0 Q (F0 m pc ls stk) := by
  have x' := x
  obtain ⟨hx, hb, hts, hin, hown, hK, hA⟩ := x'
  refine va_callv (va_runV (As := As) (rest := rest) ⟨hx, hb, hml, hown, hts⟩ hM (cwV n hts hT hw hrm.1 hrm.2 hd hR) ⟨mPre.blind, m_recv x L, fun U hU hW => ⟨rfl, by rw [hU]; exact L.1, L.2.2, hK.moved hW.alike, hA⟩⟩ rfl hn hls hst hroom hdg ⟨Nat.zero_le _, Nat.zero_le _⟩) L.2.1 (fun q _ h => h) (fun q h => h) (fun u t H1 locs1 ht hvm hp hB hz hk hS => ?_)
  exact kk u H1 locs1 hp ⟨by rw [← ht]; exact hB.1, hS, hB.2⟩
theorem m_ci {y : MethodName} {bytes : ByteArray} {maxL index n nL : Nat} {ret : Option FieldType} {ws ws' : List Cond} {rm : Room} {As stk : List Value} {Y : Int} {post : Int32 → mSt → Prop} (x : mX p c cc s args Ts m G h0 ad) (hml : c.maxLocals = nL) (L : mL G h0 ad H0 nn X g H locs)
    (hM : Met l y ws rm (va_Pc (.ref h0 :: As) (mPre G h0 ad nn X g)) (mQi G h0 ad nn Y post) 0 0 (mA h0 ad)) (hT : GoodIn Ts (wsV RX12 index RX12 y ws)) (hw : ws = Cond.code y bytes maxL ret :: ws') (hrm : rm.cells = 0 ∧ rm.slots = 0)
    (hd : y.cls = RX12 ∧ y.cls ≠ "java/lang/invoke/MethodHandle" ∧ y.cls ≠ "java/lang/invoke/VarHandle" ∧ (parseMethodDescriptor y.desc).map (fun d => d.parameters.length) = some n) (hR : rm.frames + 1 ≤ R.frames ∧ 8 + (maxL + 11) + rm.locals ≤ R.locals) (hn : As.length = n) (hls : ls.size = nL) (hst : stk = As.reverse ++ .ref h0 :: rest) (hroom : 2 * (F0 m pc ls stk).monitorRoom + (rest.map fun v => v.category).sum ≤ 8) (hdg : decode cc pc = .ok (.invokevirtual index, 3))
    (kk : ∀ (r : Int32) (g1 : mSt) (H1 : Heap) (locs1 : List Loc), post r g1 → mL G h0 ad H0 nn Y g1 H1 locs1 → W p l e R s m args below meth c H1 locs1 0 0 Q (F0 m (pc + 3) ls (.int r :: rest))) : W p l e R s m args below meth c H locs 0 0 Q (F0 m pc ls stk) := by
  have x' := x
  obtain ⟨hx, hb, hts, hin, hown, hK, hA⟩ := x'
  refine va_calli (va_runV (As := As) (rest := rest) ⟨hx, hb, hml, hown, hts⟩ hM (cwV n hts hT hw hrm.1 hrm.2 hd hR) ⟨mPre.blind, m_recv x L, fun U hU hW => ⟨rfl, by rw [hU]; exact L.1, L.2.2, hK.moved hW.alike, hA⟩⟩ rfl hn hls hst hroom hdg ⟨Nat.zero_le _, Nat.zero_le _⟩) L.2.1 (fun q _ h => h) (fun q h => h) (fun r u t H1 locs1 ht hvm hp hB hz hk hS => ?_)
  exact kk r u H1 locs1 hp ⟨by rw [← ht]; exact hB.1, hS, hB.2⟩
/-- its end -/
theorem m_vret {Y : Int} {post : mSt → Prop} (x : mX p c cc s args Ts m G h0 ad) (L : mL G h0 ad s.heap nn X g H locs) (hr : meth.sig.returnType = none) (hlocks : meth.locks = false) (hXY : X ≤ Y) (hp : post g) (hdg : decode cc pc = .ok (.return_, 1)) : W p l e R s m args below meth c H locs 0 0 (MQ below (mQv G h0 ad nn Y post) args s 0 0 (mA h0 ad)) (F0 m pc ls []) := by
  obtain ⟨hx, hb, -⟩ := x
  exact W.vret hx hb hr (fun t ht _ => ⟨⟨g, rfl, hp, by rw [← ht] at L; exact ⟨L.1, L.2.2.mono hXY⟩⟩, L.2.1.F ht⟩) L.2.1.2.2 hdg
theorem m_iret {Y : Int} {v : Int32} {post : Int32 → mSt → Prop} (x : mX p c cc s args Ts m G h0 ad) (L : mL G h0 ad s.heap nn X g H locs) (hr : meth.sig.returnType = some .int) (hlocks : meth.locks = false) (hXY : X ≤ Y) (hp : post v g) (hdg : decode cc pc = .ok (.ireturn, 1)) : W p l e R s m args below meth c H locs 0 0 (MQ below (mQi G h0 ad nn Y post) args s 0 0 (mA h0 ad)) (F0 m pc ls [.int v]) := by
  obtain ⟨hx, hb, -⟩ := x
  exact W.iret hx hb hr (fun t ht _ => ⟨⟨v, g, rfl, hp, by rw [← ht] at L; exact ⟨L.1, L.2.2.mono hXY⟩⟩, L.2.1.F ht⟩) L.2.1.2.2 hdg
/-- its start -/
theorem m_start {nL : Nat} {y : MethodName} {ws : List Cond} {rm : Room} {ret : Option FieldType} {s₁ : State} (B : BodyLoose p l y (headSpec ws rm) cc nL ret e s m args below meth c s₁) (hy : y.cls = RX12) (hin : ∀ w ∈ wsX120, w ∈ ws) (hv : mPre G h0 ad nn X g s) : mX p c cc s args ws m G h0 ad ∧ mL G h0 ad s.heap nn X g s.heap [] :=
  ⟨⟨B.exec, B.bytes, atoms_spec (ws := ws) B.pre, hin, by rw [← hy]; exact findClass_of_methodNamed B.named, hv.2.2.1, hv.2.2.2⟩, hv.1, va_S.rf, hv.2.1⟩
end MRows
