/-! the reference's constructor -/
def wsX12_init_r1 : List Cond := [Cond.methodLink RX12 1 objectInit, Cond.instanceMethod objectInit, Cond.code objectInit ⟨#[0xb1]⟩ 1 none, Cond.arrayClass .int, Cond.fieldLink RX12 7 "CellSwitchModel" "tape" "[I", Cond.constant RX12 13 (33920), Cond.fieldLink RX12 14 "CellSwitchModel" "queue" "[I", Cond.fieldLink RX12 17 "CellSwitchModel" "queueFrom" "[I", Cond.fieldLink RX12 20 "CellSwitchModel" "queueMany" "[I", Cond.fieldLink RX12 23 "CellSwitchModel" "lost" "[I", Cond.fieldLink RX12 26 "CellSwitchModel" "made" "[I", Cond.fieldLink RX12 29 "CellSwitchModel" "frame" "[I", Cond.fieldLink RX12 32 "CellSwitchModel" "damageKind" "[I", Cond.fieldLink RX12 35 "CellSwitchModel" "damageAt" "[I", Cond.fieldLink RX12 38 "CellSwitchModel" "damageOctet" "[I", Cond.fieldLink RX12 41 "CellSwitchModel" "damageMask" "[I", Cond.fieldLink RX12 44 "CellSwitchModel" "damages" "[I", Cond.fieldLink RX12 47 "CellSwitchModel" "onLink" "[I", Cond.fieldLink RX12 50 "CellSwitchModel" "onLinkMany" "[I", Cond.fieldLink RX12 53 "CellSwitchModel" "rState" "[I", Cond.fieldLink RX12 56 "CellSwitchModel" "rSeen" "[I", Cond.fieldLink RX12 59 "CellSwitchModel" "rRow" "[I", Cond.fieldLink RX12 62 "CellSwitchModel" "rMode" "[I", Cond.fieldLink RX12 65 "CellSwitchModel" "rTake" "[I"]
def wsX12_init_r2 : List Cond := [Cond.fieldLink RX12 68 "CellSwitchModel" "rCell" "[I", Cond.fieldLink RX12 71 "CellSwitchModel" "taken" "[I", Cond.fieldLink RX12 74 "CellSwitchModel" "thrown" "[I", Cond.fieldLink RX12 77 "CellSwitchModel" "fixed" "[I", Cond.fieldLink RX12 80 "CellSwitchModel" "spoilt" "[I", Cond.fieldLink RX12 83 "CellSwitchModel" "part" "[I", Cond.fieldLink RX12 86 "CellSwitchModel" "partCells" "[I", Cond.fieldLink RX12 89 "CellSwitchModel" "whole" "[I", Cond.fieldLink RX12 92 "CellSwitchModel" "recCall" "[I", Cond.fieldLink RX12 95 "CellSwitchModel" "recSize" "[I", Cond.fieldLink RX12 98 "CellSwitchModel" "recTime" "[I", Cond.fieldLink RX12 101 "CellSwitchModel" "recByte" "[I", Cond.fieldLink RX12 104 "CellSwitchModel" "received" "[I", Cond.fieldLink RX12 107 "CellSwitchModel" "lState" "[I", Cond.fieldLink RX12 110 "CellSwitchModel" "lS" "[I", Cond.fieldLink RX12 113 "CellSwitchModel" "lA" "[I", Cond.fieldLink RX12 116 "CellSwitchModel" "lMay" "[I", Cond.fieldLink RX12 119 "CellSwitchModel" "lP" "[I", Cond.fieldLink RX12 122 "CellSwitchModel" "lPa" "[I", Cond.fieldLink RX12 125 "CellSwitchModel" "lR" "[I", Cond.fieldLink RX12 128 "CellSwitchModel" "lH" "[I", Cond.fieldLink RX12 131 "CellSwitchModel" "lCut" "[I", Cond.fieldLink RX12 134 "CellSwitchModel" "ownN" "[I", Cond.fieldLink RX12 137 "CellSwitchModel" "lastBegin" "[I"]
def wsX12_init_r3 : List Cond := [Cond.fieldLink RX12 140 "CellSwitchModel" "lastReset" "[I", Cond.fieldLink RX12 143 "CellSwitchModel" "sentAt" "[I", Cond.fieldLink RX12 146 "CellSwitchModel" "sentTimes" "[I", Cond.arrayClass .boolean, Cond.fieldLink RX12 149 "CellSwitchModel" "byRecover" "[Z", Cond.fieldLink RX12 153 "CellSwitchModel" "statusAt" "[I", Cond.fieldLink RX12 156 "CellSwitchModel" "pollAt" "[I", Cond.fieldLink RX12 159 "CellSwitchModel" "since" "[I", Cond.fieldLink RX12 162 "CellSwitchModel" "waitByte" "[I", Cond.fieldLink RX12 165 "CellSwitchModel" "waitSize" "[I", Cond.fieldLink RX12 168 "CellSwitchModel" "waiting" "[I", Cond.fieldLink RX12 171 "CellSwitchModel" "sentByte" "[I", Cond.fieldLink RX12 174 "CellSwitchModel" "sentSize" "[I", Cond.fieldLink RX12 177 "CellSwitchModel" "sentP" "[I", Cond.fieldLink RX12 180 "CellSwitchModel" "isAgain" "[Z", Cond.fieldLink RX12 183 "CellSwitchModel" "aheadByte" "[I", Cond.fieldLink RX12 186 "CellSwitchModel" "aheadSize" "[I", Cond.fieldLink RX12 189 "CellSwitchModel" "isAhead" "[Z", Cond.fieldLink RX12 192 "CellSwitchModel" "cState" "[I", Cond.fieldLink RX12 195 "CellSwitchModel" "cRef" "[I", Cond.fieldLink RX12 198 "CellSwitchModel" "cMine" "[Z", Cond.fieldLink RX12 201 "CellSwitchModel" "cChannel" "[I", Cond.fieldLink RX12 204 "CellSwitchModel" "cRate" "[I", Cond.fieldLink RX12 207 "CellSwitchModel" "cOther" "[I"]
def wsX12_init_r4 : List Cond := [Cond.fieldLink RX12 210 "CellSwitchModel" "cCause" "[I", Cond.fieldLink RX12 213 "CellSwitchModel" "cAt" "[I", Cond.fieldLink RX12 216 "CellSwitchModel" "cAgain" "[Z", Cond.fieldLink RX12 219 "CellSwitchModel" "cPair" "[I", Cond.fieldLink RX12 222 "CellSwitchModel" "cOrder" "[I", Cond.fieldLink RX12 225 "CellSwitchModel" "ofSide" "[I", Cond.fieldLink RX12 228 "CellSwitchModel" "refs" "[I", Cond.fieldLink RX12 231 "CellSwitchModel" "policies" "[I", Cond.fieldLink RX12 234 "CellSwitchModel" "waitsFor" "[I", Cond.constant RX12 237 (128000), Cond.fieldLink RX12 238 "CellSwitchModel" "outByte" "[I", Cond.fieldLink RX12 241 "CellSwitchModel" "outSize" "[I", Cond.fieldLink RX12 244 "CellSwitchModel" "outMany" "[I", Cond.fieldLink RX12 247 "CellSwitchModel" "outCell" "[I", Cond.constant RX12 250 (38400), Cond.fieldLink RX12 251 "CellSwitchModel" "got" "[I", Cond.fieldLink RX12 254 "CellSwitchModel" "gotCells" "[I", Cond.fieldLink RX12 257 "CellSwitchModel" "text" "[I", Cond.fieldLink RX12 260 "CellSwitchModel" "n" "I"]
def wsX12_init : List Cond := .code yX12_init cX12_init 3 none :: ((wsX12_init_r1 ++ (wsX12_init_r2 ++ (wsX12_init_r3 ++ wsX12_init_r4))) ++ wsX120)
def mPosL : List Nat := [0, 0, 0, 0, 0, 1, 2, 3, 4, 5, 6, 0, 7, 8, 9, 10, 11, 12, 13, 0, 0, 14, 15, 16, 17, 18, 19, 20, 21, 22, 23, 24, 25, 26, 0, 27, 28, 29, 30, 31, 32, 33, 34, 35, 36, 37, 38, 39, 40, 41, 42, 43, 44, 45, 46, 47, 48, 49, 50, 51, 52, 53, 54, 55, 56, 57, 58, 59, 60, 61, 62, 63, 64, 65, 66, 67, 68, 69, 70, 0, 71, 72, 73, 74, 75, 76, 77, 78, 79, 80, 81, 0]
def mPos (j : Nat) : Nat := mPosL.getD j 0
def iV (h1 k j : Nat) : Value := if mInt j then .int 0 else if mPos j < k then .ref (h1 + mPos j) else .null
def iP (G : mG) (h0 h1 k : Nat) (H0 H : Heap) (locs : List Loc) : Prop := H.size = h1 + k ∧ t_OB h0 G.1 92 G.2.1 H (iV h1 k) ∧ (∀ j, j < 92 → mInt j = false → mPos j < k → H[h1 + mPos j]? = some (vp_cell (if mBool j then G.2.2.2 else G.2.2.1) (mLen j, .inl (fun _ => 0)))) ∧ (∀ q : Nat, q < h1 → q ≠ h0 → H[q]? = H0[q]?) ∧ ∀ l ∈ locs, l.base = h0
theorem mPos_inj : ∀ i, i < 92 → ∀ j, j < 92 → mInt i = false → mInt j = false → mPos i = mPos j → i = j := by decide +kernel
theorem mPos_lt : ∀ j, j < 92 → mInt j = false → mPos j < 82 := by decide +kernel
section MInit
variable {p : Program} {l : Launch} {e : Env} {R : Room} {s : State} {m : MethodId} {args : Array Value} {below : List Frame} {meth : Method} {c : Code} {H : Heap} {locs : List Loc} {cells slots : Nat} {Q : State → Prop}
variable {cc : ByteArray} {pc : Nat} {ls : Array Slot} {G : mG} {h0 h1 k : Nat} {H0 : Heap} {Ts : List Cond}
theorem i_step (hx : p.tables.exec = Jvm.exec) (hb : c.code = cc) (hts : ∀ w ∈ Ts, w.before args s = true) (hin : ∀ w ∈ wsX120, w ∈ Ts) (hown : s.vm.findClass RX12 = some m.cls) (hK : mK G s) (hfc : s.vm.findClass ("[" ++ FieldType.int.toString) = some G.2.2.1 ∧ s.vm.findClass ("[" ++ FieldType.boolean.toString) = some G.2.2.2) (hnm : meth.name = "<init>") (hh : h0 < h1) (P : iP G h0 h1 k H0 H locs)
    (j : Nat) (hj : (decide (j < 92) && (!(mInt j) && decide (mPos j = k))) = true) (hT : (TX12 j).1 = RX12 ∧ (TX12 j).2.2.2 = true) {ty : FieldType} (hty : tyX12 j = .array ty) {atype : ArrayType} (hat : newarray.typeOf atype = ty ∧ ty = (if mBool j then .boolean else .int)) (harr : Cond.arrayClass ty ∈ Ts) {index : Nat} (hw : Cond.fieldLink RX12 index RX12 (TX12 j).2.1 (TX12 j).2.2.1 ∈ Ts) {len : Int32} (hlen : len.toNatClampNeg = mLen j) (hn0 : ¬ len < 0) (hbytes : mLen j * componentBytes ty ≤ 536870912) {cells' slots' : Nat} (hc : cells + 1 = cells' ∧ slots + mLen j = slots') (hR : cells' ≤ R.cells ∧ slots' ≤ R.slots)
    {pc' : Nat} (hpc : pc + 2 + 3 = pc') (hd1 : decode cc pc = .ok (.newarray atype, 2)) (hd2 : decode cc (pc + 2) = .ok (.putfield index, 3))
    (kk : ∀ (H1 : Heap) (locs1 : List Loc), iP G h0 h1 (k + 1) H0 H1 locs1 → W p l e R s m args below meth c H1 locs1 cells' slots' Q (F0 m pc' ls [])) : W p l e R s m args below meth c H locs cells slots Q (F0 m pc ls [.int len, .ref h0]) := by
  subst hpc
  rw [Bool.and_eq_true, Bool.and_eq_true, Bool.not_eq_true'] at hj
  have hj1 := of_decide_eq_true hj.1
  have hj2 := hj.2.1
  have hj3 := of_decide_eq_true hj.2.2
  obtain ⟨hz, hO, hAr, hF, hl⟩ := P
  have hap : ∀ x y, x < 92 → y < 92 → x ≠ y → G.2.1 x ≠ G.2.1 y := by
    intro x y hx hy hne
    obtain ⟨hS, -⟩ := hK.1
    obtain ⟨_, _, _, fa, hia, ea⟩ := hS x hx
    obtain ⟨_, _, _, fb, hib, eb⟩ := hS y hy
    rw [← ea, ← eb]
    refine u_apart (u_lays hts hin hx) (u_lays hts hin hy) hia hib ?_
    rw [(State.fieldFound?_type hia (tyX12_ok x hx)).1, (State.fieldFound?_type hib (tyX12_ok y hy)).1]
    exact nmX12 x hx y hy hne
  refine W.newa hx hb (atype := atype) (by rw [hat.1]; exact hts _ harr) rfl hd1 (n := len) (rest := [.ref h0]) rfl hn0 (by rw [hlen, hat.1]; exact hbytes) (by omega) (by rw [hlen]; omega) fun cA kA comp f1 f2 f3 => ?_
  have hcA : cA = (if mBool j then G.2.2.2 else G.2.2.1) := by
    rw [hat.1, hat.2] at f1
    cases hbj : mBool j with
    | true => rw [hbj] at f1; exact Option.some.inj (f1.symm.trans hfc.2)
    | false => rw [hbj] at f1; exact Option.some.inj (f1.symm.trans hfc.1)
  have hdv : defaultValue (newarray.typeOf atype) = .int 0 := by
    rw [hat.1, hat.2]
    cases mBool j <;> rfl
  rw [arrV_new, hdv, hlen]
  generalize hH : H.push (arrV cA (mLen j) (fun _ => Value.int 0)) = H'
  have g1 : ∀ q : Nat, q < H.size → H'[q]? = H[q]? := fun q hq => by rw [← hH, Array.getElem?_push, if_neg (Nat.ne_of_lt hq)]
  have g2 : H'[H.size]? = some (arrV cA (mLen j) (fun _ => Value.int 0)) := by rw [← hH]; simp
  have g3 : H'.size = H.size + 1 := by rw [← hH]; simp
  obtain ⟨cell, q1, q2, q3, q4⟩ := hO.kept (g1 h0 (by omega))
  obtain ⟨⟨hS, hfc0, kC, hkC, hkind⟩, -⟩ := hK
  obtain ⟨cf, kf, fi, fd, hi, hsl⟩ := hS j hj1
  have hlay := hts _ (hin _ (u_in_lay hj1))
  unfold u_lay at hlay
  rw [if_pos hT.2] at hlay
  have hst := (u_facts hfc0 hkC (u_lays hts hin hj1) hi).1
  have hcf : m.cls = cf := by
    obtain ⟨_, _, c', _, _, _, -, -, hf', -, -, -, hown2, -⟩ := Cond.laysFinal_spec hlay
    have e1 : c' = cf := by have := hi.symm.trans hf'; simp at this; exact this.1.symm
    rw [hT.1] at hown2
    rw [← e1]; exact Option.some.inj (hown.symm.trans hown2)
  have h6 := u_fits (v := .ref H.size) hfc0 hkC hkind (Or.inr hlay) hi ((tyX12_ok j hj1).trans (by rw [hty])) (ty := .array ty) rfl rfl
  refine W.putFinK hx hb (f := fd) hown (hts _ hw) (hT.1 ▸ hi) hst hcf hnm (by rw [q2]; exact h6) q1 q3 (by rw [hsl]; exact k2_hasslot (q4 j hj1)) (rest := []) rfl rfl hd2 fun H2 e1 e2 e3 => ?_
  rw [hsl] at e1
  have hne : H.size ≠ h0 := by omega
  rw [hc.1, hc.2]
  refine kk H2 _ ⟨by omega, t_OB.to (V := updV (iV h1 k) j (.ref H.size)) ⟨_, e1, q2, q3, t_set q4 hap hj1 (.ref H.size)⟩ (fun i hi' => ?_), fun i h1' h2' h3' => ?_, fun q hq hq0 => by rw [e3 q hq0, g1 q (by omega)]; exact hF q hq hq0, fun q hq => ?_⟩
  · unfold updV iV
    by_cases hij : i = j
    · subst hij
      rw [if_pos rfl, hj2, if_neg (by decide), if_pos (by omega), hz, hj3]
    · rw [if_neg hij]
      cases hmi : mInt i with
      | true => rfl
      | false =>
        have hp : mPos i ≠ k := fun z => hij (mPos_inj i hi' j hj1 hmi hj2 (by rw [z, hj3]))
        show (if mPos i < k then Value.ref (h1 + mPos i) else Value.null) = (if mPos i < k + 1 then Value.ref (h1 + mPos i) else Value.null)
        by_cases hlt : mPos i < k
        · rw [if_pos hlt, if_pos (by omega)]
        · rw [if_neg hlt, if_neg (by omega)]
  · by_cases hij : i = j
    · subst hij
      rw [hj3, ← hz, e3 _ hne, g2, hcA, vp_cell_i]
    · have hp : mPos i ≠ k := fun z => hij (mPos_inj i h1' j hj1 h2' hj2 (by rw [z, hj3]))
      have hne2 : ¬ (h1 + mPos i = h0) := by omega
      have hlt2 : h1 + mPos i < H.size := by omega
      rw [e3 (h1 + mPos i) hne2, g1 (h1 + mPos i) hlt2]
      exact hAr i h1' h2' (by omega)
  · rcases List.mem_append.mp hq with h | h
    · exact hl q h
    · rcases List.mem_cons.mp h with h | h
      · rw [h]
      · cases h
theorem i_n (hx : p.tables.exec = Jvm.exec) (hb : c.code = cc) (hts : ∀ w ∈ Ts, w.before args s = true) (hin : ∀ w ∈ wsX120, w ∈ Ts) (hown : s.vm.findClass RX12 = some m.cls) (hK : mK G s) (hnm : meth.name = "<init>") (hh : h0 < h1) (P : iP G h0 h1 82 H0 H locs)
    {index : Nat} (hw : Cond.fieldLink RX12 index RX12 (TX12 0).2.1 (TX12 0).2.2.1 ∈ Ts) {v : Int32} (hd2 : decode cc pc = .ok (.putfield index, 3))
    (kk : ∀ (H1 : Heap) (locs1 : List Loc), mH G h0 (fun j => h1 + mPos j) (fun j _ => if j = 0 then v else 0) H1 → H1.size = h1 + 82 → (∀ q : Nat, q < h1 → q ≠ h0 → H1[q]? = H0[q]?) → (∀ l ∈ locs1, l.base = h0) → W p l e R s m args below meth c H1 locs1 cells slots Q (F0 m (pc + 3) ls [])) : W p l e R s m args below meth c H locs cells slots Q (F0 m pc ls [.int v, .ref h0]) := by
  obtain ⟨hz, hO, hAr, hF, hl⟩ := P
  have hj1 : 0 < 92 := by decide
  have hap : ∀ x y, x < 92 → y < 92 → x ≠ y → G.2.1 x ≠ G.2.1 y := by
    intro x y hx hy hne
    obtain ⟨hS, -⟩ := hK.1
    obtain ⟨_, _, _, fa, hia, ea⟩ := hS x hx
    obtain ⟨_, _, _, fb, hib, eb⟩ := hS y hy
    rw [← ea, ← eb]
    refine u_apart (u_lays hts hin hx) (u_lays hts hin hy) hia hib ?_
    rw [(State.fieldFound?_type hia (tyX12_ok x hx)).1, (State.fieldFound?_type hib (tyX12_ok y hy)).1]
    exact nmX12 x hx y hy hne
  obtain ⟨cell, q1, q2, q3, q4⟩ := hO
  obtain ⟨⟨hS, hfc0, kC, hkC, hkind⟩, -⟩ := hK
  obtain ⟨cf, kf, fi, fd, hi, hsl⟩ := hS 0 hj1
  have hlay := hts _ (hin _ (u_in_lay hj1))
  unfold u_lay at hlay
  rw [if_pos (show (TX12 0).2.2.2 = true from rfl)] at hlay
  have hst := (u_facts hfc0 hkC (u_lays hts hin hj1) hi).1
  have hcf : m.cls = cf := by
    obtain ⟨_, _, c', _, _, _, -, -, hf', -, -, -, hown2, -⟩ := Cond.laysFinal_spec hlay
    have e1 : c' = cf := by have := hi.symm.trans hf'; simp at this; exact this.1.symm
    rw [← e1]; exact Option.some.inj (hown.symm.trans hown2)
  have h6 := u_fits (v := .int v) hfc0 hkC hkind (Or.inr hlay) hi (tyX12_ok 0 hj1) (ty := .int) rfl rfl
  refine W.putFinK hx hb (f := fd) hown (hts _ hw) hi hst hcf hnm (by rw [q2]; exact h6) q1 q3 (by rw [hsl]; exact k2_hasslot (q4 0 hj1)) (rest := []) rfl rfl hd2 fun H2 e1 e2 e3 => ?_
  rw [hsl] at e1
  refine kk H2 _ ⟨t_OB.to (V := updV (iV h1 82) 0 (.int v)) ⟨_, e1, q2, q3, t_set q4 hap hj1 (.int v)⟩ (fun i hi' => ?_), fun i h1' h2' => ?_⟩ (by omega) (fun q hq hq0 => by rw [e3 q hq0]; exact hF q hq hq0) (fun q hq => ?_)
  · unfold updV iV mV
    by_cases hi0 : i = 0
    · subst hi0
      rw [if_pos rfl]; rfl
    · rw [if_neg hi0]
      cases hmi : mInt i with
      | true =>
        show Value.int 0 = Value.int (if i = 0 then v else 0)
        rw [if_neg hi0]
      | false =>
        show (if mPos i < 82 then Value.ref (h1 + mPos i) else Value.null) = Value.ref (h1 + mPos i)
        rw [if_pos (mPos_lt i hi' hmi)]
  · have hi0 : i ≠ 0 := fun z => by rw [z] at h2'; cases h2'
    show H2[h1 + mPos i]? = _
    have hne2 : ¬ (h1 + mPos i = h0) := by omega
    rw [e3 (h1 + mPos i) hne2, hAr i h1' h2' (mPos_lt i h1' h2')]
    have e : (fun (_ : Nat) => (0 : Int32)) = (fun (_ : Nat) => if i = 0 then v else 0) := funext fun _ => by rw [if_neg hi0]
    rw [e]
  · rcases List.mem_append.mp hq with h | h
    · exact hl q h
    · rcases List.mem_cons.mp h with h | h
      · rw [h]
      · cases h
end MInit

def rm_init : Room := { frames := 1, cells := 82, slots := 239549, locals := 12 }
set_option maxHeartbeats 4000000 in
set_option maxRecDepth 100000 in
theorem w_init {p : Program} {l : Launch} {e : Env} {s : State} {m : MethodId} {args : Array Value} {below : List Frame} {meth : Method} {c : Code} {H : Heap} {locs : List Loc} {Q : State → Prop} {ls : Array Slot} {G : mG} {h0 : Nat} {ad : Nat → Nat} {g : mSt} {H0 : Heap} {nn X : Int} (x : mX p c cX12_init s args wsX12_init m G h0 ad) (hml : c.maxLocals = 3) (L : mL G h0 ad H0 nn X g H locs) (hnn : 2 ≤ nn ∧ nn ≤ 4) (hX : 0 ≤ X ∧ X ≤ 2000000000) (p1 : Int32) (hl : lv_has ls 3 [(0, .ref h0), (1, .int p1)]) (hQ : ∀ (pc' : Nat) (ls' : Array Slot) (g1 : mSt) (H1 : Heap) (locs1 : List Loc), decode cX12_init pc' = .ok (.return_, 1) → mL G h0 ad H0 nn X g1 H1 locs1 → (mFr [50, 51, 83] g g1 ∧ True) → W p l e rm_init s m args below meth c H1 locs1 82 239549 Q (F0 m pc' ls' [])) : W p l e rm_init s m args below meth c H locs 82 239549 Q (F0 m 705 ls []) := by
  have hx := x.1
  have hb := x.2.1
  have up1 : (-2147483648 : Int) ≤ p1.toInt ∧ p1.toInt ≤ 2147483647 := (rg_any p1)
  refine lv_iconst (v := 0) hx hb dX12_init_705 (by decide) ?_
  refine lv_istore_n (lv' := [(2, .int (0 : Int32)), (0, .ref h0), (1, .int p1)]) hx hb dX12_init_706 rfl hl (by decide) rfl (fun ls hl => ?_)
  have j707_2 : ∀ (n : Nat) (a707_2_1 : Int32) (g2 : mSt) (H2 : Heap) (k2 : List Loc) (ls : Array Slot), mFr [83] g g2 → mL G h0 ad H0 nn X g2 H2 k2 → rg (0) (4) a707_2_1 → lv_has ls 3 [(0, .ref h0), (2, .int a707_2_1)] → ((4 : Int) - a707_2_1.toInt).toNat = n → W p l e rm_init s m args below meth c H2 k2 82 239549 Q (F0 m 707 ls []) := by
    intro n
    induction n using Nat.strongRecOn with
    | _ n ih2 =>
      intro a707_2_1 g2 H2 k2 ls hF2 L2 ra707_2_1 hl hn2
      subst hn2
      have ua707_2_1 : (0 : Int) ≤ a707_2_1.toInt ∧ a707_2_1.toInt ≤ 4 := ra707_2_1
      refine lv_iload_n hx hb dX12_init_707 rfl (lv_at hl 1 rfl) ?_
      refine lv_iconst (v := 4) hx hb dX12_init_708 (by decide) ?_
      refine lv_icmp_ge (tgt := 725) hx hb dX12_init_709 (by decide) (fun c709_3 => ?_) (fun c709_3 => ?_)
      · skip
        have ic709_3 := Int32.le_iff_toInt_le.mp c709_3
        have q4 : rg (4) (4) a707_2_1 := (rg_le c709_3 kc_4 ra707_2_1).2
        have uq4 : (4 : Int) ≤ a707_2_1.toInt ∧ a707_2_1.toInt ≤ 4 := q4
        refine lv_iconst (v := 0) hx hb dX12_init_725 (by decide) ?_
        refine lv_istore_n (lv' := [(2, .int (0 : Int32)), (0, .ref h0)]) hx hb dX12_init_726 rfl hl (by decide) rfl (fun ls hl => ?_)
        have j727_6 : ∀ (n : Nat) (a727_2_5 : Int32) (g6 : mSt) (H6 : Heap) (k6 : List Loc) (ls : Array Slot), mFr [50, 51] g2 g6 → mL G h0 ad H0 nn X g6 H6 k6 → rg (0) (8) a727_2_5 → lv_has ls 3 [(0, .ref h0), (2, .int a727_2_5)] → ((8 : Int) - a727_2_5.toInt).toNat = n → W p l e rm_init s m args below meth c H6 k6 82 239549 Q (F0 m 727 ls []) := by
          intro n
          induction n using Nat.strongRecOn with
          | _ n ih6 =>
            intro a727_2_5 g6 H6 k6 ls hF6 L6 ra727_2_5 hl hn6
            subst hn6
            have ua727_2_5 : (0 : Int) ≤ a727_2_5.toInt ∧ a727_2_5.toInt ≤ 8 := ra727_2_5
            refine lv_iload_n hx hb dX12_init_727 rfl (lv_at hl 1 rfl) ?_
            refine lv_bipush (v := 8) hx hb dX12_init_728 (by decide) ?_
            refine lv_icmp_ge (tgt := 755) hx hb dX12_init_730 (by decide) (fun c730_7 => ?_) (fun c730_7 => ?_)
            · skip
              have ic730_7 := Int32.le_iff_toInt_le.mp c730_7
              have q8 : rg (8) (8) a727_2_5 := (rg_le c730_7 kc_8 ra727_2_5).2
              have uq8 : (8 : Int) ≤ a727_2_5.toInt ∧ a727_2_5.toInt ≤ 8 := q8
              exact hQ _ _ _ _ _ dX12_init_755 L6 ⟨(mFr.tr (mFr.tr mFr.rf hF2 rfl) hF6 rfl), trivial⟩
            · skip
              have ic730_7 := Int32.lt_iff_toInt_lt.mp (rg_nle c730_7)
              have q9 : rg (0) (7) a727_2_5 := (rg_lt (rg_nle c730_7) ra727_2_5 kc_8).1
              have uq9 : (0 : Int) ≤ a727_2_5.toInt ∧ a727_2_5.toInt ≤ 7 := q9
              refine lv_aload_n hx hb dX12_init_733 rfl (lv_at hl 0 rfl) ?_
              refine m_geta x L6 50 rfl rfl (by decide +kernel) dX12_init_734 ?_
              refine lv_iload_n hx hb dX12_init_737 rfl (lv_at hl 1 rfl) ?_
              refine lv_bipush (v := (-2)) hx hb dX12_init_738 (by decide) ?_
              refine m_st x L6 50 rfl q9 rfl (rj_50 (rg_any (-2 : Int32))) dX12_init_740 (fun g10 H10 k10 eg10 L10 => ?_)
              refine lv_aload_n hx hb dX12_init_741 rfl (lv_at hl 0 rfl) ?_
              refine m_geta x L10 51 rfl rfl (by decide +kernel) dX12_init_742 ?_
              refine lv_iload_n hx hb dX12_init_745 rfl (lv_at hl 1 rfl) ?_
              refine lv_bipush (v := (-2)) hx hb dX12_init_746 (by decide) ?_
              refine m_st x L10 51 rfl q9 rfl (rj_51 (rg_any (-2 : Int32))) dX12_init_748 (fun g11 H11 k11 eg11 L11 => ?_)
              obtain ⟨v12, ev12, fv12⟩ := inc_ex a727_2_5 (1) (1 : Int32) (by decide)
              have rv12 : rg (1) (8) v12 := (rg_add ev12 q9 kc_1 rfl).1
              have tv12 := (rg_add ev12 q9 kc_1 rfl).2
              have yv12 : (1 : Int32).toInt = 1 := by decide
              refine lv_iinc (v := v12) (lv' := [(2, .int v12), (0, .ref h0)]) hx hb dX12_init_749 hl (k := 1) rfl fv12 (by decide) rfl (fun ls hl => ?_)
              refine lv_goto (tgt := 727) hx hb dX12_init_752 (by decide) ?_
              exact ih6 _ (ms_up tv12 kc_1 q9 rfl rfl) v12 g11 _ _ ls (mFr.upE (mFr.upE hF6 eg10 rfl) eg11 rfl) L11 (rg_w rv12 rfl) (lv_sub hl [1, 0] rfl) rfl
        have y13 : (0 : Int32).toInt = 0 := by decide
        exact j727_6 _ (0 : Int32) g2 _ _ ls mFr.rf L2 (rg_w kc_0 rfl) (lv_sub hl [1, 0] rfl) rfl
      · skip
        have ic709_3 := Int32.lt_iff_toInt_lt.mp (rg_nle c709_3)
        have q14 : rg (0) (3) a707_2_1 := (rg_lt (rg_nle c709_3) ra707_2_1 kc_4).1
        have uq14 : (0 : Int) ≤ a707_2_1.toInt ∧ a707_2_1.toInt ≤ 3 := q14
        refine lv_aload_n hx hb dX12_init_712 rfl (lv_at hl 0 rfl) ?_
        refine m_geta x L2 83 rfl rfl (by decide +kernel) dX12_init_713 ?_
        refine lv_iload_n hx hb dX12_init_716 rfl (lv_at hl 1 rfl) ?_
        refine lv_iconst (v := 1) hx hb dX12_init_717 (by decide) ?_
        refine m_st x L2 83 rfl q14 rfl (rj_83 (rg_any (1 : Int32))) dX12_init_718 (fun g15 H15 k15 eg15 L15 => ?_)
        obtain ⟨v16, ev16, fv16⟩ := inc_ex a707_2_1 (1) (1 : Int32) (by decide)
        have rv16 : rg (1) (4) v16 := (rg_add ev16 q14 kc_1 rfl).1
        have tv16 := (rg_add ev16 q14 kc_1 rfl).2
        have yv16 : (1 : Int32).toInt = 1 := by decide
        refine lv_iinc (v := v16) (lv' := [(2, .int v16), (0, .ref h0)]) hx hb dX12_init_719 hl (k := 1) rfl fv16 (by decide) rfl (fun ls hl => ?_)
        refine lv_goto (tgt := 707) hx hb dX12_init_722 (by decide) ?_
        exact ih2 _ (ms_up tv16 kc_1 q14 rfl rfl) v16 g15 _ _ ls (mFr.upE hF2 eg15 rfl) L15 (rg_w rv16 rfl) (lv_sub hl [1, 0] rfl) rfl
  have y17 : (0 : Int32).toInt = 0 := by decide
  exact j707_2 _ (0 : Int32) g _ _ ls mFr.rf L (rg_w kc_0 rfl) (lv_sub hl [1, 0] rfl) rfl

def mAdI (h1 j : Nat) : Nat := h1 + mPos j
theorem iAp {h0 h1 : Nat} (hh : h0 < h1) : mAp h0 (mAdI h1) := ⟨fun j _ _ => by unfold mAdI; omega, fun j k hj hk h1' h2' e => mPos_inj j hj k hk h1' h2' (by unfold mAdI at e; omega)⟩
def iG (v : Int32) : mSt := fun j _ => if j = 0 then v else 0
theorem iI {v : Int32} {X : Int} (hX : 0 ≤ X) (hv : 2 ≤ v.toInt) : mI v.toInt X (iG v) := by
  intro j i
  unfold iG
  by_cases h : j = 0
  · subst h
    rw [if_pos rfl]
    exact ⟨Int.le_refl _, Int.le_refl _⟩
  · rw [if_neg h]
    have z : (0 : Int32).toInt = 0 := by decide
    have q : mLoL.getD j 0 ≤ 0 ∧ 0 ≤ mHiL.getD j 0 := by
      by_cases h92 : j < 92
      · have q : ∀ j, j < 92 → mLoL.getD j 0 ≤ 0 ∧ 0 ≤ mHiL.getD j 0 := by decide +kernel
        exact q j h92
      · have q1 : mLoL.getD j 0 = 0 := by
          rw [List.getD_eq_getElem?_getD, List.getElem?_eq_none (by show 92 ≤ j; omega)]; rfl
        have q2 : mHiL.getD j 0 = 0 := by
          rw [List.getD_eq_getElem?_getD, List.getElem?_eq_none (by show 92 ≤ j; omega)]; rfl
        rw [q1, q2]
        exact ⟨Int.le_refl _, Int.le_refl _⟩
    refine ⟨?_, ?_⟩
    · show mLo v.toInt j ≤ (0 : Int32).toInt
      unfold mLo
      rw [if_neg h, z]
      exact q.1
    · show (0 : Int32).toInt ≤ mHi v.toInt X j
      unfold mHi
      rw [if_neg h, z]
      split
      · omega
      · split
        · exact hX
        · exact q.2
theorem iJ {v : Int32} {nn : Int} : mJ nn [] (iG v) := by
  have z : (0 : Int32).toInt = 0 := by decide
  have q : ∀ j i, j ≠ 0 → (iG v j i).toInt = 0 := fun j i hj => by unfold iG; rw [if_neg hj]; exact z
  refine ⟨fun i h => ?_, fun i => ⟨?_, fun _ => ?_⟩, fun i => ?_, fun i => ?_, fun i => Or.inl ⟨q _ _ (by decide), q _ _ (by decide)⟩, fun i _ _ h => absurd (q _ _ (by decide)) h, fun i _ h _ => ?_⟩
  · rw [q _ _ (by decide)] at h; omega
  · rw [q _ _ (by decide)]; decide
  · rw [q _ _ (by decide)]; decide
  · rw [q _ _ (by decide)]; decide
  · rw [q _ _ (by decide)]; decide
  · rw [q _ _ (by decide)] at h; omega
def iPre (G : mG) (h0 h1 : Nat) (U : State) : Prop := t_OB h0 G.1 92 G.2.1 U.heap (fun j => defaultValue (tyX12 j)) ∧ U.heap.size = h1 ∧ mK G U ∧ (U.vm.findClass ("[" ++ FieldType.int.toString) = some G.2.2.1 ∧ U.vm.findClass ("[" ++ FieldType.boolean.toString) = some G.2.2.2)
theorem iV0 {h1 : Nat} : ∀ j, j < 92 → defaultValue (tyX12 j) = iV h1 0 j := by
  intro j hj
  unfold iV
  rw [if_neg (Nat.not_lt_zero _)]
  have q : ∀ j, j < 92 → defaultValue (tyX12 j) = (if mInt j then .int 0 else .null) := by decide +kernel
  exact q j hj
/-- how many ends there are -/
def nCl (p : Int32) : Int := if p.toInt < 2 then 2 else if 4 < p.toInt then 4 else p.toInt
def iPost (p1 : Int32) (u : Int × mSt) : Prop := (2 ≤ u.1 ∧ u.1 ≤ 4) ∧ mJ u.1 [] u.2 ∧ u.1 = nCl p1 ∧ ∀ i, u.2 16 i = 0
def iB (G : mG) (h0 h1 : Nat) (X : Int) (u : Int × mSt) (t : State) : Prop := mPo G h0 (mAdI h1) u.1 X u.2 t
set_option maxHeartbeats 8000000 in
set_option maxRecDepth 100000 in
theorem c_init (l : Launch) {G : mG} (h0 h1 : Nat) (X : Int) (p1 : Int32) (hX : 0 ≤ X ∧ X ≤ 2000000000) : Met l yX12_init wsX12_init rm_init (va_Pc [.ref h0, .int p1] (iPre G h0 h1)) (va_Qv (iPost p1) (iB G h0 h1 X) (fun q => q = h0 ∨ h1 ≤ q)) 82 239549 (fun q => q = h0 ∨ h1 ≤ q) := by
  refine Met.ofW (cc := cX12_init) (maxL := 3) (ret := none) (by decide) rfl ?_
  intro p e s m args below meth c s₁ B hml hv
  obtain ⟨rfl, hO, hsz, hK, hfc⟩ := hv
  have hx := B.exec
  have hb := B.bytes
  have hr := B.returns
  have hlocks := B.notSynchronized
  have hts := atoms_spec (ws := wsX12_init) B.pre
  have hown : s.vm.findClass RX12 = some m.cls := findClass_of_methodNamed B.named
  have hnm : meth.name = "<init>" := (name_of_methodNamed B.named B.method).1
  have hin : ∀ w ∈ wsX120, w ∈ wsX12_init := fun w h => List.mem_cons_of_mem _ (List.mem_append_right _ h)
  have hh : h0 < h1 := by
    obtain ⟨cell, q1, -⟩ := hO
    rw [← hsz]; exact (Array.getElem?_eq_some_iff.mp q1).1
  have hl := lv_entry ([.ref h0, .int p1]) (n := 3) (Nat.le_of_ble_eq_true rfl)
  rw [lg_entry_eq]
  generalize (lg_sl ([.ref h0, .int p1]) ++ List.replicate (3 - (lg_sl ([.ref h0, .int p1])).length) Slot.unset).toArray = ls at hl ⊢
  have hl : lv_has ls 3 [(0, .ref h0), (1, .int p1)] := hl
  refine lv_aload_n hx hb dX12_init_0 rfl (lv_at hl 0 rfl) ?_
  refine W.objInit hx hb hown (hts (.methodLink RX12 1 objectInit) (by decide +kernel)) (hts (.instanceMethod objectInit) (by decide +kernel)) (hts _ (List.mem_cons_of_mem _ (List.mem_append_left _ (List.mem_append_left _ (List.mem_of_getElem? (i := 2) rfl))))) rfl (by rw [hml]; exact hl.1) rfl dX12_init_1 (Nat.le_of_ble_eq_true rfl) (Nat.le_of_ble_eq_true rfl) ?_
  have P : iP G h0 h1 0 s.heap s.heap [] := ⟨by omega, hO.to (fun j hj => iV0 j hj), fun j _ _ h => absurd h (Nat.not_lt_zero _), fun _ _ _ => rfl, fun _ h => by cases h⟩
  revert P
  generalize hHH : s.heap = H00
  generalize ([] : List Loc) = locs0
  intro P
  have P : iP G h0 h1 0 H00 H00 locs0 := P
  refine lv_aload_n hx hb dX12_init_4 rfl (lv_at hl 0 rfl) ?_
  refine lv_sipush (v := 220) hx hb dX12_init_5 (by decide) ?_
  refine i_step (ty := .int) (cells' := 1) (slots' := 220) hx hb hts hin hown hK hfc hnm hh P 2 rfl ⟨rfl, rfl⟩ rfl ⟨rfl, rfl⟩ (by decide +kernel) (by decide +kernel) rfl (by decide) (by decide) ⟨rfl, rfl⟩ ⟨Nat.le_of_ble_eq_true rfl, Nat.le_of_ble_eq_true rfl⟩ (pc' := 13) rfl dX12_init_8 dX12_init_10 (fun H locs P => ?_)
  refine lv_aload_n hx hb dX12_init_13 rfl (lv_at hl 0 rfl) ?_
  refine lv_ldc (own := RX12) (v := 33920) hx hb hown (hts (.constant RX12 13 33920) (by decide +kernel)) dX12_init_14 ?_
  refine i_step (ty := .int) (cells' := 2) (slots' := 34140) hx hb hts hin hown hK hfc hnm hh P 5 rfl ⟨rfl, rfl⟩ rfl ⟨rfl, rfl⟩ (by decide +kernel) (by decide +kernel) rfl (by decide) (by decide) ⟨rfl, rfl⟩ ⟨Nat.le_of_ble_eq_true rfl, Nat.le_of_ble_eq_true rfl⟩ (pc' := 21) rfl dX12_init_16 dX12_init_18 (fun H locs P => ?_)
  refine lv_aload_n hx hb dX12_init_21 rfl (lv_at hl 0 rfl) ?_
  refine lv_bipush (v := 16) hx hb dX12_init_22 (by decide) ?_
  refine i_step (ty := .int) (cells' := 3) (slots' := 34156) hx hb hts hin hown hK hfc hnm hh P 6 rfl ⟨rfl, rfl⟩ rfl ⟨rfl, rfl⟩ (by decide +kernel) (by decide +kernel) rfl (by decide) (by decide) ⟨rfl, rfl⟩ ⟨Nat.le_of_ble_eq_true rfl, Nat.le_of_ble_eq_true rfl⟩ (pc' := 29) rfl dX12_init_24 dX12_init_26 (fun H locs P => ?_)
  refine lv_aload_n hx hb dX12_init_29 rfl (lv_at hl 0 rfl) ?_
  refine lv_bipush (v := 16) hx hb dX12_init_30 (by decide) ?_
  refine i_step (ty := .int) (cells' := 4) (slots' := 34172) hx hb hts hin hown hK hfc hnm hh P 7 rfl ⟨rfl, rfl⟩ rfl ⟨rfl, rfl⟩ (by decide +kernel) (by decide +kernel) rfl (by decide) (by decide) ⟨rfl, rfl⟩ ⟨Nat.le_of_ble_eq_true rfl, Nat.le_of_ble_eq_true rfl⟩ (pc' := 37) rfl dX12_init_32 dX12_init_34 (fun H locs P => ?_)
  refine lv_aload_n hx hb dX12_init_37 rfl (lv_at hl 0 rfl) ?_
  refine lv_bipush (v := 8) hx hb dX12_init_38 (by decide) ?_
  refine i_step (ty := .int) (cells' := 5) (slots' := 34180) hx hb hts hin hown hK hfc hnm hh P 8 rfl ⟨rfl, rfl⟩ rfl ⟨rfl, rfl⟩ (by decide +kernel) (by decide +kernel) rfl (by decide) (by decide) ⟨rfl, rfl⟩ ⟨Nat.le_of_ble_eq_true rfl, Nat.le_of_ble_eq_true rfl⟩ (pc' := 45) rfl dX12_init_40 dX12_init_42 (fun H locs P => ?_)
  refine lv_aload_n hx hb dX12_init_45 rfl (lv_at hl 0 rfl) ?_
  refine lv_bipush (v := 53) hx hb dX12_init_46 (by decide) ?_
  refine i_step (ty := .int) (cells' := 6) (slots' := 34233) hx hb hts hin hown hK hfc hnm hh P 9 rfl ⟨rfl, rfl⟩ rfl ⟨rfl, rfl⟩ (by decide +kernel) (by decide +kernel) rfl (by decide) (by decide) ⟨rfl, rfl⟩ ⟨Nat.le_of_ble_eq_true rfl, Nat.le_of_ble_eq_true rfl⟩ (pc' := 53) rfl dX12_init_48 dX12_init_50 (fun H locs P => ?_)
  refine lv_aload_n hx hb dX12_init_53 rfl (lv_at hl 0 rfl) ?_
  refine lv_sipush (v := 260) hx hb dX12_init_54 (by decide) ?_
  refine i_step (ty := .int) (cells' := 7) (slots' := 34493) hx hb hts hin hown hK hfc hnm hh P 10 rfl ⟨rfl, rfl⟩ rfl ⟨rfl, rfl⟩ (by decide +kernel) (by decide +kernel) rfl (by decide) (by decide) ⟨rfl, rfl⟩ ⟨Nat.le_of_ble_eq_true rfl, Nat.le_of_ble_eq_true rfl⟩ (pc' := 62) rfl dX12_init_57 dX12_init_59 (fun H locs P => ?_)
  refine lv_aload_n hx hb dX12_init_62 rfl (lv_at hl 0 rfl) ?_
  refine lv_bipush (v := 64) hx hb dX12_init_63 (by decide) ?_
  refine i_step (ty := .int) (cells' := 8) (slots' := 34557) hx hb hts hin hown hK hfc hnm hh P 12 rfl ⟨rfl, rfl⟩ rfl ⟨rfl, rfl⟩ (by decide +kernel) (by decide +kernel) rfl (by decide) (by decide) ⟨rfl, rfl⟩ ⟨Nat.le_of_ble_eq_true rfl, Nat.le_of_ble_eq_true rfl⟩ (pc' := 70) rfl dX12_init_65 dX12_init_67 (fun H locs P => ?_)
  refine lv_aload_n hx hb dX12_init_70 rfl (lv_at hl 0 rfl) ?_
  refine lv_bipush (v := 64) hx hb dX12_init_71 (by decide) ?_
  refine i_step (ty := .int) (cells' := 9) (slots' := 34621) hx hb hts hin hown hK hfc hnm hh P 13 rfl ⟨rfl, rfl⟩ rfl ⟨rfl, rfl⟩ (by decide +kernel) (by decide +kernel) rfl (by decide) (by decide) ⟨rfl, rfl⟩ ⟨Nat.le_of_ble_eq_true rfl, Nat.le_of_ble_eq_true rfl⟩ (pc' := 78) rfl dX12_init_73 dX12_init_75 (fun H locs P => ?_)
  refine lv_aload_n hx hb dX12_init_78 rfl (lv_at hl 0 rfl) ?_
  refine lv_bipush (v := 64) hx hb dX12_init_79 (by decide) ?_
  refine i_step (ty := .int) (cells' := 10) (slots' := 34685) hx hb hts hin hown hK hfc hnm hh P 14 rfl ⟨rfl, rfl⟩ rfl ⟨rfl, rfl⟩ (by decide +kernel) (by decide +kernel) rfl (by decide) (by decide) ⟨rfl, rfl⟩ ⟨Nat.le_of_ble_eq_true rfl, Nat.le_of_ble_eq_true rfl⟩ (pc' := 86) rfl dX12_init_81 dX12_init_83 (fun H locs P => ?_)
  refine lv_aload_n hx hb dX12_init_86 rfl (lv_at hl 0 rfl) ?_
  refine lv_bipush (v := 64) hx hb dX12_init_87 (by decide) ?_
  refine i_step (ty := .int) (cells' := 11) (slots' := 34749) hx hb hts hin hown hK hfc hnm hh P 15 rfl ⟨rfl, rfl⟩ rfl ⟨rfl, rfl⟩ (by decide +kernel) (by decide +kernel) rfl (by decide) (by decide) ⟨rfl, rfl⟩ ⟨Nat.le_of_ble_eq_true rfl, Nat.le_of_ble_eq_true rfl⟩ (pc' := 94) rfl dX12_init_89 dX12_init_91 (fun H locs P => ?_)
  refine lv_aload_n hx hb dX12_init_94 rfl (lv_at hl 0 rfl) ?_
  refine lv_bipush (v := 8) hx hb dX12_init_95 (by decide) ?_
  refine i_step (ty := .int) (cells' := 12) (slots' := 34757) hx hb hts hin hown hK hfc hnm hh P 16 rfl ⟨rfl, rfl⟩ rfl ⟨rfl, rfl⟩ (by decide +kernel) (by decide +kernel) rfl (by decide) (by decide) ⟨rfl, rfl⟩ ⟨Nat.le_of_ble_eq_true rfl, Nat.le_of_ble_eq_true rfl⟩ (pc' := 102) rfl dX12_init_97 dX12_init_99 (fun H locs P => ?_)
  refine lv_aload_n hx hb dX12_init_102 rfl (lv_at hl 0 rfl) ?_
  refine lv_sipush (v := 1696) hx hb dX12_init_103 (by decide) ?_
  refine i_step (ty := .int) (cells' := 13) (slots' := 36453) hx hb hts hin hown hK hfc hnm hh P 17 rfl ⟨rfl, rfl⟩ rfl ⟨rfl, rfl⟩ (by decide +kernel) (by decide +kernel) rfl (by decide) (by decide) ⟨rfl, rfl⟩ ⟨Nat.le_of_ble_eq_true rfl, Nat.le_of_ble_eq_true rfl⟩ (pc' := 111) rfl dX12_init_106 dX12_init_108 (fun H locs P => ?_)
  refine lv_aload_n hx hb dX12_init_111 rfl (lv_at hl 0 rfl) ?_
  refine lv_bipush (v := 32) hx hb dX12_init_112 (by decide) ?_
  refine i_step (ty := .int) (cells' := 14) (slots' := 36485) hx hb hts hin hown hK hfc hnm hh P 18 rfl ⟨rfl, rfl⟩ rfl ⟨rfl, rfl⟩ (by decide +kernel) (by decide +kernel) rfl (by decide) (by decide) ⟨rfl, rfl⟩ ⟨Nat.le_of_ble_eq_true rfl, Nat.le_of_ble_eq_true rfl⟩ (pc' := 119) rfl dX12_init_114 dX12_init_116 (fun H locs P => ?_)
  refine lv_aload_n hx hb dX12_init_119 rfl (lv_at hl 0 rfl) ?_
  refine lv_bipush (v := 8) hx hb dX12_init_120 (by decide) ?_
  refine i_step (ty := .int) (cells' := 15) (slots' := 36493) hx hb hts hin hown hK hfc hnm hh P 21 rfl ⟨rfl, rfl⟩ rfl ⟨rfl, rfl⟩ (by decide +kernel) (by decide +kernel) rfl (by decide) (by decide) ⟨rfl, rfl⟩ ⟨Nat.le_of_ble_eq_true rfl, Nat.le_of_ble_eq_true rfl⟩ (pc' := 127) rfl dX12_init_122 dX12_init_124 (fun H locs P => ?_)
  refine lv_aload_n hx hb dX12_init_127 rfl (lv_at hl 0 rfl) ?_
  refine lv_bipush (v := 8) hx hb dX12_init_128 (by decide) ?_
  refine i_step (ty := .int) (cells' := 16) (slots' := 36501) hx hb hts hin hown hK hfc hnm hh P 22 rfl ⟨rfl, rfl⟩ rfl ⟨rfl, rfl⟩ (by decide +kernel) (by decide +kernel) rfl (by decide) (by decide) ⟨rfl, rfl⟩ ⟨Nat.le_of_ble_eq_true rfl, Nat.le_of_ble_eq_true rfl⟩ (pc' := 135) rfl dX12_init_130 dX12_init_132 (fun H locs P => ?_)
  refine lv_aload_n hx hb dX12_init_135 rfl (lv_at hl 0 rfl) ?_
  refine lv_bipush (v := 8) hx hb dX12_init_136 (by decide) ?_
  refine i_step (ty := .int) (cells' := 17) (slots' := 36509) hx hb hts hin hown hK hfc hnm hh P 23 rfl ⟨rfl, rfl⟩ rfl ⟨rfl, rfl⟩ (by decide +kernel) (by decide +kernel) rfl (by decide) (by decide) ⟨rfl, rfl⟩ ⟨Nat.le_of_ble_eq_true rfl, Nat.le_of_ble_eq_true rfl⟩ (pc' := 143) rfl dX12_init_138 dX12_init_140 (fun H locs P => ?_)
  refine lv_aload_n hx hb dX12_init_143 rfl (lv_at hl 0 rfl) ?_
  refine lv_bipush (v := 8) hx hb dX12_init_144 (by decide) ?_
  refine i_step (ty := .int) (cells' := 18) (slots' := 36517) hx hb hts hin hown hK hfc hnm hh P 24 rfl ⟨rfl, rfl⟩ rfl ⟨rfl, rfl⟩ (by decide +kernel) (by decide +kernel) rfl (by decide) (by decide) ⟨rfl, rfl⟩ ⟨Nat.le_of_ble_eq_true rfl, Nat.le_of_ble_eq_true rfl⟩ (pc' := 151) rfl dX12_init_146 dX12_init_148 (fun H locs P => ?_)
  refine lv_aload_n hx hb dX12_init_151 rfl (lv_at hl 0 rfl) ?_
  refine lv_bipush (v := 8) hx hb dX12_init_152 (by decide) ?_
  refine i_step (ty := .int) (cells' := 19) (slots' := 36525) hx hb hts hin hown hK hfc hnm hh P 25 rfl ⟨rfl, rfl⟩ rfl ⟨rfl, rfl⟩ (by decide +kernel) (by decide +kernel) rfl (by decide) (by decide) ⟨rfl, rfl⟩ ⟨Nat.le_of_ble_eq_true rfl, Nat.le_of_ble_eq_true rfl⟩ (pc' := 159) rfl dX12_init_154 dX12_init_156 (fun H locs P => ?_)
  refine lv_aload_n hx hb dX12_init_159 rfl (lv_at hl 0 rfl) ?_
  refine lv_sipush (v := 424) hx hb dX12_init_160 (by decide) ?_
  refine i_step (ty := .int) (cells' := 20) (slots' := 36949) hx hb hts hin hown hK hfc hnm hh P 26 rfl ⟨rfl, rfl⟩ rfl ⟨rfl, rfl⟩ (by decide +kernel) (by decide +kernel) rfl (by decide) (by decide) ⟨rfl, rfl⟩ ⟨Nat.le_of_ble_eq_true rfl, Nat.le_of_ble_eq_true rfl⟩ (pc' := 168) rfl dX12_init_163 dX12_init_165 (fun H locs P => ?_)
  refine lv_aload_n hx hb dX12_init_168 rfl (lv_at hl 0 rfl) ?_
  refine lv_bipush (v := 8) hx hb dX12_init_169 (by decide) ?_
  refine i_step (ty := .int) (cells' := 21) (slots' := 36957) hx hb hts hin hown hK hfc hnm hh P 27 rfl ⟨rfl, rfl⟩ rfl ⟨rfl, rfl⟩ (by decide +kernel) (by decide +kernel) rfl (by decide) (by decide) ⟨rfl, rfl⟩ ⟨Nat.le_of_ble_eq_true rfl, Nat.le_of_ble_eq_true rfl⟩ (pc' := 176) rfl dX12_init_171 dX12_init_173 (fun H locs P => ?_)
  refine lv_aload_n hx hb dX12_init_176 rfl (lv_at hl 0 rfl) ?_
  refine lv_bipush (v := 8) hx hb dX12_init_177 (by decide) ?_
  refine i_step (ty := .int) (cells' := 22) (slots' := 36965) hx hb hts hin hown hK hfc hnm hh P 28 rfl ⟨rfl, rfl⟩ rfl ⟨rfl, rfl⟩ (by decide +kernel) (by decide +kernel) rfl (by decide) (by decide) ⟨rfl, rfl⟩ ⟨Nat.le_of_ble_eq_true rfl, Nat.le_of_ble_eq_true rfl⟩ (pc' := 184) rfl dX12_init_179 dX12_init_181 (fun H locs P => ?_)
  refine lv_aload_n hx hb dX12_init_184 rfl (lv_at hl 0 rfl) ?_
  refine lv_bipush (v := 8) hx hb dX12_init_185 (by decide) ?_
  refine i_step (ty := .int) (cells' := 23) (slots' := 36973) hx hb hts hin hown hK hfc hnm hh P 29 rfl ⟨rfl, rfl⟩ rfl ⟨rfl, rfl⟩ (by decide +kernel) (by decide +kernel) rfl (by decide) (by decide) ⟨rfl, rfl⟩ ⟨Nat.le_of_ble_eq_true rfl, Nat.le_of_ble_eq_true rfl⟩ (pc' := 192) rfl dX12_init_187 dX12_init_189 (fun H locs P => ?_)
  refine lv_aload_n hx hb dX12_init_192 rfl (lv_at hl 0 rfl) ?_
  refine lv_bipush (v := 8) hx hb dX12_init_193 (by decide) ?_
  refine i_step (ty := .int) (cells' := 24) (slots' := 36981) hx hb hts hin hown hK hfc hnm hh P 30 rfl ⟨rfl, rfl⟩ rfl ⟨rfl, rfl⟩ (by decide +kernel) (by decide +kernel) rfl (by decide) (by decide) ⟨rfl, rfl⟩ ⟨Nat.le_of_ble_eq_true rfl, Nat.le_of_ble_eq_true rfl⟩ (pc' := 200) rfl dX12_init_195 dX12_init_197 (fun H locs P => ?_)
  refine lv_aload_n hx hb dX12_init_200 rfl (lv_at hl 0 rfl) ?_
  refine lv_sipush (v := 1920) hx hb dX12_init_201 (by decide) ?_
  refine i_step (ty := .int) (cells' := 25) (slots' := 38901) hx hb hts hin hown hK hfc hnm hh P 31 rfl ⟨rfl, rfl⟩ rfl ⟨rfl, rfl⟩ (by decide +kernel) (by decide +kernel) rfl (by decide) (by decide) ⟨rfl, rfl⟩ ⟨Nat.le_of_ble_eq_true rfl, Nat.le_of_ble_eq_true rfl⟩ (pc' := 209) rfl dX12_init_204 dX12_init_206 (fun H locs P => ?_)
  refine lv_aload_n hx hb dX12_init_209 rfl (lv_at hl 0 rfl) ?_
  refine lv_bipush (v := 8) hx hb dX12_init_210 (by decide) ?_
  refine i_step (ty := .int) (cells' := 26) (slots' := 38909) hx hb hts hin hown hK hfc hnm hh P 32 rfl ⟨rfl, rfl⟩ rfl ⟨rfl, rfl⟩ (by decide +kernel) (by decide +kernel) rfl (by decide) (by decide) ⟨rfl, rfl⟩ ⟨Nat.le_of_ble_eq_true rfl, Nat.le_of_ble_eq_true rfl⟩ (pc' := 217) rfl dX12_init_212 dX12_init_214 (fun H locs P => ?_)
  refine lv_aload_n hx hb dX12_init_217 rfl (lv_at hl 0 rfl) ?_
  refine lv_sipush (v := 240) hx hb dX12_init_218 (by decide) ?_
  refine i_step (ty := .int) (cells' := 27) (slots' := 39149) hx hb hts hin hown hK hfc hnm hh P 33 rfl ⟨rfl, rfl⟩ rfl ⟨rfl, rfl⟩ (by decide +kernel) (by decide +kernel) rfl (by decide) (by decide) ⟨rfl, rfl⟩ ⟨Nat.le_of_ble_eq_true rfl, Nat.le_of_ble_eq_true rfl⟩ (pc' := 226) rfl dX12_init_221 dX12_init_223 (fun H locs P => ?_)
  refine lv_aload_n hx hb dX12_init_226 rfl (lv_at hl 0 rfl) ?_
  refine lv_bipush (v := 80) hx hb dX12_init_227 (by decide) ?_
  refine i_step (ty := .int) (cells' := 28) (slots' := 39229) hx hb hts hin hown hK hfc hnm hh P 35 rfl ⟨rfl, rfl⟩ rfl ⟨rfl, rfl⟩ (by decide +kernel) (by decide +kernel) rfl (by decide) (by decide) ⟨rfl, rfl⟩ ⟨Nat.le_of_ble_eq_true rfl, Nat.le_of_ble_eq_true rfl⟩ (pc' := 234) rfl dX12_init_229 dX12_init_231 (fun H locs P => ?_)
  refine lv_aload_n hx hb dX12_init_234 rfl (lv_at hl 0 rfl) ?_
  refine lv_bipush (v := 80) hx hb dX12_init_235 (by decide) ?_
  refine i_step (ty := .int) (cells' := 29) (slots' := 39309) hx hb hts hin hown hK hfc hnm hh P 36 rfl ⟨rfl, rfl⟩ rfl ⟨rfl, rfl⟩ (by decide +kernel) (by decide +kernel) rfl (by decide) (by decide) ⟨rfl, rfl⟩ ⟨Nat.le_of_ble_eq_true rfl, Nat.le_of_ble_eq_true rfl⟩ (pc' := 242) rfl dX12_init_237 dX12_init_239 (fun H locs P => ?_)
  refine lv_aload_n hx hb dX12_init_242 rfl (lv_at hl 0 rfl) ?_
  refine lv_bipush (v := 80) hx hb dX12_init_243 (by decide) ?_
  refine i_step (ty := .int) (cells' := 30) (slots' := 39389) hx hb hts hin hown hK hfc hnm hh P 37 rfl ⟨rfl, rfl⟩ rfl ⟨rfl, rfl⟩ (by decide +kernel) (by decide +kernel) rfl (by decide) (by decide) ⟨rfl, rfl⟩ ⟨Nat.le_of_ble_eq_true rfl, Nat.le_of_ble_eq_true rfl⟩ (pc' := 250) rfl dX12_init_245 dX12_init_247 (fun H locs P => ?_)
  refine lv_aload_n hx hb dX12_init_250 rfl (lv_at hl 0 rfl) ?_
  refine lv_sipush (v := 16000) hx hb dX12_init_251 (by decide) ?_
  refine i_step (ty := .int) (cells' := 31) (slots' := 55389) hx hb hts hin hown hK hfc hnm hh P 38 rfl ⟨rfl, rfl⟩ rfl ⟨rfl, rfl⟩ (by decide +kernel) (by decide +kernel) rfl (by decide) (by decide) ⟨rfl, rfl⟩ ⟨Nat.le_of_ble_eq_true rfl, Nat.le_of_ble_eq_true rfl⟩ (pc' := 259) rfl dX12_init_254 dX12_init_256 (fun H locs P => ?_)
  refine lv_aload_n hx hb dX12_init_259 rfl (lv_at hl 0 rfl) ?_
  refine lv_iconst (v := 4) hx hb dX12_init_260 (by decide) ?_
  refine i_step (ty := .int) (cells' := 32) (slots' := 55393) hx hb hts hin hown hK hfc hnm hh P 39 rfl ⟨rfl, rfl⟩ rfl ⟨rfl, rfl⟩ (by decide +kernel) (by decide +kernel) rfl (by decide) (by decide) ⟨rfl, rfl⟩ ⟨Nat.le_of_ble_eq_true rfl, Nat.le_of_ble_eq_true rfl⟩ (pc' := 266) rfl dX12_init_261 dX12_init_263 (fun H locs P => ?_)
  refine lv_aload_n hx hb dX12_init_266 rfl (lv_at hl 0 rfl) ?_
  refine lv_bipush (v := 8) hx hb dX12_init_267 (by decide) ?_
  refine i_step (ty := .int) (cells' := 33) (slots' := 55401) hx hb hts hin hown hK hfc hnm hh P 40 rfl ⟨rfl, rfl⟩ rfl ⟨rfl, rfl⟩ (by decide +kernel) (by decide +kernel) rfl (by decide) (by decide) ⟨rfl, rfl⟩ ⟨Nat.le_of_ble_eq_true rfl, Nat.le_of_ble_eq_true rfl⟩ (pc' := 274) rfl dX12_init_269 dX12_init_271 (fun H locs P => ?_)
  refine lv_aload_n hx hb dX12_init_274 rfl (lv_at hl 0 rfl) ?_
  refine lv_bipush (v := 8) hx hb dX12_init_275 (by decide) ?_
  refine i_step (ty := .int) (cells' := 34) (slots' := 55409) hx hb hts hin hown hK hfc hnm hh P 41 rfl ⟨rfl, rfl⟩ rfl ⟨rfl, rfl⟩ (by decide +kernel) (by decide +kernel) rfl (by decide) (by decide) ⟨rfl, rfl⟩ ⟨Nat.le_of_ble_eq_true rfl, Nat.le_of_ble_eq_true rfl⟩ (pc' := 282) rfl dX12_init_277 dX12_init_279 (fun H locs P => ?_)
  refine lv_aload_n hx hb dX12_init_282 rfl (lv_at hl 0 rfl) ?_
  refine lv_bipush (v := 8) hx hb dX12_init_283 (by decide) ?_
  refine i_step (ty := .int) (cells' := 35) (slots' := 55417) hx hb hts hin hown hK hfc hnm hh P 42 rfl ⟨rfl, rfl⟩ rfl ⟨rfl, rfl⟩ (by decide +kernel) (by decide +kernel) rfl (by decide) (by decide) ⟨rfl, rfl⟩ ⟨Nat.le_of_ble_eq_true rfl, Nat.le_of_ble_eq_true rfl⟩ (pc' := 290) rfl dX12_init_285 dX12_init_287 (fun H locs P => ?_)
  refine lv_aload_n hx hb dX12_init_290 rfl (lv_at hl 0 rfl) ?_
  refine lv_bipush (v := 8) hx hb dX12_init_291 (by decide) ?_
  refine i_step (ty := .int) (cells' := 36) (slots' := 55425) hx hb hts hin hown hK hfc hnm hh P 43 rfl ⟨rfl, rfl⟩ rfl ⟨rfl, rfl⟩ (by decide +kernel) (by decide +kernel) rfl (by decide) (by decide) ⟨rfl, rfl⟩ ⟨Nat.le_of_ble_eq_true rfl, Nat.le_of_ble_eq_true rfl⟩ (pc' := 298) rfl dX12_init_293 dX12_init_295 (fun H locs P => ?_)
  refine lv_aload_n hx hb dX12_init_298 rfl (lv_at hl 0 rfl) ?_
  refine lv_bipush (v := 8) hx hb dX12_init_299 (by decide) ?_
  refine i_step (ty := .int) (cells' := 37) (slots' := 55433) hx hb hts hin hown hK hfc hnm hh P 44 rfl ⟨rfl, rfl⟩ rfl ⟨rfl, rfl⟩ (by decide +kernel) (by decide +kernel) rfl (by decide) (by decide) ⟨rfl, rfl⟩ ⟨Nat.le_of_ble_eq_true rfl, Nat.le_of_ble_eq_true rfl⟩ (pc' := 306) rfl dX12_init_301 dX12_init_303 (fun H locs P => ?_)
  refine lv_aload_n hx hb dX12_init_306 rfl (lv_at hl 0 rfl) ?_
  refine lv_bipush (v := 8) hx hb dX12_init_307 (by decide) ?_
  refine i_step (ty := .int) (cells' := 38) (slots' := 55441) hx hb hts hin hown hK hfc hnm hh P 45 rfl ⟨rfl, rfl⟩ rfl ⟨rfl, rfl⟩ (by decide +kernel) (by decide +kernel) rfl (by decide) (by decide) ⟨rfl, rfl⟩ ⟨Nat.le_of_ble_eq_true rfl, Nat.le_of_ble_eq_true rfl⟩ (pc' := 314) rfl dX12_init_309 dX12_init_311 (fun H locs P => ?_)
  refine lv_aload_n hx hb dX12_init_314 rfl (lv_at hl 0 rfl) ?_
  refine lv_bipush (v := 8) hx hb dX12_init_315 (by decide) ?_
  refine i_step (ty := .int) (cells' := 39) (slots' := 55449) hx hb hts hin hown hK hfc hnm hh P 46 rfl ⟨rfl, rfl⟩ rfl ⟨rfl, rfl⟩ (by decide +kernel) (by decide +kernel) rfl (by decide) (by decide) ⟨rfl, rfl⟩ ⟨Nat.le_of_ble_eq_true rfl, Nat.le_of_ble_eq_true rfl⟩ (pc' := 322) rfl dX12_init_317 dX12_init_319 (fun H locs P => ?_)
  refine lv_aload_n hx hb dX12_init_322 rfl (lv_at hl 0 rfl) ?_
  refine lv_bipush (v := 8) hx hb dX12_init_323 (by decide) ?_
  refine i_step (ty := .int) (cells' := 40) (slots' := 55457) hx hb hts hin hown hK hfc hnm hh P 47 rfl ⟨rfl, rfl⟩ rfl ⟨rfl, rfl⟩ (by decide +kernel) (by decide +kernel) rfl (by decide) (by decide) ⟨rfl, rfl⟩ ⟨Nat.le_of_ble_eq_true rfl, Nat.le_of_ble_eq_true rfl⟩ (pc' := 330) rfl dX12_init_325 dX12_init_327 (fun H locs P => ?_)
  refine lv_aload_n hx hb dX12_init_330 rfl (lv_at hl 0 rfl) ?_
  refine lv_bipush (v := 8) hx hb dX12_init_331 (by decide) ?_
  refine i_step (ty := .int) (cells' := 41) (slots' := 55465) hx hb hts hin hown hK hfc hnm hh P 48 rfl ⟨rfl, rfl⟩ rfl ⟨rfl, rfl⟩ (by decide +kernel) (by decide +kernel) rfl (by decide) (by decide) ⟨rfl, rfl⟩ ⟨Nat.le_of_ble_eq_true rfl, Nat.le_of_ble_eq_true rfl⟩ (pc' := 338) rfl dX12_init_333 dX12_init_335 (fun H locs P => ?_)
  refine lv_aload_n hx hb dX12_init_338 rfl (lv_at hl 0 rfl) ?_
  refine lv_bipush (v := 8) hx hb dX12_init_339 (by decide) ?_
  refine i_step (ty := .int) (cells' := 42) (slots' := 55473) hx hb hts hin hown hK hfc hnm hh P 49 rfl ⟨rfl, rfl⟩ rfl ⟨rfl, rfl⟩ (by decide +kernel) (by decide +kernel) rfl (by decide) (by decide) ⟨rfl, rfl⟩ ⟨Nat.le_of_ble_eq_true rfl, Nat.le_of_ble_eq_true rfl⟩ (pc' := 346) rfl dX12_init_341 dX12_init_343 (fun H locs P => ?_)
  refine lv_aload_n hx hb dX12_init_346 rfl (lv_at hl 0 rfl) ?_
  refine lv_bipush (v := 8) hx hb dX12_init_347 (by decide) ?_
  refine i_step (ty := .int) (cells' := 43) (slots' := 55481) hx hb hts hin hown hK hfc hnm hh P 50 rfl ⟨rfl, rfl⟩ rfl ⟨rfl, rfl⟩ (by decide +kernel) (by decide +kernel) rfl (by decide) (by decide) ⟨rfl, rfl⟩ ⟨Nat.le_of_ble_eq_true rfl, Nat.le_of_ble_eq_true rfl⟩ (pc' := 354) rfl dX12_init_349 dX12_init_351 (fun H locs P => ?_)
  refine lv_aload_n hx hb dX12_init_354 rfl (lv_at hl 0 rfl) ?_
  refine lv_bipush (v := 8) hx hb dX12_init_355 (by decide) ?_
  refine i_step (ty := .int) (cells' := 44) (slots' := 55489) hx hb hts hin hown hK hfc hnm hh P 51 rfl ⟨rfl, rfl⟩ rfl ⟨rfl, rfl⟩ (by decide +kernel) (by decide +kernel) rfl (by decide) (by decide) ⟨rfl, rfl⟩ ⟨Nat.le_of_ble_eq_true rfl, Nat.le_of_ble_eq_true rfl⟩ (pc' := 362) rfl dX12_init_357 dX12_init_359 (fun H locs P => ?_)
  refine lv_aload_n hx hb dX12_init_362 rfl (lv_at hl 0 rfl) ?_
  refine lv_bipush (v := 8) hx hb dX12_init_363 (by decide) ?_
  refine i_step (ty := .int) (cells' := 45) (slots' := 55497) hx hb hts hin hown hK hfc hnm hh P 52 rfl ⟨rfl, rfl⟩ rfl ⟨rfl, rfl⟩ (by decide +kernel) (by decide +kernel) rfl (by decide) (by decide) ⟨rfl, rfl⟩ ⟨Nat.le_of_ble_eq_true rfl, Nat.le_of_ble_eq_true rfl⟩ (pc' := 370) rfl dX12_init_365 dX12_init_367 (fun H locs P => ?_)
  refine lv_aload_n hx hb dX12_init_370 rfl (lv_at hl 0 rfl) ?_
  refine lv_bipush (v := 8) hx hb dX12_init_371 (by decide) ?_
  refine i_step (ty := .int) (cells' := 46) (slots' := 55505) hx hb hts hin hown hK hfc hnm hh P 53 rfl ⟨rfl, rfl⟩ rfl ⟨rfl, rfl⟩ (by decide +kernel) (by decide +kernel) rfl (by decide) (by decide) ⟨rfl, rfl⟩ ⟨Nat.le_of_ble_eq_true rfl, Nat.le_of_ble_eq_true rfl⟩ (pc' := 378) rfl dX12_init_373 dX12_init_375 (fun H locs P => ?_)
  refine lv_aload_n hx hb dX12_init_378 rfl (lv_at hl 0 rfl) ?_
  refine lv_bipush (v := 8) hx hb dX12_init_379 (by decide) ?_
  refine i_step (ty := .boolean) (cells' := 47) (slots' := 55513) hx hb hts hin hown hK hfc hnm hh P 54 rfl ⟨rfl, rfl⟩ rfl ⟨rfl, rfl⟩ (by decide +kernel) (by decide +kernel) rfl (by decide) (by decide) ⟨rfl, rfl⟩ ⟨Nat.le_of_ble_eq_true rfl, Nat.le_of_ble_eq_true rfl⟩ (pc' := 386) rfl dX12_init_381 dX12_init_383 (fun H locs P => ?_)
  refine lv_aload_n hx hb dX12_init_386 rfl (lv_at hl 0 rfl) ?_
  refine lv_bipush (v := 8) hx hb dX12_init_387 (by decide) ?_
  refine i_step (ty := .int) (cells' := 48) (slots' := 55521) hx hb hts hin hown hK hfc hnm hh P 55 rfl ⟨rfl, rfl⟩ rfl ⟨rfl, rfl⟩ (by decide +kernel) (by decide +kernel) rfl (by decide) (by decide) ⟨rfl, rfl⟩ ⟨Nat.le_of_ble_eq_true rfl, Nat.le_of_ble_eq_true rfl⟩ (pc' := 394) rfl dX12_init_389 dX12_init_391 (fun H locs P => ?_)
  refine lv_aload_n hx hb dX12_init_394 rfl (lv_at hl 0 rfl) ?_
  refine lv_bipush (v := 8) hx hb dX12_init_395 (by decide) ?_
  refine i_step (ty := .int) (cells' := 49) (slots' := 55529) hx hb hts hin hown hK hfc hnm hh P 56 rfl ⟨rfl, rfl⟩ rfl ⟨rfl, rfl⟩ (by decide +kernel) (by decide +kernel) rfl (by decide) (by decide) ⟨rfl, rfl⟩ ⟨Nat.le_of_ble_eq_true rfl, Nat.le_of_ble_eq_true rfl⟩ (pc' := 402) rfl dX12_init_397 dX12_init_399 (fun H locs P => ?_)
  refine lv_aload_n hx hb dX12_init_402 rfl (lv_at hl 0 rfl) ?_
  refine lv_bipush (v := 8) hx hb dX12_init_403 (by decide) ?_
  refine i_step (ty := .int) (cells' := 50) (slots' := 55537) hx hb hts hin hown hK hfc hnm hh P 57 rfl ⟨rfl, rfl⟩ rfl ⟨rfl, rfl⟩ (by decide +kernel) (by decide +kernel) rfl (by decide) (by decide) ⟨rfl, rfl⟩ ⟨Nat.le_of_ble_eq_true rfl, Nat.le_of_ble_eq_true rfl⟩ (pc' := 410) rfl dX12_init_405 dX12_init_407 (fun H locs P => ?_)
  refine lv_aload_n hx hb dX12_init_410 rfl (lv_at hl 0 rfl) ?_
  refine lv_sipush (v := 4800) hx hb dX12_init_411 (by decide) ?_
  refine i_step (ty := .int) (cells' := 51) (slots' := 60337) hx hb hts hin hown hK hfc hnm hh P 58 rfl ⟨rfl, rfl⟩ rfl ⟨rfl, rfl⟩ (by decide +kernel) (by decide +kernel) rfl (by decide) (by decide) ⟨rfl, rfl⟩ ⟨Nat.le_of_ble_eq_true rfl, Nat.le_of_ble_eq_true rfl⟩ (pc' := 419) rfl dX12_init_414 dX12_init_416 (fun H locs P => ?_)
  refine lv_aload_n hx hb dX12_init_419 rfl (lv_at hl 0 rfl) ?_
  refine lv_bipush (v := 80) hx hb dX12_init_420 (by decide) ?_
  refine i_step (ty := .int) (cells' := 52) (slots' := 60417) hx hb hts hin hown hK hfc hnm hh P 59 rfl ⟨rfl, rfl⟩ rfl ⟨rfl, rfl⟩ (by decide +kernel) (by decide +kernel) rfl (by decide) (by decide) ⟨rfl, rfl⟩ ⟨Nat.le_of_ble_eq_true rfl, Nat.le_of_ble_eq_true rfl⟩ (pc' := 427) rfl dX12_init_422 dX12_init_424 (fun H locs P => ?_)
  refine lv_aload_n hx hb dX12_init_427 rfl (lv_at hl 0 rfl) ?_
  refine lv_bipush (v := 8) hx hb dX12_init_428 (by decide) ?_
  refine i_step (ty := .int) (cells' := 53) (slots' := 60425) hx hb hts hin hown hK hfc hnm hh P 60 rfl ⟨rfl, rfl⟩ rfl ⟨rfl, rfl⟩ (by decide +kernel) (by decide +kernel) rfl (by decide) (by decide) ⟨rfl, rfl⟩ ⟨Nat.le_of_ble_eq_true rfl, Nat.le_of_ble_eq_true rfl⟩ (pc' := 435) rfl dX12_init_430 dX12_init_432 (fun H locs P => ?_)
  refine lv_aload_n hx hb dX12_init_435 rfl (lv_at hl 0 rfl) ?_
  refine lv_sipush (v := 3840) hx hb dX12_init_436 (by decide) ?_
  refine i_step (ty := .int) (cells' := 54) (slots' := 64265) hx hb hts hin hown hK hfc hnm hh P 61 rfl ⟨rfl, rfl⟩ rfl ⟨rfl, rfl⟩ (by decide +kernel) (by decide +kernel) rfl (by decide) (by decide) ⟨rfl, rfl⟩ ⟨Nat.le_of_ble_eq_true rfl, Nat.le_of_ble_eq_true rfl⟩ (pc' := 444) rfl dX12_init_439 dX12_init_441 (fun H locs P => ?_)
  refine lv_aload_n hx hb dX12_init_444 rfl (lv_at hl 0 rfl) ?_
  refine lv_bipush (v := 64) hx hb dX12_init_445 (by decide) ?_
  refine i_step (ty := .int) (cells' := 55) (slots' := 64329) hx hb hts hin hown hK hfc hnm hh P 62 rfl ⟨rfl, rfl⟩ rfl ⟨rfl, rfl⟩ (by decide +kernel) (by decide +kernel) rfl (by decide) (by decide) ⟨rfl, rfl⟩ ⟨Nat.le_of_ble_eq_true rfl, Nat.le_of_ble_eq_true rfl⟩ (pc' := 452) rfl dX12_init_447 dX12_init_449 (fun H locs P => ?_)
  refine lv_aload_n hx hb dX12_init_452 rfl (lv_at hl 0 rfl) ?_
  refine lv_bipush (v := 64) hx hb dX12_init_453 (by decide) ?_
  refine i_step (ty := .int) (cells' := 56) (slots' := 64393) hx hb hts hin hown hK hfc hnm hh P 63 rfl ⟨rfl, rfl⟩ rfl ⟨rfl, rfl⟩ (by decide +kernel) (by decide +kernel) rfl (by decide) (by decide) ⟨rfl, rfl⟩ ⟨Nat.le_of_ble_eq_true rfl, Nat.le_of_ble_eq_true rfl⟩ (pc' := 460) rfl dX12_init_455 dX12_init_457 (fun H locs P => ?_)
  refine lv_aload_n hx hb dX12_init_460 rfl (lv_at hl 0 rfl) ?_
  refine lv_bipush (v := 64) hx hb dX12_init_461 (by decide) ?_
  refine i_step (ty := .boolean) (cells' := 57) (slots' := 64457) hx hb hts hin hown hK hfc hnm hh P 64 rfl ⟨rfl, rfl⟩ rfl ⟨rfl, rfl⟩ (by decide +kernel) (by decide +kernel) rfl (by decide) (by decide) ⟨rfl, rfl⟩ ⟨Nat.le_of_ble_eq_true rfl, Nat.le_of_ble_eq_true rfl⟩ (pc' := 468) rfl dX12_init_463 dX12_init_465 (fun H locs P => ?_)
  refine lv_aload_n hx hb dX12_init_468 rfl (lv_at hl 0 rfl) ?_
  refine lv_sipush (v := 3840) hx hb dX12_init_469 (by decide) ?_
  refine i_step (ty := .int) (cells' := 58) (slots' := 68297) hx hb hts hin hown hK hfc hnm hh P 65 rfl ⟨rfl, rfl⟩ rfl ⟨rfl, rfl⟩ (by decide +kernel) (by decide +kernel) rfl (by decide) (by decide) ⟨rfl, rfl⟩ ⟨Nat.le_of_ble_eq_true rfl, Nat.le_of_ble_eq_true rfl⟩ (pc' := 477) rfl dX12_init_472 dX12_init_474 (fun H locs P => ?_)
  refine lv_aload_n hx hb dX12_init_477 rfl (lv_at hl 0 rfl) ?_
  refine lv_bipush (v := 64) hx hb dX12_init_478 (by decide) ?_
  refine i_step (ty := .int) (cells' := 59) (slots' := 68361) hx hb hts hin hown hK hfc hnm hh P 66 rfl ⟨rfl, rfl⟩ rfl ⟨rfl, rfl⟩ (by decide +kernel) (by decide +kernel) rfl (by decide) (by decide) ⟨rfl, rfl⟩ ⟨Nat.le_of_ble_eq_true rfl, Nat.le_of_ble_eq_true rfl⟩ (pc' := 485) rfl dX12_init_480 dX12_init_482 (fun H locs P => ?_)
  refine lv_aload_n hx hb dX12_init_485 rfl (lv_at hl 0 rfl) ?_
  refine lv_bipush (v := 64) hx hb dX12_init_486 (by decide) ?_
  refine i_step (ty := .boolean) (cells' := 60) (slots' := 68425) hx hb hts hin hown hK hfc hnm hh P 67 rfl ⟨rfl, rfl⟩ rfl ⟨rfl, rfl⟩ (by decide +kernel) (by decide +kernel) rfl (by decide) (by decide) ⟨rfl, rfl⟩ ⟨Nat.le_of_ble_eq_true rfl, Nat.le_of_ble_eq_true rfl⟩ (pc' := 493) rfl dX12_init_488 dX12_init_490 (fun H locs P => ?_)
  refine lv_aload_n hx hb dX12_init_493 rfl (lv_at hl 0 rfl) ?_
  refine lv_sipush (v := 320) hx hb dX12_init_494 (by decide) ?_
  refine i_step (ty := .int) (cells' := 61) (slots' := 68745) hx hb hts hin hown hK hfc hnm hh P 68 rfl ⟨rfl, rfl⟩ rfl ⟨rfl, rfl⟩ (by decide +kernel) (by decide +kernel) rfl (by decide) (by decide) ⟨rfl, rfl⟩ ⟨Nat.le_of_ble_eq_true rfl, Nat.le_of_ble_eq_true rfl⟩ (pc' := 502) rfl dX12_init_497 dX12_init_499 (fun H locs P => ?_)
  refine lv_aload_n hx hb dX12_init_502 rfl (lv_at hl 0 rfl) ?_
  refine lv_sipush (v := 320) hx hb dX12_init_503 (by decide) ?_
  refine i_step (ty := .int) (cells' := 62) (slots' := 69065) hx hb hts hin hown hK hfc hnm hh P 69 rfl ⟨rfl, rfl⟩ rfl ⟨rfl, rfl⟩ (by decide +kernel) (by decide +kernel) rfl (by decide) (by decide) ⟨rfl, rfl⟩ ⟨Nat.le_of_ble_eq_true rfl, Nat.le_of_ble_eq_true rfl⟩ (pc' := 511) rfl dX12_init_506 dX12_init_508 (fun H locs P => ?_)
  refine lv_aload_n hx hb dX12_init_511 rfl (lv_at hl 0 rfl) ?_
  refine lv_sipush (v := 320) hx hb dX12_init_512 (by decide) ?_
  refine i_step (ty := .boolean) (cells' := 63) (slots' := 69385) hx hb hts hin hown hK hfc hnm hh P 70 rfl ⟨rfl, rfl⟩ rfl ⟨rfl, rfl⟩ (by decide +kernel) (by decide +kernel) rfl (by decide) (by decide) ⟨rfl, rfl⟩ ⟨Nat.le_of_ble_eq_true rfl, Nat.le_of_ble_eq_true rfl⟩ (pc' := 520) rfl dX12_init_515 dX12_init_517 (fun H locs P => ?_)
  refine lv_aload_n hx hb dX12_init_520 rfl (lv_at hl 0 rfl) ?_
  refine lv_sipush (v := 320) hx hb dX12_init_521 (by decide) ?_
  refine i_step (ty := .int) (cells' := 64) (slots' := 69705) hx hb hts hin hown hK hfc hnm hh P 71 rfl ⟨rfl, rfl⟩ rfl ⟨rfl, rfl⟩ (by decide +kernel) (by decide +kernel) rfl (by decide) (by decide) ⟨rfl, rfl⟩ ⟨Nat.le_of_ble_eq_true rfl, Nat.le_of_ble_eq_true rfl⟩ (pc' := 529) rfl dX12_init_524 dX12_init_526 (fun H locs P => ?_)
  refine lv_aload_n hx hb dX12_init_529 rfl (lv_at hl 0 rfl) ?_
  refine lv_sipush (v := 320) hx hb dX12_init_530 (by decide) ?_
  refine i_step (ty := .int) (cells' := 65) (slots' := 70025) hx hb hts hin hown hK hfc hnm hh P 72 rfl ⟨rfl, rfl⟩ rfl ⟨rfl, rfl⟩ (by decide +kernel) (by decide +kernel) rfl (by decide) (by decide) ⟨rfl, rfl⟩ ⟨Nat.le_of_ble_eq_true rfl, Nat.le_of_ble_eq_true rfl⟩ (pc' := 538) rfl dX12_init_533 dX12_init_535 (fun H locs P => ?_)
  refine lv_aload_n hx hb dX12_init_538 rfl (lv_at hl 0 rfl) ?_
  refine lv_sipush (v := 320) hx hb dX12_init_539 (by decide) ?_
  refine i_step (ty := .int) (cells' := 66) (slots' := 70345) hx hb hts hin hown hK hfc hnm hh P 73 rfl ⟨rfl, rfl⟩ rfl ⟨rfl, rfl⟩ (by decide +kernel) (by decide +kernel) rfl (by decide) (by decide) ⟨rfl, rfl⟩ ⟨Nat.le_of_ble_eq_true rfl, Nat.le_of_ble_eq_true rfl⟩ (pc' := 547) rfl dX12_init_542 dX12_init_544 (fun H locs P => ?_)
  refine lv_aload_n hx hb dX12_init_547 rfl (lv_at hl 0 rfl) ?_
  refine lv_sipush (v := 320) hx hb dX12_init_548 (by decide) ?_
  refine i_step (ty := .int) (cells' := 67) (slots' := 70665) hx hb hts hin hown hK hfc hnm hh P 74 rfl ⟨rfl, rfl⟩ rfl ⟨rfl, rfl⟩ (by decide +kernel) (by decide +kernel) rfl (by decide) (by decide) ⟨rfl, rfl⟩ ⟨Nat.le_of_ble_eq_true rfl, Nat.le_of_ble_eq_true rfl⟩ (pc' := 556) rfl dX12_init_551 dX12_init_553 (fun H locs P => ?_)
  refine lv_aload_n hx hb dX12_init_556 rfl (lv_at hl 0 rfl) ?_
  refine lv_sipush (v := 320) hx hb dX12_init_557 (by decide) ?_
  refine i_step (ty := .int) (cells' := 68) (slots' := 70985) hx hb hts hin hown hK hfc hnm hh P 75 rfl ⟨rfl, rfl⟩ rfl ⟨rfl, rfl⟩ (by decide +kernel) (by decide +kernel) rfl (by decide) (by decide) ⟨rfl, rfl⟩ ⟨Nat.le_of_ble_eq_true rfl, Nat.le_of_ble_eq_true rfl⟩ (pc' := 565) rfl dX12_init_560 dX12_init_562 (fun H locs P => ?_)
  refine lv_aload_n hx hb dX12_init_565 rfl (lv_at hl 0 rfl) ?_
  refine lv_sipush (v := 320) hx hb dX12_init_566 (by decide) ?_
  refine i_step (ty := .boolean) (cells' := 69) (slots' := 71305) hx hb hts hin hown hK hfc hnm hh P 76 rfl ⟨rfl, rfl⟩ rfl ⟨rfl, rfl⟩ (by decide +kernel) (by decide +kernel) rfl (by decide) (by decide) ⟨rfl, rfl⟩ ⟨Nat.le_of_ble_eq_true rfl, Nat.le_of_ble_eq_true rfl⟩ (pc' := 574) rfl dX12_init_569 dX12_init_571 (fun H locs P => ?_)
  refine lv_aload_n hx hb dX12_init_574 rfl (lv_at hl 0 rfl) ?_
  refine lv_sipush (v := 320) hx hb dX12_init_575 (by decide) ?_
  refine i_step (ty := .int) (cells' := 70) (slots' := 71625) hx hb hts hin hown hK hfc hnm hh P 77 rfl ⟨rfl, rfl⟩ rfl ⟨rfl, rfl⟩ (by decide +kernel) (by decide +kernel) rfl (by decide) (by decide) ⟨rfl, rfl⟩ ⟨Nat.le_of_ble_eq_true rfl, Nat.le_of_ble_eq_true rfl⟩ (pc' := 583) rfl dX12_init_578 dX12_init_580 (fun H locs P => ?_)
  refine lv_aload_n hx hb dX12_init_583 rfl (lv_at hl 0 rfl) ?_
  refine lv_sipush (v := 320) hx hb dX12_init_584 (by decide) ?_
  refine i_step (ty := .int) (cells' := 71) (slots' := 71945) hx hb hts hin hown hK hfc hnm hh P 78 rfl ⟨rfl, rfl⟩ rfl ⟨rfl, rfl⟩ (by decide +kernel) (by decide +kernel) rfl (by decide) (by decide) ⟨rfl, rfl⟩ ⟨Nat.le_of_ble_eq_true rfl, Nat.le_of_ble_eq_true rfl⟩ (pc' := 592) rfl dX12_init_587 dX12_init_589 (fun H locs P => ?_)
  refine lv_aload_n hx hb dX12_init_592 rfl (lv_at hl 0 rfl) ?_
  refine lv_bipush (v := 8) hx hb dX12_init_593 (by decide) ?_
  refine i_step (ty := .int) (cells' := 72) (slots' := 71953) hx hb hts hin hown hK hfc hnm hh P 80 rfl ⟨rfl, rfl⟩ rfl ⟨rfl, rfl⟩ (by decide +kernel) (by decide +kernel) rfl (by decide) (by decide) ⟨rfl, rfl⟩ ⟨Nat.le_of_ble_eq_true rfl, Nat.le_of_ble_eq_true rfl⟩ (pc' := 600) rfl dX12_init_595 dX12_init_597 (fun H locs P => ?_)
  refine lv_aload_n hx hb dX12_init_600 rfl (lv_at hl 0 rfl) ?_
  refine lv_bipush (v := 8) hx hb dX12_init_601 (by decide) ?_
  refine i_step (ty := .int) (cells' := 73) (slots' := 71961) hx hb hts hin hown hK hfc hnm hh P 81 rfl ⟨rfl, rfl⟩ rfl ⟨rfl, rfl⟩ (by decide +kernel) (by decide +kernel) rfl (by decide) (by decide) ⟨rfl, rfl⟩ ⟨Nat.le_of_ble_eq_true rfl, Nat.le_of_ble_eq_true rfl⟩ (pc' := 608) rfl dX12_init_603 dX12_init_605 (fun H locs P => ?_)
  refine lv_aload_n hx hb dX12_init_608 rfl (lv_at hl 0 rfl) ?_
  refine lv_iconst (v := 4) hx hb dX12_init_609 (by decide) ?_
  refine i_step (ty := .int) (cells' := 74) (slots' := 71965) hx hb hts hin hown hK hfc hnm hh P 82 rfl ⟨rfl, rfl⟩ rfl ⟨rfl, rfl⟩ (by decide +kernel) (by decide +kernel) rfl (by decide) (by decide) ⟨rfl, rfl⟩ ⟨Nat.le_of_ble_eq_true rfl, Nat.le_of_ble_eq_true rfl⟩ (pc' := 615) rfl dX12_init_610 dX12_init_612 (fun H locs P => ?_)
  refine lv_aload_n hx hb dX12_init_615 rfl (lv_at hl 0 rfl) ?_
  refine lv_iconst (v := 4) hx hb dX12_init_616 (by decide) ?_
  refine i_step (ty := .int) (cells' := 75) (slots' := 71969) hx hb hts hin hown hK hfc hnm hh P 83 rfl ⟨rfl, rfl⟩ rfl ⟨rfl, rfl⟩ (by decide +kernel) (by decide +kernel) rfl (by decide) (by decide) ⟨rfl, rfl⟩ ⟨Nat.le_of_ble_eq_true rfl, Nat.le_of_ble_eq_true rfl⟩ (pc' := 622) rfl dX12_init_617 dX12_init_619 (fun H locs P => ?_)
  refine lv_aload_n hx hb dX12_init_622 rfl (lv_at hl 0 rfl) ?_
  refine lv_ldc (own := RX12) (v := 128000) hx hb hown (hts (.constant RX12 237 128000) (by decide +kernel)) dX12_init_623 ?_
  refine i_step (ty := .int) (cells' := 76) (slots' := 199969) hx hb hts hin hown hK hfc hnm hh P 84 rfl ⟨rfl, rfl⟩ rfl ⟨rfl, rfl⟩ (by decide +kernel) (by decide +kernel) rfl (by decide) (by decide) ⟨rfl, rfl⟩ ⟨Nat.le_of_ble_eq_true rfl, Nat.le_of_ble_eq_true rfl⟩ (pc' := 630) rfl dX12_init_625 dX12_init_627 (fun H locs P => ?_)
  refine lv_aload_n hx hb dX12_init_630 rfl (lv_at hl 0 rfl) ?_
  refine lv_sipush (v := 640) hx hb dX12_init_631 (by decide) ?_
  refine i_step (ty := .int) (cells' := 77) (slots' := 200609) hx hb hts hin hown hK hfc hnm hh P 85 rfl ⟨rfl, rfl⟩ rfl ⟨rfl, rfl⟩ (by decide +kernel) (by decide +kernel) rfl (by decide) (by decide) ⟨rfl, rfl⟩ ⟨Nat.le_of_ble_eq_true rfl, Nat.le_of_ble_eq_true rfl⟩ (pc' := 639) rfl dX12_init_634 dX12_init_636 (fun H locs P => ?_)
  refine lv_aload_n hx hb dX12_init_639 rfl (lv_at hl 0 rfl) ?_
  refine lv_sipush (v := 160) hx hb dX12_init_640 (by decide) ?_
  refine i_step (ty := .int) (cells' := 78) (slots' := 200769) hx hb hts hin hown hK hfc hnm hh P 86 rfl ⟨rfl, rfl⟩ rfl ⟨rfl, rfl⟩ (by decide +kernel) (by decide +kernel) rfl (by decide) (by decide) ⟨rfl, rfl⟩ ⟨Nat.le_of_ble_eq_true rfl, Nat.le_of_ble_eq_true rfl⟩ (pc' := 648) rfl dX12_init_643 dX12_init_645 (fun H locs P => ?_)
  refine lv_aload_n hx hb dX12_init_648 rfl (lv_at hl 0 rfl) ?_
  refine lv_sipush (v := 160) hx hb dX12_init_649 (by decide) ?_
  refine i_step (ty := .int) (cells' := 79) (slots' := 200929) hx hb hts hin hown hK hfc hnm hh P 87 rfl ⟨rfl, rfl⟩ rfl ⟨rfl, rfl⟩ (by decide +kernel) (by decide +kernel) rfl (by decide) (by decide) ⟨rfl, rfl⟩ ⟨Nat.le_of_ble_eq_true rfl, Nat.le_of_ble_eq_true rfl⟩ (pc' := 657) rfl dX12_init_652 dX12_init_654 (fun H locs P => ?_)
  refine lv_aload_n hx hb dX12_init_657 rfl (lv_at hl 0 rfl) ?_
  refine lv_ldc (own := RX12) (v := 38400) hx hb hown (hts (.constant RX12 250 38400) (by decide +kernel)) dX12_init_658 ?_
  refine i_step (ty := .int) (cells' := 80) (slots' := 239329) hx hb hts hin hown hK hfc hnm hh P 88 rfl ⟨rfl, rfl⟩ rfl ⟨rfl, rfl⟩ (by decide +kernel) (by decide +kernel) rfl (by decide) (by decide) ⟨rfl, rfl⟩ ⟨Nat.le_of_ble_eq_true rfl, Nat.le_of_ble_eq_true rfl⟩ (pc' := 665) rfl dX12_init_660 dX12_init_662 (fun H locs P => ?_)
  refine lv_aload_n hx hb dX12_init_665 rfl (lv_at hl 0 rfl) ?_
  refine lv_sipush (v := 160) hx hb dX12_init_666 (by decide) ?_
  refine i_step (ty := .int) (cells' := 81) (slots' := 239489) hx hb hts hin hown hK hfc hnm hh P 89 rfl ⟨rfl, rfl⟩ rfl ⟨rfl, rfl⟩ (by decide +kernel) (by decide +kernel) rfl (by decide) (by decide) ⟨rfl, rfl⟩ ⟨Nat.le_of_ble_eq_true rfl, Nat.le_of_ble_eq_true rfl⟩ (pc' := 674) rfl dX12_init_669 dX12_init_671 (fun H locs P => ?_)
  refine lv_aload_n hx hb dX12_init_674 rfl (lv_at hl 0 rfl) ?_
  refine lv_bipush (v := 60) hx hb dX12_init_675 (by decide) ?_
  refine i_step (ty := .int) (cells' := 82) (slots' := 239549) hx hb hts hin hown hK hfc hnm hh P 90 rfl ⟨rfl, rfl⟩ rfl ⟨rfl, rfl⟩ (by decide +kernel) (by decide +kernel) rfl (by decide) (by decide) ⟨rfl, rfl⟩ ⟨Nat.le_of_ble_eq_true rfl, Nat.le_of_ble_eq_true rfl⟩ (pc' := 682) rfl dX12_init_677 dX12_init_679 (fun H locs P => ?_)
  have hn : ∀ v : Int32, 2 ≤ v.toInt ∧ v.toInt ≤ 4 → v.toInt = nCl p1 → W p l e rm_init s m ([.ref h0, .int p1] : List Value).toArray below meth c H locs 82 239549 (MQ below (va_Qv (iPost p1) (iB G h0 h1 X) (fun q => q = h0 ∨ h1 ≤ q)) ([.ref h0, .int p1] : List Value).toArray s 82 239549 (fun q => q = h0 ∨ h1 ≤ q)) (F0 m 702 ls [.int v, .ref h0]) := by
    intro v hv hcl
    refine i_n hx hb hts hin hown hK hnm hh P (by decide +kernel) dX12_init_702 (fun H1 locs1 hM hz hF hlb => ?_)
    have hMA : ∀ q, mA h0 (mAdI h1) q → q = h0 ∨ h1 ≤ q := fun q h => by
      rcases h with h | ⟨j, -, -, h⟩
      · exact Or.inl h
      · exact Or.inr (by rw [h]; unfold mAdI; omega)
    have L : mL G h0 (mAdI h1) H00 v.toInt X (iG v) H1 locs1 := ⟨hM, ⟨by rw [hz, ← hHH, hsz]; omega, fun q h1' h2' => hF q (by rw [← hsz, hHH]; exact h1') (fun z => h2' (Or.inl z)), fun q h => Or.inl (hlb q h)⟩, iI hX.1 hv.1⟩
    refine w_init ⟨hx, hb, hts, hin, hown, hK, iAp hh⟩ hml L hv hX p1 hl (fun pc' ls' g1 H1 locs1 hdg L hp => ?_)
    refine W.vret hx hb hr (fun t ht _ => ⟨⟨(v.toInt, g1), rfl, ⟨hv, mJ_fr iJ hp.1 rfl, hcl, fun i => (show g1 16 i = 0 from (congrFun (hp.1.at 16 rfl) i).trans rfl)⟩, ⟨by rw [ht]; exact L.1, L.2.2⟩⟩, ⟨by rw [ht, hHH]; exact L.2.1.1, fun q h1' h2' => by rw [ht, hHH]; exact L.2.1.2.1 q (by rw [← hHH]; exact h1') (fun z => h2' (hMA q z))⟩⟩) (fun q h => hMA _ (L.2.1.2.2 q h)) hdg
  have k2 : (2 : Int32).toInt = 2 := by decide
  have k4 : (4 : Int32).toInt = 4 := by decide
  refine lv_aload_n hx hb dX12_init_682 rfl (lv_at hl 0 rfl) ?_
  refine lv_iload_n hx hb dX12_init_683 rfl (lv_at hl 1 rfl) ?_
  refine lv_iconst (v := 2) hx hb dX12_init_684 (by decide) ?_
  refine lv_icmp_ge (tgt := 692) hx hb dX12_init_685 (by decide) (fun hc => ?_) (fun hc => ?_)
  · refine lv_iload_n hx hb dX12_init_692 rfl (lv_at hl 1 rfl) ?_
    refine lv_iconst (v := 4) hx hb dX12_init_693 (by decide) ?_
    refine lv_icmp_le (tgt := 701) hx hb dX12_init_694 (by decide) (fun hd => ?_) (fun hd => ?_)
    · refine lv_iload_n hx hb dX12_init_701 rfl (lv_at hl 1 rfl) ?_
      have := Int32.le_iff_toInt_le.mp hc
      have := Int32.le_iff_toInt_le.mp hd
      exact hn p1 ⟨by omega, by omega⟩ (by unfold nCl; rw [if_neg (by omega), if_neg (by omega)])
    · refine lv_iconst (v := 4) hx hb dX12_init_697 (by decide) ?_
      refine lv_goto (tgt := 702) hx hb dX12_init_698 (by decide) ?_
      have hd2 := Int32.lt_iff_toInt_lt.mp (rg_nle hd)
      exact hn 4 ⟨by omega, by omega⟩ (by unfold nCl; rw [if_neg (by omega), if_pos (by omega)]; exact k4)
  · refine lv_iconst (v := 2) hx hb dX12_init_688 (by decide) ?_
    refine lv_goto (tgt := 702) hx hb dX12_init_689 (by decide) ?_
    have hc2 := Int32.lt_iff_toInt_lt.mp (rg_nle hc)
    exact hn 2 ⟨by omega, by omega⟩ (by unfold nCl; rw [if_pos (by omega)]; exact k2)

