/-! ranges of the class's numbers, and the rules over its world -/
def cLo (j : Nat) : Int := match j with
  | 1 => 0
  | 34 => 0
  | 42 => 0
  | 47 => 0
  | 48 => 0
  | 49 => 0
  | 66 => 0
  | 67 => 0
  | 101 => 0
  | 106 => 0
  | 111 => 0
  | 135 => 0
  | 164 => 0
  | 165 => 0
  | 166 => 0
  | 167 => 0
  | 192 => 10
  | 197 => 0
  | 198 => 0
  | 225 => 0
  | 226 => 0
  | 234 => 0
  | 235 => 0
  | 290 => 0
  | 296 => 0
  | 361 => 0
  | 416 => 8
  | 421 => 0
  | 422 => 0
  | 864 => 0
  | 928 => 0
  | 992 => 0
  | 1184 => 0
  | 1280 => 0
  | 1344 => 0
  | 136 => 0
  | 170 => 0
  | _ => -2147483648
def cHi (X : Int) (j : Nat) : Int := match j with
  | 1 => 5
  | 34 => 1
  | 42 => 1
  | 47 => 3
  | 48 => 4
  | 49 => 5
  | 66 => 39
  | 67 => 40
  | 101 => 212
  | 106 => 8
  | 111 => 200
  | 135 => 40
  | 164 => 4
  | 165 => 16777223
  | 166 => 16777215
  | 167 => 16777223
  | 192 => 10
  | 197 => 9
  | 198 => 10
  | 225 => 2
  | 226 => 1
  | 234 => 1
  | 235 => 1
  | 290 => 1
  | 296 => 60
  | 361 => 200
  | 416 => 8
  | 421 => 0
  | 422 => 0
  | 864 => 60
  | 928 => 1
  | 992 => 200
  | 1184 => 5
  | 1280 => 60
  | 1344 => 1
  | 136 => X
  | 170 => X
  | _ => 2147483647
theorem clj_1 {X : Int} {v : Int32} (r : rg (cLo 1) (cHi X 1) v) : rg (0) (5) v := r
theorem crj_1 {X : Int} {v : Int32} (r : rg (0) (5) v) : rg (cLo 1) (cHi X 1) v := r
theorem clj_34 {X : Int} {v : Int32} (r : rg (cLo 34) (cHi X 34) v) : rg (0) (1) v := r
theorem crj_34 {X : Int} {v : Int32} (r : rg (0) (1) v) : rg (cLo 34) (cHi X 34) v := r
theorem clj_42 {X : Int} {v : Int32} (r : rg (cLo 42) (cHi X 42) v) : rg (0) (1) v := r
theorem crj_42 {X : Int} {v : Int32} (r : rg (0) (1) v) : rg (cLo 42) (cHi X 42) v := r
theorem clj_47 {X : Int} {v : Int32} (r : rg (cLo 47) (cHi X 47) v) : rg (0) (3) v := r
theorem crj_47 {X : Int} {v : Int32} (r : rg (0) (3) v) : rg (cLo 47) (cHi X 47) v := r
theorem clj_48 {X : Int} {v : Int32} (r : rg (cLo 48) (cHi X 48) v) : rg (0) (4) v := r
theorem crj_48 {X : Int} {v : Int32} (r : rg (0) (4) v) : rg (cLo 48) (cHi X 48) v := r
theorem clj_49 {X : Int} {v : Int32} (r : rg (cLo 49) (cHi X 49) v) : rg (0) (5) v := r
theorem crj_49 {X : Int} {v : Int32} (r : rg (0) (5) v) : rg (cLo 49) (cHi X 49) v := r
theorem clj_66 {X : Int} {v : Int32} (r : rg (cLo 66) (cHi X 66) v) : rg (0) (39) v := r
theorem crj_66 {X : Int} {v : Int32} (r : rg (0) (39) v) : rg (cLo 66) (cHi X 66) v := r
theorem clj_67 {X : Int} {v : Int32} (r : rg (cLo 67) (cHi X 67) v) : rg (0) (40) v := r
theorem crj_67 {X : Int} {v : Int32} (r : rg (0) (40) v) : rg (cLo 67) (cHi X 67) v := r
theorem clj_101 {X : Int} {v : Int32} (r : rg (cLo 101) (cHi X 101) v) : rg (0) (212) v := r
theorem crj_101 {X : Int} {v : Int32} (r : rg (0) (212) v) : rg (cLo 101) (cHi X 101) v := r
theorem clj_106 {X : Int} {v : Int32} (r : rg (cLo 106) (cHi X 106) v) : rg (0) (8) v := r
theorem crj_106 {X : Int} {v : Int32} (r : rg (0) (8) v) : rg (cLo 106) (cHi X 106) v := r
theorem clj_111 {X : Int} {v : Int32} (r : rg (cLo 111) (cHi X 111) v) : rg (0) (200) v := r
theorem crj_111 {X : Int} {v : Int32} (r : rg (0) (200) v) : rg (cLo 111) (cHi X 111) v := r
theorem clj_135 {X : Int} {v : Int32} (r : rg (cLo 135) (cHi X 135) v) : rg (0) (40) v := r
theorem crj_135 {X : Int} {v : Int32} (r : rg (0) (40) v) : rg (cLo 135) (cHi X 135) v := r
theorem clj_164 {X : Int} {v : Int32} (r : rg (cLo 164) (cHi X 164) v) : rg (0) (4) v := r
theorem crj_164 {X : Int} {v : Int32} (r : rg (0) (4) v) : rg (cLo 164) (cHi X 164) v := r
theorem clj_165 {X : Int} {v : Int32} (r : rg (cLo 165) (cHi X 165) v) : rg (0) (16777223) v := r
theorem crj_165 {X : Int} {v : Int32} (r : rg (0) (16777223) v) : rg (cLo 165) (cHi X 165) v := r
theorem clj_166 {X : Int} {v : Int32} (r : rg (cLo 166) (cHi X 166) v) : rg (0) (16777215) v := r
theorem crj_166 {X : Int} {v : Int32} (r : rg (0) (16777215) v) : rg (cLo 166) (cHi X 166) v := r
theorem clj_167 {X : Int} {v : Int32} (r : rg (cLo 167) (cHi X 167) v) : rg (0) (16777223) v := r
theorem crj_167 {X : Int} {v : Int32} (r : rg (0) (16777223) v) : rg (cLo 167) (cHi X 167) v := r
theorem clj_192 {X : Int} {v : Int32} (r : rg (cLo 192) (cHi X 192) v) : rg (10) (10) v := r
theorem crj_192 {X : Int} {v : Int32} (r : rg (10) (10) v) : rg (cLo 192) (cHi X 192) v := r
theorem clj_197 {X : Int} {v : Int32} (r : rg (cLo 197) (cHi X 197) v) : rg (0) (9) v := r
theorem crj_197 {X : Int} {v : Int32} (r : rg (0) (9) v) : rg (cLo 197) (cHi X 197) v := r
theorem clj_198 {X : Int} {v : Int32} (r : rg (cLo 198) (cHi X 198) v) : rg (0) (10) v := r
theorem crj_198 {X : Int} {v : Int32} (r : rg (0) (10) v) : rg (cLo 198) (cHi X 198) v := r
theorem clj_225 {X : Int} {v : Int32} (r : rg (cLo 225) (cHi X 225) v) : rg (0) (2) v := r
theorem crj_225 {X : Int} {v : Int32} (r : rg (0) (2) v) : rg (cLo 225) (cHi X 225) v := r
theorem clj_226 {X : Int} {v : Int32} (r : rg (cLo 226) (cHi X 226) v) : rg (0) (1) v := r
theorem crj_226 {X : Int} {v : Int32} (r : rg (0) (1) v) : rg (cLo 226) (cHi X 226) v := r
theorem clj_234 {X : Int} {v : Int32} (r : rg (cLo 234) (cHi X 234) v) : rg (0) (1) v := r
theorem crj_234 {X : Int} {v : Int32} (r : rg (0) (1) v) : rg (cLo 234) (cHi X 234) v := r
theorem clj_235 {X : Int} {v : Int32} (r : rg (cLo 235) (cHi X 235) v) : rg (0) (1) v := r
theorem crj_235 {X : Int} {v : Int32} (r : rg (0) (1) v) : rg (cLo 235) (cHi X 235) v := r
theorem clj_290 {X : Int} {v : Int32} (r : rg (cLo 290) (cHi X 290) v) : rg (0) (1) v := r
theorem crj_290 {X : Int} {v : Int32} (r : rg (0) (1) v) : rg (cLo 290) (cHi X 290) v := r
theorem clj_296 {X : Int} {v : Int32} (r : rg (cLo 296) (cHi X 296) v) : rg (0) (60) v := r
theorem crj_296 {X : Int} {v : Int32} (r : rg (0) (60) v) : rg (cLo 296) (cHi X 296) v := r
theorem clj_361 {X : Int} {v : Int32} (r : rg (cLo 361) (cHi X 361) v) : rg (0) (200) v := r
theorem crj_361 {X : Int} {v : Int32} (r : rg (0) (200) v) : rg (cLo 361) (cHi X 361) v := r
theorem clj_416 {X : Int} {v : Int32} (r : rg (cLo 416) (cHi X 416) v) : rg (8) (8) v := r
theorem crj_416 {X : Int} {v : Int32} (r : rg (8) (8) v) : rg (cLo 416) (cHi X 416) v := r
theorem clj_421 {X : Int} {v : Int32} (r : rg (cLo 421) (cHi X 421) v) : rg (0) (0) v := r
theorem crj_421 {X : Int} {v : Int32} (r : rg (0) (0) v) : rg (cLo 421) (cHi X 421) v := r
theorem clj_422 {X : Int} {v : Int32} (r : rg (cLo 422) (cHi X 422) v) : rg (0) (0) v := r
theorem crj_422 {X : Int} {v : Int32} (r : rg (0) (0) v) : rg (cLo 422) (cHi X 422) v := r
theorem clj_864 {X : Int} {v : Int32} (r : rg (cLo 864) (cHi X 864) v) : rg (0) (60) v := r
theorem crj_864 {X : Int} {v : Int32} (r : rg (0) (60) v) : rg (cLo 864) (cHi X 864) v := r
theorem clj_928 {X : Int} {v : Int32} (r : rg (cLo 928) (cHi X 928) v) : rg (0) (1) v := r
theorem crj_928 {X : Int} {v : Int32} (r : rg (0) (1) v) : rg (cLo 928) (cHi X 928) v := r
theorem clj_992 {X : Int} {v : Int32} (r : rg (cLo 992) (cHi X 992) v) : rg (0) (200) v := r
theorem crj_992 {X : Int} {v : Int32} (r : rg (0) (200) v) : rg (cLo 992) (cHi X 992) v := r
theorem clj_1184 {X : Int} {v : Int32} (r : rg (cLo 1184) (cHi X 1184) v) : rg (0) (5) v := r
theorem crj_1184 {X : Int} {v : Int32} (r : rg (0) (5) v) : rg (cLo 1184) (cHi X 1184) v := r
theorem clj_1280 {X : Int} {v : Int32} (r : rg (cLo 1280) (cHi X 1280) v) : rg (0) (60) v := r
theorem crj_1280 {X : Int} {v : Int32} (r : rg (0) (60) v) : rg (cLo 1280) (cHi X 1280) v := r
theorem clj_1344 {X : Int} {v : Int32} (r : rg (cLo 1344) (cHi X 1344) v) : rg (0) (1) v := r
theorem crj_1344 {X : Int} {v : Int32} (r : rg (0) (1) v) : rg (cLo 1344) (cHi X 1344) v := r
theorem clj_136 {X : Int} {v : Int32} (r : rg (cLo 136) (cHi X 136) v) : rg 0 X v := r
theorem crj_136 {X : Int} {v : Int32} (r : rg 0 X v) : rg (cLo 136) (cHi X 136) v := r
theorem clj_170 {X : Int} {v : Int32} (r : rg (cLo 170) (cHi X 170) v) : rg 0 X v := r
theorem crj_170 {X : Int} {v : Int32} (r : rg 0 X v) : rg (cLo 170) (cHi X 170) v := r
def cI (X : Int) (g : mSt) : Prop := ∀ j i, rg (cLo j) (cHi X j) (g j i)
theorem cI.up {X : Int} {g : mSt} {j i : Nat} {v : Int32} (h : cI X g) (hv : rg (cLo j) (cHi X j) v) : cI X (up2 g j i v) := by
  intro a b
  unfold up2
  by_cases q : a = j ∧ b = i
  · rw [if_pos q, q.1]; exact hv
  · rw [if_neg q]; exact h a b
theorem cI.mono {X Y : Int} {g : mSt} (h : cI X g) (hXY : X ≤ Y) : cI Y g := by
  intro a b
  refine ⟨(h a b).1, Int.le_trans (h a b).2 ?_⟩
  unfold cHi
  split <;> first | exact Int.le_refl _ | exact hXY
/-- the JDK's empty array of a list that has none of its own: there, with no places -/
def hcN (A : Nat → Prop) (U : State) (H : Heap) : Prop := ∃ t : Nat, va_Z RJx4a65c "DEFAULTCAPACITY_EMPTY_ELEMENTDATA" "[Ljava/lang/Object;" (.ref t) A U H ∧ va_T (.object "java/lang/Object") t 0 (fun _ => .null) A U H
def hcT (A : Nat → Prop) (U : State) (H : Heap) : Prop := (∃ t : Nat, va_Z RX11 "HEC_STEPS" "[I" (.ref t) A U H ∧ va_T .int t 16 (fun j => .int (hc_T j)) A U H) ∧ hcN A U H
theorem hcT.sub {A B : Nat → Prop} {U : State} {H : Heap} (h : hcT A U H) (hAB : ∀ q, B q → A q) : hcT B U H := by
  obtain ⟨⟨t, h1, h2⟩, t2, h3, h4⟩ := h
  exact ⟨⟨t, h1.narrow hAB, h2.narrow hAB⟩, t2, h3.narrow hAB, h4.narrow hAB⟩
theorem hcT.moved {A : Nat → Prop} {u U : State} {H : Heap} (hvm : u.vm.Alike U.vm) (h : hcT A u H) : hcT A U H := by
  obtain ⟨⟨t, h1, h2⟩, t2, h3, h4⟩ := h
  exact ⟨⟨t, h1.moved hvm, h2.moved hvm⟩, t2, h3.moved hvm, h4.moved hvm⟩
theorem hcT.kept {A : Nat → Prop} {U : State} {H0 H : Heap} {locs : List Loc} (h : hcT A U H0) (hS : va_S A H0 H locs) : hcT A U H := by
  obtain ⟨⟨t, h1, h2⟩, t2, h3, h4⟩ := h
  exact ⟨⟨t, h1.kept hS.2.1, h2.kept hS.2.1⟩, t2, h3.kept hS.2.1, h4.kept hS.2.1⟩
theorem hcT.P {A : Nat → Prop} {U : State} (h : hcT A U U.heap) : hc_P U := by
  obtain ⟨⟨t, h1, h2⟩, -⟩ := h
  exact ⟨t, h1.narrow (fun q h => h.elim), h2.narrow (fun q h => h.elim)⟩
def cNl : List (String × Nat × MethodName) := [(RX11, 11, yX9_init), (RX11, 43, yX3_init), (RX0, 32, yX11_cellsFor), (RX0, 36, yX11_crcOf), (RX0, 40, yX11_wordAt), (RX1, 81, yX11_closeFrame), (RX1, 96, yX0_init), (RX3, 11, yX2_init), (RX3, 114, yX11_closeFrame), (RX3, 23, yX7_init), (RX3, 30, yX0_init), (RX3, 85, yX11_hecOf), (RX5, 147, yX11_wordAt), (RX7, 54, yX11_hecOf), (RX7, 74, yX11_wrongBit), (RX9, 46, yX11_wordAt)]
def cDl : List MethodName := [⟨"CellSwitch$Side", "timer", "(LCellSwitch$Call;I)V"⟩, ⟨"CellSwitch$Side", "setupCame", "(LCellSwitch$Signal;I)V"⟩, ⟨"CellSwitch$Side", "progress", "(LCellSwitch$Call;LCellSwitch$Signal;I)V"⟩]
def cNest (U : State) : Prop := (∀ q ∈ cNl, va_Nw (.methodLinkNest q.1 q.2.1 q.2.2 "CellSwitch") U) ∧ ∀ q ∈ cDl, va_Nw (.declares q) U
theorem cNest.warm {s U : State} (hW : s.WarmedH U.vm) (h : cNest s) : cNest U := ⟨fun q hq => (h.1 q hq).warmM hW, fun q hq => (h.2 q hq).warmD hW⟩
theorem cNest.same {u U : State} (e : u.vm = U.vm) (h : cNest u) : cNest U := ⟨fun q hq => (h.1 q hq).same rfl e, fun q hq => (h.2 q hq).same rfl e⟩
def cX (p : Program) (c : Code) (cc : ByteArray) (s : State) (args : Array Value) (Ts : List Cond) (m : MethodId) (G : cG) (Z : cZ) (A : Nat → Prop) (own : String) (H0 : Heap) : Prop :=
  p.tables.exec = Jvm.exec ∧ c.code = cc ∧ (∀ w ∈ Ts, w.before args s = true) ∧ (∀ w ∈ wsUC, w ∈ Ts) ∧ s.vm.findClass own = some m.cls ∧ cK G s ∧ cAp Z ∧ cSt Z ∧ hcT A s H0 ∧ cNest s ∧ ∀ q, cAd Z q → A q
def cL (G : cG) (Z : cZ) (A : Nat → Prop) (H0 : Heap) (X : Int) (g : mSt) (H : Heap) (locs : List Loc) : Prop := cH G Z g H ∧ va_S A H0 H locs ∧ cI X g
theorem cL.mono {G : cG} {Z : cZ} {A : Nat → Prop} {H0 : Heap} {X Y : Int} {g : mSt} {H : Heap} {locs : List Loc} (L : cL G Z A H0 X g H locs) (h : X ≤ Y) : cL G Z A H0 Y g H locs := ⟨L.1, L.2.1, L.2.2.mono h⟩
def cPre (G : cG) (Z : cZ) (X : Int) (g : mSt) (U : State) : Prop := cH G Z g U.heap ∧ cI X g ∧ cK G U ∧ cAp Z ∧ cSt Z ∧ hcT (cAd Z) U U.heap ∧ cNest U
def cPo (G : cG) (Z : cZ) (Y : Int) (g1 : mSt) (t : State) : Prop := cH G Z g1 t.heap ∧ cI Y g1
def cQv (G : cG) (Z : cZ) (Y : Int) (post : mSt → Prop) : Array Value → State → Outcome → State → Prop := va_Qv post (cPo G Z Y) (cAd Z)
def cQi (G : cG) (Z : cZ) (Y : Int) (post : Int32 → mSt → Prop) : Array Value → State → Outcome → State → Prop := va_Qi post (cPo G Z Y) (cAd Z)
theorem cH.ob {G : cG} {Z : cZ} {g : mSt} {H : Heap} (hM : cH G Z g H) {K i : Nat} (hal : Z.al K i) (hK : cOb K = true) : t_OB (Z.ad K i) (G.1 K) (cNn K) (G.2.1 K) H (cV Z g K i) := by
  have hk : K < 16 := by
    unfold cOb at hK
    rw [Bool.and_eq_true] at hK
    have := of_decide_eq_true hK.1
    omega
  have h := (hM K i hal).1 (by omega)
  unfold cC at h
  rw [if_pos hk] at h
  exact h
theorem cH.ar {G : cG} {Z : cZ} {g : mSt} {H : Heap} (hM : cH G Z g H) {K i : Nat} (hal : Z.al K i) (hK : 16 ≤ K ∧ K < 48) : H[Z.ad K i]? = some (vp_cell (if cBo K then G.2.2.2.1 else G.2.2.1) (cLen K, .inl (fun k => g (32 * K) (8192 * i + k)))) := by
  have h := (hM K i hal).1 (by omega)
  unfold cC at h
  rw [if_neg (by omega), if_pos hK.2] at h
  exact h
section CRows
variable {p : Program} {l : Launch} {e : Env} {R : Room} {s : State} {m : MethodId} {args : Array Value} {below : List Frame} {meth : Method} {c : Code} {H : Heap} {locs : List Loc} {cells slots : Nat} {Q : State → Prop}
variable {cc : ByteArray} {pc : Nat} {ls : Array Slot} {rest : List Value} {G : cG} {Z : cZ} {g : mSt} {H0 : Heap} {Ts : List Cond} {X : Int} {own : String} {A : Nat → Prop}
theorem cg_any (x : cX p c cc s args Ts m G Z A own H0) (hM : cH G Z g H) (K i f : Nat) (hal : Z.al K i) (hK : cOb K = true) (hf : f < cNn K) {index : Nat} {v : Value} (hv : cV Z g K i f = v) (hw : Cond.fieldLink own index (cTn K f).1 (cTn K f).2.1 (cTn K f).2.2.1 ∈ Ts) (hdg : decode cc pc = .ok (.getfield index, 3))
    (kk : W p l e R s m args below meth c H locs cells slots Q (F0 m (pc + 3) ls (v :: rest))) : W p l e R s m args below meth c H locs cells slots Q (F0 m pc ls (.ref (Z.ad K i) :: rest)) := by
  obtain ⟨hx, hb, hts, hin, hown, hK1, hA, -, -, -, hAd⟩ := x
  obtain ⟨cell, q1, q2, q3, q4⟩ := hM.ob hal hK
  obtain ⟨hS, hfc, kC, hkC, hkind⟩ := hK1.1 K hK
  obtain ⟨cf, kf, fi, fd, hi, hsl⟩ := hS f hf
  refine W.getf hx hb hown (hts _ hw) hi (u_facts hfc hkC (u_lays hts (fun w h => hin w (cws_in hK w h)) hf) hi).1 q1 (by rw [q3]; exact fun h => by cases h) (v := v) ?_ rfl rfl hdg kk
  rw [hsl, q4 f hf, hv]
theorem c_geti (x : cX p c cc s args Ts m G Z A own H0) (L : cL G Z A H0 X g H locs) (K i f j : Nat) (hal : Z.al K i) (hj : j = 32 * K + f) (hk : (cOb K && (decide (f < cNn K) && (!(cRef K f) && !(cFin K f)))) = true) {index : Nat} (hw : Cond.fieldLink own index (cTn K f).1 (cTn K f).2.1 (cTn K f).2.2.1 ∈ Ts) (hdg : decode cc pc = .ok (.getfield index, 3))
    (kk : ∀ v : Int32, v = g j i → rg (cLo j) (cHi X j) v → W p l e R s m args below meth c H locs cells slots Q (F0 m (pc + 3) ls (.int v :: rest))) : W p l e R s m args below meth c H locs cells slots Q (F0 m pc ls (.ref (Z.ad K i) :: rest)) := by
  subst hj
  rw [Bool.and_eq_true, Bool.and_eq_true, Bool.and_eq_true, Bool.not_eq_true', Bool.not_eq_true'] at hk
  exact cg_any x L.1 K i f hal hk.1 (of_decide_eq_true hk.2.1) (v := .int (g (32 * K + f) i)) (by unfold cV; rw [hk.2.2.1, if_neg (by decide), hk.2.2.2, if_neg (by decide)]) hw hdg (kk _ rfl (L.2.2 _ i))
theorem c_getc (x : cX p c cc s args Ts m G Z A own H0) (L : cL G Z A H0 X g H locs) (K i f : Nat) (hal : Z.al K i) (hk : (cOb K && (decide (f < cNn K) && (!(cRef K f) && cFin K f))) = true) {index : Nat} (hw : Cond.fieldLink own index (cTn K f).1 (cTn K f).2.1 (cTn K f).2.2.1 ∈ Ts) (hdg : decode cc pc = .ok (.getfield index, 3))
    (kk : ∀ v : Int32, v = cCv Z K i → W p l e R s m args below meth c H locs cells slots Q (F0 m (pc + 3) ls (.int v :: rest))) : W p l e R s m args below meth c H locs cells slots Q (F0 m pc ls (.ref (Z.ad K i) :: rest)) := by
  rw [Bool.and_eq_true, Bool.and_eq_true, Bool.and_eq_true, Bool.not_eq_true'] at hk
  exact cg_any x L.1 K i f hal hk.1 (of_decide_eq_true hk.2.1) (v := .int (cCv Z K i)) (by unfold cV; rw [hk.2.2.1, if_neg (by decide), hk.2.2.2, if_pos rfl]) hw hdg (kk _ rfl)
theorem c_getr (x : cX p c cc s args Ts m G Z A own H0) (L : cL G Z A H0 X g H locs) (K i f : Nat) (hal : Z.al K i) (hk : (cOb K && (decide (f < cNn K) && cRef K f)) = true) {index a : Nat} (ha : cTo Z (g (32 * K + f) i) K i f = some a) (hw : Cond.fieldLink own index (cTn K f).1 (cTn K f).2.1 (cTn K f).2.2.1 ∈ Ts) (hdg : decode cc pc = .ok (.getfield index, 3))
    (kk : W p l e R s m args below meth c H locs cells slots Q (F0 m (pc + 3) ls (.ref a :: rest))) : W p l e R s m args below meth c H locs cells slots Q (F0 m pc ls (.ref (Z.ad K i) :: rest)) := by
  rw [Bool.and_eq_true, Bool.and_eq_true] at hk
  exact cg_any x L.1 K i f hal hk.1 (of_decide_eq_true hk.2.1) (v := .ref a) (by unfold cV; rw [hk.2.2, if_pos rfl, ha]; rfl) hw hdg kk
theorem cap (x : cX p c cc s args Ts m G Z A own H0) (K : Nat) (hK : cOb K = true) : ∀ a b, a < cNn K → b < cNn K → a ≠ b → G.2.1 K a ≠ G.2.1 K b := by
  obtain ⟨hx, hb, hts, hin, hown, hK1, hA, -, -, -, hAd⟩ := x
  intro a b ha hb2 hne
  obtain ⟨hS, -⟩ := hK1.1 K hK
  obtain ⟨_, _, _, fa, hia, ea⟩ := hS a ha
  obtain ⟨_, _, _, fb, hib, eb⟩ := hS b hb2
  have hin2 : ∀ w ∈ u_ws (cRn K) (cTn K) (cNn K), w ∈ Ts := fun w h => hin w (cws_in hK w h)
  obtain ⟨ta, hta⟩ := cty K hK a ha
  obtain ⟨tb, htb⟩ := cty K hK b hb2
  rw [← ea, ← eb]
  refine u_apart (u_lays hts hin2 ha) (u_lays hts hin2 hb2) hia hib ?_
  rw [(State.fieldFound?_type hia hta).1, (State.fieldFound?_type hib htb).1]
  exact cnm K hK a ha b hb2 hne
theorem cp_any (x : cX p c cc s args Ts m G Z A own H0) (L : cL G Z A H0 X g H locs) (K i f : Nat) (hal : Z.al K i) (hk : (cOb K && (decide (f < cNn K) && (!(cRef K f) && !(cFin K f)))) = true) (hfin : (cTn K f).2.2.2 = false) {ty : FieldType} (hd : parseFieldDescriptor (cTn K f).2.2.1 = some ty) {v : Int32} (hn : narrow ty (.int v) = .int v) (hfit : fits ty (.int v) = true) {index : Nat} (hw : Cond.fieldLink own index (cTn K f).1 (cTn K f).2.1 (cTn K f).2.2.1 ∈ Ts) (hdg : decode cc pc = .ok (.putfield index, 3)) (hv : rg (cLo (32 * K + f)) (cHi X (32 * K + f)) v)
    (kk : ∀ (g1 : mSt) (H1 : Heap) (locs1 : List Loc), g1 = up2 g (32 * K + f) i v → cL G Z A H0 X g1 H1 locs1 → W p l e R s m args below meth c H1 locs1 cells slots Q (F0 m (pc + 3) ls rest)) : W p l e R s m args below meth c H locs cells slots Q (F0 m pc ls (.int v :: .ref (Z.ad K i) :: rest)) := by
  rw [Bool.and_eq_true, Bool.and_eq_true, Bool.and_eq_true, Bool.not_eq_true', Bool.not_eq_true'] at hk
  have hap := cap x K hk.1
  obtain ⟨hx, hb, hts, hin, hown, hK1, hA, -, -, -, hAd⟩ := x
  have hf := of_decide_eq_true hk.2.1
  have hin2 : ∀ w ∈ u_ws (cRn K) (cTn K) (cNn K), w ∈ Ts := fun w h => hin w (cws_in hk.1 w h)
  obtain ⟨cell, q1, q2, q3, q4⟩ := L.1.ob hal hk.1
  obtain ⟨hS, hfc, kC, hkC, hkind⟩ := hK1.1 K hk.1
  obtain ⟨cf, kf, fi, fd, hi, hsl⟩ := hS f hf
  have hlay := hts _ (hin2 _ (u_in_lay hf))
  unfold u_lay at hlay
  rw [if_neg (by rw [hfin]; decide)] at hlay
  have hst := (u_facts hfc hkC (u_lays hts hin2 hf) hi).1
  have h6 := u_store (v := .int v) hfc hkC hkind hlay hi hd hn hfit
  have hk16 : K < 16 := by
    have h0 := hk.1
    unfold cOb at h0
    rw [Bool.and_eq_true] at h0
    have := of_decide_eq_true h0.1
    omega
  refine W.putK hx hb (f := fd) ⟨hown, hts _ hw, ⟨_, _, _, hi⟩, hst⟩ (by rw [q2]; exact h6) q1 q3 (by rw [hsl]; exact k2_hasslot (q4 f hf)) rfl rfl hdg fun H' e1 e2 e3 => ?_
  rw [hsl] at e1 ⊢
  exact kk _ H' _ rfl ⟨L.1.put hA hal hk16 hf hk.2.2.1 hk.2.2.2 ⟨_, e1, q2, q3, t_set q4 hap hf (.int v)⟩ e3, L.2.1.put e2 e3 (hAd _ ⟨K, i, hal, by omega, rfl⟩), L.2.2.up hv⟩
theorem c_puti (x : cX p c cc s args Ts m G Z A own H0) (L : cL G Z A H0 X g H locs) (K i f j : Nat) (hal : Z.al K i) (hj : j = 32 * K + f) (hk : (cOb K && (decide (f < cNn K) && (!(cRef K f) && !(cFin K f)))) = true) (hT : (cTn K f).2.2.2 = false ∧ parseFieldDescriptor (cTn K f).2.2.1 = some .int) {index : Nat} (hw : Cond.fieldLink own index (cTn K f).1 (cTn K f).2.1 (cTn K f).2.2.1 ∈ Ts) (hdg : decode cc pc = .ok (.putfield index, 3)) {v : Int32} (hv : rg (cLo j) (cHi X j) v)
    (kk : ∀ (g1 : mSt) (H1 : Heap) (locs1 : List Loc), g1 = up2 g j i v → cL G Z A H0 X g1 H1 locs1 → W p l e R s m args below meth c H1 locs1 cells slots Q (F0 m (pc + 3) ls rest)) : W p l e R s m args below meth c H locs cells slots Q (F0 m pc ls (.int v :: .ref (Z.ad K i) :: rest)) := by
  subst hj
  exact cp_any x L K i f hal hk hT.1 hT.2 rfl rfl hw hdg hv kk
theorem c_putz (x : cX p c cc s args Ts m G Z A own H0) (L : cL G Z A H0 X g H locs) (K i f j : Nat) (hal : Z.al K i) (hj : j = 32 * K + f) (hk : (cOb K && (decide (f < cNn K) && (!(cRef K f) && !(cFin K f)))) = true) (hT : (cTn K f).2.2.2 = false ∧ parseFieldDescriptor (cTn K f).2.2.1 = some .boolean) {index : Nat} (hw : Cond.fieldLink own index (cTn K f).1 (cTn K f).2.1 (cTn K f).2.2.1 ∈ Ts) (hdg : decode cc pc = .ok (.putfield index, 3)) {v : Int32} (hv01 : rg 0 1 v) (hv : rg (cLo j) (cHi X j) v)
    (kk : ∀ (g1 : mSt) (H1 : Heap) (locs1 : List Loc), g1 = up2 g j i v → cL G Z A H0 X g1 H1 locs1 → W p l e R s m args below meth c H1 locs1 cells slots Q (F0 m (pc + 3) ls rest)) : W p l e R s m args below meth c H locs cells slots Q (F0 m pc ls (.int v :: .ref (Z.ad K i) :: rest)) := by
  subst hj
  have h1 : 0 ≤ v.toInt ∧ v.toInt ≤ 1 := hv01
  rcases (by omega : v.toInt = 0 ∨ v.toInt = 1) with q | q
  · have : v = 0 := Int32.toInt_inj.mp q
    subst this
    exact cp_any x L K i f hal hk hT.1 hT.2 rfl rfl hw hdg hv kk
  · have : v = 1 := Int32.toInt_inj.mp q
    subst this
    exact cp_any x L K i f hal hk hT.1 hT.2 rfl rfl hw hdg hv kk
theorem cg_anyS {ref : String} (x : cX p c cc s args Ts m G Z A own H0) (hM : cH G Z g H) (K i f : Nat) (hal : Z.al K i) (hK : cOb K = true) (hf : f < cNn K) {index : Nat} {v : Value} (hv : cV Z g K i f = v) (hw : Cond.fieldLink own index ref (cTn K f).2.1 (cTn K f).2.2.1 ∈ Ts) (hsm : ∀ y, s.fieldFound? (cTn K f).1 (cTn K f).2.1 (cTn K f).2.2.1 = some y → s.fieldFound? ref (cTn K f).2.1 (cTn K f).2.2.1 = some y) (hdg : decode cc pc = .ok (.getfield index, 3))
    (kk : W p l e R s m args below meth c H locs cells slots Q (F0 m (pc + 3) ls (v :: rest))) : W p l e R s m args below meth c H locs cells slots Q (F0 m pc ls (.ref (Z.ad K i) :: rest)) := by
  obtain ⟨hx, hb, hts, hin, hown, hK1, hA, -, -, -, hAd⟩ := x
  obtain ⟨cell, q1, q2, q3, q4⟩ := hM.ob hal hK
  obtain ⟨hS, hfc, kC, hkC, hkind⟩ := hK1.1 K hK
  obtain ⟨cf, kf, fi, fd, hi, hsl⟩ := hS f hf
  refine W.getf hx hb hown (hts _ hw) (hsm _ hi) (u_facts hfc hkC (u_lays hts (fun w h => hin w (cws_in hK w h)) hf) hi).1 q1 (by rw [q3]; exact fun h => by cases h) (v := v) ?_ rfl rfl hdg kk
  rw [hsl, q4 f hf, hv]
theorem c_getiS {ref : String} (x : cX p c cc s args Ts m G Z A own H0) (L : cL G Z A H0 X g H locs) (K i f j : Nat) (hal : Z.al K i) (hj : j = 32 * K + f) (hk : (cOb K && (decide (f < cNn K) && (!(cRef K f) && !(cFin K f)))) = true) {index : Nat} (hw : Cond.fieldLink own index ref (cTn K f).2.1 (cTn K f).2.2.1 ∈ Ts) (hsm : ∀ y, s.fieldFound? (cTn K f).1 (cTn K f).2.1 (cTn K f).2.2.1 = some y → s.fieldFound? ref (cTn K f).2.1 (cTn K f).2.2.1 = some y) (hdg : decode cc pc = .ok (.getfield index, 3))
    (kk : ∀ v : Int32, v = g j i → rg (cLo j) (cHi X j) v → W p l e R s m args below meth c H locs cells slots Q (F0 m (pc + 3) ls (.int v :: rest))) : W p l e R s m args below meth c H locs cells slots Q (F0 m pc ls (.ref (Z.ad K i) :: rest)) := by
  subst hj
  rw [Bool.and_eq_true, Bool.and_eq_true, Bool.and_eq_true, Bool.not_eq_true', Bool.not_eq_true'] at hk
  exact cg_anyS x L.1 K i f hal hk.1 (of_decide_eq_true hk.2.1) (v := .int (g (32 * K + f) i)) (by unfold cV; rw [hk.2.2.1, if_neg (by decide), hk.2.2.2, if_neg (by decide)]) hw hsm hdg (kk _ rfl (L.2.2 _ i))
theorem c_getcS {ref : String} (x : cX p c cc s args Ts m G Z A own H0) (L : cL G Z A H0 X g H locs) (K i f : Nat) (hal : Z.al K i) (hk : (cOb K && (decide (f < cNn K) && (!(cRef K f) && cFin K f))) = true) {index : Nat} (hw : Cond.fieldLink own index ref (cTn K f).2.1 (cTn K f).2.2.1 ∈ Ts) (hsm : ∀ y, s.fieldFound? (cTn K f).1 (cTn K f).2.1 (cTn K f).2.2.1 = some y → s.fieldFound? ref (cTn K f).2.1 (cTn K f).2.2.1 = some y) (hdg : decode cc pc = .ok (.getfield index, 3))
    (kk : ∀ v : Int32, v = cCv Z K i → W p l e R s m args below meth c H locs cells slots Q (F0 m (pc + 3) ls (.int v :: rest))) : W p l e R s m args below meth c H locs cells slots Q (F0 m pc ls (.ref (Z.ad K i) :: rest)) := by
  rw [Bool.and_eq_true, Bool.and_eq_true, Bool.and_eq_true, Bool.not_eq_true'] at hk
  exact cg_anyS x L.1 K i f hal hk.1 (of_decide_eq_true hk.2.1) (v := .int (cCv Z K i)) (by unfold cV; rw [hk.2.2.1, if_neg (by decide), hk.2.2.2, if_pos rfl]) hw hsm hdg (kk _ rfl)
theorem c_getrS {ref : String} (x : cX p c cc s args Ts m G Z A own H0) (L : cL G Z A H0 X g H locs) (K i f : Nat) (hal : Z.al K i) (hk : (cOb K && (decide (f < cNn K) && cRef K f)) = true) {index a : Nat} (ha : cTo Z (g (32 * K + f) i) K i f = some a) (hw : Cond.fieldLink own index ref (cTn K f).2.1 (cTn K f).2.2.1 ∈ Ts) (hsm : ∀ y, s.fieldFound? (cTn K f).1 (cTn K f).2.1 (cTn K f).2.2.1 = some y → s.fieldFound? ref (cTn K f).2.1 (cTn K f).2.2.1 = some y) (hdg : decode cc pc = .ok (.getfield index, 3))
    (kk : W p l e R s m args below meth c H locs cells slots Q (F0 m (pc + 3) ls (.ref a :: rest))) : W p l e R s m args below meth c H locs cells slots Q (F0 m pc ls (.ref (Z.ad K i) :: rest)) := by
  rw [Bool.and_eq_true, Bool.and_eq_true] at hk
  exact cg_anyS x L.1 K i f hal hk.1 (of_decide_eq_true hk.2.1) (v := .ref a) (by unfold cV; rw [hk.2.2, if_pos rfl, ha]; rfl) hw hsm hdg kk
theorem cp_anyS {ref : String} (x : cX p c cc s args Ts m G Z A own H0) (L : cL G Z A H0 X g H locs) (K i f : Nat) (hal : Z.al K i) (hk : (cOb K && (decide (f < cNn K) && (!(cRef K f) && !(cFin K f)))) = true) (hfin : (cTn K f).2.2.2 = false) {ty : FieldType} (hd : parseFieldDescriptor (cTn K f).2.2.1 = some ty) {v : Int32} (hn : narrow ty (.int v) = .int v) (hfit : fits ty (.int v) = true) {index : Nat} (hw : Cond.fieldLink own index ref (cTn K f).2.1 (cTn K f).2.2.1 ∈ Ts) (hsm : ∀ y, s.fieldFound? (cTn K f).1 (cTn K f).2.1 (cTn K f).2.2.1 = some y → s.fieldFound? ref (cTn K f).2.1 (cTn K f).2.2.1 = some y) (hdg : decode cc pc = .ok (.putfield index, 3)) (hv : rg (cLo (32 * K + f)) (cHi X (32 * K + f)) v)
    (kk : ∀ (g1 : mSt) (H1 : Heap) (locs1 : List Loc), g1 = up2 g (32 * K + f) i v → cL G Z A H0 X g1 H1 locs1 → W p l e R s m args below meth c H1 locs1 cells slots Q (F0 m (pc + 3) ls rest)) : W p l e R s m args below meth c H locs cells slots Q (F0 m pc ls (.int v :: .ref (Z.ad K i) :: rest)) := by
  rw [Bool.and_eq_true, Bool.and_eq_true, Bool.and_eq_true, Bool.not_eq_true', Bool.not_eq_true'] at hk
  have hap := cap x K hk.1
  obtain ⟨hx, hb, hts, hin, hown, hK1, hA, -, -, -, hAd⟩ := x
  have hf := of_decide_eq_true hk.2.1
  have hin2 : ∀ w ∈ u_ws (cRn K) (cTn K) (cNn K), w ∈ Ts := fun w h => hin w (cws_in hk.1 w h)
  obtain ⟨cell, q1, q2, q3, q4⟩ := L.1.ob hal hk.1
  obtain ⟨hS, hfc, kC, hkC, hkind⟩ := hK1.1 K hk.1
  obtain ⟨cf, kf, fi, fd, hi, hsl⟩ := hS f hf
  have hlay := hts _ (hin2 _ (u_in_lay hf))
  unfold u_lay at hlay
  rw [if_neg (by rw [hfin]; decide)] at hlay
  have hst := (u_facts hfc hkC (u_lays hts hin2 hf) hi).1
  have h6 := u_store (v := .int v) hfc hkC hkind hlay hi hd hn hfit
  have hk16 : K < 16 := by
    have h0 := hk.1
    unfold cOb at h0
    rw [Bool.and_eq_true] at h0
    have := of_decide_eq_true h0.1
    omega
  refine W.putK hx hb (f := fd) ⟨hown, hts _ hw, ⟨_, _, _, hsm _ hi⟩, hst⟩ (by rw [q2]; exact h6) q1 q3 (by rw [hsl]; exact k2_hasslot (q4 f hf)) rfl rfl hdg fun H' e1 e2 e3 => ?_
  rw [hsl] at e1 ⊢
  exact kk _ H' _ rfl ⟨L.1.put hA hal hk16 hf hk.2.2.1 hk.2.2.2 ⟨_, e1, q2, q3, t_set q4 hap hf (.int v)⟩ e3, L.2.1.put e2 e3 (hAd _ ⟨K, i, hal, by omega, rfl⟩), L.2.2.up hv⟩
theorem c_putiS {ref : String} (x : cX p c cc s args Ts m G Z A own H0) (L : cL G Z A H0 X g H locs) (K i f j : Nat) (hal : Z.al K i) (hj : j = 32 * K + f) (hk : (cOb K && (decide (f < cNn K) && (!(cRef K f) && !(cFin K f)))) = true) (hT : (cTn K f).2.2.2 = false ∧ parseFieldDescriptor (cTn K f).2.2.1 = some .int) {index : Nat} (hw : Cond.fieldLink own index ref (cTn K f).2.1 (cTn K f).2.2.1 ∈ Ts) (hsm : ∀ y, s.fieldFound? (cTn K f).1 (cTn K f).2.1 (cTn K f).2.2.1 = some y → s.fieldFound? ref (cTn K f).2.1 (cTn K f).2.2.1 = some y) (hdg : decode cc pc = .ok (.putfield index, 3)) {v : Int32} (hv : rg (cLo j) (cHi X j) v)
    (kk : ∀ (g1 : mSt) (H1 : Heap) (locs1 : List Loc), g1 = up2 g j i v → cL G Z A H0 X g1 H1 locs1 → W p l e R s m args below meth c H1 locs1 cells slots Q (F0 m (pc + 3) ls rest)) : W p l e R s m args below meth c H locs cells slots Q (F0 m pc ls (.int v :: .ref (Z.ad K i) :: rest)) := by
  subst hj
  exact cp_anyS x L K i f hal hk hT.1 hT.2 rfl rfl hw hsm hdg hv kk
theorem c_ld (x : cX p c cc s args Ts m G Z A own H0) (L : cL G Z A H0 X g H locs) (K i0 j : Nat) (hal : Z.al K i0) (hj : j = 32 * K) (hk : (decide (16 ≤ K) && (decide (K < 48) && !(cBo K))) = true) {i : Int32} {a b : Int} (r : rg a b i) (hr : (decide (0 ≤ a) && decide (b < (cLen K : Int))) = true) (hdg : decode cc pc = .ok (.iaload, 1))
    (kk : ∀ v : Int32, v = g j (8192 * i0 + i.toNatClampNeg) → rg (cLo j) (cHi X j) v → W p l e R s m args below meth c H locs cells slots Q (F0 m (pc + 1) ls (.int v :: rest))) : W p l e R s m args below meth c H locs cells slots Q (F0 m pc ls (.int i :: .ref (Z.ad K i0) :: rest)) := by
  subst hj
  obtain ⟨hx, hb, hts, hin, hown, hK1, hA, -, -, -, hAd⟩ := x
  rw [Bool.and_eq_true, Bool.and_eq_true, Bool.not_eq_true'] at hk
  have hc := L.1.ar hal ⟨of_decide_eq_true hk.1, of_decide_eq_true hk.2.1⟩
  rw [hk.2.2] at hc
  have hin2 := rg_in r hr
  have hlt : i.toNatClampNeg < cLen K := Nat.not_le.mp fun q => hin2 (Or.inr q)
  exact W.iald (v := .int (g (32 * K) (8192 * i0 + i.toNatClampNeg))) hx hb hc (hK1.2.1.1 (cLen K) (fun q => .int (g (32 * K) (8192 * i0 + q)))) (fun q => by cases q) (by show ¬ (i < 0 ∨ (arrV _ _ _).slots.size ≤ _); rw [arrV_size]; exact hin2) (by show (arrV _ _ _).slots[_]? = _; rw [arrV_read _ _ hlt]) rfl rfl hdg (kk _ rfl (L.2.2 _ _))
theorem c_ldz (x : cX p c cc s args Ts m G Z A own H0) (L : cL G Z A H0 X g H locs) (K i0 j : Nat) (hal : Z.al K i0) (hj : j = 32 * K) (hk : (decide (16 ≤ K) && (decide (K < 48) && cBo K)) = true) {i : Int32} {a b : Int} (r : rg a b i) (hr : (decide (0 ≤ a) && decide (b < (cLen K : Int))) = true) (hdg : decode cc pc = .ok (.baload, 1))
    (kk : ∀ v : Int32, v = g j (8192 * i0 + i.toNatClampNeg) → rg (cLo j) (cHi X j) v → W p l e R s m args below meth c H locs cells slots Q (F0 m (pc + 1) ls (.int v :: rest))) : W p l e R s m args below meth c H locs cells slots Q (F0 m pc ls (.int i :: .ref (Z.ad K i0) :: rest)) := by
  subst hj
  obtain ⟨hx, hb, hts, hin, hown, hK1, hA, -, -, -, hAd⟩ := x
  rw [Bool.and_eq_true, Bool.and_eq_true] at hk
  have hc := L.1.ar hal ⟨of_decide_eq_true hk.1, of_decide_eq_true hk.2.1⟩
  rw [hk.2.2] at hc
  have hin2 := rg_in r hr
  have hlt : i.toNatClampNeg < cLen K := Nat.not_le.mp fun q => hin2 (Or.inr q)
  exact W.zald (v := .int (g (32 * K) (8192 * i0 + i.toNatClampNeg))) hx hb hc (hK1.2.1.2 (cLen K) (fun q => .int (g (32 * K) (8192 * i0 + q)))) (fun q => by cases q) (by show ¬ (i < 0 ∨ (arrV _ _ _).slots.size ≤ _); rw [arrV_size]; exact hin2) (by show (arrV _ _ _).slots[_]? = _; rw [arrV_read _ _ hlt]) rfl rfl hdg (kk _ rfl (L.2.2 _ _))
theorem c_st (x : cX p c cc s args Ts m G Z A own H0) (L : cL G Z A H0 X g H locs) (K i0 j : Nat) (hal : Z.al K i0) (hj : j = 32 * K) (hk : (decide (16 ≤ K) && (decide (K < 48) && !(cBo K))) = true) {i v : Int32} {a b : Int} (r : rg a b i) (hr : (decide (0 ≤ a) && decide (b < (cLen K : Int))) = true) (hv : rg (cLo j) (cHi X j) v) (hdg : decode cc pc = .ok (.iastore, 1))
    (kk : ∀ (g1 : mSt) (H1 : Heap) (locs1 : List Loc), g1 = up2 g j (8192 * i0 + i.toNatClampNeg) v → cL G Z A H0 X g1 H1 locs1 → W p l e R s m args below meth c H1 locs1 cells slots Q (F0 m (pc + 1) ls rest)) : W p l e R s m args below meth c H locs cells slots Q (F0 m pc ls (.int v :: .int i :: .ref (Z.ad K i0) :: rest)) := by
  subst hj
  obtain ⟨hx, hb, hts, hin, hown, hK1, hA, -, -, -, hAd⟩ := x
  rw [Bool.and_eq_true, Bool.and_eq_true, Bool.not_eq_true'] at hk
  have h16 : 16 ≤ K ∧ K < 48 := ⟨of_decide_eq_true hk.1, of_decide_eq_true hk.2.1⟩
  have hc := L.1.ar hal h16
  rw [hk.2.2] at hc
  have hin2 := rg_in r hr
  have hlt : i.toNatClampNeg < cLen K := Nat.not_le.mp fun q => hin2 (Or.inr q)
  refine W.iast hx hb hc (hK1.2.1.1 (cLen K) (fun q => .int (g (32 * K) (8192 * i0 + q)))) (fun q => by cases q) (by show ¬ (i < 0 ∨ (arrV _ _ _).slots.size ≤ _); rw [arrV_size]; exact hin2) rfl rfl hdg fun H1 e z oq => ?_
  refine kk _ H1 _ rfl ⟨L.1.st hA hal h16 hlt ?_ oq, L.2.1.put z oq (hAd _ ⟨K, i0, hal, by omega, rfl⟩), L.2.2.up hv⟩
  rw [hk.2.2, e]
  show some ((vp_cell _ _).setSlot _ _) = _
  rw [vp_cell_i, vp_cell_i, arrV_store]
  congr 2
  funext q
  by_cases hq : q = i.toNatClampNeg
  · subst hq; simp [updV, upd]
  · simp [updV, upd, hq]
theorem c_stz (x : cX p c cc s args Ts m G Z A own H0) (L : cL G Z A H0 X g H locs) (K i0 j : Nat) (hal : Z.al K i0) (hj : j = 32 * K) (hk : (decide (16 ≤ K) && (decide (K < 48) && cBo K)) = true) {i v : Int32} {a b : Int} (r : rg a b i) (hr : (decide (0 ≤ a) && decide (b < (cLen K : Int))) = true) (hv01 : rg 0 1 v) (hv : rg (cLo j) (cHi X j) v) (hdg : decode cc pc = .ok (.bastore, 1))
    (kk : ∀ (g1 : mSt) (H1 : Heap) (locs1 : List Loc), g1 = up2 g j (8192 * i0 + i.toNatClampNeg) v → cL G Z A H0 X g1 H1 locs1 → W p l e R s m args below meth c H1 locs1 cells slots Q (F0 m (pc + 1) ls rest)) : W p l e R s m args below meth c H locs cells slots Q (F0 m pc ls (.int v :: .int i :: .ref (Z.ad K i0) :: rest)) := by
  subst hj
  obtain ⟨hx, hb, hts, hin, hown, hK1, hA, -, -, -, hAd⟩ := x
  rw [Bool.and_eq_true, Bool.and_eq_true] at hk
  have h16 : 16 ≤ K ∧ K < 48 := ⟨of_decide_eq_true hk.1, of_decide_eq_true hk.2.1⟩
  have hc := L.1.ar hal h16
  rw [hk.2.2] at hc
  have hin2 := rg_in r hr
  have hlt : i.toNatClampNeg < cLen K := Nat.not_le.mp fun q => hin2 (Or.inr q)
  refine W.zast hx hb hc (hK1.2.1.2 (cLen K) (fun q => .int (g (32 * K) (8192 * i0 + q)))) (fun q => by cases q) (by show ¬ (i < 0 ∨ (arrV _ _ _).slots.size ≤ _); rw [arrV_size]; exact hin2) rfl rfl hdg fun H1 e z oq => ?_
  refine kk _ H1 _ rfl ⟨L.1.st hA hal h16 hlt ?_ oq, L.2.1.put z oq (hAd _ ⟨K, i0, hal, by omega, rfl⟩), L.2.2.up hv⟩
  rw [hk.2.2, e]
  show some ((vp_cell _ _).setSlot _ _) = _
  rw [vp_cell_i, vp_cell_i, arrV_store]
  congr 2
  funext q
  by_cases hq : q = i.toNatClampNeg
  · subst hq
    have h2 : narrow .boolean (.int v) = .int v := by
      have h3 : narrow .boolean (.int v) = .int (vp_nar .boolean v) := rfl
      rw [h3, nar01 hv01]
    simp [updV, upd, h2]
  · simp [updV, upd, hq]
theorem c_len (x : cX p c cc s args Ts m G Z A own H0) (L : cL G Z A H0 X g H locs) (K i0 : Nat) (hal : Z.al K i0) (hk : (decide (16 ≤ K) && (decide (K < 48) && !(cBo K))) = true) {n : Int32} (hn : (cLen K).toInt32 = n) (hdg : decode cc pc = .ok (.arraylength, 1))
    (kk : W p l e R s m args below meth c H locs cells slots Q (F0 m (pc + 1) ls (.int n :: rest))) : W p l e R s m args below meth c H locs cells slots Q (F0 m pc ls (.ref (Z.ad K i0) :: rest)) := by
  obtain ⟨hx, hb, hts, hin, hown, hK1, hA, -, -, -, hAd⟩ := x
  rw [Bool.and_eq_true, Bool.and_eq_true, Bool.not_eq_true'] at hk
  have hc := L.1.ar hal ⟨of_decide_eq_true hk.1, of_decide_eq_true hk.2.1⟩
  rw [hk.2.2] at hc
  exact W.alen hx hb hc (hK1.2.1.1 (cLen K) (fun q => .int (g (32 * K) (8192 * i0 + q)))) (by show (arrV _ _ _).slots.size.toInt32 = n; rw [arrV_size]; exact hn) rfl rfl hdg kk
theorem cH.rr {G : cG} {Z : cZ} {g : mSt} {H : Heap} (hM : cH G Z g H) {K i : Nat} (hal : Z.al K i) (hK : 48 ≤ K) (h55 : K ≠ 55) : H[Z.ad K i]? = some (vp_cell (G.2.2.2.2 K) (cLeR Z g K i, .inr (.inr (.inr (.inr (fun k => cTe Z (g (32 * K) (16777216 * i + k)) K i k)))))) := by
  have h := (hM K i hal).1 h55
  unfold cC at h
  rw [if_neg (by omega), if_neg (by omega)] at h
  exact h
theorem c_ldr (x : cX p c cc s args Ts m G Z A own H0) (L : cL G Z A H0 X g H locs) (K i0 : Nat) (hal : Z.al K i0) (hk : (decide (48 ≤ K) && (decide (K ≠ 53) && decide (K ≠ 55))) = true) {i : Int32} (h0 : 0 ≤ i.toInt) (h1 : i.toInt < (cLeR Z g K i0 : Int)) {a : Nat} (ha : cTe Z (g (32 * K) (16777216 * i0 + i.toNatClampNeg)) K i0 i.toNatClampNeg = some a) (hdg : decode cc pc = .ok (.aaload, 1))
    (kk : W p l e R s m args below meth c H locs cells slots Q (F0 m (pc + 1) ls (.ref a :: rest))) : W p l e R s m args below meth c H locs cells slots Q (F0 m pc ls (.int i :: .ref (Z.ad K i0) :: rest)) := by
  obtain ⟨hx, hb, hts, hin, hown, hK1, hA, -, -, -, hAd⟩ := x
  rw [Bool.and_eq_true, Bool.and_eq_true] at hk
  have hk1 := of_decide_eq_true hk.1
  have hc := L.1.rr hal hk1 (of_decide_eq_true hk.2.2)
  have e0 : ((i.toNatClampNeg : Nat) : Int) = i.toInt := by show ((i.toInt.toNat : Nat) : Int) = i.toInt; omega
  have hlt : i.toNatClampNeg < cLeR Z g K i0 := by omega
  have hin2 : ¬ (i < 0 ∨ cLeR Z g K i0 ≤ i.toNatClampNeg) := fun q => by
    rcases q with q | q
    · have := Int32.lt_iff_toInt_lt.mp q
      have z : (0 : Int32).toInt = 0 := by decide
      omega
    · omega
  exact W.aald (v := .ref a) (ty := .object (cEl K)) hx hb hc ((hK1.2.2.1 K hk1 (of_decide_eq_true hk.2.1)).1 (cLeR Z g K i0) (fun k => va_rf (cTe Z (g (32 * K) (16777216 * i0 + k)) K i0 k))) rfl (fun q => by cases q) (by show ¬ (i < 0 ∨ (arrV _ _ _).slots.size ≤ _); rw [arrV_size]; exact hin2) (by show (arrV _ _ _).slots[_]? = _; rw [arrV_read _ _ hlt]; show some (va_rf (cTe Z (g (32 * K) (16777216 * i0 + i.toNatClampNeg)) K i0 i.toNatClampNeg)) = _; rw [ha]; rfl) rfl rfl hdg kk
theorem c_lenr (x : cX p c cc s args Ts m G Z A own H0) (L : cL G Z A H0 X g H locs) (K i0 : Nat) (hal : Z.al K i0) (hk : (decide (48 ≤ K) && (decide (K ≠ 53) && decide (K ≠ 55))) = true) (hb1 : cLeR Z g K i0 ≤ 2147483647) (hdg : decode cc pc = .ok (.arraylength, 1))
    (kk : ∀ n : Int32, n.toInt = (cLeR Z g K i0 : Int) → W p l e R s m args below meth c H locs cells slots Q (F0 m (pc + 1) ls (.int n :: rest))) : W p l e R s m args below meth c H locs cells slots Q (F0 m pc ls (.ref (Z.ad K i0) :: rest)) := by
  obtain ⟨hx, hb, hts, hin, hown, hK1, hA, -, -, -, hAd⟩ := x
  rw [Bool.and_eq_true, Bool.and_eq_true] at hk
  have hk1 := of_decide_eq_true hk.1
  have hc := L.1.rr hal hk1 (of_decide_eq_true hk.2.2)
  have hn : ((cLeR Z g K i0).toInt32).toInt = (cLeR Z g K i0 : Int) := by
    show (Int32.ofNat (cLeR Z g K i0)).toInt = _
    exact Int32.toInt_ofNat_of_lt (by omega)
  exact W.alen hx hb hc ((hK1.2.2.1 K hk1 (of_decide_eq_true hk.2.1)).1 (cLeR Z g K i0) (fun k => va_rf (cTe Z (g (32 * K) (16777216 * i0 + k)) K i0 k))) (by show (arrV _ _ _).slots.size.toInt32 = _; rw [arrV_size]) rfl rfl hdg (kk _ hn)
/-- calls -/
theorem cPre.blind {av : List Value} : FrameBlind (va_Pc av (cPre G Z X g)) := by
  intro a U gg mk q
  obtain ⟨q0, q1, q2, q3, q4, q5, q6, q7⟩ := q
  exact ⟨q0, q1, q2, cK.moved (Vm.Alike.refl U.vm) q3, q4, q5, hcT.moved (Vm.Alike.refl U.vm) q6, q7.same rfl⟩
theorem c_recv (x : cX p c cc s args Ts m G Z A own H0) (L : cL G Z A H0 X g H locs) {K i : Nat} (hal : Z.al K i) (hK : cOb K = true) : ∃ cellB : Cell, H[Z.ad K i]? = some cellB ∧ cellB.vm.isStatics = false ∧ s.vm.findClass (cRn K) = some cellB.cls := by
  obtain ⟨-, -, -, -, -, hK1, -⟩ := x
  obtain ⟨cell, q1, q2, q3, q4⟩ := L.1.ob hal hK
  obtain ⟨hS, hfc, kC, hkC, hkind⟩ := hK1.1 K hK
  exact ⟨cell, q1, by rw [q3]; rfl, by rw [q2]; exact hfc⟩
theorem c_cv {y : MethodName} {bytes : ByteArray} {maxL index n nL : Nat} {ws ws' : List Cond} {rm : Room} {As stk : List Value} {Y : Int} {post : mSt → Prop} (x : cX p c cc s args Ts m G Z A own H0) (hml : c.maxLocals = nL) (L : cL G Z A H0 X g H locs) (K i : Nat) (hal : Z.al K i) (hK : cOb K = true)
    (hM : Met l y ws rm (va_Pc (.ref (Z.ad K i) :: As) (cPre G Z X g)) (cQv G Z Y post) 0 0 (cAd Z)) (hT : GoodIn Ts (wsV own index (cRn K) y ws)) (hw : ws = Cond.code y bytes maxL none :: ws') (hrm : rm.cells = 0 ∧ rm.slots = 0)
    (hd : y.cls = cRn K ∧ y.cls ≠ "java/lang/invoke/MethodHandle" ∧ y.cls ≠ "java/lang/invoke/VarHandle" ∧ (parseMethodDescriptor y.desc).map (fun d => d.parameters.length) = some n) (hR : rm.frames + 1 ≤ R.frames ∧ 8 + (maxL + 11) + rm.locals ≤ R.locals) (hn : As.length = n) (hls : ls.size = nL) (hst : stk = As.reverse ++ .ref (Z.ad K i) :: rest) (hroom : 2 * (F0 m pc ls stk).monitorRoom + (rest.map fun v => v.category).sum ≤ 8) (hdg : decode cc pc = .ok (.invokevirtual index, 3))
    (kk : ∀ (g1 : mSt) (H1 : Heap) (locs1 : List Loc), post g1 → cL G Z A H0 Y g1 H1 locs1 → W p l e R s m args below meth c H1 locs1 cells slots Q (F0 m (pc + 3) ls rest)) (hcs : cells ≤ R.cells ∧ slots ≤ R.slots := by exact ⟨Nat.zero_le _, Nat.zero_le _⟩) : W p l e R s m args below meth c H locs cells slots Q (F0 m pc ls stk) := by
  have x' := x
  obtain ⟨hx, hb, hts, hin, hown, hK1, hA, hZ, hh, hne, hAd⟩ := x'
  refine va_callv (va_runV (As := As) (rest := rest) ⟨hx, hb, hml, hown, hts⟩ hM (cwV n hts hT hw hrm.1 hrm.2 hd hR) ⟨cPre.blind, c_recv x L hal hK, fun U hU hW => ⟨rfl, by rw [hU]; exact L.1, L.2.2, hK1.moved hW.alike, hA, hZ, by rw [hU]; exact hcT.moved hW.alike ((hh.kept L.2.1).sub hAd), hne.warm hW⟩⟩ rfl hn hls hst hroom hdg hcs) L.2.1 (fun q _ h => hAd q h) (fun q h => hAd q h) (fun u t H1 locs1 ht hvm hp hB hz hk hS => ?_)
  exact kk u H1 locs1 hp ⟨by rw [← ht]; exact hB.1, hS, hB.2⟩
theorem c_ci {y : MethodName} {bytes : ByteArray} {maxL index n nL : Nat} {ret : Option FieldType} {ws ws' : List Cond} {rm : Room} {As stk : List Value} {Y : Int} {post : Int32 → mSt → Prop} (x : cX p c cc s args Ts m G Z A own H0) (hml : c.maxLocals = nL) (L : cL G Z A H0 X g H locs) (K i : Nat) (hal : Z.al K i) (hK : cOb K = true)
    (hM : Met l y ws rm (va_Pc (.ref (Z.ad K i) :: As) (cPre G Z X g)) (cQi G Z Y post) 0 0 (cAd Z)) (hT : GoodIn Ts (wsV own index (cRn K) y ws)) (hw : ws = Cond.code y bytes maxL ret :: ws') (hrm : rm.cells = 0 ∧ rm.slots = 0)
    (hd : y.cls = cRn K ∧ y.cls ≠ "java/lang/invoke/MethodHandle" ∧ y.cls ≠ "java/lang/invoke/VarHandle" ∧ (parseMethodDescriptor y.desc).map (fun d => d.parameters.length) = some n) (hR : rm.frames + 1 ≤ R.frames ∧ 8 + (maxL + 11) + rm.locals ≤ R.locals) (hn : As.length = n) (hls : ls.size = nL) (hst : stk = As.reverse ++ .ref (Z.ad K i) :: rest) (hroom : 2 * (F0 m pc ls stk).monitorRoom + (rest.map fun v => v.category).sum ≤ 8) (hdg : decode cc pc = .ok (.invokevirtual index, 3))
    (kk : ∀ (r : Int32) (g1 : mSt) (H1 : Heap) (locs1 : List Loc), post r g1 → cL G Z A H0 Y g1 H1 locs1 → W p l e R s m args below meth c H1 locs1 cells slots Q (F0 m (pc + 3) ls (.int r :: rest))) (hcs : cells ≤ R.cells ∧ slots ≤ R.slots := by exact ⟨Nat.zero_le _, Nat.zero_le _⟩) : W p l e R s m args below meth c H locs cells slots Q (F0 m pc ls stk) := by
  have x' := x
  obtain ⟨hx, hb, hts, hin, hown, hK1, hA, hZ, hh, hne, hAd⟩ := x'
  refine va_calli (va_runV (As := As) (rest := rest) ⟨hx, hb, hml, hown, hts⟩ hM (cwV n hts hT hw hrm.1 hrm.2 hd hR) ⟨cPre.blind, c_recv x L hal hK, fun U hU hW => ⟨rfl, by rw [hU]; exact L.1, L.2.2, hK1.moved hW.alike, hA, hZ, by rw [hU]; exact hcT.moved hW.alike ((hh.kept L.2.1).sub hAd), hne.warm hW⟩⟩ rfl hn hls hst hroom hdg hcs) L.2.1 (fun q _ h => hAd q h) (fun q h => hAd q h) (fun r u t H1 locs1 ht hvm hp hB hz hk hS => ?_)
  exact kk r u H1 locs1 hp ⟨by rw [← ht]; exact hB.1, hS, hB.2⟩
theorem c_sv {y : MethodName} {bytes : ByteArray} {maxL index n nL : Nat} {ws ws' : List Cond} {rm : Room} {As stk : List Value} {Y : Int} {post : mSt → Prop} (x : cX p c cc s args Ts m G Z A own H0) (hml : c.maxLocals = nL) (L : cL G Z A H0 X g H locs)
    (hM : Met l y ws rm (va_Pc As (cPre G Z X g)) (cQv G Z Y post) 0 0 (cAd Z)) (hT : GoodIn Ts (va_wsS own index y ws)) (hw : ws = Cond.code y bytes maxL none :: ws') (hrm : rm.cells = 0 ∧ rm.slots = 0)
    (hd : y.cls ≠ "java/lang/invoke/MethodHandle" ∧ y.cls ≠ "java/lang/invoke/VarHandle" ∧ (parseMethodDescriptor y.desc).map (fun d => d.parameters.length) = some n) (hR : rm.frames + 1 ≤ R.frames ∧ 8 + (maxL + 11) + rm.locals ≤ R.locals) (hn : As.length = n) (hls : ls.size = nL) (hst : stk = As.reverse ++ rest) (hroom : 2 * (F0 m pc ls stk).monitorRoom + (rest.map fun v => v.category).sum ≤ 8) (hdg : decode cc pc = .ok (.invokestatic index, 3))
    (kk : ∀ (g1 : mSt) (H1 : Heap) (locs1 : List Loc), post g1 → cL G Z A H0 Y g1 H1 locs1 → W p l e R s m args below meth c H1 locs1 cells slots Q (F0 m (pc + 3) ls rest)) (hcs : cells ≤ R.cells ∧ slots ≤ R.slots := by exact ⟨Nat.zero_le _, Nat.zero_le _⟩) : W p l e R s m args below meth c H locs cells slots Q (F0 m pc ls stk) := by
  have x' := x
  obtain ⟨hx, hb, hts, hin, hown, hK1, hA, hZ, hh, hne, hAd⟩ := x'
  refine va_callv (va_runS (As := As) (rest := rest) ⟨hx, hb, hml, hown, hts⟩ hM (va_cwS n hts hT hw hrm.1 hrm.2 hd hR) ⟨cPre.blind, fun U hU hW => ⟨rfl, by rw [hU]; exact L.1, L.2.2, hK1.moved hW.alike, hA, hZ, by rw [hU]; exact hcT.moved hW.alike ((hh.kept L.2.1).sub hAd), hne.warm hW⟩⟩ rfl hn hls hst hroom hdg hcs) L.2.1 (fun q _ h => hAd q h) (fun q h => hAd q h) (fun u t H1 locs1 ht hvm hp hB hz hk hS => ?_)
  exact kk u H1 locs1 hp ⟨by rw [← ht]; exact hB.1, hS, hB.2⟩
theorem c_si {y : MethodName} {bytes : ByteArray} {maxL index n nL : Nat} {ret : Option FieldType} {ws ws' : List Cond} {rm : Room} {As stk : List Value} {Y : Int} {post : Int32 → mSt → Prop} (x : cX p c cc s args Ts m G Z A own H0) (hml : c.maxLocals = nL) (L : cL G Z A H0 X g H locs)
    (hM : Met l y ws rm (va_Pc As (cPre G Z X g)) (cQi G Z Y post) 0 0 (cAd Z)) (hT : GoodIn Ts (va_wsS own index y ws)) (hw : ws = Cond.code y bytes maxL ret :: ws') (hrm : rm.cells = 0 ∧ rm.slots = 0)
    (hd : y.cls ≠ "java/lang/invoke/MethodHandle" ∧ y.cls ≠ "java/lang/invoke/VarHandle" ∧ (parseMethodDescriptor y.desc).map (fun d => d.parameters.length) = some n) (hR : rm.frames + 1 ≤ R.frames ∧ 8 + (maxL + 11) + rm.locals ≤ R.locals) (hn : As.length = n) (hls : ls.size = nL) (hst : stk = As.reverse ++ rest) (hroom : 2 * (F0 m pc ls stk).monitorRoom + (rest.map fun v => v.category).sum ≤ 8) (hdg : decode cc pc = .ok (.invokestatic index, 3))
    (kk : ∀ (r : Int32) (g1 : mSt) (H1 : Heap) (locs1 : List Loc), post r g1 → cL G Z A H0 Y g1 H1 locs1 → W p l e R s m args below meth c H1 locs1 cells slots Q (F0 m (pc + 3) ls (.int r :: rest))) (hcs : cells ≤ R.cells ∧ slots ≤ R.slots := by exact ⟨Nat.zero_le _, Nat.zero_le _⟩) : W p l e R s m args below meth c H locs cells slots Q (F0 m pc ls stk) := by
  have x' := x
  obtain ⟨hx, hb, hts, hin, hown, hK1, hA, hZ, hh, hne, hAd⟩ := x'
  refine va_calli (va_runS (As := As) (rest := rest) ⟨hx, hb, hml, hown, hts⟩ hM (va_cwS n hts hT hw hrm.1 hrm.2 hd hR) ⟨cPre.blind, fun U hU hW => ⟨rfl, by rw [hU]; exact L.1, L.2.2, hK1.moved hW.alike, hA, hZ, by rw [hU]; exact hcT.moved hW.alike ((hh.kept L.2.1).sub hAd), hne.warm hW⟩⟩ rfl hn hls hst hroom hdg hcs) L.2.1 (fun q _ h => hAd q h) (fun q h => hAd q h) (fun r u t H1 locs1 ht hvm hp hB hz hk hS => ?_)
  exact kk r u H1 locs1 hp ⟨by rw [← ht]; exact hB.1, hS, hB.2⟩
theorem c_svN {y : MethodName} {bytes : ByteArray} {maxL index n nL : Nat} {ws ws' : List Cond} {rm : Room} {As stk : List Value} {Y : Int} {post : mSt → Prop} (x : cX p c cc s args Ts m G Z A own H0) (hml : c.maxLocals = nL) (L : cL G Z A H0 X g H locs)
    (hM : Met l y ws rm (va_Pc As (cPre G Z X g)) (cQv G Z Y post) 0 0 (cAd Z)) (hG : GoodIn Ts ws) (hq : (own, index, y) ∈ cNl) (hst0 : Cond.static y ∈ Ts) (hin0 : Cond.initialized y.cls ∈ Ts) (hw : ws = Cond.code y bytes maxL none :: ws') (hrm : rm.cells = 0 ∧ rm.slots = 0)
    (hd : y.cls ≠ "java/lang/invoke/MethodHandle" ∧ y.cls ≠ "java/lang/invoke/VarHandle" ∧ (parseMethodDescriptor y.desc).map (fun d => d.parameters.length) = some n) (hR : rm.frames + 1 ≤ R.frames ∧ 8 + (maxL + 11) + rm.locals ≤ R.locals) (hn : As.length = n) (hls : ls.size = nL) (hst : stk = As.reverse ++ rest) (hroom : 2 * (F0 m pc ls stk).monitorRoom + (rest.map fun v => v.category).sum ≤ 8) (hdg : decode cc pc = .ok (.invokestatic index, 3))
    (kk : ∀ (g1 : mSt) (H1 : Heap) (locs1 : List Loc), post g1 → cL G Z A H0 Y g1 H1 locs1 → W p l e R s m args below meth c H1 locs1 cells slots Q (F0 m (pc + 3) ls rest)) (hcs : cells ≤ R.cells ∧ slots ≤ R.slots := by exact ⟨Nat.zero_le _, Nat.zero_le _⟩) : W p l e R s m args below meth c H locs cells slots Q (F0 m pc ls stk) := by
  have x' := x
  obtain ⟨hx, hb, hts, hin, hown, hK1, hA, hZ, hh, hne, hAd⟩ := x'
  refine va_callv (va_runSN (As := As) (rest := rest) ⟨hx, hb, hml, hown, hts⟩ hM ⟨va_cnB n hts hG hw hrm.1 hrm.2 (hne.1 _ hq) (hts _ hin0) hd hR, hts _ hst0, trivial⟩ ⟨cPre.blind, fun U hU hW => ⟨rfl, by rw [hU]; exact L.1, L.2.2, hK1.moved hW.alike, hA, hZ, by rw [hU]; exact hcT.moved hW.alike ((hh.kept L.2.1).sub hAd), hne.warm hW⟩⟩ rfl hn hls hst hroom hdg hcs) L.2.1 (fun q _ h => hAd q h) (fun q h => hAd q h) (fun u t H1 locs1 ht hvm hp hB hz hk hS => ?_)
  exact kk u H1 locs1 hp ⟨by rw [← ht]; exact hB.1, hS, hB.2⟩
theorem c_siN {y : MethodName} {bytes : ByteArray} {maxL index n nL : Nat} {ret : Option FieldType} {ws ws' : List Cond} {rm : Room} {As stk : List Value} {Y : Int} {post : Int32 → mSt → Prop} (x : cX p c cc s args Ts m G Z A own H0) (hml : c.maxLocals = nL) (L : cL G Z A H0 X g H locs)
    (hM : Met l y ws rm (va_Pc As (cPre G Z X g)) (cQi G Z Y post) 0 0 (cAd Z)) (hG : GoodIn Ts ws) (hq : (own, index, y) ∈ cNl) (hst0 : Cond.static y ∈ Ts) (hin0 : Cond.initialized y.cls ∈ Ts) (hw : ws = Cond.code y bytes maxL ret :: ws') (hrm : rm.cells = 0 ∧ rm.slots = 0)
    (hd : y.cls ≠ "java/lang/invoke/MethodHandle" ∧ y.cls ≠ "java/lang/invoke/VarHandle" ∧ (parseMethodDescriptor y.desc).map (fun d => d.parameters.length) = some n) (hR : rm.frames + 1 ≤ R.frames ∧ 8 + (maxL + 11) + rm.locals ≤ R.locals) (hn : As.length = n) (hls : ls.size = nL) (hst : stk = As.reverse ++ rest) (hroom : 2 * (F0 m pc ls stk).monitorRoom + (rest.map fun v => v.category).sum ≤ 8) (hdg : decode cc pc = .ok (.invokestatic index, 3))
    (kk : ∀ (r : Int32) (g1 : mSt) (H1 : Heap) (locs1 : List Loc), post r g1 → cL G Z A H0 Y g1 H1 locs1 → W p l e R s m args below meth c H1 locs1 cells slots Q (F0 m (pc + 3) ls (.int r :: rest))) (hcs : cells ≤ R.cells ∧ slots ≤ R.slots := by exact ⟨Nat.zero_le _, Nat.zero_le _⟩) : W p l e R s m args below meth c H locs cells slots Q (F0 m pc ls stk) := by
  have x' := x
  obtain ⟨hx, hb, hts, hin, hown, hK1, hA, hZ, hh, hne, hAd⟩ := x'
  refine va_calli (va_runSN (As := As) (rest := rest) ⟨hx, hb, hml, hown, hts⟩ hM ⟨va_cnB n hts hG hw hrm.1 hrm.2 (hne.1 _ hq) (hts _ hin0) hd hR, hts _ hst0, trivial⟩ ⟨cPre.blind, fun U hU hW => ⟨rfl, by rw [hU]; exact L.1, L.2.2, hK1.moved hW.alike, hA, hZ, by rw [hU]; exact hcT.moved hW.alike ((hh.kept L.2.1).sub hAd), hne.warm hW⟩⟩ rfl hn hls hst hroom hdg hcs) L.2.1 (fun q _ h => hAd q h) (fun q h => hAd q h) (fun r u t H1 locs1 ht hvm hp hB hz hk hS => ?_)
  exact kk r u H1 locs1 hp ⟨by rw [← ht]; exact hB.1, hS, hB.2⟩
theorem c_vret {Y : Int} {post : mSt → Prop} (x : cX p c cc s args Ts m G Z (cAd Z) own s.heap) (L : cL G Z (cAd Z) s.heap X g H locs) (hr : meth.sig.returnType = none) (hlocks : meth.locks = false) (hXY : X ≤ Y) (hp : post g) (hdg : decode cc pc = .ok (.return_, 1)) : W p l e R s m args below meth c H locs 0 0 (MQ below (cQv G Z Y post) args s 0 0 (cAd Z)) (F0 m pc ls []) := by
  obtain ⟨hx, hb, -⟩ := x
  exact W.vret hx hb hr (fun t ht _ => ⟨⟨g, rfl, hp, by rw [← ht] at L; exact ⟨L.1, L.2.2.mono hXY⟩⟩, L.2.1.F ht⟩) L.2.1.2.2 hdg
theorem c_iret {Y : Int} {v : Int32} {post : Int32 → mSt → Prop} (x : cX p c cc s args Ts m G Z (cAd Z) own s.heap) (L : cL G Z (cAd Z) s.heap X g H locs) (hr : meth.sig.returnType = some .int) (hlocks : meth.locks = false) (hXY : X ≤ Y) (hp : post v g) (hdg : decode cc pc = .ok (.ireturn, 1)) : W p l e R s m args below meth c H locs 0 0 (MQ below (cQi G Z Y post) args s 0 0 (cAd Z)) (F0 m pc ls [.int v]) := by
  obtain ⟨hx, hb, -⟩ := x
  exact W.iret hx hb hr (fun t ht _ => ⟨⟨v, g, rfl, hp, by rw [← ht] at L; exact ⟨L.1, L.2.2.mono hXY⟩⟩, L.2.1.F ht⟩) L.2.1.2.2 hdg
theorem c_start {nL : Nat} {y : MethodName} {ws : List Cond} {rm : Room} {ret : Option FieldType} {s₁ : State} (B : BodyLoose p l y (headSpec ws rm) cc nL ret e s m args below meth c s₁) (hy : y.cls = own) (hin : ∀ w ∈ wsUC, w ∈ ws) (hv : cPre G Z X g s) : cX p c cc s args ws m G Z (cAd Z) own s.heap ∧ cL G Z (cAd Z) s.heap X g s.heap [] :=
  ⟨⟨B.exec, B.bytes, atoms_spec (ws := ws) B.pre, hin, by rw [← hy]; exact findClass_of_methodNamed B.named, hv.2.2.1, hv.2.2.2.1, hv.2.2.2.2.1, hv.2.2.2.2.2.1, hv.2.2.2.2.2.2, fun _ h => h⟩, hv.1, va_S.rf, hv.2.1⟩
end CRows
theorem wk_V {c d : Cond} {own C : String} {index : Nat} {y : MethodName} (h : d ∈ wsUC) (h1 : Cond.methodLink own index y ∈ wsUC) (h2 : Cond.instanceMethod y ∈ wsUC) (h3 : Cond.selects C y y ∈ wsUC) (h4 : Cond.initialized C ∈ wsUC) : GoodIn (wk c) (wsV own index C y (wk d)) := by
  refine goodIn_app (fun w hw => ?_) (wk_good h)
  have hw2 : w ∈ wsUC := by
    simp only [List.mem_cons, List.not_mem_nil, or_false] at hw
    rcases hw with e | e | e | e <;> rw [e] <;> assumption
  exact ⟨wk_in hw2, good_of_word (wsUC_good w hw2)⟩
theorem wk_T {c : Cond} {own : String} {index : Nat} {y : MethodName} {ws : List Cond} (h1 : Cond.static y ∈ wsUC) (h2 : Cond.methodLink own index y ∈ wsUC) (h3 : Cond.initialized y.cls ∈ wsUC) (hd : ∀ w ∈ ws, w ∈ wsUC) : GoodIn (wk c) (va_wsS own index y ws) := by
  intro w hw
  have hw2 : w ∈ wsUC := by
    simp only [va_wsS, List.mem_append, List.mem_cons, List.not_mem_nil, or_false] at hw
    rcases hw with (e | e | e) | e
    · rw [e]; assumption
    · rw [e]; assumption
    · rw [e]; assumption
    · exact hd w e
  exact ⟨wk_in hw2, good_of_word (wsUC_good w hw2)⟩
theorem wk_all {d : Cond} (h : d ∈ wsUC) : ∀ w ∈ wk d, w ∈ wsUC := by
  intro w hw
  rcases List.mem_cons.mp hw with e | e
  · rw [e]; exact h
  · exact e

