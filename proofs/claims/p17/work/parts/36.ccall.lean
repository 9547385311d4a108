/-! calls of methods that make things: what came is reckoned by what the callee says -/
def kE (mc ms : Nat) (free : Addr → Prop) (Qk : State → Outcome → State → Nat → Nat → Prop) : Array Value → State → Outcome → State → Prop := fun _ st o t => ∃ k n, (k ≤ mc ∧ n ≤ ms) ∧ Qk st o t k n ∧ ∃ L, FrameEnd st o t L k n ∧ ∀ q ∈ L, free q.base
def kPost (mc ms : Nat) (Qk : State → Outcome → State → Nat → Nat → Prop) (free : Addr → Prop) : Pt → Array Value → Option Value → Pt → Prop := fun A a v B =>
  ∃ (g : JFrame) (mk : MethodId) (t : State) (L : List Loc) (k n : Nat), (k ≤ mc ∧ n ≤ ms) ∧ B.U.heap = t.heap ∧ B.U.vm = t.vm ∧ Qk (A.U.calling g mk a) (.returned v) t k n ∧ B.locs = A.locs ++ L ∧ (∀ q ∈ L, free q.base) ∧ B.cells = A.cells + k ∧ B.slots = A.slots + n
section KBack
variable {l : Launch} {R : Room} {p : Program} {e : Env} {below : List Frame} {s : State} {sargs : Array Value} {y : MethodName} {len W0 : Nat}
theorem k_back {ws : List Cond} {rm : Room} {Pc : Array Value → State → Prop} {Qk : State → Outcome → State → Nat → Nat → Prop} {mc ms : Nat} {free : Addr → Prop} {bytes : ByteArray} {maxL : Nat} {ret : Option FieldType}
    (hM : Met l y ws rm Pc (kE mc ms free Qk) mc ms free) (hblind : FrameBlind Pc) (hrc : rm.cells = mc) (hrs : rm.slots = ms) (hframes : rm.frames + 1 ≤ R.frames) (hlocals : W0 + (maxL + 11) + rm.locals ≤ R.locals)
    (hws : ∀ w ∈ ws, ∀ a' U, s.WarmedH U.vm → w.before a' U = true) (hcode : Cond.code y bytes maxL ret ∈ ws) (hinit : ∀ a' U, s.WarmedH U.vm → (Cond.initialized y.cls).before a' U = true) :
    Back l R p e below s sargs y len W0 (PreOf R mc ms Pc) (kPost mc ms Qk free) := by
  refine Back.of_free (S := headSpec ws rm) (P := Pc) (K := fun _ _ _ _ _ => True) (Q := fun a st o t => kE mc ms free Qk a st o t ∧ ∃ L, FrameEnd st o t L mc ms ∧ ∀ q ∈ L, free q.base) (bytes := bytes) (maxL := maxL) (ret := ret)
    (E := fun _ st o t L k n => (k ≤ mc ∧ n ≤ ms) ∧ Qk st o t k n ∧ ∀ q ∈ L, free q.base) hM hframes hlocals ?_ ?_ (fun _ _ _ _ _ _ _ _ _ => trivial) ?_ ?_
  · intro m meth c A a X hp
    exact ⟨atoms_intro fun w hw => hws w hw _ _ X.warmed, hws _ hcode _ _ X.warmed, hinit _ _ X.warmed, by rw [show (headSpec ws rm).room.cells = mc from hrc]; exact hp.1, by rw [show (headSpec ws rm).room.slots = ms from hrs]; exact hp.2.1⟩
  · intro m meth c A a g mk X hp
    exact hblind _ _ _ _ hp.2.2
  · intro a st o t ⟨⟨k, n, hkn, hq, L, hF, hL⟩, _⟩
    exact ⟨L, k, n, hF, hkn, hq, hL⟩
  · intro m meth c A a g mk v t L k n X hp hq hF ⟨hkn, e1, hL⟩
    exact ⟨g, mk, t, L, k, n, hkn, rfl, rfl, e1, rfl, hL, rfl, rfl⟩
end KBack
section KRun
variable {p : Program} {l : Launch} {e : Env} {R : Room} {s : State} {m : MethodId} {args : Array Value} {below : List Frame} {meth : Method} {c : Code} {H : Heap} {locs : List Loc} {cells slots : Nat} {Q : State → Prop}
def kRun (p : Program) (l : Launch) (e : Env) (R : Room) (s : State) (m : MethodId) (args : Array Value) (below : List Frame) (meth : Method) (c : Code) (H : Heap) (locs : List Loc) (cells slots mc ms : Nat) (g : JFrame) (rest : List Value) (Qa : State → Outcome → State → Nat → Nat → Prop) (free : Addr → Prop) : Prop :=
  ∀ T : State, T.heap = H → Stand p l e R s m args below meth c T locs cells slots → ∃ (v : Option Value) (st₀ t T' : State) (L : List Loc) (k n : Nat), (k ≤ mc ∧ n ≤ ms) ∧ st₀.heap = H ∧ Stand p l e R s m args below meth c T' (locs ++ L) (cells + k) (slots + n) ∧ (∀ q ∈ L, free q.base) ∧ T'.heap = t.heap ∧ T'.vm = t.vm ∧ Qa st₀ (.returned v) t k n ∧
    Goes p e below T g T' { g with pc := g.pc + 3, stack := v.toList ++ rest }
variable {y : MethodName} {bytes cc : ByteArray} {maxL nL mc ms n index : Nat} {ret : Option FieldType} {ws : List Cond} {rm : Room} {Pc : Array Value → State → Prop} {Qk : State → Outcome → State → Nat → Nat → Prop} {free : Addr → Prop} {Ts : List Cond} {own C : String} {b : Addr} {As rest : List Value} {g : JFrame}
theorem k_runV (S : CallFix p m c cc nL s args Ts own) (hM : Met l y ws rm Pc (kE mc ms free Qk) mc ms free) (cw : CallW R s args own C index y bytes maxL ret ws rm mc ms n) (hp : PreV s H C b Pc As)
    (hg : g.method = m) (hn : As.length = n) (hsize : g.locals.size = nL) (hstack : g.stack = As.reverse ++ .ref b :: rest) (hW : 2 * g.monitorRoom + (rest.map fun v => v.category).sum ≤ 8) (hdg : decode cc g.pc = .ok (.invokevirtual index, 3)) (hf : cells + mc ≤ R.cells ∧ slots + ms ≤ R.slots) :
    kRun p l e R s m args below meth c H locs cells slots mc ms g rest Qk free := by
  obtain ⟨⟨hrc, hrs, hfr, hlo, hws, hcw, hcode, hini, hy, hlen, hl⟩, hin, hse⟩ := cw
  have hK : Back l R p e below s args y 3 8 (PreOf R mc ms Pc) (kPost mc ms Qk free) := k_back (bytes := bytes) (maxL := maxL) (ret := ret) hM hp.1 hrc hrs hfr hlo hws hcw (fun a' U hW => word_at hW (Or.inl (by first | rfl | simp [Cond.onTables, Cond.keeps, Cond.steady])) hini)
  obtain ⟨hx, hb, hml, ho, -⟩ := S
  obtain ⟨-, ⟨cellB, hcB, hoB, hclB⟩, hPc⟩ := hp
  intro T hT X
  obtain ⟨v, vm₁, ⟨U', l2, c2, s2⟩, hW₁, X', ⟨g', mk, t, L, k, n', hkn, e1, e2, hq, h1, hL, h2, h3⟩, st⟩ := callV X hx (C := C) (bytes := bytes) (maxL := maxL) (ret := ret) ho hl hin hse hcode hy hK (by rw [hT]; exact hcB) hoB hclB hg (hsize.trans hml.symm) (argsL := As) (rest := rest) (fun sig h => hn.trans (hlen sig h)) hstack hW (by rw [hb]; exact hdg)
    (fun vm₁ hW₁ => ⟨hf.1, hf.2, hPc (T.setVm vm₁) hT hW₁⟩)
  dsimp only [Pt.U, Pt.locs, Pt.cells, Pt.slots] at X' e1 e2 h1 h2 h3 st
  subst h1; subst h2; subst h3
  exact ⟨v, (T.setVm vm₁).calling g' mk (Value.ref b :: As).toArray, t, U', L, k, n', hkn, hT, X', hL, e1, e2, hq, st⟩
theorem k_runU {x : MethodName} {owner : String} (S : CallFix p m c cc nL s args Ts own) (hM : Met l y ws rm Pc (kE mc ms free Qk) mc ms free) (cw : va_CU R s args own C owner index x y bytes maxL ret ws rm mc ms n) (hp : PreV s H C b Pc As)
    (hg : g.method = m) (hn : As.length = n) (hsize : g.locals.size = nL) (hstack : g.stack = As.reverse ++ .ref b :: rest) (hW : 2 * g.monitorRoom + (rest.map fun v => v.category).sum ≤ 8) (hdg : decode cc g.pc = .ok (.invokevirtual index, 3)) (hf : cells + mc ≤ R.cells ∧ slots + ms ≤ R.slots) :
    kRun p l e R s m args below meth c H locs cells slots mc ms g rest Qk free := by
  obtain ⟨hrc, hrs, hfr, hlo, hws, hcw⟩ := cw.back
  have hini := cw.init
  have hK : Back l R p e below s args y 3 8 (PreOf R mc ms Pc) (kPost mc ms Qk free) := k_back (bytes := bytes) (maxL := maxL) (ret := ret) hM hp.1 hrc hrs hfr hlo hws hcw (fun a' U hW => word_at hW (Or.inl (by first | rfl | simp [Cond.onTables, Cond.keeps, Cond.steady])) hini)
  obtain ⟨hx, hb, hml, ho, -⟩ := S
  obtain ⟨-, ⟨cellB, hcB, hoB, hclB⟩, hPc⟩ := hp
  intro T hT X
  obtain ⟨v, vm₁, ⟨U', l2, c2, s2⟩, hW₁, X', ⟨g', mk, t, L, k, n', hkn, e1, e2, hq, h1, hL, h2, h3⟩, st⟩ := va_callVU X hx (C := C) (owner := owner) (bytes := bytes) (maxL := maxL) (ret := ret) ho cw.link cw.same cw.decl cw.notMH cw.sel cw.inst cw.code hK (by rw [hT]; exact hcB) hoB hclB hg (hsize.trans hml.symm) (argsL := As) (rest := rest) (fun sig h => hn.trans (cw.len sig h)) hstack hW (by rw [hb]; exact hdg)
    (fun vm₁ hW₁ => ⟨hf.1, hf.2, hPc (T.setVm vm₁) hT hW₁⟩)
  dsimp only [Pt.U, Pt.locs, Pt.cells, Pt.slots] at X' e1 e2 h1 h2 h3 st
  subst h1; subst h2; subst h3
  exact ⟨v, (T.setVm vm₁).calling g' mk (Value.ref b :: As).toArray, t, U', L, k, n', hkn, hT, X', hL, e1, e2, hq, st⟩
theorem k_runS (S : CallFix p m c cc nL s args Ts own) (hM : Met l y ws rm Pc (kE mc ms free Qk) mc ms free) (cw : CallB R s args own index y bytes maxL ret ws rm mc ms n ∧ (Cond.static y).before args s = true) (hp : PreS s H Pc As)
    (hg : g.method = m) (hn : As.length = n) (hsize : g.locals.size = nL) (hstack : g.stack = As.reverse ++ rest) (hW : 2 * g.monitorRoom + (rest.map fun v => v.category).sum ≤ 8) (hdg : decode cc g.pc = .ok (.invokestatic index, 3)) (hf : cells + mc ≤ R.cells ∧ slots + ms ≤ R.slots) :
    kRun p l e R s m args below meth c H locs cells slots mc ms g rest Qk free := by
  obtain ⟨⟨hrc, hrs, hfr, hlo, hws, hcw, hcode, hini, hy, hlen, hl⟩, hstt⟩ := cw
  have hK : Back l R p e below s args y 3 8 (PreOf R mc ms Pc) (kPost mc ms Qk free) := k_back (bytes := bytes) (maxL := maxL) (ret := ret) hM hp.1 hrc hrs hfr hlo hws hcw (fun a' U hW => word_at hW (Or.inl (by first | rfl | simp [Cond.onTables, Cond.keeps, Cond.steady])) hini)
  obtain ⟨hx, hb, hml, ho, -⟩ := S
  intro T hT X
  obtain ⟨v, vm₁, ⟨U', l2, c2, s2⟩, hW₁, X', ⟨g', mk, t, L, k, n', hkn, e1, e2, hq, h1, hL, h2, h3⟩, st⟩ := callS X hx (bytes := bytes) (maxL := maxL) (ret := ret) ho hl hstt hini hcode hy hK hg (hsize.trans hml.symm) (argsL := As) (rest := rest) (fun sig h => hn.trans (hlen sig h)) hstack hW (by rw [hb]; exact hdg)
    (fun vm₁ hW₁ => ⟨hf.1, hf.2, hp.2 (T.setVm vm₁) hT hW₁⟩)
  dsimp only [Pt.U, Pt.locs, Pt.cells, Pt.slots] at X' e1 e2 h1 h2 h3 st
  subst h1; subst h2; subst h3
  exact ⟨v, (T.setVm vm₁).calling g' mk As.toArray, t, U', L, k, n', hkn, hT, X', hL, e1, e2, hq, st⟩
/-- the end of such a method -/
theorem k_end {Qk : State → Outcome → State → Nat → Nat → Prop} {gf : JFrame} (h : W p l e R s m args below meth c H locs cells slots (MQ below (fun _ st o t => Qk st o t cells slots) args s cells slots free) gf) (h1 : cells ≤ mc) (h2 : slots ≤ ms) : W p l e R s m args below meth c H locs cells slots (MQ below (kE mc ms free Qk) args s mc ms free) gf := by
  intro T hT X
  obtain ⟨t, a, o, b1, b2, b3, L, ⟨f1, f2, f3⟩, hL⟩ := h T hT X
  exact ⟨t, a, o, b1, b2, ⟨_, _, ⟨h1, h2⟩, b3, L, ⟨f1, f2, f3⟩, hL⟩, L, ⟨f1, f2, f3.mono h1 h2⟩, hL⟩
end KRun
/-- which cells such a method may change: the world's, and those that it makes -/
def cAf (Z : cZ) (sz : Nat) : Nat → Prop := fun q => cAd Z q ∨ sz ≤ q
/-- the world has grown by k cells of n slots -/
def cZl (Z Z1 : cZ) (k n : Nat) : Prop := Z1.n = Z.n ∧ (∀ K i, Z.al K i → Z1.al K i) ∧ (∀ K i, Z.al K i → (K ≠ 54 ∧ K ≠ 53 ∧ K ≠ 38 ∧ K ≠ 37 ∧ (K = 0 ∨ K = 16 → i < 8)) → Z1.ad K i = Z.ad K i) ∧ Z1.w 0 = Z.w 0 + k ∧ Z1.w 1 = Z.w 1 + n
theorem cZl.rf {Z : cZ} : cZl Z Z 0 0 := ⟨rfl, fun _ _ h => h, fun _ _ _ _ => rfl, rfl, rfl⟩
theorem cZl.tr {Z Z1 Z2 : cZ} {k n k1 n1 : Nat} (h : cZl Z Z1 k n) (h1 : cZl Z1 Z2 k1 n1) : cZl Z Z2 (k + k1) (n + n1) :=
  ⟨h1.1.trans h.1, fun K i q => h1.2.1 K i (h.2.1 K i q), fun K i q hk => (h1.2.2.1 K i (h.2.1 K i q) hk).trans (h.2.2.1 K i q hk), by rw [h1.2.2.2.1, h.2.2.2.1, Nat.add_assoc], by rw [h1.2.2.2.2, h.2.2.2.2, Nat.add_assoc]⟩
/-- tables that making arrays asks -/
def kOv : List String := [RX1, RX3, RX4, "CellSwitch$Side", RX10, "java/lang/Object"]
def kCa : List (String × String) := [(RX1, "java/lang/Object"), (RX4, "CellSwitch$Side"), (RX10, "CellSwitch$Side")]
def kTb (G : cG) (U : State) : Prop := (va_RA U G.2.2.1 .int ∧ va_RA U G.2.2.2.1 .boolean ∧ va_RA U (G.2.2.2.2 53) (.array .int) ∧ (Cond.arrayOver (.array .int)).before #[] U = true) ∧ (∀ C ∈ kOv, va_AO C U) ∧ va_Dc U ∧ (∃ mi, va_Mi "[Ljava/lang/Object;" mi U) ∧ ∀ q ∈ kCa, va_Nw (.castable q.1 q.2) U
theorem va_Nw.alikeC {C T : String} {s U : State} (hW : s.vm.Alike U.vm) (hZ : va_Nw (.castable C T) s) : va_Nw (.castable C T) U := va_tabs rfl (rfl : (s.setVm U.vm).vm = U.vm) (by rw [Cond.castable_setVm hW]; exact hZ)
theorem kTb.moved {G : cG} {u U : State} (hvm : u.vm.Alike U.vm) (h : kTb G u) : kTb G U := by
  obtain ⟨h0, h1, h2, ⟨mi, h3⟩, h4⟩ := h
  exact ⟨⟨h0.1.moved hvm, h0.2.1.moved hvm, h0.2.2.1.moved hvm, Jvm.Stand.arrayOver_alikeB hvm h0.2.2.2⟩, fun C hC => (h1 C hC).moved hvm, h2.moved hvm, ⟨mi, h3.moved hvm⟩, fun q hq => (h4 q hq).alikeC hvm⟩
/-- the JDK's empty array of a list that has none of its own -/
def hcE (G : cG) (Z : cZ) (A : Nat → Prop) (U : State) (H : Heap) : Prop := kTb G U ∧ va_Z RJx4a65c "DEFAULTCAPACITY_EMPTY_ELEMENTDATA" "[Ljava/lang/Object;" (.ref (Z.ad 55 0)) A U H
theorem va_Z.wide {C n d : String} {v : Value} {A : Nat → Prop} {U : State} {H : Heap} (h : va_Z C n d v A U H) : va_Z C n d v (fun q => A q ∨ H.size ≤ q) U H := by
  obtain ⟨cf, kf, fi, f, a, cell, h1, h2, h3, h4, h5, h6, h7, h8⟩ := h
  have hl := (Array.getElem?_eq_some_iff.mp h5).1
  exact ⟨cf, kf, fi, f, a, cell, h1, h2, h3, h4, h5, h6, h7, fun z => z.elim h8 (fun z => by omega)⟩
theorem va_T.wide {ty : FieldType} {b N : Nat} {f : Nat → Value} {A : Nat → Prop} {U : State} {H : Heap} (h : va_T ty b N f A U H) : va_T ty b N f (fun q => A q ∨ H.size ≤ q) U H := by
  obtain ⟨cell, h1, h2, h3, h4, h5, h6, h7⟩ := h
  have hl := (Array.getElem?_eq_some_iff.mp h1).1
  exact ⟨cell, h1, h2, h3, h4, h5, h6, fun z => z.elim h7 (fun z => by omega)⟩
theorem hcT.wide {A : Nat → Prop} {U : State} {H : Heap} (h : hcT A U H) : hcT (fun q => A q ∨ H.size ≤ q) U H := by
  obtain ⟨⟨t, h1, h2⟩, t2, h3, h4⟩ := h
  exact ⟨⟨t, h1.wide, h2.wide⟩, t2, h3.wide, h4.wide⟩
theorem va_Z_one {C n d : String} {v w : Value} {A : Nat → Prop} {U : State} {H : Heap} (h : va_Z C n d v A U H) (k : va_Z C n d w A U H) : v = w := by
  obtain ⟨cf, kf, fi, f, a, cell, h1, h2, h3, h4, h5, h6, h7, h8⟩ := h
  obtain ⟨cf', kf', fi', f', a', cell', k1, k2, k3, k4, k5, k6, k7, k8⟩ := k
  have e := Option.some.inj (h1.symm.trans k1)
  injection e with e1 e
  injection e with e2 e
  injection e with e3 e4
  subst e1 e2 e3 e4
  have ea := Option.some.inj (h4.symm.trans k4)
  subst ea
  have ec := Option.some.inj (h5.symm.trans k5)
  subst ec
  exact Option.some.inj (h7.symm.trans k7)
def cPreA (G : cG) (Z : cZ) (X : Int) (g : mSt) (sz : Nat) (U : State) : Prop := cPre G Z X g U ∧ U.heap.size = sz ∧ hcE G Z (cAd Z) U U.heap
theorem cPreA.blind {G : cG} {Z : cZ} {X : Int} {g : mSt} {sz : Nat} {av : List Value} : FrameBlind (va_Pc av (cPreA G Z X g sz)) := by
  intro a U gg mk q
  obtain ⟨q0, q1, q2, q3⟩ := q
  have h1 := cPre.blind (av := av) a U gg mk ⟨q0, q1⟩
  exact ⟨q0, h1.2, q2, q3.1.moved (Vm.Alike.refl U.vm), va_Z.moved (Vm.Alike.refl U.vm) q3.2⟩
def cPoA (G : cG) (Z Z1 : cZ) (Y : Int) (g1 : mSt) (st t : State) : Prop := cH G Z1 g1 t.heap ∧ cI Y g1 ∧ cAp Z1 ∧ cSt Z1 ∧ ∀ q, cAd Z1 q → cAf Z st.heap.size q
def cQvA (G : cG) (Z : cZ) (Y : Int) (post : cZ → mSt → Prop) : State → Outcome → State → Nat → Nat → Prop := fun st oc t k n => (∃ (Z1 : cZ) (g1 : mSt), oc = .returned none ∧ post Z1 g1 ∧ cZl Z Z1 k n ∧ cPoA G Z Z1 Y g1 st t) ∧ va_F (cAf Z st.heap.size) st t
def cQiA (G : cG) (Z : cZ) (Y : Int) (post : Int32 → cZ → mSt → Prop) : State → Outcome → State → Nat → Nat → Prop := fun st oc t k n => (∃ (r : Int32) (Z1 : cZ) (g1 : mSt), oc = .returned (some (.int r)) ∧ post r Z1 g1 ∧ cZl Z Z1 k n ∧ cPoA G Z Z1 Y g1 st t) ∧ va_F (cAf Z st.heap.size) st t
/-- an answer that is a cell of the new world -/
def cQrA (G : cG) (Z : cZ) (Y : Int) (post : Nat → cZ → mSt → Prop) : State → Outcome → State → Nat → Nat → Prop := fun st oc t k n => (∃ (a : Nat) (Z1 : cZ) (g1 : mSt), oc = .returned (some (.ref a)) ∧ post a Z1 g1 ∧ cZl Z Z1 k n ∧ cPoA G Z Z1 Y g1 st t) ∧ va_F (cAf Z st.heap.size) st t
section KCalls
variable {p : Program} {l : Launch} {e : Env} {R : Room} {s : State} {m : MethodId} {args : Array Value} {below : List Frame} {meth : Method} {c : Code} {H : Heap} {locs : List Loc} {cells slots : Nat} {Q : State → Prop}
variable {cc : ByteArray} {pc : Nat} {ls : Array Slot} {rest st0 : List Value} {G : cG} {Z : cZ} {g : mSt} {H0 : Heap} {Ts : List Cond} {X Y : Int} {own : String} {A : Nat → Prop}
def cXA (p : Program) (c : Code) (cc : ByteArray) (s : State) (args : Array Value) (Ts : List Cond) (m : MethodId) (G : cG) (Z : cZ) (A : Nat → Prop) (own : String) (H0 : Heap) : Prop := cX p c cc s args Ts m G Z A own H0 ∧ hcE G Z A s H0 ∧ ∀ q, H0.size ≤ q → A q
theorem cXA.next {Z1 : cZ} {k n : Nat} (x : cXA p c cc s args Ts m G Z A own H0) (hl : cZl Z Z1 k n) (hA : cAp Z1) (hS : cSt Z1) (hsz : H0.size ≤ H.size) (hq : ∀ q, cAd Z1 q → cAf Z H.size q) : cXA p c cc s args Ts m G Z1 A own H0 := by
  obtain ⟨⟨h1, h2, h3, h4, h5, h6, h7, h8, h9, h10, h11⟩, hE, hB⟩ := x
  refine ⟨⟨h1, h2, h3, h4, h5, h6, hA, hS, h9, h10, fun q hz => (hq q hz).elim (h11 q) (fun z => hB q (Nat.le_trans hsz z))⟩, ?_, hB⟩
  unfold hcE
  rw [hl.2.2.1 55 0 (h8.2 55 0 (show 0 < 1 by decide)) (by omega)]
  exact hE
theorem c_len0 (x : cXA p c cc s args Ts m G Z A own H0) (L : cL G Z A H0 X g H locs) (hdg : decode cc pc = .ok (.arraylength, 1)) (kk : ∀ n : Int32, n.toInt = 0 → W p l e R s m args below meth c H locs cells slots Q (F0 m (pc + 1) ls (.int n :: rest))) : W p l e R s m args below meth c H locs cells slots Q (F0 m pc ls (.ref (Z.ad 55 0) :: rest)) := by
  obtain ⟨⟨hx, hb, hts, hin, hown, hK1, hA, hZ, hh, hne, hAd⟩, hE, hB⟩ := x
  obtain ⟨-, t, z1, z2⟩ := hh
  have et : (Value.ref t) = .ref (Z.ad 55 0) := va_Z_one z1 hE.2
  injection et with et
  subst et
  obtain ⟨cell, h1, h2, h3, h4, h5, h6, h7⟩ := z2.kept L.2.1.2.1
  exact W.alen (n := Int32.ofNat 0) hx hb h1 h2 h5 rfl rfl hdg (kk _ (by decide))
theorem k_in (x : cXA p c cc s args Ts m G Z A own H0) (L : cL G Z A H0 X g H locs) (q : Nat) (h : cAf Z H.size q) : A q := h.elim (x.1.2.2.2.2.2.2.2.2.2.2 q) (fun z => x.2.2 q (Nat.le_trans L.2.1.1 z))
theorem k_S {st t : State} (x : cXA p c cc s args Ts m G Z A own H0) (L : cL G Z A H0 X g H locs) {H1 : Heap} {locs1 : List Loc} (h0 : st.heap = H) (ht : H1 = t.heap) (hF : va_F (cAf Z st.heap.size) st t) (hL : ∀ q ∈ locs1, cAf Z H.size q.base) : va_S A H0 H1 (locs ++ locs1) := by
  rw [h0] at hF
  obtain ⟨f1, f2⟩ := hF
  rw [h0] at f1 f2
  subst ht
  refine ⟨Nat.le_trans L.2.1.1 f1, fun q h1 h2 => ?_, fun q hq => ?_⟩
  · rw [f2 q (Nat.lt_of_lt_of_le h1 L.2.1.1) (fun z => h2 (k_in x L q z))]
    exact L.2.1.2.1 q h1 h2
  · rcases List.mem_append.mp hq with h | h
    · exact L.2.1.2.2 q h
    · exact k_in x L _ (hL q h)
theorem k_callv {mc ms : Nat} {post : cZ → mSt → Prop} (x : cXA p c cc s args Ts m G Z A own H0) (L : cL G Z A H0 X g H locs) (hr : kRun p l e R s m args below meth c H locs cells slots mc ms (F0 m pc ls st0) rest (cQvA G Z Y post) (cAf Z H.size))
    (kk : ∀ (Z1 : cZ) (g1 : mSt) (H1 : Heap) (locs1 : List Loc) (k n : Nat), k ≤ mc → n ≤ ms → post Z1 g1 → cZl Z Z1 k n → cXA p c cc s args Ts m G Z1 A own H0 → cL G Z1 A H0 Y g1 H1 locs1 → W p l e R s m args below meth c H1 locs1 (cells + k) (slots + n) Q (F0 m (pc + 3) ls rest)) : W p l e R s m args below meth c H locs cells slots Q (F0 m pc ls st0) := by
  intro T hT X0
  obtain ⟨v, st₀, t, T', L0, k, n, hkn, h0, X', hL, e1, e2, ⟨⟨Z1, g1, hv, hp, hz, hP⟩, hF⟩, st⟩ := hr T hT X0
  cases hv
  obtain ⟨p1, p2, p3, p4, p5⟩ := hP
  rw [h0] at p5
  obtain ⟨t2, a1, b1⟩ := kk Z1 g1 T'.heap (locs ++ L0) k n hkn.1 hkn.2 hp hz (x.next hz p3 p4 L.2.1.1 p5) ⟨by rw [e1]; exact p1, k_S x L h0 e1 hF hL, p2⟩ T' rfl X'
  exact ⟨t2, st t2 a1, b1⟩
theorem k_calli {mc ms : Nat} {post : Int32 → cZ → mSt → Prop} (x : cXA p c cc s args Ts m G Z A own H0) (L : cL G Z A H0 X g H locs) (hr : kRun p l e R s m args below meth c H locs cells slots mc ms (F0 m pc ls st0) rest (cQiA G Z Y post) (cAf Z H.size))
    (kk : ∀ (r : Int32) (Z1 : cZ) (g1 : mSt) (H1 : Heap) (locs1 : List Loc) (k n : Nat), k ≤ mc → n ≤ ms → post r Z1 g1 → cZl Z Z1 k n → cXA p c cc s args Ts m G Z1 A own H0 → cL G Z1 A H0 Y g1 H1 locs1 → W p l e R s m args below meth c H1 locs1 (cells + k) (slots + n) Q (F0 m (pc + 3) ls (.int r :: rest))) : W p l e R s m args below meth c H locs cells slots Q (F0 m pc ls st0) := by
  intro T hT X0
  obtain ⟨v, st₀, t, T', L0, k, n, hkn, h0, X', hL, e1, e2, ⟨⟨r, Z1, g1, hv, hp, hz, hP⟩, hF⟩, st⟩ := hr T hT X0
  cases hv
  obtain ⟨p1, p2, p3, p4, p5⟩ := hP
  rw [h0] at p5
  obtain ⟨t2, a1, b1⟩ := kk r Z1 g1 T'.heap (locs ++ L0) k n hkn.1 hkn.2 hp hz (x.next hz p3 p4 L.2.1.1 p5) ⟨by rw [e1]; exact p1, k_S x L h0 e1 hF hL, p2⟩ T' rfl X'
  exact ⟨t2, st t2 a1, b1⟩
theorem k_callr {mc ms : Nat} {post : Nat → cZ → mSt → Prop} (x : cXA p c cc s args Ts m G Z A own H0) (L : cL G Z A H0 X g H locs) (hr : kRun p l e R s m args below meth c H locs cells slots mc ms (F0 m pc ls st0) rest (cQrA G Z Y post) (cAf Z H.size))
    (kk : ∀ (a : Nat) (Z1 : cZ) (g1 : mSt) (H1 : Heap) (locs1 : List Loc) (k n : Nat), k ≤ mc → n ≤ ms → post a Z1 g1 → cZl Z Z1 k n → cXA p c cc s args Ts m G Z1 A own H0 → cL G Z1 A H0 Y g1 H1 locs1 → W p l e R s m args below meth c H1 locs1 (cells + k) (slots + n) Q (F0 m (pc + 3) ls (.ref a :: rest))) : W p l e R s m args below meth c H locs cells slots Q (F0 m pc ls st0) := by
  intro T hT X0
  obtain ⟨v, st₀, t, T', L0, k, n, hkn, h0, X', hL, e1, e2, ⟨⟨a, Z1, g1, hv, hp, hz, hP⟩, hF⟩, st⟩ := hr T hT X0
  cases hv
  obtain ⟨p1, p2, p3, p4, p5⟩ := hP
  rw [h0] at p5
  obtain ⟨t2, a1, b1⟩ := kk a Z1 g1 T'.heap (locs ++ L0) k n hkn.1 hkn.2 hp hz (x.next hz p3 p4 L.2.1.1 p5) ⟨by rw [e1]; exact p1, k_S x L h0 e1 hF hL, p2⟩ T' rfl X'
  exact ⟨t2, st t2 a1, b1⟩
/-- the callee's beginning, from the caller's stand -/
theorem k_pre (x : cXA p c cc s args Ts m G Z A own H0) (L : cL G Z A H0 X g H locs) {As : List Value} (U : State) (hU : U.heap = H) (hW : s.WarmedH U.vm) : va_Pc As (cPreA G Z X g H.size) As.toArray U := by
  obtain ⟨⟨hx, hb, hts, hin, hown, hK1, hA, hZ, hh, hne, hAd⟩, hE, hB⟩ := x
  refine ⟨rfl, ⟨by rw [hU]; exact L.1, L.2.2, hK1.moved hW.alike, hA, hZ, by rw [hU]; exact hcT.moved hW.alike ((hh.kept L.2.1).sub hAd), hne.warm hW⟩, by rw [hU], ?_⟩
  rw [hU]
  exact ⟨hE.1.moved hW.alike, va_Z.narrow (va_Z.moved hW.alike (va_Z.kept hE.2 L.2.1.2.1)) hAd⟩
theorem k_start {nL : Nat} {y : MethodName} {ws : List Cond} {rm : Room} {ret : Option FieldType} {s₁ : State} {sz : Nat} (B : BodyLoose p l y (headSpec ws rm) cc nL ret e s m args below meth c s₁) (hy : y.cls = own) (hin : ∀ w ∈ wsUC, w ∈ ws) (hv : cPreA G Z X g sz s) : cXA p c cc s args ws m G Z (cAf Z s.heap.size) own s.heap ∧ cL G Z (cAf Z s.heap.size) s.heap X g s.heap [] := by
  obtain ⟨h1, h2, h3⟩ := hv
  obtain ⟨⟨a1, a2, a3, a4, a5, a6, a7, a8, a9, a10, a11⟩, b1, b2, b3⟩ := c_start B hy hin h1
  exact ⟨⟨⟨a1, a2, a3, a4, a5, a6, a7, a8, a9.wide, a10, fun q h => Or.inl h⟩, ⟨h3.1, h3.2.wide⟩, fun q h => Or.inr h⟩, b1, va_S.rf, b3⟩
theorem k_vret {Z1 : cZ} {mc ms : Nat} {post : cZ → mSt → Prop} (x : cXA p c cc s args Ts m G Z1 (cAf Z s.heap.size) own s.heap) (L : cL G Z1 (cAf Z s.heap.size) s.heap X g H locs) (hr : meth.sig.returnType = none) (hlocks : meth.locks = false) (hXY : X ≤ Y) (hz : cZl Z Z1 cells slots) (hp : post Z1 g) (h1 : cells ≤ mc) (h2 : slots ≤ ms) (hdg : decode cc pc = .ok (.return_, 1)) : W p l e R s m args below meth c H locs cells slots (MQ below (kE mc ms (cAf Z s.heap.size) (cQvA G Z Y post)) args s mc ms (cAf Z s.heap.size)) (F0 m pc ls []) := by
  obtain ⟨⟨hx, hb, hts, hin, hown, hK1, hA, hZ, hh, hne, hAd⟩, hE, hB⟩ := x
  exact k_end (W.vret hx hb hr (fun t ht _ => ⟨⟨Z1, g, rfl, hp, hz, by rw [ht]; exact L.1, L.2.2.mono hXY, hA, hZ, hAd⟩, L.2.1.F ht⟩) L.2.1.2.2 hdg) h1 h2
theorem k_iret {Z1 : cZ} {mc ms : Nat} {v : Int32} {post : Int32 → cZ → mSt → Prop} (x : cXA p c cc s args Ts m G Z1 (cAf Z s.heap.size) own s.heap) (L : cL G Z1 (cAf Z s.heap.size) s.heap X g H locs) (hr : meth.sig.returnType = some .int) (hlocks : meth.locks = false) (hXY : X ≤ Y) (hz : cZl Z Z1 cells slots) (hp : post v Z1 g) (h1 : cells ≤ mc) (h2 : slots ≤ ms) (hdg : decode cc pc = .ok (.ireturn, 1)) : W p l e R s m args below meth c H locs cells slots (MQ below (kE mc ms (cAf Z s.heap.size) (cQiA G Z Y post)) args s mc ms (cAf Z s.heap.size)) (F0 m pc ls [.int v]) := by
  obtain ⟨⟨hx, hb, hts, hin, hown, hK1, hA, hZ, hh, hne, hAd⟩, hE, hB⟩ := x
  exact k_end (W.iret hx hb hr (fun t ht _ => ⟨⟨v, Z1, g, rfl, hp, hz, by rw [ht]; exact L.1, L.2.2.mono hXY, hA, hZ, hAd⟩, L.2.1.F ht⟩) L.2.1.2.2 hdg) h1 h2
theorem k_zret {Z1 : cZ} {mc ms : Nat} {v : Int32} {post : Int32 → cZ → mSt → Prop} (x : cXA p c cc s args Ts m G Z1 (cAf Z s.heap.size) own s.heap) (L : cL G Z1 (cAf Z s.heap.size) s.heap X g H locs) (hr : meth.sig.returnType = some .boolean) (hlocks : meth.locks = false) (hn : narrow .boolean (.int v) = .int v) (hXY : X ≤ Y) (hz : cZl Z Z1 cells slots) (hp : post v Z1 g) (h1 : cells ≤ mc) (h2 : slots ≤ ms) (hdg : decode cc pc = .ok (.ireturn, 1)) : W p l e R s m args below meth c H locs cells slots (MQ below (kE mc ms (cAf Z s.heap.size) (cQiA G Z Y post)) args s mc ms (cAf Z s.heap.size)) (F0 m pc ls [.int v]) := by
  obtain ⟨⟨hx, hb, hts, hin, hown, hK1, hA, hZ, hh, hne, hAd⟩, hE, hB⟩ := x
  exact k_end (W.zret hx hb hr hn (fun t ht _ => ⟨⟨v, Z1, g, rfl, hp, hz, by rw [ht]; exact L.1, L.2.2.mono hXY, hA, hZ, hAd⟩, L.2.1.F ht⟩) L.2.1.2.2 hdg) h1 h2
theorem k_aret {Z1 : cZ} {mc ms a : Nat} {rt : FieldType} {post : Nat → cZ → mSt → Prop} (x : cXA p c cc s args Ts m G Z1 (cAf Z s.heap.size) own s.heap) (L : cL G Z1 (cAf Z s.heap.size) s.heap X g H locs) (hr : meth.sig.returnType = some rt) (hrt : (∃ n, rt = .object n) ∨ ∃ t, rt = .array t) (hlocks : meth.locks = false) (hXY : X ≤ Y) (hz : cZl Z Z1 cells slots) (hp : post a Z1 g) (h1 : cells ≤ mc) (h2 : slots ≤ ms) (hdg : decode cc pc = .ok (.areturn, 1)) : W p l e R s m args below meth c H locs cells slots (MQ below (kE mc ms (cAf Z s.heap.size) (cQrA G Z Y post)) args s mc ms (cAf Z s.heap.size)) (F0 m pc ls [.ref a]) := by
  obtain ⟨⟨hx, hb, hts, hin, hown, hK1, hA, hZ, hh, hne, hAd⟩, hE, hB⟩ := x
  exact k_end (W.aret hx hb hr hrt (Or.inr ⟨a, rfl⟩) (fun t ht _ => ⟨⟨a, Z1, g, rfl, hp, hz, by rw [ht]; exact L.1, L.2.2.mono hXY, hA, hZ, hAd⟩, L.2.1.F ht⟩) L.2.1.2.2 hdg) h1 h2
end KCalls
