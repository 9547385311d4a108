/-! things that are being made, cell by cell -/
def rOb (G : cG) (a K : Nat) (V : Nat → Value) (H : Heap) : Prop := t_OB a (G.1 K) (cNn K) (G.2.1 K) H V
def rAi (G : cG) (a N : Nat) (H : Heap) : Prop := H[a]? = some (arrV G.2.2.1 N (fun _ => .int 0))
def rAz (G : cG) (a N : Nat) (H : Heap) : Prop := H[a]? = some (arrV G.2.2.2.1 N (fun _ => .int 0))
def rAr (G : cG) (a K N : Nat) (H : Heap) : Prop := H[a]? = some (arrV (G.2.2.2.2 K) N (fun _ => .null))
theorem rOb.kept {G : cG} {a K : Nat} {V : Nat → Value} {H H1 : Heap} (h : rOb G a K V H) (e : H1[a]? = H[a]?) : rOb G a K V H1 := t_OB.kept h e
theorem rOb.lt {G : cG} {a K : Nat} {V : Nat → Value} {H : Heap} (h : rOb G a K V H) : a < H.size := by
  obtain ⟨cell, q1, -⟩ := h
  exact (Array.getElem?_eq_some_iff.mp q1).1
theorem rAi.kept {G : cG} {a N : Nat} {H H1 : Heap} (h : rAi G a N H) (e : H1[a]? = H[a]?) : rAi G a N H1 := e.trans h
theorem rAz.kept {G : cG} {a N : Nat} {H H1 : Heap} (h : rAz G a N H) (e : H1[a]? = H[a]?) : rAz G a N H1 := e.trans h
theorem rAr.kept {G : cG} {a K N : Nat} {H H1 : Heap} (h : rAr G a K N H) (e : H1[a]? = H[a]?) : rAr G a K N H1 := e.trans h
/-- a queue, a receiver, an assembler, messages: the cell itself at a, what it holds from b on -/
def rQu (G : cG) (a b : Nat) (H : Heap) : Prop := rOb G a 2 (fun k => if k = 0 then .ref b else if k = 1 then .ref (b + 1) else .int 0) H ∧ rAi G b 1920 H ∧ rAi G (b + 1) 40 H
def rRc (G : cG) (a b : Nat) (H : Heap) : Prop := rOb G a 7 (fun k => if k = 0 then .ref b else .int 0) H ∧ rAi G b 48 H
def rAs (G : cG) (a b : Nat) (H : Heap) : Prop := rOb G a 0 (fun k => if k = 0 then .ref b else .int 0) H ∧ rAi G b 240 H
def rMs (G : cG) (n : Nat) (a b : Nat) (H : Heap) : Prop := rOb G a 6 (fun k => if k = 0 then .int (Int32.ofNat n) else if k = 1 then .ref b else if k = 2 then .ref (b + 1) else if k = 3 then .ref (b + 2) else if k = 4 then .ref (b + 3) else .int 0) H ∧ rAi G b (n * 60) H ∧ rAi G (b + 1) n H ∧ rAi G (b + 2) n H ∧ rAz G (b + 3) n H
def rSg (G : cG) (a : Nat) (H : Heap) : Prop := rOb G a 9 (fun _ => .int 0) H
def rDi (G : cG) (a b : Nat) (H : Heap) : Prop := rOb G a 3 (fun k => if k = 0 then .ref b else if k = 1 then .ref (b + 3) else if k = 2 then .ref (b + 6) else if k = 3 then .ref (b + 8) else if k = 4 then .ref (b + 10) else if k = 6 then .ref (b + 11) else if k = 7 then .ref (b + 12) else if k = 8 then .ref (b + 13) else if k = 9 then .ref (b + 14) else if k = 14 then .ref (b + 15) else .int 0) H ∧ rQu G b (b + 1) H ∧ rQu G (b + 3) (b + 4) H ∧ rRc G (b + 6) (b + 7) H ∧ rAs G (b + 8) (b + 9) H ∧ rAi G (b + 10) 212 H ∧ rAi G (b + 11) 8 H ∧ rAi G (b + 12) 8 H ∧ rAi G (b + 13) 8 H ∧ rAi G (b + 14) 8 H ∧ rAi G (b + 15) 240 H
def rLi (G : cG) (d : Nat) (a b : Nat) (H : Heap) : Prop := rOb G a 5 (fun k => if k = 0 then .ref d else if k = 1 then .ref b else if k = 2 then .ref (b + 5) else if k = 3 then .ref (b + 10) else .int 0) H ∧ rMs G 10 b (b + 1) H ∧ rMs G 8 (b + 5) (b + 6) H ∧ rMs G 8 (b + 10) (b + 11) H
theorem rQu.kept {G : cG} {a b : Nat} {H H1 : Heap} (h : rQu G a b H) (e : ∀ q, q = a ∨ (b ≤ q ∧ q < b + 2) → H1[q]? = H[q]?) : rQu G a b H1 := ⟨h.1.kept (e _ (by omega)), h.2.1.kept (e _ (by omega)), h.2.2.kept (e _ (by omega))⟩
theorem rRc.kept {G : cG} {a b : Nat} {H H1 : Heap} (h : rRc G a b H) (e : ∀ q, q = a ∨ (b ≤ q ∧ q < b + 1) → H1[q]? = H[q]?) : rRc G a b H1 := ⟨h.1.kept (e _ (by omega)), h.2.kept (e _ (by omega))⟩
theorem rAs.kept {G : cG} {a b : Nat} {H H1 : Heap} (h : rAs G a b H) (e : ∀ q, q = a ∨ (b ≤ q ∧ q < b + 1) → H1[q]? = H[q]?) : rAs G a b H1 := ⟨h.1.kept (e _ (by omega)), h.2.kept (e _ (by omega))⟩
theorem rMs.kept {G : cG} {n a b : Nat} {H H1 : Heap} (h : rMs G n a b H) (e : ∀ q, q = a ∨ (b ≤ q ∧ q < b + 4) → H1[q]? = H[q]?) : rMs G n a b H1 := ⟨h.1.kept (e _ (by omega)), h.2.1.kept (e _ (by omega)), h.2.2.1.kept (e _ (by omega)), h.2.2.2.1.kept (e _ (by omega)), h.2.2.2.2.kept (e _ (by omega))⟩
theorem rDi.kept {G : cG} {a b : Nat} {H H1 : Heap} (h : rDi G a b H) (e : ∀ q, q = a ∨ (b ≤ q ∧ q < b + 16) → H1[q]? = H[q]?) : rDi G a b H1 := by
  obtain ⟨h1, h2, h3, h4, h5, h6, h7, h8, h9, h10, h11⟩ := h
  exact ⟨h1.kept (e _ (by omega)), h2.kept (fun q hq => e q (by omega)), h3.kept (fun q hq => e q (by omega)), h4.kept (fun q hq => e q (by omega)), h5.kept (fun q hq => e q (by omega)), h6.kept (e _ (by omega)), h7.kept (e _ (by omega)), h8.kept (e _ (by omega)), h9.kept (e _ (by omega)), h10.kept (e _ (by omega)), h11.kept (e _ (by omega))⟩
theorem rLi.kept {G : cG} {d a b : Nat} {H H1 : Heap} (h : rLi G d a b H) (e : ∀ q, q = a ∨ (b ≤ q ∧ q < b + 15) → H1[q]? = H[q]?) : rLi G d a b H1 := ⟨h.1.kept (e _ (by omega)), h.2.1.kept (fun q hq => e q (by omega)), h.2.2.1.kept (fun q hq => e q (by omega)), h.2.2.2.kept (fun q hq => e q (by omega))⟩
/-- a constructor's beginning and end -/
def rPre (G : cG) (a K sz : Nat) (ty : Nat → FieldType) (U : State) : Prop := rOb G a K (fun k => defaultValue (ty k)) U.heap ∧ cK G U ∧ U.heap.size = sz ∧ kTb G U ∧ cNest U
def rPost (a sz n : Nat) (P : Heap → Prop) : Array Value → State → Outcome → State → Prop := fun _ st oc t => oc = .returned none ∧ P t.heap ∧ t.heap.size = sz + n ∧ ∀ q : Nat, q < sz → q ≠ a → t.heap[q]? = st.heap[q]?
theorem rPre.blind {G : cG} {a K sz : Nat} {ty : Nat → FieldType} {av : List Value} : FrameBlind (va_Pc av (rPre G a K sz ty)) := fun _ U _ _ q => ⟨q.1, q.2.1, cK.moved (Vm.Alike.refl U.vm) q.2.2.1, q.2.2.2.1, q.2.2.2.2.1.moved (Vm.Alike.refl U.vm), q.2.2.2.2.2.same rfl⟩
section RStep
variable {p : Program} {l : Launch} {e : Env} {R : Room} {s : State} {m : MethodId} {args : Array Value} {below : List Frame} {meth : Method} {c : Code} {H : Heap} {locs : List Loc} {cells slots : Nat} {Q : State → Prop} {cc : ByteArray} {pc : Nat} {ls : Array Slot} {rest : List Value} {G : cG}
theorem r_newi (hx : p.tables.exec = Jvm.exec) (hb : c.code = cc) (hT : kTb G s) (hw : (Cond.arrayClass .int).before args s = true) {n : Int32} {N : Nat} (hn : n.toInt = (N : Int)) (hN : N ≤ 100000) (hcells : cells + 1 ≤ R.cells) (hslots : slots + N ≤ R.slots) (hdg : decode cc pc = .ok (.newarray .int, 2))
    (kk : ∀ H1 : Heap, H1.size = H.size + 1 → rAi G H.size N H1 → (∀ q : Nat, q < H.size → H1[q]? = H[q]?) → W p l e R s m args below meth c H1 locs (cells + 1) (slots + N) Q (F0 m (pc + 2) ls (.ref H.size :: rest))) : W p l e R s m args below meth c H locs cells slots Q (F0 m pc ls (.int n :: rest)) := by
  have cn := tc_n hn
  refine W.newa (atype := .int) hx hb hw rfl hdg rfl (nl_0 (by omega)) (by rw [cn]; show N * 4 ≤ _; omega) hcells (by rw [cn]; exact hslots) fun cA kA comp f1 f2 f3 => ?_
  have hcA : cA = G.2.2.1 := Option.some.inj (f1.symm.trans hT.1.1)
  subst hcA
  rw [cn]
  refine kk _ (by rw [Array.size_push]) ?_ (fun q hq => by rw [Array.getElem?_push, if_neg (Nat.ne_of_lt hq)])
  unfold rAi
  rw [Array.getElem?_push_size, ← arrV_new]
  rfl
theorem r_newz (hx : p.tables.exec = Jvm.exec) (hb : c.code = cc) (hT : kTb G s) (hw : (Cond.arrayClass .boolean).before args s = true) {n : Int32} {N : Nat} (hn : n.toInt = (N : Int)) (hN : N ≤ 100000) (hcells : cells + 1 ≤ R.cells) (hslots : slots + N ≤ R.slots) (hdg : decode cc pc = .ok (.newarray .boolean, 2))
    (kk : ∀ H1 : Heap, H1.size = H.size + 1 → rAz G H.size N H1 → (∀ q : Nat, q < H.size → H1[q]? = H[q]?) → W p l e R s m args below meth c H1 locs (cells + 1) (slots + N) Q (F0 m (pc + 2) ls (.ref H.size :: rest))) : W p l e R s m args below meth c H locs cells slots Q (F0 m pc ls (.int n :: rest)) := by
  have cn := tc_n hn
  refine W.newa (atype := .boolean) hx hb hw rfl hdg rfl (nl_0 (by omega)) (by rw [cn]; show N * 1 ≤ _; omega) hcells (by rw [cn]; exact hslots) fun cA kA comp f1 f2 f3 => ?_
  have hcA : cA = G.2.2.2.1 := Option.some.inj (f1.symm.trans hT.1.2.1)
  subst hcA
  rw [cn]
  refine kk _ (by rw [Array.size_push]) ?_ (fun q hq => by rw [Array.getElem?_push, if_neg (Nat.ne_of_lt hq)])
  unfold rAz
  rw [Array.getElem?_push_size, ← arrV_new]
  rfl
end RStep
theorem r_app {P : Loc → Prop} {l1 l2 : List Loc} (h1 : ∀ q ∈ l1, P q) (h2 : ∀ q ∈ l2, P q) : ∀ q ∈ l1 ++ l2, P q := fun q hq => (List.mem_append.mp hq).elim (h1 q) (h2 q)
theorem r_one {P : Loc → Prop} {x : Loc} (h : P x) : ∀ q ∈ [x], P q := fun q hq => by rw [List.mem_singleton.mp hq]; exact h
