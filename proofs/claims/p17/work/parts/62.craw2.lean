/-! lists and sides that are being made -/
def rLs (G : cG) (e0 a : Nat) (H : Heap) : Prop := rOb G a 12 (fun k => if k = 1 then .ref e0 else .int 0) H
def rSd4 (G : cG) (e0 : Nat) (ln : Int32) (li a b : Nat) (H : Heap) : Prop := rOb G a 4 (fun k => if k = 0 then .int ln else if k = 1 then .ref li else if k = 2 then .ref b else defaultValue (tyX4 k)) H ∧ rLs G e0 b H
def rSd10 (G : cG) (e0 : Nat) (ln : Int32) (li a b : Nat) (H : Heap) : Prop := rOb G a 10 (fun k => if k = 0 then .int ln else if k = 1 then .ref li else if k = 2 then .ref b else defaultValue (tyX10 k)) H ∧ rLs G e0 b H
def rEn (G : cG) (e0 : Nat) (ln : Int32) (li a b : Nat) (H : Heap) : Prop := rOb G a 4 (fun k => if k = 0 then .int ln else if k = 1 then .ref li else if k = 2 then .ref b else if k = 5 then .int 1 else if k = 6 then .ref (b + 1) else if k = 9 then .ref (b + 2) else if k = 10 then .ref (b + 3) else if k = 11 then .ref (b + 4) else if k = 12 then .ref (b + 5) else .int 0) H ∧ rLs G e0 b H ∧ rAr G (b + 1) 48 40 H ∧ rAi G (b + 2) 4000 H ∧ rAi G (b + 3) 20 H ∧ rAi G (b + 4) 20 H ∧ rAi G (b + 5) 20 H
def rSw (G : cG) (e0 : Nat) (ln : Int32) (li al a b : Nat) (H : Heap) : Prop := rOb G a 10 (fun k => if k = 0 then .int ln else if k = 1 then .ref li else if k = 2 then .ref b else if k = 4 then .ref al else .int 0) H ∧ rLs G e0 b H
theorem rLs.kept {G : cG} {e0 a : Nat} {H H1 : Heap} (h : rLs G e0 a H) (e : H1[a]? = H[a]?) : rLs G e0 a H1 := rOb.kept h e
theorem rEn.kept {G : cG} {e0 : Nat} {ln : Int32} {li a b : Nat} {H H1 : Heap} (h : rEn G e0 ln li a b H) (e : ∀ q, q = a ∨ (b ≤ q ∧ q < b + 6) → H1[q]? = H[q]?) : rEn G e0 ln li a b H1 := by
  obtain ⟨h1, h2, h3, h4, h5, h6, h7⟩ := h
  exact ⟨h1.kept (e _ (by omega)), h2.kept (e _ (by omega)), h3.kept (e _ (by omega)), h4.kept (e _ (by omega)), h5.kept (e _ (by omega)), h6.kept (e _ (by omega)), h7.kept (e _ (by omega))⟩
theorem rSw.kept {G : cG} {e0 : Nat} {ln : Int32} {li al a b : Nat} {H H1 : Heap} (h : rSw G e0 ln li al a b H) (e : ∀ q, q = a ∨ (b ≤ q ∧ q < b + 1) → H1[q]? = H[q]?) : rSw G e0 ln li al a b H1 := ⟨h.1.kept (e _ (by omega)), h.2.kept (e _ (by omega))⟩
/-- the JDK's empty array, while a cell is being made -/
def rZ (e0 a sz : Nat) (U : State) (H : Heap) : Prop := va_Z RJx4a65c "DEFAULTCAPACITY_EMPTY_ELEMENTDATA" "[Ljava/lang/Object;" (.ref e0) (fun q => q = a ∨ sz ≤ q) U H
theorem rZ.next {e0 a sz b sz2 : Nat} {s U : State} {H : Heap} (h : rZ e0 a sz s s.heap) (hs : s.heap.size = sz) (hvm : s.vm.Alike U.vm) (hle : ∀ q, q < sz → q ≠ a → H[q]? = s.heap[q]?) (h1 : sz ≤ b ∨ b = a) (h2 : sz ≤ sz2) : rZ e0 b sz2 U H := by
  refine va_Z.narrow (va_Z.moved hvm (va_Z.kept h (fun q hq hA => hle q (by omega) (fun z => hA (Or.inl z))))) (fun q hq => ?_)
  rcases hq with z | z
  · rcases h1 with w | w
    · exact Or.inr (by omega)
    · exact Or.inl (by omega)
  · exact Or.inr (by omega)
def rPreS (G : cG) (e0 a K sz : Nat) (ty : Nat → FieldType) (U : State) : Prop := rPre G a K sz ty U ∧ rZ e0 a sz U U.heap
theorem rPreS.blind {G : cG} {e0 a K sz : Nat} {ty : Nat → FieldType} {av : List Value} : FrameBlind (va_Pc av (rPreS G e0 a K sz ty)) := fun r U gg mk q => ⟨q.1, (rPre.blind (av := av) r U gg mk ⟨q.1, q.2.1⟩).2, va_Z.moved (Vm.Alike.refl U.vm) q.2.2⟩
section RStep2
variable {p : Program} {l : Launch} {e : Env} {R : Room} {s : State} {m : MethodId} {args : Array Value} {below : List Frame} {meth : Method} {c : Code} {H : Heap} {locs : List Loc} {cells slots : Nat} {Q : State → Prop} {cc : ByteArray} {pc : Nat} {ls : Array Slot} {rest : List Value} {G : cG}
theorem r_newr (hx : p.tables.exec = Jvm.exec) (hb : c.code = cc) (hT : kTb G s) (hK1 : cK G s) {own : String} {index K : Nat} (hown : s.vm.findClass own = some m.cls) (hK : 48 ≤ K ∧ K ≠ 53) (hC : cEl K ∈ kOv) (hw : (Cond.classLink own index (cEl K)).before args s = true) {n : Int32} {N : Nat} (hn : n.toInt = (N : Int)) (hN : N ≤ 100000) (hcells : cells + 1 ≤ R.cells) (hslots : slots + N ≤ R.slots) (hdg : decode cc pc = .ok (.anewarray index, 3))
    (kk : ∀ H1 : Heap, H1.size = H.size + 1 → rAr G H.size K N H1 → (∀ q : Nat, q < H.size → H1[q]? = H[q]?) → W p l e R s m args below meth c H1 locs (cells + 1) (slots + N) Q (F0 m (pc + 3) ls (.ref H.size :: rest))) : W p l e R s m args below meth c H locs cells slots Q (F0 m pc ls (.int n :: rest)) := by
  have cn := tc_n hn
  refine W.anew hx hb hown hw (va_AO.use (hT.2.1 _ hC)) rfl hdg rfl (nl_0 (by omega)) (by rw [cn]; omega) hcells (by rw [cn]; exact hslots) fun cA kA comp f1 f2 f3 f4 => ?_
  have hcA : cA = G.2.2.2.2 K := by
    obtain ⟨_, _, _, _, _, h4⟩ := (hK1.2.2.1 K hK.1 hK.2).2
    exact Option.some.inj (f1.symm.trans h4)
  subst hcA
  rw [cn]
  refine kk _ (by rw [Array.size_push]) ?_ (fun q hq => by rw [Array.getElem?_push, if_neg (Nat.ne_of_lt hq)])
  unfold rAr
  rw [Array.getElem?_push_size, ← arrV_new]
end RStep2
