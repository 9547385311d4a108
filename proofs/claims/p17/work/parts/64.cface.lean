/-! the face's constructor: the cells of an end -/
def rAf (G : cG) (a K N : Nat) (f : Nat → Option Nat) (H : Heap) : Prop := H[a]? = some (arrV (G.2.2.2.2 K) N (fun k => va_rf (f k)))
theorem rAf.kept {G : cG} {a K N : Nat} {f : Nat → Option Nat} {H H1 : Heap} (h : rAf G a K N f H) (e : H1[a]? = H[a]?) : rAf G a K N f H1 := e.trans h
theorem rAf.of {G : cG} {a K N : Nat} {f : Nat → Option Nat} {H : Heap} (h : rAr G a K N H) (hf : ∀ k, k < N → f k = none) : rAf G a K N f H := by
  unfold rAf
  rw [show H[a]? = _ from h]
  exact congrArg some (arrV_cg (fun k hk => by rw [hf k hk]; rfl))
theorem rAf.cg {G : cG} {a K N : Nat} {f f' : Nat → Option Nat} {H : Heap} (h : rAf G a K N f H) (hf : ∀ k, k < N → f' k = f k) : rAf G a K N f' H := by
  unfold rAf
  rw [show H[a]? = _ from h]
  exact congrArg some (arrV_cg (fun k hk => by rw [hf k hk]))
/-- all cells of an end, from b on -/
def rEb (G : cG) (e0 sz b j : Nat) (H : Heap) : Prop := rDi G b (b + 1) H ∧ rDi G (b + 17) (b + 18) H ∧ rLi G b (b + 35) (b + 36) H ∧ rEn G e0 (Int32.ofNat j) (b + 35) (b + 34) (b + 51) H ∧ rLi G (b + 17) (b + 58) (b + 59) H ∧ rSw G e0 (Int32.ofNat j) (b + 58) (sz + 6) (b + 57) (b + 74) H
theorem rEb.kept {G : cG} {e0 sz b j : Nat} {H H1 : Heap} (h : rEb G e0 sz b j H) (e : ∀ q, b ≤ q ∧ q < b + 75 → H1[q]? = H[q]?) : rEb G e0 sz b j H1 := by
  obtain ⟨h1, h2, h3, h4, h5, h6⟩ := h
  exact ⟨h1.kept (fun q hq => e q (by omega)), h2.kept (fun q hq => e q (by omega)), h3.kept (fun q hq => e q (by omega)), h4.kept (fun q hq => e q (by omega)), h5.kept (fun q hq => e q (by omega)), h6.kept (fun q hq => e q (by omega))⟩
def fW (sz e k : Nat) : Option Nat := if k < 2 * e then some (sz + 8 + 75 * (k / 2) + 17 * (k % 2)) else none
def fE (sz e k : Nat) : Option Nat := if k < e then some (sz + 8 + 75 * k + 34) else none
def fS (sz e k : Nat) : Option Nat := if k < e then some (sz + 8 + 75 * k + 57) else none
def fA (sz n e k : Nat) : Option Nat := if k < e then some (sz + 8 + 75 * k + 34) else if n ≤ k ∧ k < n + e then some (sz + 8 + 75 * (k - n) + 57) else none
section RStore
variable {p : Program} {l : Launch} {e : Env} {R : Room} {s : State} {m : MethodId} {args : Array Value} {below : List Frame} {meth : Method} {c : Code} {H : Heap} {locs : List Loc} {cells slots : Nat} {Q : State → Prop} {cc : ByteArray} {pc : Nat} {ls : Array Slot} {rest : List Value} {G : cG}
/-- a reference is put into an array that is being filled -/
theorem r_str (hx : p.tables.exec = Jvm.exec) (hb : c.code = cc) (hK1 : cK G s) {a K N v Kv : Nat} {f : Nat → Option Nat} {V : Nat → Value} (hA : rAf G a K N f H) (hK : 48 ≤ K ∧ K ≠ 53) (hv : rOb G v Kv V H) (hKv : cOb Kv = true) (hasg : (cEl K = cRn Kv) ∨ va_Nw (.castable (cRn Kv) (cEl K)) s) {i : Int32} {k : Nat} (hi : i.toInt = (k : Int)) (hk : k < N) (hdg : decode cc pc = .ok (.aastore, 1))
    (kk : ∀ H1 : Heap, rAf G a K N (va_up f k (some v)) H1 → H1.size = H.size → (∀ q : Nat, q ≠ a → H1[q]? = H[q]?) → W p l e R s m args below meth c H1 (locs ++ [⟨a, i.toNatClampNeg⟩]) cells slots Q (F0 m (pc + 1) ls rest)) : W p l e R s m args below meth c H locs cells slots Q (F0 m pc ls (.ref v :: .int i :: .ref a :: rest)) := by
  have ci := tc_n hi
  obtain ⟨cell, q1, q2, q3, q4⟩ := hv
  obtain ⟨hS, hfc, kC, hkC, hkind⟩ := hK1.1 Kv hKv
  obtain ⟨kA, comp, k1, k2, k3, k4⟩ := (hK1.2.2.1 K hK.1 hK.2).2
  obtain ⟨kE, hkE, -⟩ := Vm.findClass_spec k3
  have has : s.vm.assignable cell.cls comp = true := by
    rw [q2]
    rcases hasg with h | h
    · have : comp = G.1 Kv := by rw [h] at k3; exact Option.some.inj (k3.symm.trans hfc)
      rw [this]
      exact va_assign (hK1.1 Kv hKv).2
    · exact vb_asgC h comp _ k3 hfc
  refine W.aast hx hb (show H[a]? = _ from hA) (fun q h => by cases h) (fun h => by cases h) k1 k2 rfl hkE ⟨nl_0 (by omega), by show _ < (arrV _ _ _).slots.size; rw [arrV_size, ci]; exact hk⟩ q1 (fun q h => by rw [q3] at h; cases h) (by rw [q2]; exact hkC) has rfl rfl hdg fun H1 e1 z oq => ?_
  refine kk H1 ?_ z oq
  unfold rAf
  rw [e1, arrV_store, ci]
  congr 2
  funext q
  unfold updV va_up
  by_cases hq : q = k
  · rw [if_pos hq, if_pos hq]
    rfl
  · rw [if_neg hq, if_neg hq]
end RStore
/-- the face with e of its ends -/
def rFa (G : cG) (e0 a sz n e : Nat) (V : Nat → Value) (s : State) (H : Heap) : Prop := H.size = sz + 8 + 75 * e ∧ rOb G a 11 V H ∧ rSg G sz H ∧ rAi G (sz + 1) 60 H ∧ rAi G (sz + 2) 240 H ∧ rAi G (sz + 3) 200 H ∧ rAf G (sz + 4) 50 (2 * n) (fW sz e) H ∧ rAf G (sz + 5) 51 n (fE sz e) H ∧ rAf G (sz + 6) 49 n (fS sz e) H ∧ rAf G (sz + 7) 52 (2 * n) (fA sz n e) H ∧ (∀ j, j < e → rEb G e0 sz (sz + 8 + 75 * j) j H) ∧ ∀ q, q < sz → q ≠ a → H[q]? = s.heap[q]?
theorem fW_0 (sz k : Nat) : fW sz 0 k = none := if_neg (by omega)
theorem fE_0 (sz k : Nat) : fE sz 0 k = none := if_neg (by omega)
theorem fS_0 (sz k : Nat) : fS sz 0 k = none := if_neg (by omega)
theorem fA_0 (sz n k : Nat) : fA sz n 0 k = none := by
  unfold fA
  rw [if_neg (by omega), if_neg (by omega)]
theorem fW_s {sz e k : Nat} : fW sz (e + 1) k = va_up (va_up (fW sz e) (2 * e) (some (sz + 8 + 75 * e))) (2 * e + 1) (some (sz + 8 + 75 * e + 17)) k := by
  unfold va_up fW
  by_cases h1 : k = 2 * e + 1
  · rw [if_pos h1, if_pos (by omega)]; congr 1; omega
  · rw [if_neg h1]
    by_cases h2 : k = 2 * e
    · rw [if_pos h2, if_pos (by omega)]; congr 1; omega
    · rw [if_neg h2]
      by_cases h3 : k < 2 * e
      · rw [if_pos h3, if_pos (by omega)]
      · rw [if_neg h3, if_neg (by omega)]
theorem fE_s {sz e k : Nat} : fE sz (e + 1) k = va_up (fE sz e) e (some (sz + 8 + 75 * e + 34)) k := by
  unfold va_up fE
  by_cases h2 : k = e
  · rw [if_pos h2, if_pos (by omega), h2]
  · rw [if_neg h2]
    by_cases h3 : k < e
    · rw [if_pos h3, if_pos (by omega)]
    · rw [if_neg h3, if_neg (by omega)]
theorem fS_s {sz e k : Nat} : fS sz (e + 1) k = va_up (fS sz e) e (some (sz + 8 + 75 * e + 57)) k := by
  unfold va_up fS
  by_cases h2 : k = e
  · rw [if_pos h2, if_pos (by omega), h2]
  · rw [if_neg h2]
    by_cases h3 : k < e
    · rw [if_pos h3, if_pos (by omega)]
    · rw [if_neg h3, if_neg (by omega)]
theorem fA_s {sz n e k : Nat} (hn : e < n) : fA sz n (e + 1) k = va_up (va_up (fA sz n e) e (some (sz + 8 + 75 * e + 34))) (n + e) (some (sz + 8 + 75 * e + 57)) k := by
  unfold va_up fA
  by_cases h1 : k = n + e
  · rw [if_pos h1, if_neg (by omega), if_pos (by omega)]; congr 1; omega
  · rw [if_neg h1]
    by_cases h2 : k = e
    · rw [if_pos h2, if_pos (by omega), h2]
    · rw [if_neg h2]
      by_cases h3 : k < e
      · rw [if_pos h3, if_pos (by omega)]
      · rw [if_neg h3, if_neg (by omega)]
        by_cases h4 : n ≤ k ∧ k < n + e
        · rw [if_pos h4, if_pos (by omega)]
        · rw [if_neg h4, if_neg (by omega)]
