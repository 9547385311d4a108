/-! objects that are being made: a cell by itself -/
section CAlloc
variable {p : Program} {l : Launch} {e : Env} {R : Room} {s : State} {m : MethodId} {args : Array Value} {below : List Frame} {meth : Method} {c : Code} {H : Heap} {locs : List Loc} {cells slots : Nat} {Q : State → Prop}
variable {cc : ByteArray} {pc : Nat} {ls : Array Slot} {rest : List Value} {G : cG} {Ts : List Cond} {own : String}
theorem capK (hts : ∀ w ∈ Ts, w.before args s = true) (hin : ∀ w ∈ wsUC, w ∈ Ts) (hK1 : cK G s) (K : Nat) (hK : cOb K = true) : ∀ a b, a < cNn K → b < cNn K → a ≠ b → G.2.1 K a ≠ G.2.1 K b := by
  intro a b ha hb2 hne
  obtain ⟨hS, -⟩ := hK1.1 K hK
  obtain ⟨_, _, _, fa, hia, ea⟩ := hS a ha
  obtain ⟨_, _, _, fb, hib, eb⟩ := hS b hb2
  have hin2 : ∀ w ∈ u_ws (cRn K) (cTn K) (cNn K), w ∈ Ts := fun w h => hin w (cws_in hK w h)
  obtain ⟨ta, hta⟩ := cty K hK a ha
  obtain ⟨tb, htb⟩ := cty K hK b hb2
  rw [← ea, ← eb]
  refine u_apart (u_lays hts hin2 ha) (u_lays hts hin2 hb2) hia hib ?_
  rw [(State.fieldFound?_type hia hta).1, (State.fieldFound?_type hib htb).1]
  exact cnm K hK a ha b hb2 hne
theorem k_put (hx : p.tables.exec = Jvm.exec) (hb : c.code = cc) (hts : ∀ w ∈ Ts, w.before args s = true) (hin : ∀ w ∈ wsUC, w ∈ Ts) (hown : s.vm.findClass own = some m.cls) (hK1 : cK G s) (K : Nat) {a : Nat} {V : Nat → Value} (O : t_OB a (G.1 K) (cNn K) (G.2.1 K) H V) (f : Nat) (hk : (cOb K && decide (f < cNn K)) = true) (hfin : (cTn K f).2.2.2 = false) {ty : FieldType} {v : Value} (hd : parseFieldDescriptor (cTn K f).2.2.1 = some ty) (hn : narrow ty v = v) (hfit : fits ty v = true) {index : Nat} (hw : Cond.fieldLink own index (cTn K f).1 (cTn K f).2.1 (cTn K f).2.2.1 ∈ Ts) (hdg : decode cc pc = .ok (.putfield index, 3))
    (kk : ∀ (H1 : Heap), t_OB a (G.1 K) (cNn K) (G.2.1 K) H1 (updV V f v) → H1.size = H.size → (∀ q : Nat, q ≠ a → H1[q]? = H[q]?) → W p l e R s m args below meth c H1 (locs ++ [⟨a, G.2.1 K f⟩]) cells slots Q (F0 m (pc + 3) ls rest)) : W p l e R s m args below meth c H locs cells slots Q (F0 m pc ls (v :: .ref a :: rest)) := by
  rw [Bool.and_eq_true] at hk
  have hf := of_decide_eq_true hk.2
  have hap := capK hts hin hK1 K hk.1
  have hin2 : ∀ w ∈ u_ws (cRn K) (cTn K) (cNn K), w ∈ Ts := fun w h => hin w (cws_in hk.1 w h)
  obtain ⟨cell, q1, q2, q3, q4⟩ := O
  obtain ⟨hS, hfc, kC, hkC, hkind⟩ := hK1.1 K hk.1
  obtain ⟨cf, kf, fi, fd, hi, hsl⟩ := hS f hf
  have hlay := hts _ (hin2 _ (u_in_lay hf))
  unfold u_lay at hlay
  rw [if_neg (by rw [hfin]; decide)] at hlay
  have hst := (u_facts hfc hkC (u_lays hts hin2 hf) hi).1
  have h6 := u_store (v := v) hfc hkC hkind hlay hi hd hn hfit
  refine W.putK hx hb (f := fd) ⟨hown, hts _ hw, ⟨_, _, _, hi⟩, hst⟩ (by rw [q2]; exact h6) q1 q3 (by rw [hsl]; exact k2_hasslot (q4 f hf)) rfl rfl hdg fun H' e1 e2 e3 => ?_
  rw [hsl] at e1 ⊢
  exact kk H' ⟨_, e1, q2, q3, t_set q4 hap hf v⟩ e2 e3
theorem k_putF (hx : p.tables.exec = Jvm.exec) (hb : c.code = cc) (hts : ∀ w ∈ Ts, w.before args s = true) (hin : ∀ w ∈ wsUC, w ∈ Ts) (hown : s.vm.findClass own = some m.cls) (hK1 : cK G s) (hnm : meth.name = "<init>") (K : Nat) {a : Nat} {V : Nat → Value} (O : t_OB a (G.1 K) (cNn K) (G.2.1 K) H V) (f : Nat) (hk : (cOb K && decide (f < cNn K)) = true) (hfin : (cTn K f).2.2.2 = true ∧ (cTn K f).1 = own) {ty : FieldType} {v : Value} (hd : parseFieldDescriptor (cTn K f).2.2.1 = some ty) (hn : narrow ty v = v) (hfit : fits ty v = true) {index : Nat} (hw : Cond.fieldLink own index (cTn K f).1 (cTn K f).2.1 (cTn K f).2.2.1 ∈ Ts) (hdg : decode cc pc = .ok (.putfield index, 3))
    (kk : ∀ (H1 : Heap), t_OB a (G.1 K) (cNn K) (G.2.1 K) H1 (updV V f v) → H1.size = H.size → (∀ q : Nat, q ≠ a → H1[q]? = H[q]?) → W p l e R s m args below meth c H1 (locs ++ [⟨a, G.2.1 K f⟩]) cells slots Q (F0 m (pc + 3) ls rest)) : W p l e R s m args below meth c H locs cells slots Q (F0 m pc ls (v :: .ref a :: rest)) := by
  rw [Bool.and_eq_true] at hk
  have hf := of_decide_eq_true hk.2
  have hap := capK hts hin hK1 K hk.1
  have hin2 : ∀ w ∈ u_ws (cRn K) (cTn K) (cNn K), w ∈ Ts := fun w h => hin w (cws_in hk.1 w h)
  obtain ⟨cell, q1, q2, q3, q4⟩ := O
  obtain ⟨hS, hfc, kC, hkC, hkind⟩ := hK1.1 K hk.1
  obtain ⟨cf, kf, fi, fd, hi, hsl⟩ := hS f hf
  have hlay := hts _ (hin2 _ (u_in_lay hf))
  unfold u_lay at hlay
  rw [if_pos hfin.1] at hlay
  have hst := (u_facts hfc hkC (u_lays hts hin2 hf) hi).1
  have hcf : m.cls = cf := by
    obtain ⟨_, _, c', _, _, _, -, -, hf', -, -, -, hown2, -⟩ := Cond.laysFinal_spec hlay
    have e1 : c' = cf := by have := hi.symm.trans hf'; simp at this; exact this.1.symm
    rw [hfin.2] at hown2
    rw [← e1]; exact Option.some.inj (hown.symm.trans hown2)
  have h6 := u_fits (v := v) hfc hkC hkind (Or.inr hlay) hi hd hn hfit
  refine W.putFinK hx hb (f := fd) hown (hts _ hw) hi hst hcf hnm (by rw [q2]; exact h6) q1 q3 (by rw [hsl]; exact k2_hasslot (q4 f hf)) rfl rfl hdg fun H' e1 e2 e3 => ?_
  rw [hsl] at e1 ⊢
  exact kk H' ⟨_, e1, q2, q3, t_set q4 hap hf v⟩ e2 e3
/-- a new object -/
theorem k_new (hx : p.tables.exec = Jvm.exec) (hb : c.code = cc) (hts : ∀ w ∈ Ts, w.before args s = true) (hin : ∀ w ∈ wsUC, w ∈ Ts) (hown : s.vm.findClass own = some m.cls) (hK1 : cK G s) (K : Nat) (hK : cOb K = true) (ty : Nat → FieldType) (hty : ∀ k, k < cNn K → parseFieldDescriptor (cTn K k).2.2.1 = some (ty k)) {index n : Nat} (hw : Cond.classLink own index (cRn K) ∈ Ts) (hi : Cond.instantiable (cRn K) n ∈ Ts) (hini : Cond.initialized (cRn K) ∈ Ts) (hcells : cells + 1 ≤ R.cells) (hslots : slots + n ≤ R.slots) (hdg : decode cc pc = .ok (.new index, 3))
    (kk : ∀ (H1 : Heap), t_OB H.size (G.1 K) (cNn K) (G.2.1 K) H1 (fun k => defaultValue (ty k)) → H1.size = H.size + 1 → (∀ q : Nat, q < H.size → H1[q]? = H[q]?) → W p l e R s m args below meth c H1 locs (cells + 1) (slots + n) Q (F0 m (pc + 3) ls (.ref H.size :: rest))) : W p l e R s m args below meth c H locs cells slots Q (F0 m pc ls rest) := by
  have hKn := hK1.1 K hK
  refine W.newcK hx hb hown (hts _ hw) (hts _ hi) (hts _ hini) (g := F0 m pc ls rest) rfl hdg hcells hslots hKn.2.1 rfl fun H' kC hkC hcell hs hq => ?_
  exact kk H' (u_born ty hts (fun w h => hin w (cws_in hK w h)) hKn hkC hcell hty) hs hq
end CAlloc
/-- a call behind its constructor -/
def kV (sd : Nat) (r o : Int32) (k : Nat) : Value := if k = 0 then .ref sd else if k = 1 then .int r else if k = 2 then .int o else if k = 5 then .int (-2) else if k = 7 then .int (-2) else defaultValue (tyX1 k)
def rm_kinit : Room := { frames := 1, cells := 0, slots := 0, locals := 12 }
set_option maxHeartbeats 4000000 in
set_option maxRecDepth 100000 in
theorem c_kcallInit (l : Launch) {G : cG} (a sd : Nat) (p2 p3 : Int32) (r3 : rg 0 1 p3) : Met l yX1_init (wk (Cond.code yX1_init cX1_init 4 none)) rm_kinit (va_Pc [.ref a, .ref sd, .int p2, .int p3] (fun U => t_OB a (G.1 1) 18 (G.2.1 1) U.heap (fun k => defaultValue (tyX1 k)) ∧ cK G U)) (fun _ st oc t => oc = .returned none ∧ t_OB a (G.1 1) 18 (G.2.1 1) t.heap (kV sd p2 p3) ∧ t.heap.size = st.heap.size ∧ ∀ q : Nat, q ≠ a → t.heap[q]? = st.heap[q]?) 0 0 (fun q => q = a) := by
  refine Met.ofW (cc := cX1_init) (maxL := 4) (ret := none) (by decide) rfl ?_
  intro p e s m args below meth c s₁ B hml hv
  obtain ⟨rfl, O, hK1⟩ := hv
  have hx := B.exec
  have hb := B.bytes
  have hr := B.returns
  have hlocks := B.notSynchronized
  have hts := atoms_spec (ws := wk (Cond.code yX1_init cX1_init 4 none)) B.pre
  have hin : ∀ w ∈ wsUC, w ∈ wk (Cond.code yX1_init cX1_init 4 none) := fun w h => wk_in h
  have hown : s.vm.findClass RX1 = some m.cls := findClass_of_methodNamed B.named
  have hnm : meth.name = "<init>" := (name_of_methodNamed B.named B.method).1
  have hl := lv_entry ([.ref a, .ref sd, .int p2, .int p3]) (n := 4) (Nat.le_of_ble_eq_true rfl)
  rw [lg_entry_eq]
  generalize (lg_sl ([.ref a, .ref sd, .int p2, .int p3]) ++ List.replicate (4 - (lg_sl ([.ref a, .ref sd, .int p2, .int p3])).length) Slot.unset).toArray = ls at hl ⊢
  have hl : lv_has ls 4 [(0, .ref a), (1, .ref sd), (2, .int p2), (3, .int p3)] := hl
  refine lv_aload_n hx hb dX1_init_0 rfl (lv_at hl 0 rfl) ?_
  refine W.objInit hx hb hown (hts _ (wk_in kl_X1_3)) (hts _ (wk_in kz_0_2)) (hts _ (wk_in kz_0_3)) rfl (by rw [hml]; exact hl.1) rfl dX1_init_1 (Nat.le_of_ble_eq_true rfl) (Nat.le_of_ble_eq_true rfl) ?_
  refine lv_aload_n hx hb dX1_init_4 rfl (lv_at hl 0 rfl) ?_
  refine lv_bipush (v := (-2)) hx hb dX1_init_5 (by decide) ?_
  refine k_put (ty := .int) hx hb hts hin hown hK1 1 O 5 rfl rfl (by decide +kernel) rfl rfl (wk_in kf_X1_9) dX1_init_7 (fun H1 O z1 q1 => ?_)
  refine lv_aload_n hx hb dX1_init_10 rfl (lv_at hl 0 rfl) ?_
  refine lv_bipush (v := (-2)) hx hb dX1_init_11 (by decide) ?_
  refine k_put (ty := .int) hx hb hts hin hown hK1 1 O 7 rfl rfl (by decide +kernel) rfl rfl (wk_in kf_X1_15) dX1_init_13 (fun H2 O z2 q2 => ?_)
  refine lv_aload_n hx hb dX1_init_16 rfl (lv_at hl 0 rfl) ?_
  refine lv_aload_n hx hb dX1_init_17 rfl (lv_at hl 1 rfl) ?_
  refine k_putF (ty := tyX1 0) hx hb hts hin hown hK1 hnm 1 O 0 rfl ⟨rfl, rfl⟩ (tyX1_ok 0 (by decide)) rfl rfl (wk_in kf_X1_18) dX1_init_18 (fun H3 O z3 q3 => ?_)
  refine lv_aload_n hx hb dX1_init_21 rfl (lv_at hl 0 rfl) ?_
  refine lv_iload_n hx hb dX1_init_22 rfl (lv_at hl 2 rfl) ?_
  refine k_putF (ty := .int) hx hb hts hin hown hK1 hnm 1 O 1 rfl ⟨rfl, rfl⟩ (by decide +kernel) rfl rfl (wk_in kf_X1_22) dX1_init_23 (fun H4 O z4 q4 => ?_)
  refine lv_aload_n hx hb dX1_init_26 rfl (lv_at hl 0 rfl) ?_
  refine lv_iload_n hx hb dX1_init_27 rfl (lv_at hl 3 rfl) ?_
  have h3 : narrow .boolean (.int p3) = .int p3 := by
    have h4 : narrow .boolean (.int p3) = .int (vp_nar .boolean p3) := rfl
    rw [h4, nar01 r3]
  have h5 : fits .boolean (.int p3) = true := by
    have h1 : 0 ≤ p3.toInt ∧ p3.toInt ≤ 1 := r3
    rcases (by omega : p3.toInt = 0 ∨ p3.toInt = 1) with q | q
    · have : p3 = 0 := Int32.toInt_inj.mp q
      subst this; rfl
    · have : p3 = 1 := Int32.toInt_inj.mp q
      subst this; rfl
  refine k_putF (ty := .boolean) hx hb hts hin hown hK1 hnm 1 O 2 rfl ⟨rfl, rfl⟩ (by decide +kernel) h3 h5 (wk_in kf_X1_25) dX1_init_28 (fun H5 O z5 q5 => ?_)
  have hT : ∀ t : State, t.heap = H5 → t_OB a (G.1 1) 18 (G.2.1 1) t.heap (kV sd p2 p3) ∧ t.heap.size = s.heap.size ∧ ∀ q : Nat, q ≠ a → t.heap[q]? = s.heap[q]? := by
    intro t ht
    refine ⟨?_, ?_, ?_⟩
    · rw [ht]
      refine O.to (fun k hk => ?_)
      unfold updV kV
      have q : ∀ k, k < 18 → k = 0 ∨ k = 1 ∨ k = 2 ∨ k = 5 ∨ k = 7 ∨ (k ≠ 0 ∧ k ≠ 1 ∧ k ≠ 2 ∧ k ≠ 5 ∧ k ≠ 7) := fun k _ => by omega
      rcases q k hk with h | h | h | h | h | ⟨n0, n1, n2, n5, n7⟩
      · subst h; rfl
      · subst h; rfl
      · subst h; rfl
      · subst h; rfl
      · subst h; rfl
      · rw [if_neg n2, if_neg n1, if_neg n0, if_neg n7, if_neg n5, if_neg n0, if_neg n1, if_neg n2, if_neg n5, if_neg n7]
    · rw [ht, z5, z4, z3, z2, z1]
    · intro q hq
      rw [ht, q5 q hq, q4 q hq, q3 q hq, q2 q hq, q1 q hq]
  have hL : ∀ q ∈ [] ++ [(⟨a, G.2.1 1 5⟩ : Loc)] ++ [⟨a, G.2.1 1 7⟩] ++ [⟨a, G.2.1 1 0⟩] ++ [⟨a, G.2.1 1 1⟩] ++ [⟨a, G.2.1 1 2⟩], q.base = a := by
    intro q hq
    simp only [List.mem_append, List.mem_cons, List.not_mem_nil, or_false, false_or] at hq
    rcases hq with (((h | h) | h) | h) | h <;> rw [h]
  exact W.vret hx hb hr (fun t ht _ => ⟨rfl, (hT t ht).1, (hT t ht).2.1, (hT t ht).2.2⟩) hL dX1_init_31
