/-! THE REFERENCE'S WORLD: one object (h0), its arrays at addresses ad j that never change, all its numbers as s j i (a field j: s j 0) -/
abbrev mSt : Type := Nat → Nat → Int32
abbrev mG : Type := ClassId × (Nat → Nat) × ClassId × ClassId
def mInt (j : Nat) : Bool := decide (j = 0) || decide (j = 1) || decide (j = 3) || decide (j = 4) || decide (j = 11) || decide (j = 19) || decide (j = 20) || decide (j = 34) || decide (j = 79) || decide (j = 91)
def mBool (j : Nat) : Bool := decide (j = 54) || decide (j = 64) || decide (j = 67) || decide (j = 70) || decide (j = 76)
def mLens : List Nat := [1, 1, 220, 1, 1, 33920, 16, 16, 8, 53, 260, 1, 64, 64, 64, 64, 8, 1696, 32, 1, 1, 8, 8, 8, 8, 8, 424, 8, 8, 8, 8, 1920, 8, 240, 1, 80, 80, 80, 16000, 4, 8, 8, 8, 8, 8, 8, 8, 8, 8, 8, 8, 8, 8, 8, 8, 8, 8, 8, 4800, 80, 8, 3840, 64, 64, 64, 3840, 64, 64, 320, 320, 320, 320, 320, 320, 320, 320, 320, 320, 320, 1, 8, 8, 4, 4, 128000, 640, 160, 160, 38400, 160, 60, 1]
def mLen (j : Nat) : Nat := mLens.getD j 0
def mV (ad : Nat → Nat) (g : mSt) (j : Nat) : Value := if mInt j then .int (g j 0) else .ref (ad j)
def mH (G : mG) (h0 : Nat) (ad : Nat → Nat) (g : mSt) (H : Heap) : Prop := t_OB h0 G.1 92 G.2.1 H (mV ad g) ∧ ∀ j, j < 92 → mInt j = false → H[ad j]? = some (vp_cell (if mBool j then G.2.2.2 else G.2.2.1) (mLen j, .inl (g j)))
def mAp (h0 : Nat) (ad : Nat → Nat) : Prop := (∀ j, j < 92 → mInt j = false → ad j ≠ h0) ∧ ∀ j k, j < 92 → k < 92 → mInt j = false → mInt k = false → ad j = ad k → j = k
def mK (G : mG) (U : State) : Prop := u_Kn U RX12 TX12 92 G.1 G.2.1 ∧ ArrOfT U G.2.2.1 .int ∧ ArrOfT U G.2.2.2 .boolean
def mA (h0 : Nat) (ad : Nat → Nat) : Nat → Prop := fun q => q = h0 ∨ ∃ j, j < 92 ∧ mInt j = false ∧ q = ad j
def up2 (g : mSt) (j i : Nat) (v : Int32) : mSt := fun a b => if a = j ∧ b = i then v else g a b
theorem up2_o {g : mSt} {j i a b : Nat} {v : Int32} (h : a ≠ j) : up2 g j i v a b = g a b := if_neg (fun q => h q.1)
theorem up2_of {g : mSt} {j i a : Nat} {v : Int32} (h : a ≠ j) : up2 g j i v a = g a := funext fun _ => up2_o h
theorem up2_i {g : mSt} {j i : Nat} {v : Int32} : up2 g j i v j i = v := if_pos ⟨rfl, rfl⟩
theorem up2_n {g : mSt} {j i b : Nat} {v : Int32} (h : b ≠ i) : up2 g j i v j b = g j b := if_neg (fun q => h q.2)
theorem mK.moved {G : mG} {u U : State} (hvm : u.vm.Alike U.vm) (h : mK G u) : mK G U := ⟨u_Kn_moved hvm h.1, arrOfT_moved hvm h.2.1, arrOfT_moved hvm h.2.2⟩
section MWalk
variable {p : Program} {l : Launch} {e : Env} {R : Room} {s : State} {m : MethodId} {args : Array Value} {below : List Frame} {meth : Method} {c : Code} {H : Heap} {locs : List Loc} {cells slots : Nat} {Q : State → Prop}
variable {cc : ByteArray} {pc : Nat} {ls : Array Slot} {rest : List Value} {G : mG} {h0 : Nat} {ad : Nat → Nat} {g : mSt} {H0 : Heap} {Ts : List Cond}
theorem mg_any (hexec : p.tables.exec = Jvm.exec) (hb : c.code = cc) (hts : ∀ w ∈ Ts, w.before args s = true) (hin : ∀ w ∈ wsX120, w ∈ Ts) (hown : s.vm.findClass RX12 = some m.cls) (hK : mK G s) (hM : mH G h0 ad g H) (k : Nat) {index : Nat} (hk : k < 92) {v : Value} (hv : mV ad g k = v) (hT : (TX12 k).1 = RX12) (hlink : (Cond.fieldLink RX12 index RX12 (TX12 k).2.1 (TX12 k).2.2.1).before args s = true) (hdg : decode cc pc = .ok (.getfield index, 3))
    (kk : W p l e R s m args below meth c H locs cells slots Q (F0 m (pc + 3) ls (v :: rest))) : W p l e R s m args below meth c H locs cells slots Q (F0 m pc ls (.ref h0 :: rest)) := by
  obtain ⟨⟨cell, q1, q2, q3, q4⟩, -⟩ := hM
  obtain ⟨⟨hS, hfc, kC, hkC, hkind⟩, -⟩ := hK
  obtain ⟨cf, kf, fi, f, hi, hsl⟩ := hS k hk
  refine W.getf hexec hb hown hlink (hT ▸ hi) (u_facts hfc hkC (u_lays hts hin hk) hi).1 q1 (by rw [q3]; exact fun h => by cases h) (v := v) ?_ rfl rfl hdg kk
  rw [hsl, q4 k hk, hv]
theorem mp_int (hexec : p.tables.exec = Jvm.exec) (hb : c.code = cc) (hts : ∀ w ∈ Ts, w.before args s = true) (hin : ∀ w ∈ wsX120, w ∈ Ts) (hown : s.vm.findClass RX12 = some m.cls) (hK : mK G s) (hA : mAp h0 ad) (hM : mH G h0 ad g H) (hS0 : va_S (mA h0 ad) H0 H locs) (k : Nat) {index : Nat} (hk : k < 92) (hik : mInt k = true) (hT : (TX12 k).1 = RX12) (hfin : (TX12 k).2.2.2 = false) (hd : parseFieldDescriptor (TX12 k).2.2.1 = some .int) {v : Int32} (hlink : (Cond.fieldLink RX12 index RX12 (TX12 k).2.1 (TX12 k).2.2.1).before args s = true) (hdg : decode cc pc = .ok (.putfield index, 3))
    (kk : ∀ (H1 : Heap) (locs1 : List Loc), mH G h0 ad (up2 g k 0 v) H1 → va_S (mA h0 ad) H0 H1 locs1 → W p l e R s m args below meth c H1 locs1 cells slots Q (F0 m (pc + 3) ls rest)) : W p l e R s m args below meth c H locs cells slots Q (F0 m pc ls (.int v :: .ref h0 :: rest)) := by
  have hap : ∀ x y, x < 92 → y < 92 → x ≠ y → G.2.1 x ≠ G.2.1 y := by
    intro x y hx hy hne
    obtain ⟨hS, -⟩ := hK.1
    obtain ⟨_, _, _, fa, hia, ea⟩ := hS x hx
    obtain ⟨_, _, _, fb, hib, eb⟩ := hS y hy
    rw [← ea, ← eb]
    refine u_apart (u_lays hts hin hx) (u_lays hts hin hy) hia hib ?_
    rw [(State.fieldFound?_type hia (tyX12_ok x hx)).1, (State.fieldFound?_type hib (tyX12_ok y hy)).1]
    exact nmX12 x hx y hy hne
  obtain ⟨⟨cell, q1, q2, q3, q4⟩, qa⟩ := hM
  obtain ⟨⟨hS, hfc, kC, hkC, hkind⟩, -⟩ := hK
  obtain ⟨cf, kf, fi, f, hi, hsl⟩ := hS k hk
  have hlay := hts _ (hin _ (u_in_lay hk))
  unfold u_lay at hlay
  rw [if_neg (by rw [hfin]; decide)] at hlay
  have hst := (u_facts hfc hkC (u_lays hts hin hk) hi).1
  have h6 := u_store (v := .int v) hfc hkC hkind hlay hi hd rfl rfl
  refine W.putK hexec hb (f := f) ⟨hown, hlink, ⟨_, _, _, hT ▸ hi⟩, hst⟩ (by rw [q2]; exact h6) q1 q3 (by rw [hsl]; exact k2_hasslot (q4 k hk)) rfl rfl hdg fun H' e1 e2 e3 => ?_
  rw [hsl] at e1 ⊢
  refine kk H' _ ⟨t_OB.to (V := updV (mV ad g) k (.int v)) ⟨_, e1, q2, q3, t_set q4 hap hk (.int v)⟩ (fun j _ => ?_), fun j hj hij => ?_⟩ (hS0.put e2 e3 (Or.inl rfl))
  · unfold updV mV
    by_cases hjk : j = k
    · subst hjk; rw [if_pos rfl, if_pos hik, up2_i]
    · rw [if_neg hjk, up2_o hjk]
  · have hjk : j ≠ k := fun z => by rw [z, hik] at hij; cases hij
    rw [up2_of hjk, e3 _ (hA.1 j hj hij)]
    exact qa j hj hij
theorem ma_ld (hexec : p.tables.exec = Jvm.exec) (hb : c.code = cc) (hK : mK G s) (hM : mH G h0 ad g H) (j : Nat) (hj : j < 92) (hij : mInt j = false) (hbj : mBool j = false) {i : Int32} (hin : vp_in i (mLen j)) (hdg : decode cc pc = .ok (.iaload, 1))
    (kk : W p l e R s m args below meth c H locs cells slots Q (F0 m (pc + 1) ls (.int (g j i.toNatClampNeg) :: rest))) : W p l e R s m args below meth c H locs cells slots Q (F0 m pc ls (.int i :: .ref (ad j) :: rest)) := by
  have hlt : i.toNatClampNeg < mLen j := Nat.not_le.mp fun q => hin (Or.inr q)
  have hc := hM.2 j hj hij
  rw [hbj] at hc
  exact W.iald (v := .int (g j i.toNatClampNeg)) hexec hb hc (hK.2.1 (mLen j) (fun q => .int (g j q))) (fun q => by cases q) (by show ¬ (i < 0 ∨ (arrV _ _ _).slots.size ≤ _); rw [arrV_size]; exact hin) (by show (arrV _ _ _).slots[_]? = _; rw [arrV_read _ _ hlt]) rfl rfl hdg kk
theorem mz_ld (hexec : p.tables.exec = Jvm.exec) (hb : c.code = cc) (hK : mK G s) (hM : mH G h0 ad g H) (j : Nat) (hj : j < 92) (hij : mInt j = false) (hbj : mBool j = true) {i : Int32} (hin : vp_in i (mLen j)) (hdg : decode cc pc = .ok (.baload, 1))
    (kk : W p l e R s m args below meth c H locs cells slots Q (F0 m (pc + 1) ls (.int (g j i.toNatClampNeg) :: rest))) : W p l e R s m args below meth c H locs cells slots Q (F0 m pc ls (.int i :: .ref (ad j) :: rest)) := by
  have hlt : i.toNatClampNeg < mLen j := Nat.not_le.mp fun q => hin (Or.inr q)
  have hc := hM.2 j hj hij
  rw [hbj] at hc
  exact W.zald (v := .int (g j i.toNatClampNeg)) hexec hb hc (hK.2.2 (mLen j) (fun q => .int (g j q))) (fun q => by cases q) (by show ¬ (i < 0 ∨ (arrV _ _ _).slots.size ≤ _); rw [arrV_size]; exact hin) (by show (arrV _ _ _).slots[_]? = _; rw [arrV_read _ _ hlt]) rfl rfl hdg kk
theorem mH.st (hA : mAp h0 ad) (hM : mH G h0 ad g H) {j i : Nat} {v : Int32} (hj : j < 92) (hij : mInt j = false) {H1 : Heap} (e1 : H1[ad j]? = some (vp_cell (if mBool j then G.2.2.2 else G.2.2.1) (mLen j, .inl (upd (g j) i v)))) (oq : ∀ q : Nat, q ≠ ad j → H1[q]? = H[q]?) : mH G h0 ad (up2 g j i v) H1 := by
  refine ⟨(hM.1.kept (oq h0 (fun z => hA.1 j hj hij z.symm))).to (fun k _ => ?_), fun k hk hik => ?_⟩
  · unfold mV
    by_cases hik : mInt k = true
    · rw [if_pos hik, if_pos hik, up2_o (fun z => by rw [z, hij] at hik; cases hik)]
    · rw [if_neg hik, if_neg hik]
  · by_cases hkj : k = j
    · subst hkj
      rw [e1]
      congr 3
      refine congrArg Sum.inl (funext fun b => ?_)
      unfold upd up2
      by_cases hb : b = i <;> simp [hb]
    · rw [up2_of hkj, oq _ (fun z => hkj (hA.2 k j hk hj hik hij z))]
      exact hM.2 k hk hik
theorem ma_st (hexec : p.tables.exec = Jvm.exec) (hb : c.code = cc) (hK : mK G s) (hA : mAp h0 ad) (hM : mH G h0 ad g H) (hS0 : va_S (mA h0 ad) H0 H locs) (j : Nat) (hj : j < 92) (hij : mInt j = false) (hbj : mBool j = false) {i x : Int32} (hin : vp_in i (mLen j)) (hdg : decode cc pc = .ok (.iastore, 1))
    (kk : ∀ (H1 : Heap) (locs1 : List Loc), mH G h0 ad (up2 g j i.toNatClampNeg x) H1 → va_S (mA h0 ad) H0 H1 locs1 → W p l e R s m args below meth c H1 locs1 cells slots Q (F0 m (pc + 1) ls rest)) : W p l e R s m args below meth c H locs cells slots Q (F0 m pc ls (.int x :: .int i :: .ref (ad j) :: rest)) := by
  have hc := hM.2 j hj hij
  rw [hbj] at hc
  refine W.iast hexec hb hc (hK.2.1 (mLen j) (fun q => .int (g j q))) (fun q => by cases q) (by show ¬ (i < 0 ∨ (arrV _ _ _).slots.size ≤ _); rw [arrV_size]; exact hin) rfl rfl hdg fun H1 e z oq => ?_
  refine kk H1 _ (hM.st hA hj hij ?_ oq) (hS0.put z oq (Or.inr ⟨j, hj, hij, rfl⟩))
  rw [hbj, e]
  show some ((vp_cell _ _).setSlot _ _) = _
  rw [vp_cell_i, vp_cell_i, arrV_store]
  congr 2
  funext q
  by_cases hq : q = i.toNatClampNeg
  · subst hq; simp [updV, upd]
  · simp [updV, upd, hq]
theorem mz_st (hexec : p.tables.exec = Jvm.exec) (hb : c.code = cc) (hK : mK G s) (hA : mAp h0 ad) (hM : mH G h0 ad g H) (hS0 : va_S (mA h0 ad) H0 H locs) (j : Nat) (hj : j < 92) (hij : mInt j = false) (hbj : mBool j = true) {i x : Int32} (hx01 : vp_nar .boolean x = x) (hin : vp_in i (mLen j)) (hdg : decode cc pc = .ok (.bastore, 1))
    (kk : ∀ (H1 : Heap) (locs1 : List Loc), mH G h0 ad (up2 g j i.toNatClampNeg x) H1 → va_S (mA h0 ad) H0 H1 locs1 → W p l e R s m args below meth c H1 locs1 cells slots Q (F0 m (pc + 1) ls rest)) : W p l e R s m args below meth c H locs cells slots Q (F0 m pc ls (.int x :: .int i :: .ref (ad j) :: rest)) := by
  have hc := hM.2 j hj hij
  rw [hbj] at hc
  refine W.zast hexec hb hc (hK.2.2 (mLen j) (fun q => .int (g j q))) (fun q => by cases q) (by show ¬ (i < 0 ∨ (arrV _ _ _).slots.size ≤ _); rw [arrV_size]; exact hin) rfl rfl hdg fun H1 e z oq => ?_
  refine kk H1 _ (hM.st hA hj hij ?_ oq) (hS0.put z oq (Or.inr ⟨j, hj, hij, rfl⟩))
  rw [hbj, e]
  show some ((vp_cell _ _).setSlot _ _) = _
  rw [vp_cell_i, vp_cell_i, arrV_store]
  congr 2
  funext q
  by_cases hq : q = i.toNatClampNeg
  · subst hq
    have h2 : narrow .boolean (.int x) = .int x := by
      have h3 : narrow .boolean (.int x) = .int (vp_nar .boolean x) := rfl
      rw [h3, hx01]
    simp [updV, upd, h2]
  · simp [updV, upd, hq]
end MWalk
