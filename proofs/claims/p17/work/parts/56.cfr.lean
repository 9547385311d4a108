/-! frames of calls -/
section CFr
variable {p : Program} {l : Launch} {e : Env} {R : Room} {s : State} {m : MethodId} {args : Array Value} {below : List Frame} {meth : Method} {c : Code} {H : Heap} {locs : List Loc} {cells slots : Nat} {Q : State → Prop}
variable {cc : ByteArray} {pc : Nat} {ls : Array Slot} {rest : List Value} {G : cG} {Z : cZ} {g : mSt} {H0 : Heap} {Ts : List Cond} {X : Int} {own : String} {A : Nat → Prop}
theorem c_ldr53 (x : cX p c cc s args Ts m G Z A own H0) (L : cL G Z A H0 X g H locs) (i0 : Nat) (hal : Z.al 53 i0) {i : Int32} (h0 : 0 ≤ i.toInt) (h1 : i.toInt < 4) (hdg : decode cc pc = .ok (.aaload, 1))
    (kk : W p l e R s m args below meth c H locs cells slots Q (F0 m (pc + 1) ls (.ref (Z.ad 38 (4 * i0 + i.toInt.toNat)) :: rest))) : W p l e R s m args below meth c H locs cells slots Q (F0 m pc ls (.int i :: .ref (Z.ad 53 i0) :: rest)) := by
  obtain ⟨hx, hb, hts, hin, hown, hK1, hA, -, -, -, hAd⟩ := x
  have hc := L.1.rr hal (by decide) (by decide)
  have e0 : ((i.toNatClampNeg : Nat) : Int) = i.toInt := by show ((i.toInt.toNat : Nat) : Int) = i.toInt; omega
  have hle : cLeR Z g 53 i0 = 4 := rfl
  have hlt : i.toNatClampNeg < cLeR Z g 53 i0 := by rw [hle]; omega
  have hin2 : ¬ (i < 0 ∨ cLeR Z g 53 i0 ≤ i.toNatClampNeg) := fun q => by
    rcases q with q | q
    · have := Int32.lt_iff_toInt_lt.mp q
      have z : (0 : Int32).toInt = 0 := by decide
      omega
    · omega
  exact W.aald (v := .ref (Z.ad 38 (4 * i0 + i.toInt.toNat))) (ty := .array .int) hx hb hc (hK1.2.2.2 (cLeR Z g 53 i0) (fun k => va_rf (cTe Z (g (32 * 53) (16777216 * i0 + k)) 53 i0 k))) rfl (fun q => by cases q) (by show ¬ (i < 0 ∨ (arrV _ _ _).slots.size ≤ _); rw [arrV_size]; exact hin2) (by show (arrV _ _ _).slots[_]? = _; rw [arrV_read _ _ hlt]; rfl) rfl rfl hdg kk
end CFr
