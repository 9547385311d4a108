/-! THE LAW'S START: classes, arrays, statics -/
theorem lw_arr {args : Array Value} {s : State} {t : FieldType} (h : (Cond.arrayClass t).before args s = true) : ∃ cA : ClassId, ArrOfT s cA t ∧ s.vm.findClass ("[" ++ t.toString) = some cA := by
  obtain ⟨cA, k, comp, h1, h2, h3⟩ := Cond.arrayClass_spec h
  exact ⟨cA, fun n z => ⟨fun k h => (by cases h), k, h2, comp, h3⟩, h1⟩
theorem lw_ovr {args : Array Value} {s : State} {C : String} (h : (Cond.arrayOver (.object C)).before args s = true) : ∃ cA : ClassId, ArrOfT s cA (.object C) ∧ va_RA s cA (.object C) := by
  obtain ⟨comp, cA, k, h1, -, h2, h3, h4⟩ := Cond.arrayOver_spec h
  exact ⟨cA, fun n z => ⟨fun k h => (by cases h), k, h2, comp, h3⟩, k, comp, h2, h3, h1, h4⟩
theorem lw_ova {args : Array Value} {s : State} {t : FieldType} (h : (Cond.arrayOver (.array t)).before args s = true) : ∃ cA : ClassId, ArrOfT s cA (.array t) ∧ s.vm.findClass ("[" ++ (FieldType.array t).toString) = some cA := by
  obtain ⟨comp, cA, k, h1, h2, h3, h4⟩ := Cond.arrayOver_specA h
  exact ⟨cA, fun n z => ⟨fun k h => (by cases h), k, h2, comp, h3⟩, h4⟩
def lwA : Nat → Heap → Prop := fun q H => H.size ≤ q
set_option maxHeartbeats 2000000 in
theorem lw_world {args : Array Value} {s : State} (hts : ∀ w ∈ lwT, w.before args s = true) (hmi : (Cond.isRef (.mirror "[Ljava/lang/Object;")).before args s = true) : ∃ G : cG, cK G s ∧ kTb G s := by
  obtain ⟨c0, i0, k0⟩ := u_known (C := RX0) (T := TX0) (N := 3) (n := 3) hts wsX00_L (hts _ lkt_X0)
  obtain ⟨c1, i1, k1⟩ := u_known (C := RX1) (T := TX1) (N := 18) (n := 18) hts wsX10_L (hts _ lkt_X1)
  obtain ⟨c2, i2, k2⟩ := u_known (C := RX2) (T := TX2) (N := 4) (n := 4) hts wsX20_L (hts _ lkt_X2)
  obtain ⟨c3, i3, k3⟩ := u_known (C := RX3) (T := TX3) (N := 16) (n := 16) hts wsX30_L (hts _ lkt_X3)
  obtain ⟨c4, i4, k4⟩ := u_known (C := RX4) (T := TX4) (N := 13) (n := 13) hts wsX40_L (hts _ lkt_X4)
  obtain ⟨c5, i5, k5⟩ := u_known (C := RX5) (T := TX5) (N := 21) (n := 21) hts wsX50_L (hts _ lkt_X5)
  obtain ⟨c6, i6, k6⟩ := u_known (C := RX6) (T := TX6) (N := 7) (n := 7) hts wsX60_L (hts _ lkt_X6)
  obtain ⟨c7, i7, k7⟩ := u_known (C := RX7) (T := TX7) (N := 12) (n := 12) hts wsX70_L (hts _ lkt_X7)
  obtain ⟨c9, i9, k9⟩ := u_known (C := RX9) (T := TX9) (N := 9) (n := 9) hts wsX90_L (hts _ lkt_X9)
  obtain ⟨c10, i10, k10⟩ := u_known (C := RX10) (T := TX10) (N := 5) (n := 5) hts wsX100_L (hts _ lkt_X10)
  obtain ⟨c11, i11, k11⟩ := u_known (C := RX11) (T := TX11) (N := 12) (n := 12) hts wsX110_L (hts _ lkt_X11)
  obtain ⟨c12, i12, k12⟩ := u_known (C := RJx4a65c) (T := TJx4a65c) (N := 3) (n := 3) hts wsJx4a65c0_L (hts _ lkt_Jx4a65c)
  obtain ⟨cI, aI, fI⟩ := lw_arr (hts _ lka_int)
  obtain ⟨cB, aB, fB⟩ := lw_arr (hts _ lka_bool)
  obtain ⟨d0, a0, r0⟩ := lw_ovr (hts _ lko_0)
  obtain ⟨d1, a1, r1⟩ := lw_ovr (hts _ lko_1)
  obtain ⟨d2, a2, r2⟩ := lw_ovr (hts _ lko_2)
  obtain ⟨d3, a3, r3⟩ := lw_ovr (hts _ lko_3)
  obtain ⟨d4, a4, r4⟩ := lw_ovr (hts _ lko_4)
  obtain ⟨d5, a5, r5⟩ := lw_ovr (hts _ lko_5)
  obtain ⟨dA, aA, fA⟩ := lw_ova (hts _ lko_a)
  refine ⟨(fun K => if K = 13 then c6 else if K = 0 then c0 else if K = 1 then c1 else if K = 2 then c2 else if K = 3 then c3 else if K = 4 then c4 else if K = 5 then c5 else if K = 6 then c6 else if K = 7 then c7 else if K = 9 then c9 else if K = 10 then c10 else if K = 11 then c11 else c12, fun K => if K = 13 then i6 else if K = 0 then i0 else if K = 1 then i1 else if K = 2 then i2 else if K = 3 then i3 else if K = 4 then i4 else if K = 5 then i5 else if K = 6 then i6 else if K = 7 then i7 else if K = 9 then i9 else if K = 10 then i10 else if K = 11 then i11 else i12, cI, cB, fun K => if K = 48 then d0 else if K = 49 then d4 else if K = 50 then d1 else if K = 51 then d2 else if K = 52 then d3 else if K = 53 then dA else d5), ⟨?_, ⟨aI, aB⟩, ?_, aA⟩, ⟨fI, fB, fA, hts _ lko_a⟩, ?_, va_Dc.of (hts _ lk_dc), va_Mi.of hmi, ?_⟩
  · intro K hK
    have hK2 : K < 14 ∧ K ≠ 8 := by
      unfold cOb at hK
      rw [Bool.and_eq_true, Bool.not_eq_true'] at hK
      exact ⟨of_decide_eq_true hK.1, of_decide_eq_false hK.2⟩
    rcases (by omega : K = 0 ∨ K = 1 ∨ K = 2 ∨ K = 3 ∨ K = 4 ∨ K = 5 ∨ K = 6 ∨ K = 7 ∨ K = 9 ∨ K = 10 ∨ K = 11 ∨ K = 12 ∨ K = 13) with e | e | e | e | e | e | e | e | e | e | e | e | e <;> subst e
    · exact k0
    · exact k1
    · exact k2
    · exact k3
    · exact k4
    · exact k5
    · exact k6
    · exact k7
    · exact k9
    · exact k10
    · exact k11
    · exact k12
    · exact k6
  · intro K h48 h53
    rcases (by omega : K = 48 ∨ K = 49 ∨ K = 50 ∨ K = 51 ∨ K = 52 ∨ 54 ≤ K) with e | e | e | e | e | e
    · subst e; exact ⟨a0, r0⟩
    · subst e; exact ⟨a4, r4⟩
    · subst e; exact ⟨a1, r1⟩
    · subst e; exact ⟨a2, r2⟩
    · subst e; exact ⟨a3, r3⟩
    · have e1 : cEl K = "java/lang/Object" := by
        unfold cEl
        split <;> first | rfl | omega
      rw [e1]
      show ArrOfT s (if K = 48 then d0 else if K = 49 then d4 else if K = 50 then d1 else if K = 51 then d2 else if K = 52 then d3 else if K = 53 then dA else d5) _ ∧ va_RA s (if K = 48 then d0 else if K = 49 then d4 else if K = 50 then d1 else if K = 51 then d2 else if K = 52 then d3 else if K = 53 then dA else d5) _
      rw [if_neg (by omega), if_neg (by omega), if_neg (by omega), if_neg (by omega), if_neg (by omega), if_neg (by omega)]
      exact ⟨a5, r5⟩
  · refine List.forall_mem_cons.mpr ⟨va_AO.of (hts _ lko_0), List.forall_mem_cons.mpr ⟨va_AO.of (hts _ lko_1), List.forall_mem_cons.mpr ⟨va_AO.of (hts _ lko_2), List.forall_mem_cons.mpr ⟨va_AO.of (hts _ lko_3), List.forall_mem_cons.mpr ⟨va_AO.of (hts _ lko_4), List.forall_mem_cons.mpr ⟨va_AO.of (hts _ lko_5), fun _ h => absurd h List.not_mem_nil⟩⟩⟩⟩⟩⟩
  · refine List.forall_mem_cons.mpr ⟨va_Nw.of rfl (hts _ lkx_0), List.forall_mem_cons.mpr ⟨va_Nw.of rfl (hts _ lkx_1), List.forall_mem_cons.mpr ⟨va_Nw.of rfl (hts _ lkx_2), fun _ h => absurd h List.not_mem_nil⟩⟩⟩
theorem lw_nest {args : Array Value} {s : State} (hts : ∀ w ∈ lwT, w.before args s = true) : cNest s := ⟨List.forall_mem_cons.mpr ⟨va_Nw.of rfl (hts _ lkm_0), List.forall_mem_cons.mpr ⟨va_Nw.of rfl (hts _ lkm_1), List.forall_mem_cons.mpr ⟨va_Nw.of rfl (hts _ lkm_2), List.forall_mem_cons.mpr ⟨va_Nw.of rfl (hts _ lkm_3), List.forall_mem_cons.mpr ⟨va_Nw.of rfl (hts _ lkm_4), List.forall_mem_cons.mpr ⟨va_Nw.of rfl (hts _ lkm_5), List.forall_mem_cons.mpr ⟨va_Nw.of rfl (hts _ lkm_6), List.forall_mem_cons.mpr ⟨va_Nw.of rfl (hts _ lkm_7), List.forall_mem_cons.mpr ⟨va_Nw.of rfl (hts _ lkm_8), List.forall_mem_cons.mpr ⟨va_Nw.of rfl (hts _ lkm_9), List.forall_mem_cons.mpr ⟨va_Nw.of rfl (hts _ lkm_10), List.forall_mem_cons.mpr ⟨va_Nw.of rfl (hts _ lkm_11), List.forall_mem_cons.mpr ⟨va_Nw.of rfl (hts _ lkm_12), List.forall_mem_cons.mpr ⟨va_Nw.of rfl (hts _ lkm_13), List.forall_mem_cons.mpr ⟨va_Nw.of rfl (hts _ lkm_14), List.forall_mem_cons.mpr ⟨va_Nw.of rfl (hts _ lkm_15), fun _ h => absurd h List.not_mem_nil⟩⟩⟩⟩⟩⟩⟩⟩⟩⟩⟩⟩⟩⟩⟩⟩, List.forall_mem_cons.mpr ⟨va_Nw.of rfl (hts _ lkd_0), List.forall_mem_cons.mpr ⟨va_Nw.of rfl (hts _ lkd_1), List.forall_mem_cons.mpr ⟨va_Nw.of rfl (hts _ lkd_2), fun _ h => absurd h List.not_mem_nil⟩⟩⟩⟩
theorem lw_ref {args : Array Value} {s : State} (hts : ∀ w ∈ lwT, w.before args s = true) : ∃ Gm : mG, mK Gm s ∧ (s.vm.findClass ("[" ++ FieldType.int.toString) = some Gm.2.2.1 ∧ s.vm.findClass ("[" ++ FieldType.boolean.toString) = some Gm.2.2.2) := by
  obtain ⟨c12, i12, k12⟩ := u_known (C := RX12) (T := TX12) (N := 92) (n := 92) hts wsX120_L (hts _ lkt_X12)
  obtain ⟨cI, aI, fI⟩ := lw_arr (hts _ lka_int)
  obtain ⟨cB, aB, fB⟩ := lw_arr (hts _ lka_bool)
  exact ⟨(c12, i12, cI, cB), ⟨k12, aI, aB⟩, fI, fB⟩
theorem lw_given {args : Array Value} {s : State} (hgv : (Jvm.Cond.and given_1 narrow_1).before args s = true) : (Cond.isRef (.mirror "[Ljava/lang/Object;")).before args s = true := flat_of_before _ hgv _ (by decide +kernel)
set_option maxHeartbeats 2000000 in
theorem lw_stat {args : Array Value} {s : State} (hts : ∀ w ∈ lwT, w.before args s = true) (hgv : (Jvm.Cond.and given_1 narrow_1).before args s = true) : hcT (fun q => s.heap.size ≤ q) s s.heap := by
  have hs := flat_of_before _ hgv
  have hA : ∀ a : Nat, a < s.heap.size → ¬ (fun q : Nat => s.heap.size ≤ q) a := fun a h => Nat.not_le.mpr h
  have hel : ∀ j : Nat, j < 16 → (Term.elem (.static "CellSwitch" "HEC_STEPS" "[I") (.int (Int32.ofNat j))).eval args s none [] s = some (.int (hc_T j)) := by
    intro j hj
    rcases (by omega : j = 0 ∨ j = 1 ∨ j = 2 ∨ j = 3 ∨ j = 4 ∨ j = 5 ∨ j = 6 ∨ j = 7 ∨ j = 8 ∨ j = 9 ∨ j = 10 ∨ j = 11 ∨ j = 12 ∨ j = 13 ∨ j = 14 ∨ j = 15) with e | e | e | e | e | e | e | e | e | e | e | e | e | e | e | e <;> subst e <;> exact va_eqt (hs _ (by decide +kernel))
  obtain ⟨t, ht, hT⟩ := va_Tof (N := 16) (f := fun j => .int (hc_T j)) (A := fun q => s.heap.size ≤ q) (tm := .static "CellSwitch" "HEC_STEPS" "[I") (ty := .int) (by decide) (hs _ (by decide +kernel)) (va_eqt (z := 16) (hs _ (by decide +kernel))) hel hA
  obtain ⟨t2, ht2, hT2⟩ := va_Tof (N := 0) (f := fun _ => .null) (A := fun q => s.heap.size ≤ q) (tm := .static "java/util/ArrayList" "DEFAULTCAPACITY_EMPTY_ELEMENTDATA" "[Ljava/lang/Object;") (ty := .object "java/lang/Object") (by decide) (hs _ (by decide +kernel)) (va_eqt (z := 0) (hs _ (by decide +kernel))) (fun j hj => absurd hj (by omega)) hA
  exact ⟨⟨t, va_Zref (hts _ lkl_hec) (hts _ lkn_X11) ht hA, hT⟩, t2, va_Zref (hts _ lkl_emp) (hts _ lkn_Jx4a65c) ht2 hA, hT2⟩
