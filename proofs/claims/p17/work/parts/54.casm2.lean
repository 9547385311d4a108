/-! Call.assembler -/
def rm_kassembler (ms : Nat) : Room := { frames := 2, cells := 2, slots := 243 + 0 * ms, locals := 8 + (1 + 11) + 12 }
theorem hd_kassembler : yX1_assembler.cls = cRn 1 ∧ yX1_assembler.cls ≠ "java/lang/invoke/MethodHandle" ∧ yX1_assembler.cls ≠ "java/lang/invoke/VarHandle" ∧ (parseMethodDescriptor yX1_assembler.desc).map (fun d => d.parameters.length) = some 0 := by decide +kernel
set_option maxHeartbeats 4000000 in
set_option maxRecDepth 100000 in
theorem c_kassembler (l : Launch) {G : cG} {Z : cZ} (X : Int) (g : mSt) (i0 : Nat) (sz ms : Nat) (hX : 0 ≤ X ∧ X ≤ 2000000000) (hJ : cJ Z g) (hMz : cMz ms 0 Z g) (hw2 : Z.w 2 + 0 ≤ 1000000) (hal0 : Z.al 1 i0) : Met l yX1_assembler (wk (Cond.code yX1_assembler cX1_assembler 1 (some (.object "CellSwitch$Assembler")))) (rm_kassembler ms) (va_Pc [.ref (Z.ad 1 i0)] (cPreA G Z X g sz)) (kE 2 (243 + 0 * ms) (cAf Z sz) (cQrA G Z X (fun r Z1 g1 => mFr [0, 1, 2, 46, 512] g g1 ∧ cJ Z1 g1 ∧ (∀ s, (g 386 s).toInt ≤ (g1 386 s).toInt ∧ (g1 386 s).toInt ≤ (g 386 s).toInt + 0) ∧ Z1.w 2 ≤ Z.w 2 + 0 ∧ (r = Z1.ad 0 (8 + i0) ∧ Z1.al 0 (8 + i0) ∧ Z1.al 16 (8 + i0))))) 2 (243 + 0 * ms) (cAf Z sz) := by
  refine Met.ofW (cc := cX1_assembler) (maxL := 1) (ret := (some (.object "CellSwitch$Assembler"))) (by decide) rfl ?_
  intro p e s m args below meth c s₁ B hml hv
  obtain ⟨hav, hv⟩ := hv
  have hsz0 := hv.2.1
  subst hsz0
  have hr := B.returns
  have hlocks := B.notSynchronized
  obtain ⟨xa, L⟩ := k_start B rfl (fun w h => wk_in h) hv
  have hent : entryFrame m args 1 = entryFrame m ([.ref (Z.ad 1 i0)] : List Value).toArray 1 := by rw [hav]
  rw [hent]
  have hl := lv_entry ([.ref (Z.ad 1 i0)]) (n := 1) (Nat.le_of_ble_eq_true rfl)
  rw [lg_entry_eq]
  generalize (lg_sl ([.ref (Z.ad 1 i0)]) ++ List.replicate (1 - (lg_sl ([.ref (Z.ad 1 i0)])).length) Slot.unset).toArray = ls at hl ⊢
  have hl : lv_has ls 1 [(0, .ref (Z.ad 1 i0))] := hl
  have x := xa.1
  have xa' := xa
  obtain ⟨⟨hx, hb, hts, hin, hown, hK1, hA, hZ, hh, hne, hAd⟩, hE, hB⟩ := xa'
  have hlt0 := hJ.2.2.2.2.1.1.2.1 _ hal0
  refine lv_aload_n hx hb dX1_assembler_0 rfl (lv_at hl 0 rfl) ?_
  rcases (hJ.2.1 i0 hal0).2.2.2.2 with hc | hc
  · refine c_geto (w := .null) x L 1 i0 14 46 hal0 rfl rfl (by show va_rf (cOpt Z 0 (g 46 i0)) = _; rw [cOpt_none hc]; rfl) (wk_in kf_X1_46) dX1_assembler_1 ?_
    refine lv_ifnonnullN hx hb dX1_assembler_4 ?_
    refine lv_aload_n hx hb dX1_assembler_7 rfl (lv_at hl 0 rfl) ?_
    refine k_new hx hb hts hin hown hK1 0 rfl tyX0 tyX0_ok (wk_in kc_lX1_94) (wk_in kx_X0) (wk_in kn_X0) (show 0 + 1 ≤ 2 by omega) (show 0 + 3 ≤ 243 + 0 * ms by omega) dX1_assembler_8 (fun H1 O1 z1 q1 => ?_)
    refine lv_dup hx hb dX1_assembler_11 rfl ?_
    have hlt : ∀ K i, Z.al K i → Z.ad K i < s.heap.size := fun K i h => L.1.lt h
    refine k_raw (va_runIN (b := s.heap.size) (As := []) (rest := [.ref s.heap.size, .ref (Z.ad 1 i0)]) ⟨hx, hb, hml, hown, hts⟩ (c_kasmInit l (G := G) s.heap.size H1.size) ⟨va_cnB 0 hts (wk_good kd_X0_init) rfl rfl rfl (hne.1 _ (List.mem_of_getElem? (i := 6) rfl)) (hts _ (wk_in kn_X0)) (by decide +kernel) ⟨Nat.le_of_ble_eq_true rfl, Nat.le_of_ble_eq_true rfl⟩, rfl, hts _ (wk_in ki_X0_init)⟩ ⟨fun a U gg mk q => ⟨q.1, ⟨q.2.1.1, cK.moved (Vm.Alike.refl U.vm) q.2.1.2⟩, q.2.2.1, q.2.2.2.moved (Vm.Alike.refl U.vm)⟩, fun U hU hW => ⟨rfl, ⟨by rw [hU]; exact O1, hK1.moved hW.alike⟩, by rw [hU], hE.1.moved hW.alike⟩⟩ rfl rfl hl.1 rfl (lv_room (Nat.le_of_ble_eq_true rfl)) dX1_assembler_12 ⟨show 0 + 1 + 1 ≤ 2 by omega, show 0 + 3 + 240 ≤ 243 + 0 * ms by omega⟩) (fun w st t L0 h0 hq hL0 => ?_)
    obtain ⟨ew, t1, t2, t3, t4⟩ := hq
    cases ew
    rw [h0] at t4
    have hM2 : cH G Z g t.heap := L.1.keep (fun K i h => by
      have := hlt K i h
      rw [t4 _ (by omega) (by omega)]
      exact q1 _ this)
    obtain ⟨v, hvv⟩ := k_sd (8 + i0) (by omega)
    have hv8 : v.toInt = 8 + (i0 : Int) := by omega
    refine k_put (ty := tyX1 14) hx hb hts hin hown hK1 1 (hM2.ob hal0 rfl) 14 rfl rfl (tyX1_ok 14 (by decide)) rfl rfl (wk_in kf_X1_46) dX1_assembler_15 (fun H3 O3 z3 q3 => ?_)
    have hne0 := hlt 1 i0 hal0
    have t1' : t_OB s.heap.size (G.1 0) 3 (G.2.1 0) H3 (aV H1.size) := t1.kept (q3 _ (by omega))
    have t2' : H3[H1.size]? = some (vp_cell G.2.2.1 (240, .inl (fun _ => 0))) := by rw [q3 _ (by omega)]; exact t2
    have hM3 : cH G (zAs Z i0 s.heap.size H1.size) (gAs g i0 v) H3 := hM2.asm hJ hal0 hv8 t1' t2' O3 (fun K i hi h1 _ => q3 _ (fun z => h1 (hA K i 1 i0 hi hal0 z)))
    have hz : cZl Z (zAs Z i0 s.heap.size H1.size) 2 243 := cZl_asm
    have xa1 : cXA p c cX1_assembler s args (wk (Cond.code yX1_assembler cX1_assembler 1 (some (.object "CellSwitch$Assembler")))) m G (zAs Z i0 s.heap.size H1.size) (cAf Z s.heap.size) RX1 s.heap := xa.next (H := s.heap) hz (cAp_asm hA (fun K i h z => by have := hlt K i h; omega) (fun K i h z => by have := hlt K i h; omega) (by omega)) (cSt_asm hZ) (Nat.le_refl _) (fun q h => (cAd_asm h).elim Or.inl (fun z => Or.inr (by omega)))
    have hmem : cAf Z s.heap.size (Z.ad 1 i0) := Or.inl ⟨1, i0, hal0, by decide, rfl⟩
    have L3 : cL G (zAs Z i0 s.heap.size H1.size) (cAf Z s.heap.size) s.heap X (gAs g i0 v) H3 ([] ++ L0 ++ [⟨Z.ad 1 i0, G.2.1 1 14⟩]) := by
      refine ⟨hM3, ⟨by omega, fun q h1 h2 => ?_, fun q hq => ?_⟩, cI_asm L.2.2⟩
      · rw [q3 q (fun z => h2 (by rw [z]; exact hmem)), t4 q (by omega) (by omega), q1 q h1]
      · rcases List.mem_append.mp hq with h | h
        · rcases hL0 q h with z | z
          · exact Or.inr (Nat.le_of_eq z.symm)
          · exact Or.inr (Nat.le_trans (by omega) z)
        · rw [List.mem_singleton.mp h]
          exact hmem
    have e1 : (zAs Z i0 s.heap.size H1.size).ad 1 i0 = Z.ad 1 i0 := asK (by decide)
    rw [← e1] at hl
    refine lv_aload_n hx hb dX1_assembler_18 rfl (lv_at hl 0 rfl) ?_
    have hJ3 : cJ (zAs Z i0 s.heap.size H1.size) (gAs g i0 v) := cJ_asm hJ hv8
    have e46 : gAs g i0 v 46 i0 = v := if_pos ⟨rfl, rfl⟩
    refine c_geto (w := .ref ((zAs Z i0 s.heap.size H1.size).ad 0 (8 + i0))) xa1.1 L3 1 i0 14 46 (Or.inl hal0) rfl rfl (by show va_rf (cOpt _ 0 (gAs g i0 v 46 i0)) = _; rw [e46, cOpt_some (by omega), show v.toInt.toNat = 8 + i0 by omega]; rfl) (wk_in kf_X1_46) dX1_assembler_19 ?_
    exact k_aret xa1 L3 hr (Or.inl ⟨_, rfl⟩) hlocks (Int.le_refl _) (show cZl Z (zAs Z i0 s.heap.size H1.size) (0 + 1 + 1) (0 + 3 + 240) from hz) ⟨mFr_asm, hJ3, fun q => by rw [mFr_asm (g := g) (c := i0) (v := v) 386 (by decide)]; omega, Nat.le_refl _, rfl, Or.inr ⟨Or.inl rfl, rfl⟩, Or.inr ⟨Or.inr rfl, rfl⟩⟩ (by omega) (by omega) dX1_assembler_22
  · have e0 : cOpt Z 0 (g 46 i0) = some (Z.ad 0 (8 + i0)) := by rw [cOpt_some (by omega), show (g 46 i0).toInt.toNat = 8 + i0 by omega]
    refine c_geto (w := .ref (Z.ad 0 (8 + i0))) x L 1 i0 14 46 hal0 rfl rfl (by show va_rf (cOpt Z 0 (g 46 i0)) = _; rw [e0]; rfl) (wk_in kf_X1_46) dX1_assembler_1 ?_
    refine lv_ifnonnull (tgt := 18) hx hb dX1_assembler_4 (by decide) ?_
    refine lv_aload_n hx hb dX1_assembler_18 rfl (lv_at hl 0 rfl) ?_
    refine c_geto (w := .ref (Z.ad 0 (8 + i0))) x L 1 i0 14 46 hal0 rfl rfl (by show va_rf (cOpt Z 0 (g 46 i0)) = _; rw [e0]; rfl) (wk_in kf_X1_46) dX1_assembler_19 ?_
    exact k_aret xa L hr (Or.inl ⟨_, rfl⟩) hlocks (Int.le_refl _) cZl.rf ⟨fun _ _ => rfl, hJ, fun q => by omega, Nat.le_refl _, rfl, hc.2.1, hc.2.2⟩ (Nat.zero_le _) (Nat.zero_le _) dX1_assembler_22
