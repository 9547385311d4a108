section LawCases
variable {p : Program} {l : Launch} {e : Env} {s : State} {m : MethodId} {below : List Frame} {meth : Method} {c : Code} {H : Heap} {locs : List Loc} {Q : State → Prop}
variable {ls : Array Slot} {G : cG} {Gm : mG} {h0 : Nat} {ad : Nat → Nat} {Z : cZ} {g gm : mSt} {A : Nat → Prop} {b L0 : Nat} {xs : Nat → Int32} {nn : Int} {K : Nat} {i : Int32}
set_option maxHeartbeats 2000000 in
/-- byteOf -/
theorem lw_case10 (I : lwI p c s m G Gm A h0 ad b L0 xs nn K i ls Z g gm H locs) (kk : lwE p l e c s m below meth G Gm A h0 ad b nn K ls Z Q) : W p l e room_1 s m #[Value.ref b] below meth c H locs (392 + Z.w 0) (307970 + Z.w 1) Q (F0 m 506 ls []) := by
  obtain ⟨x, hml, L, hJ, hMI, hm, hmJ, hKm, hnn, hK, ⟨hX, hbl, hbA⟩, ⟨hl, hT⟩, hin⟩ := I
  have hx := x.1.1
  have hb := x.1.2.1
  have hrm := hMI.rm hJ (by omega)
  have hcs : 392 + Z.w 0 ≤ 600000 ∧ 307970 + Z.w 1 ≤ 7302250 := ⟨by have := hrm.2.1; omega, by have := hrm.2.2.1; omega⟩
  have hal : Z.al 11 0 := x.1.2.2.2.2.2.2.2.1.2 11 0 (show 0 < 1 by decide)
  refine lv_aload_n hx hb d_law_506 rfl (lv_at hl 1 rfl) ?_
  refine lw_arg (j := 1) hx hb hX hbl hbA L.2.1 hl d_law_507 d_law_508 d_law_509 (by decide) d_law_510 d_law_511 (hin 1 (by decide) (by decide)) ?_
  refine lw_arg (j := 2) hx hb hX hbl hbA L.2.1 hl d_law_512 d_law_513 d_law_514 (by decide) d_law_515 d_law_516 (hin 2 (by decide) (by decide)) ?_
  refine lw_arg (j := 3) hx hb hX hbl hbA L.2.1 hl d_law_517 d_law_518 d_law_519 (by decide) d_law_520 d_law_521 (hin 3 (by decide) (by decide)) ?_
  refine lw_c (As := [.int (xs (i + 1).toNatClampNeg), .int (xs (i + 2).toNatClampNeg), .int (xs (i + 3).toNatClampNeg)]) (rest := []) x hml L hm (c_kbyteOf l (848000 * (K : Int)) g 0 (xs (i + 1).toNatClampNeg) (xs (i + 2).toNatClampNeg) (xs (i + 3).toNatClampNeg) ⟨by omega, by omega⟩  hal) (lwT_C kd_X11_byteOf lk_65 lki_65 lks_65) rfl ⟨rfl, rfl⟩ hd_kbyteOf ⟨Nat.le_of_ble_eq_true rfl, Nat.le_of_ble_eq_true rfl⟩ rfl hl.1 rfl (lv_room (Nat.le_of_ble_eq_true rfl)) d_law_522 hcs (fun r g1 H1 locs1 hp L hm => ?_)
  have hMI1 : MI (K + 1) Z g1 := hMI.no hp.1 rfl ⟨by decide, by decide⟩
  have hJ1 : cJ Z g1 := cJ_fr hJ hp.1 rfl
  refine lv_pop hx hb d_law_525 rfl ?_
  refine lv_aload_n hx hb d_law_526 rfl (lv_at hl 2 rfl) ?_
  refine lw_arg (j := 1) hx hb hX hbl hbA L.2.1 hl d_law_527 d_law_528 d_law_529 (by decide) d_law_530 d_law_531 (hin 1 (by decide) (by decide)) ?_
  refine lw_arg (j := 2) hx hb hX hbl hbA L.2.1 hl d_law_532 d_law_533 d_law_534 (by decide) d_law_535 d_law_536 (hin 2 (by decide) (by decide)) ?_
  refine lw_arg (j := 3) hx hb hX hbl hbA L.2.1 hl d_law_537 d_law_538 d_law_539 (by decide) d_law_540 d_law_541 (hin 3 (by decide) (by decide)) ?_
  refine lw_m (As := [.int (xs (i + 1).toNatClampNeg), .int (xs (i + 2).toNatClampNeg), .int (xs (i + 3).toNatClampNeg)]) (rest := []) x hml L hm hKm (c_byteOf l nn (84800 * (K : Int)) gm (xs (i + 1).toNatClampNeg) (xs (i + 2).toNatClampNeg) (xs (i + 3).toNatClampNeg) hnn ⟨by omega, by omega⟩ ) (lwT_M uc_byteOf lk_68 lki_68 lks_68) rfl ⟨rfl, rfl⟩ hd_byteOf ⟨Nat.le_of_ble_eq_true rfl, Nat.le_of_ble_eq_true rfl⟩ rfl hl.1 rfl (lv_room (Nat.le_of_ble_eq_true rfl)) d_law_542 hcs (fun r2 gm1 H2 locs2 hp2 L hm => ?_)
  refine lv_pop hx hb d_law_545 rfl ?_
  refine lv_goto (tgt := 846) hx hb d_law_546 (by decide) ?_
  exact kk Z g1 gm1 H2 locs2 x ⟨L.1, L.2.1, L.2.2.mono (by omega)⟩ hJ1 hMI1 ⟨hm.1, hm.2.1.mono (by omega), hm.2.2⟩ (mJ_fr hmJ hp2.1 rfl) rfl (hT.fr rfl (cDm_fr hp.1 (by decide)) (rDm_fr hp2.1 rfl rfl))
set_option maxHeartbeats 2000000 in
/-- link -/
theorem lw_case11 (I : lwI p c s m G Gm A h0 ad b L0 xs nn K i ls Z g gm H locs) (kk : lwE p l e c s m below meth G Gm A h0 ad b nn K ls Z Q) : W p l e room_1 s m #[Value.ref b] below meth c H locs (392 + Z.w 0) (307970 + Z.w 1) Q (F0 m 549 ls []) := by
  obtain ⟨x, hml, L, hJ, hMI, hm, hmJ, hKm, hnn, hK, ⟨hX, hbl, hbA⟩, ⟨hl, hT⟩, hin⟩ := I
  have hx := x.1.1
  have hb := x.1.2.1
  have hrm := hMI.rm hJ (by omega)
  have hcs : 392 + Z.w 0 ≤ 600000 ∧ 307970 + Z.w 1 ≤ 7302250 := ⟨by have := hrm.2.1; omega, by have := hrm.2.2.1; omega⟩
  have hal : Z.al 11 0 := x.1.2.2.2.2.2.2.2.1.2 11 0 (show 0 < 1 by decide)
  refine lv_aload_n hx hb d_law_549 rfl (lv_at hl 1 rfl) ?_
  refine lw_arg (j := 1) hx hb hX hbl hbA L.2.1 hl d_law_550 d_law_551 d_law_552 (by decide) d_law_553 d_law_554 (hin 1 (by decide) (by decide)) ?_
  refine lw_arg (j := 2) hx hb hX hbl hbA L.2.1 hl d_law_555 d_law_556 d_law_557 (by decide) d_law_558 d_law_559 (hin 2 (by decide) (by decide)) ?_
  refine lw_arg (j := 3) hx hb hX hbl hbA L.2.1 hl d_law_560 d_law_561 d_law_562 (by decide) d_law_563 d_law_564 (hin 3 (by decide) (by decide)) ?_
  refine lw_c (As := [.int (xs (i + 1).toNatClampNeg), .int (xs (i + 2).toNatClampNeg), .int (xs (i + 3).toNatClampNeg)]) (rest := []) x hml L hm (c_klink l (848000 * (K : Int)) g 0 (xs (i + 1).toNatClampNeg) (xs (i + 2).toNatClampNeg) (xs (i + 3).toNatClampNeg) ⟨by omega, by omega⟩ hJ hal) (lwT_C kd_X11_link lk_69 lki_69 lks_69) rfl ⟨rfl, rfl⟩ hd_klink ⟨Nat.le_of_ble_eq_true rfl, Nat.le_of_ble_eq_true rfl⟩ rfl hl.1 rfl (lv_room (Nat.le_of_ble_eq_true rfl)) d_law_565 hcs (fun r g1 H1 locs1 hp L hm => ?_)
  have hMI1 : MI (K + 1) Z g1 := hMI.no hp.1 rfl ⟨by decide, by decide⟩
  have hJ1 : cJ Z g1 := hp.2.2.1
  refine lv_pop hx hb d_law_568 rfl ?_
  refine lv_aload_n hx hb d_law_569 rfl (lv_at hl 2 rfl) ?_
  refine lw_arg (j := 1) hx hb hX hbl hbA L.2.1 hl d_law_570 d_law_571 d_law_572 (by decide) d_law_573 d_law_574 (hin 1 (by decide) (by decide)) ?_
  refine lw_arg (j := 2) hx hb hX hbl hbA L.2.1 hl d_law_575 d_law_576 d_law_577 (by decide) d_law_578 d_law_579 (hin 2 (by decide) (by decide)) ?_
  refine lw_arg (j := 3) hx hb hX hbl hbA L.2.1 hl d_law_580 d_law_581 d_law_582 (by decide) d_law_583 d_law_584 (hin 3 (by decide) (by decide)) ?_
  refine lw_m (As := [.int (xs (i + 1).toNatClampNeg), .int (xs (i + 2).toNatClampNeg), .int (xs (i + 3).toNatClampNeg)]) (rest := []) x hml L hm hKm (c_link l nn (84800 * (K : Int)) gm (xs (i + 1).toNatClampNeg) (xs (i + 2).toNatClampNeg) (xs (i + 3).toNatClampNeg) hnn ⟨by omega, by omega⟩ ) (lwT_M uc_link lk_72 lki_72 lks_72) rfl ⟨rfl, rfl⟩ hd_link ⟨Nat.le_of_ble_eq_true rfl, Nat.le_of_ble_eq_true rfl⟩ rfl hl.1 rfl (lv_room (Nat.le_of_ble_eq_true rfl)) d_law_585 hcs (fun r2 gm1 H2 locs2 hp2 L hm => ?_)
  refine lv_pop hx hb d_law_588 rfl ?_
  refine lv_goto (tgt := 846) hx hb d_law_589 (by decide) ?_
  exact kk Z g1 gm1 H2 locs2 x ⟨L.1, L.2.1, L.2.2.mono (by omega)⟩ hJ1 hMI1 ⟨hm.1, hm.2.1.mono (by omega), hm.2.2⟩ (mJ_fr hmJ hp2.1 rfl) rfl (hT.fr rfl (cDm_fr hp.1 (by decide)) (rDm_fr hp2.1 rfl rfl))
set_option maxHeartbeats 2000000 in
/-- line -/
theorem lw_case12 (I : lwI p c s m G Gm A h0 ad b L0 xs nn K i ls Z g gm H locs) (kk : lwE p l e c s m below meth G Gm A h0 ad b nn K ls Z Q) : W p l e room_1 s m #[Value.ref b] below meth c H locs (392 + Z.w 0) (307970 + Z.w 1) Q (F0 m 592 ls []) := by
  obtain ⟨x, hml, L, hJ, hMI, hm, hmJ, hKm, hnn, hK, ⟨hX, hbl, hbA⟩, ⟨hl, hT⟩, hin⟩ := I
  have hx := x.1.1
  have hb := x.1.2.1
  have hrm := hMI.rm hJ (by omega)
  have hcs : 392 + Z.w 0 ≤ 600000 ∧ 307970 + Z.w 1 ≤ 7302250 := ⟨by have := hrm.2.1; omega, by have := hrm.2.2.1; omega⟩
  have hal : Z.al 11 0 := x.1.2.2.2.2.2.2.2.1.2 11 0 (show 0 < 1 by decide)
  refine lv_aload_n hx hb d_law_592 rfl (lv_at hl 1 rfl) ?_
  refine lw_arg (j := 1) hx hb hX hbl hbA L.2.1 hl d_law_593 d_law_594 d_law_595 (by decide) d_law_596 d_law_597 (hin 1 (by decide) (by decide)) ?_
  refine lw_arg (j := 2) hx hb hX hbl hbA L.2.1 hl d_law_598 d_law_599 d_law_600 (by decide) d_law_601 d_law_602 (hin 2 (by decide) (by decide)) ?_
  refine lw_c (As := [.int (xs (i + 1).toNatClampNeg), .int (xs (i + 2).toNatClampNeg)]) (rest := []) x hml L hm (c_kline l (848000 * (K : Int)) g 0 (xs (i + 1).toNatClampNeg) (xs (i + 2).toNatClampNeg) ⟨by omega, by omega⟩ hJ hal) (lwT_C kd_X11_line lk_73 lki_73 lks_73) rfl ⟨rfl, rfl⟩ hd_kline ⟨Nat.le_of_ble_eq_true rfl, Nat.le_of_ble_eq_true rfl⟩ rfl hl.1 rfl (lv_room (Nat.le_of_ble_eq_true rfl)) d_law_603 hcs (fun r g1 H1 locs1 hp L hm => ?_)
  have hMI1 : MI (K + 1) Z g1 := hMI.no hp.1 rfl ⟨by decide, by decide⟩
  have hJ1 : cJ Z g1 := hp.2.2.1
  refine lv_pop hx hb d_law_606 rfl ?_
  refine lv_aload_n hx hb d_law_607 rfl (lv_at hl 2 rfl) ?_
  refine lw_arg (j := 1) hx hb hX hbl hbA L.2.1 hl d_law_608 d_law_609 d_law_610 (by decide) d_law_611 d_law_612 (hin 1 (by decide) (by decide)) ?_
  refine lw_arg (j := 2) hx hb hX hbl hbA L.2.1 hl d_law_613 d_law_614 d_law_615 (by decide) d_law_616 d_law_617 (hin 2 (by decide) (by decide)) ?_
  refine lw_m (As := [.int (xs (i + 1).toNatClampNeg), .int (xs (i + 2).toNatClampNeg)]) (rest := []) x hml L hm hKm (c_line l nn (84800 * (K : Int)) gm (xs (i + 1).toNatClampNeg) (xs (i + 2).toNatClampNeg) hnn ⟨by omega, by omega⟩ ) (lwT_M uc_line lk_76 lki_76 lks_76) rfl ⟨rfl, rfl⟩ hd_line ⟨Nat.le_of_ble_eq_true rfl, Nat.le_of_ble_eq_true rfl⟩ rfl hl.1 rfl (lv_room (Nat.le_of_ble_eq_true rfl)) d_law_618 hcs (fun r2 gm1 H2 locs2 hp2 L hm => ?_)
  refine lv_pop hx hb d_law_621 rfl ?_
  refine lv_goto (tgt := 846) hx hb d_law_622 (by decide) ?_
  exact kk Z g1 gm1 H2 locs2 x ⟨L.1, L.2.1, L.2.2.mono (by omega)⟩ hJ1 hMI1 ⟨hm.1, hm.2.1.mono (by omega), hm.2.2⟩ (mJ_fr hmJ hp2.1 rfl) rfl (hT.fr rfl (cDm_fr hp.1 (by decide)) (rDm_fr hp2.1 rfl rfl))
set_option maxHeartbeats 2000000 in
/-- reset -/
theorem lw_case13 (I : lwI p c s m G Gm A h0 ad b L0 xs nn K i ls Z g gm H locs) (kk : lwE p l e c s m below meth G Gm A h0 ad b nn K ls Z Q) : W p l e room_1 s m #[Value.ref b] below meth c H locs (392 + Z.w 0) (307970 + Z.w 1) Q (F0 m 625 ls []) := by
  obtain ⟨x, hml, L, hJ, hMI, hm, hmJ, hKm, hnn, hK, ⟨hX, hbl, hbA⟩, ⟨hl, hT⟩, hin⟩ := I
  have hx := x.1.1
  have hb := x.1.2.1
  have hrm := hMI.rm hJ (by omega)
  have hcs : 392 + Z.w 0 ≤ 600000 ∧ 307970 + Z.w 1 ≤ 7302250 := ⟨by have := hrm.2.1; omega, by have := hrm.2.2.1; omega⟩
  have hal : Z.al 11 0 := x.1.2.2.2.2.2.2.2.1.2 11 0 (show 0 < 1 by decide)
  refine lv_aload_n hx hb d_law_625 rfl (lv_at hl 1 rfl) ?_
  refine lw_arg (j := 1) hx hb hX hbl hbA L.2.1 hl d_law_626 d_law_627 d_law_628 (by decide) d_law_629 d_law_630 (hin 1 (by decide) (by decide)) ?_
  refine lw_c (As := [.int (xs (i + 1).toNatClampNeg)]) (rest := []) x hml L hm (d_kreset l (848000 * (K : Int)) g 0 (xs (i + 1).toNatClampNeg) ⟨by omega, by omega⟩  hal (Φ := fun _ g1 => MI (K + 1) Z g1) (i_reset hMI hJ (fun _ _ h => h))) (lwT_C kd_X11_reset lk_77 lki_77 lks_77) rfl ⟨rfl, rfl⟩ hd_kreset ⟨Nat.le_of_ble_eq_true rfl, Nat.le_of_ble_eq_true rfl⟩ rfl hl.1 rfl (lv_room (Nat.le_of_ble_eq_true rfl)) d_law_631 hcs (fun r g1 H1 locs1 hp L hm => ?_)
  have hMI1 : MI (K + 1) Z g1 := hp.1
  have hJ1 : cJ Z g1 := cJ_fr hJ hp.2.2.1 rfl
  refine lv_pop hx hb d_law_634 rfl ?_
  refine lv_aload_n hx hb d_law_635 rfl (lv_at hl 2 rfl) ?_
  refine lw_arg (j := 1) hx hb hX hbl hbA L.2.1 hl d_law_636 d_law_637 d_law_638 (by decide) d_law_639 d_law_640 (hin 1 (by decide) (by decide)) ?_
  refine lw_m (As := [.int (xs (i + 1).toNatClampNeg)]) (rest := []) x hml L hm hKm (c_reset l nn (84800 * (K : Int)) gm (xs (i + 1).toNatClampNeg) hnn ⟨by omega, by omega⟩ ) (lwT_M uc_reset lk_80 lki_80 lks_80) rfl ⟨rfl, rfl⟩ hd_reset ⟨Nat.le_of_ble_eq_true rfl, Nat.le_of_ble_eq_true rfl⟩ rfl hl.1 rfl (lv_room (Nat.le_of_ble_eq_true rfl)) d_law_641 hcs (fun r2 gm1 H2 locs2 hp2 L hm => ?_)
  refine lv_pop hx hb d_law_644 rfl ?_
  refine lv_goto (tgt := 846) hx hb d_law_645 (by decide) ?_
  exact kk Z g1 gm1 H2 locs2 x ⟨L.1, L.2.1, L.2.2.mono (by omega)⟩ hJ1 hMI1 ⟨hm.1, hm.2.1.mono (by omega), hm.2.2⟩ (mJ_fr hmJ hp2.1 rfl) rfl (hT.fr rfl (cDm_fr hp.2.2.1 (by decide)) (rDm_fr hp2.1 rfl rfl))
set_option maxHeartbeats 2000000 in
/-- quit -/
theorem lw_case14 (I : lwI p c s m G Gm A h0 ad b L0 xs nn K i ls Z g gm H locs) (kk : lwE p l e c s m below meth G Gm A h0 ad b nn K ls Z Q) : W p l e room_1 s m #[Value.ref b] below meth c H locs (392 + Z.w 0) (307970 + Z.w 1) Q (F0 m 648 ls []) := by
  obtain ⟨x, hml, L, hJ, hMI, hm, hmJ, hKm, hnn, hK, ⟨hX, hbl, hbA⟩, ⟨hl, hT⟩, hin⟩ := I
  have hx := x.1.1
  have hb := x.1.2.1
  have hrm := hMI.rm hJ (by omega)
  have hcs : 392 + Z.w 0 ≤ 600000 ∧ 307970 + Z.w 1 ≤ 7302250 := ⟨by have := hrm.2.1; omega, by have := hrm.2.2.1; omega⟩
  have hal : Z.al 11 0 := x.1.2.2.2.2.2.2.2.1.2 11 0 (show 0 < 1 by decide)
  refine lv_aload_n hx hb d_law_648 rfl (lv_at hl 1 rfl) ?_
  refine lw_arg (j := 1) hx hb hX hbl hbA L.2.1 hl d_law_649 d_law_650 d_law_651 (by decide) d_law_652 d_law_653 (hin 1 (by decide) (by decide)) ?_
  refine lw_c (As := [.int (xs (i + 1).toNatClampNeg)]) (rest := []) x hml L hm (d_kquit l (848000 * (K : Int)) g 0 (xs (i + 1).toNatClampNeg) ⟨by omega, by omega⟩ hJ hal (Φ := fun _ g1 => MI (K + 1) Z g1) (i_quit hMI hJ hK (fun _ _ h => h))) (lwT_C kd_X11_quit lk_81 lki_81 lks_81) rfl ⟨rfl, rfl⟩ hd_kquit ⟨Nat.le_of_ble_eq_true rfl, Nat.le_of_ble_eq_true rfl⟩ rfl hl.1 rfl (lv_room (Nat.le_of_ble_eq_true rfl)) d_law_654 hcs (fun r g1 H1 locs1 hp L hm => ?_)
  have hMI1 : MI (K + 1) Z g1 := hp.1
  have hJ1 : cJ Z g1 := hp.2.2.2.2.1
  refine lv_pop hx hb d_law_657 rfl ?_
  refine lv_aload_n hx hb d_law_658 rfl (lv_at hl 2 rfl) ?_
  refine lw_arg (j := 1) hx hb hX hbl hbA L.2.1 hl d_law_659 d_law_660 d_law_661 (by decide) d_law_662 d_law_663 (hin 1 (by decide) (by decide)) ?_
  refine lw_m (As := [.int (xs (i + 1).toNatClampNeg)]) (rest := []) x hml L hm hKm (c_quit l nn (84800 * (K : Int)) gm (xs (i + 1).toNatClampNeg) hnn ⟨by omega, by omega⟩ hmJ) (lwT_M uc_quit lk_84 lki_84 lks_84) rfl ⟨rfl, rfl⟩ hd_quit ⟨Nat.le_of_ble_eq_true rfl, Nat.le_of_ble_eq_true rfl⟩ rfl hl.1 rfl (lv_room (Nat.le_of_ble_eq_true rfl)) d_law_664 hcs (fun r2 gm1 H2 locs2 hp2 L hm => ?_)
  refine lv_pop hx hb d_law_667 rfl ?_
  refine lv_goto (tgt := 846) hx hb d_law_668 (by decide) ?_
  exact kk Z g1 gm1 H2 locs2 x ⟨L.1, L.2.1, L.2.2.mono (by omega)⟩ hJ1 hMI1 ⟨hm.1, hm.2.1.mono (by omega), hm.2.2⟩ (hp2.2.2.1) rfl (hT.fr rfl (cDm_fr hp.2.2.1 (by decide)) (rDm_fr hp2.1 rfl rfl))
set_option maxHeartbeats 2000000 in
/-- damage -/
theorem lw_case15 (I : lwI p c s m G Gm A h0 ad b L0 xs nn K i ls Z g gm H locs) (kk : lwE p l e c s m below meth G Gm A h0 ad b nn K ls Z Q) : W p l e room_1 s m #[Value.ref b] below meth c H locs (392 + Z.w 0) (307970 + Z.w 1) Q (F0 m 671 ls []) := by
  obtain ⟨x, hml, L, hJ, hMI, hm, hmJ, hKm, hnn, hK, ⟨hX, hbl, hbA⟩, ⟨hl, hT⟩, hin⟩ := I
  have hx := x.1.1
  have hb := x.1.2.1
  have hrm := hMI.rm hJ (by omega)
  have hcs : 392 + Z.w 0 ≤ 600000 ∧ 307970 + Z.w 1 ≤ 7302250 := ⟨by have := hrm.2.1; omega, by have := hrm.2.2.1; omega⟩
  have hal : Z.al 11 0 := x.1.2.2.2.2.2.2.2.1.2 11 0 (show 0 < 1 by decide)
  refine lv_aload_n hx hb d_law_671 rfl (lv_at hl 1 rfl) ?_
  refine lw_arg (j := 1) hx hb hX hbl hbA L.2.1 hl d_law_672 d_law_673 d_law_674 (by decide) d_law_675 d_law_676 (hin 1 (by decide) (by decide)) ?_
  refine lw_arg (j := 2) hx hb hX hbl hbA L.2.1 hl d_law_677 d_law_678 d_law_679 (by decide) d_law_680 d_law_681 (hin 2 (by decide) (by decide)) ?_
  refine lw_arg (j := 3) hx hb hX hbl hbA L.2.1 hl d_law_682 d_law_683 d_law_684 (by decide) d_law_685 d_law_686 (hin 3 (by decide) (by decide)) ?_
  refine lw_arg (j := 4) hx hb hX hbl hbA L.2.1 hl d_law_687 d_law_688 d_law_689 (by decide) d_law_690 d_law_691 (hin 4 (by decide) (by decide)) ?_
  refine lw_arg (j := 5) hx hb hX hbl hbA L.2.1 hl d_law_692 d_law_693 d_law_694 (by decide) d_law_695 d_law_696 (hin 5 (by decide) (by decide)) ?_
  refine lw_c (As := [.int (xs (i + 1).toNatClampNeg), .int (xs (i + 2).toNatClampNeg), .int (xs (i + 3).toNatClampNeg), .int (xs (i + 4).toNatClampNeg), .int (xs (i + 5).toNatClampNeg)]) (rest := []) x hml L hm (d_kdamage l (848000 * (K : Int)) g 0 (xs (i + 1).toNatClampNeg) (xs (i + 2).toNatClampNeg) (xs (i + 3).toNatClampNeg) (xs (i + 4).toNatClampNeg) (xs (i + 5).toNatClampNeg) ⟨by omega, by omega⟩ hJ hal (Φ := fun r g1 => MI (K + 1) Z g1 ∧ dmA (Z.n : Int) (xs (i + 1).toNatClampNeg) (xs (i + 2).toNatClampNeg) (xs (i + 3).toNatClampNeg) (xs (i + 4).toNatClampNeg) (xs (i + 5).toNatClampNeg) (cDm g) (cDm g1) r) (i_damageD hMI hJ)) (lwT_C kd_X11_damage lk_85 lki_85 lks_85) rfl ⟨rfl, rfl⟩ hd_kdamage ⟨Nat.le_of_ble_eq_true rfl, Nat.le_of_ble_eq_true rfl⟩ rfl hl.1 rfl (lv_room (Nat.le_of_ble_eq_true rfl)) d_law_697 hcs (fun r g1 H1 locs1 hp L hm => ?_)
  have hMI1 : MI (K + 1) Z g1 := hp.1.1
  have hJ1 : cJ Z g1 := hp.2.2.2.2.1
  refine lv_aload_n hx hb d_law_700 rfl (lv_at hl 2 rfl) ?_
  refine lw_arg (j := 1) hx hb hX hbl hbA L.2.1 hl d_law_701 d_law_702 d_law_703 (by decide) d_law_704 d_law_705 (hin 1 (by decide) (by decide)) ?_
  refine lw_arg (j := 2) hx hb hX hbl hbA L.2.1 hl d_law_706 d_law_707 d_law_708 (by decide) d_law_709 d_law_710 (hin 2 (by decide) (by decide)) ?_
  refine lw_arg (j := 3) hx hb hX hbl hbA L.2.1 hl d_law_711 d_law_712 d_law_713 (by decide) d_law_714 d_law_715 (hin 3 (by decide) (by decide)) ?_
  refine lw_arg (j := 4) hx hb hX hbl hbA L.2.1 hl d_law_716 d_law_717 d_law_718 (by decide) d_law_719 d_law_720 (hin 4 (by decide) (by decide)) ?_
  refine lw_arg (j := 5) hx hb hX hbl hbA L.2.1 hl d_law_721 d_law_722 d_law_723 (by decide) d_law_724 d_law_725 (hin 5 (by decide) (by decide)) ?_
  refine lw_m (As := [.int (xs (i + 1).toNatClampNeg), .int (xs (i + 2).toNatClampNeg), .int (xs (i + 3).toNatClampNeg), .int (xs (i + 4).toNatClampNeg), .int (xs (i + 5).toNatClampNeg)]) (rest := [.int r]) x hml L hm hKm (cD_damage l nn (84800 * (K : Int)) gm (xs (i + 1).toNatClampNeg) (xs (i + 2).toNatClampNeg) (xs (i + 3).toNatClampNeg) (xs (i + 4).toNatClampNeg) (xs (i + 5).toNatClampNeg) hnn ⟨by omega, by omega⟩ hmJ) (lwT_M uc_damage lk_88 lki_88 lks_88) rfl ⟨rfl, rfl⟩ hd_damage ⟨Nat.le_of_ble_eq_true rfl, Nat.le_of_ble_eq_true rfl⟩ rfl hl.1 rfl (lv_room (Nat.le_of_ble_eq_true rfl)) d_law_726 hcs (fun r2 gm1 H2 locs2 hp2 L hm => ?_)
  refine lv_icmp_eq (tgt := 846) hx hb d_law_729 (by decide) (fun _ => ?_) (fun z => absurd (hT.dm hp.1.2 hp2.2.2.2).1 z)
  exact kk Z g1 gm1 H2 locs2 x ⟨L.1, L.2.1, L.2.2.mono (by omega)⟩ hJ1 hMI1 ⟨hm.1, hm.2.1.mono (by omega), hm.2.2⟩ (hp2.2.2.1) rfl (hT.dm hp.1.2 hp2.2.2.2).2
set_option maxHeartbeats 2000000 in
/-- direction -/
theorem lw_case16 (I : lwI p c s m G Gm A h0 ad b L0 xs nn K i ls Z g gm H locs) (kk : lwE p l e c s m below meth G Gm A h0 ad b nn K ls Z Q) : W p l e room_1 s m #[Value.ref b] below meth c H locs (392 + Z.w 0) (307970 + Z.w 1) Q (F0 m 734 ls []) := by
  obtain ⟨x, hml, L, hJ, hMI, hm, hmJ, hKm, hnn, hK, ⟨hX, hbl, hbA⟩, ⟨hl, hT⟩, hin⟩ := I
  have hx := x.1.1
  have hb := x.1.2.1
  have hrm := hMI.rm hJ (by omega)
  have hcs : 392 + Z.w 0 ≤ 600000 ∧ 307970 + Z.w 1 ≤ 7302250 := ⟨by have := hrm.2.1; omega, by have := hrm.2.2.1; omega⟩
  have hal : Z.al 11 0 := x.1.2.2.2.2.2.2.2.1.2 11 0 (show 0 < 1 by decide)
  refine lv_aload_n hx hb d_law_734 rfl (lv_at hl 1 rfl) ?_
  refine lw_arg (j := 1) hx hb hX hbl hbA L.2.1 hl d_law_735 d_law_736 d_law_737 (by decide) d_law_738 d_law_739 (hin 1 (by decide) (by decide)) ?_
  refine lw_arg (j := 2) hx hb hX hbl hbA L.2.1 hl d_law_740 d_law_741 d_law_742 (by decide) d_law_743 d_law_744 (hin 2 (by decide) (by decide)) ?_
  refine lw_c (As := [.int (xs (i + 1).toNatClampNeg), .int (xs (i + 2).toNatClampNeg)]) (rest := []) x hml L hm (c_kdirection l (848000 * (K : Int)) g 0 (xs (i + 1).toNatClampNeg) (xs (i + 2).toNatClampNeg) ⟨by omega, by omega⟩  hal) (lwT_C kd_X11_direction lk_89 lki_89 lks_89) rfl ⟨rfl, rfl⟩ hd_kdirection ⟨Nat.le_of_ble_eq_true rfl, Nat.le_of_ble_eq_true rfl⟩ rfl hl.1 rfl (lv_room (Nat.le_of_ble_eq_true rfl)) d_law_745 hcs (fun r g1 H1 locs1 hp L hm => ?_)
  have hMI1 : MI (K + 1) Z g1 := hMI.no hp.1 rfl ⟨by decide, by decide⟩
  have hJ1 : cJ Z g1 := cJ_fr hJ hp.1 rfl
  refine lv_pop hx hb d_law_748 rfl ?_
  refine lv_aload_n hx hb d_law_749 rfl (lv_at hl 2 rfl) ?_
  refine lw_arg (j := 1) hx hb hX hbl hbA L.2.1 hl d_law_750 d_law_751 d_law_752 (by decide) d_law_753 d_law_754 (hin 1 (by decide) (by decide)) ?_
  refine lw_arg (j := 2) hx hb hX hbl hbA L.2.1 hl d_law_755 d_law_756 d_law_757 (by decide) d_law_758 d_law_759 (hin 2 (by decide) (by decide)) ?_
  refine lw_m (As := [.int (xs (i + 1).toNatClampNeg), .int (xs (i + 2).toNatClampNeg)]) (rest := []) x hml L hm hKm (c_direction l nn (84800 * (K : Int)) gm (xs (i + 1).toNatClampNeg) (xs (i + 2).toNatClampNeg) hnn ⟨by omega, by omega⟩ ) (lwT_M uc_direction lk_92 lki_92 lks_92) rfl ⟨rfl, rfl⟩ hd_direction ⟨Nat.le_of_ble_eq_true rfl, Nat.le_of_ble_eq_true rfl⟩ rfl hl.1 rfl (lv_room (Nat.le_of_ble_eq_true rfl)) d_law_760 hcs (fun r2 gm1 H2 locs2 hp2 L hm => ?_)
  refine lv_pop hx hb d_law_763 rfl ?_
  refine lv_goto (tgt := 846) hx hb d_law_764 (by decide) ?_
  exact kk Z g1 gm1 H2 locs2 x ⟨L.1, L.2.1, L.2.2.mono (by omega)⟩ hJ1 hMI1 ⟨hm.1, hm.2.1.mono (by omega), hm.2.2⟩ (mJ_fr hmJ hp2.1 rfl) rfl (hT.fr rfl (cDm_fr hp.1 (by decide)) (rDm_fr hp2.1 rfl rfl))
set_option maxHeartbeats 2000000 in
/-- header -/
theorem lw_case17 (I : lwI p c s m G Gm A h0 ad b L0 xs nn K i ls Z g gm H locs) (kk : lwE p l e c s m below meth G Gm A h0 ad b nn K ls Z Q) : W p l e room_1 s m #[Value.ref b] below meth c H locs (392 + Z.w 0) (307970 + Z.w 1) Q (F0 m 767 ls []) := by
  obtain ⟨x, hml, L, hJ, hMI, hm, hmJ, hKm, hnn, hK, ⟨hX, hbl, hbA⟩, ⟨hl, hT⟩, hin⟩ := I
  have hx := x.1.1
  have hb := x.1.2.1
  have hrm := hMI.rm hJ (by omega)
  have hcs : 392 + Z.w 0 ≤ 600000 ∧ 307970 + Z.w 1 ≤ 7302250 := ⟨by have := hrm.2.1; omega, by have := hrm.2.2.1; omega⟩
  have hal : Z.al 11 0 := x.1.2.2.2.2.2.2.2.1.2 11 0 (show 0 < 1 by decide)
  obtain ⟨hx0, hb0, hts, hin0, hown, hK1, hA, hZ, hh, hne, hAd⟩ := x.1
  have hrec : ∃ cellB : Cell, H[h0]? = some cellB ∧ cellB.vm.isStatics = false ∧ s.vm.findClass RX12 = some cellB.cls := by
    obtain ⟨⟨cell, q1, q2, q3, q4⟩, -⟩ := hm.1
    obtain ⟨⟨hS, hfc, kC, hkC, hkind⟩, -⟩ := hKm.1
    exact ⟨cell, q1, by rw [q3]; rfl, by rw [q2]; exact hfc⟩
  refine lv_aload_n hx hb d_law_767 rfl (lv_at hl 1 rfl) ?_
  refine lw_arg (j := 1) hx hb hX hbl hbA L.2.1 hl d_law_768 d_law_769 d_law_770 (by decide) d_law_771 d_law_772 (hin 1 (by decide) (by decide)) ?_
  refine lw_arg (j := 2) hx hb hX hbl hbA L.2.1 hl d_law_773 d_law_774 d_law_775 (by decide) d_law_776 d_law_777 (hin 2 (by decide) (by decide)) ?_
  refine lw_arg (j := 3) hx hb hX hbl hbA L.2.1 hl d_law_778 d_law_779 d_law_780 (by decide) d_law_781 d_law_782 (hin 3 (by decide) (by decide)) ?_
  refine pf_call (va_runV (As := [.int (xs (i + 1).toNatClampNeg), .int (xs (i + 2).toNatClampNeg), .int (xs (i + 3).toNatClampNeg)]) (rest := []) ⟨hx, hb, hml, hown, hts⟩ (c_hd l (Z.ad 11 0) (xs (i + 1).toNatClampNeg) (xs (i + 2).toNatClampNeg) (xs (i + 3).toNatClampNeg)) (cwV 3 hts (lwT_V wsX11_header_L lw_gh11 lk_93 lki_93 lks_93 lkn_X11) rfl rfl rfl (by decide +kernel) ⟨Nat.le_of_ble_eq_true rfl, Nat.le_of_ble_eq_true rfl⟩) ⟨fun a U g mk q => ⟨q.1, hc_P.moved (u := U) (U := U.calling g mk a) (Vm.Alike.refl U.vm) rfl q.2⟩, c_recv x.1 L hal rfl, fun U hU hW => ⟨rfl, by have h := hcT.moved hW.alike (hh.kept L.2.1); rw [← hU] at h; exact h.P⟩⟩ rfl rfl hl.1 rfl (lv_room (Nat.le_of_ble_eq_true rfl)) d_law_783 hcs) ?_
  refine lv_pop hx hb d_law_786 rfl ?_
  refine lv_aload_n hx hb d_law_787 rfl (lv_at hl 2 rfl) ?_
  refine lw_arg (j := 1) hx hb hX hbl hbA L.2.1 hl d_law_788 d_law_789 d_law_790 (by decide) d_law_791 d_law_792 (hin 1 (by decide) (by decide)) ?_
  refine lw_arg (j := 2) hx hb hX hbl hbA L.2.1 hl d_law_793 d_law_794 d_law_795 (by decide) d_law_796 d_law_797 (hin 2 (by decide) (by decide)) ?_
  refine lw_arg (j := 3) hx hb hX hbl hbA L.2.1 hl d_law_798 d_law_799 d_law_800 (by decide) d_law_801 d_law_802 (hin 3 (by decide) (by decide)) ?_
  refine pf_call (va_runV (As := [.int (xs (i + 1).toNatClampNeg), .int (xs (i + 2).toNatClampNeg), .int (xs (i + 3).toNatClampNeg)]) (rest := []) ⟨hx, hb, hml, hown, hts⟩ (c_hdM l h0 (xs (i + 1).toNatClampNeg) (xs (i + 2).toNatClampNeg) (xs (i + 3).toNatClampNeg)) (cwV 3 hts (lwT_V wsX12_header_L lw_gh12 lk_96 lki_96 lks_96 lkn_X12) rfl rfl rfl (by decide +kernel) ⟨Nat.le_of_ble_eq_true rfl, Nat.le_of_ble_eq_true rfl⟩) ⟨fun a U g mk q => ⟨q.1, trivial⟩, hrec, fun U hU hW => ⟨rfl, trivial⟩⟩ rfl rfl hl.1 rfl (lv_room (Nat.le_of_ble_eq_true rfl)) d_law_803 hcs) ?_
  refine lv_pop hx hb d_law_806 rfl ?_
  refine lv_goto (tgt := 846) hx hb d_law_807 (by decide) ?_
  exact kk Z g gm H locs x ⟨L.1, L.2.1, L.2.2.mono (by omega)⟩ hJ hMI.sc ⟨hm.1, hm.2.1.mono (by omega), hm.2.2⟩ hmJ rfl hT
set_option maxHeartbeats 2000000 in
/-- crc -/
theorem lw_case18 (I : lwI p c s m G Gm A h0 ad b L0 xs nn K i ls Z g gm H locs) (kk : lwE p l e c s m below meth G Gm A h0 ad b nn K ls Z Q) : W p l e room_1 s m #[Value.ref b] below meth c H locs (392 + Z.w 0) (307970 + Z.w 1) Q (F0 m 810 ls []) := by
  obtain ⟨x, hml, L, hJ, hMI, hm, hmJ, hKm, hnn, hK, ⟨hX, hbl, hbA⟩, ⟨hl, hT⟩, hin⟩ := I
  have hx := x.1.1
  have hb := x.1.2.1
  have hrm := hMI.rm hJ (by omega)
  have hcs : 392 + Z.w 0 ≤ 600000 ∧ 307970 + Z.w 1 ≤ 7302250 := ⟨by have := hrm.2.1; omega, by have := hrm.2.2.1; omega⟩
  have hal : Z.al 11 0 := x.1.2.2.2.2.2.2.2.1.2 11 0 (show 0 < 1 by decide)
  refine lv_aload_n hx hb d_law_810 rfl (lv_at hl 1 rfl) ?_
  refine lw_c (As := []) (rest := []) x hml L hm (c_kcrc l (848000 * (K : Int)) g 0  ⟨by omega, by omega⟩  hal) (lwT_C kd_X11_crc lk_97 lki_97 lks_97) rfl ⟨rfl, rfl⟩ hd_kcrc ⟨Nat.le_of_ble_eq_true rfl, Nat.le_of_ble_eq_true rfl⟩ rfl hl.1 rfl (lv_room (Nat.le_of_ble_eq_true rfl)) d_law_811 hcs (fun r g1 H1 locs1 hp L hm => ?_)
  have hMI1 : MI (K + 1) Z g1 := hMI.no hp.1 rfl ⟨by decide, by decide⟩
  have hJ1 : cJ Z g1 := cJ_fr hJ hp.1 rfl
  refine lv_pop hx hb d_law_814 rfl ?_
  refine lv_aload_n hx hb d_law_815 rfl (lv_at hl 2 rfl) ?_
  refine lw_m (As := []) (rest := []) x hml L hm hKm (c_crc l nn (84800 * (K : Int)) gm  hnn ⟨by omega, by omega⟩ ) (lwT_M uc_crc lk_101 lki_101 lks_101) rfl ⟨rfl, rfl⟩ hd_crc ⟨Nat.le_of_ble_eq_true rfl, Nat.le_of_ble_eq_true rfl⟩ rfl hl.1 rfl (lv_room (Nat.le_of_ble_eq_true rfl)) d_law_816 hcs (fun r2 gm1 H2 locs2 hp2 L hm => ?_)
  refine lv_pop hx hb d_law_819 rfl ?_
  refine lv_goto (tgt := 846) hx hb d_law_820 (by decide) ?_
  exact kk Z g1 gm1 H2 locs2 x ⟨L.1, L.2.1, L.2.2.mono (by omega)⟩ hJ1 hMI1 ⟨hm.1, hm.2.1.mono (by omega), hm.2.2⟩ (mJ_fr hmJ hp2.1 rfl) rfl (hT.fr rfl (cDm_fr hp.1 (by decide)) (rDm_fr hp2.1 rfl rfl))
set_option maxHeartbeats 2000000 in
/-- count -/
theorem lw_case19 (I : lwI p c s m G Gm A h0 ad b L0 xs nn K i ls Z g gm H locs) (kk : lwE p l e c s m below meth G Gm A h0 ad b nn K ls Z Q) : W p l e room_1 s m #[Value.ref b] below meth c H locs (392 + Z.w 0) (307970 + Z.w 1) Q (F0 m 823 ls []) := by
  obtain ⟨x, hml, L, hJ, hMI, hm, hmJ, hKm, hnn, hK, ⟨hX, hbl, hbA⟩, ⟨hl, hT⟩, hin⟩ := I
  have hx := x.1.1
  have hb := x.1.2.1
  have hrm := hMI.rm hJ (by omega)
  have hcs : 392 + Z.w 0 ≤ 600000 ∧ 307970 + Z.w 1 ≤ 7302250 := ⟨by have := hrm.2.1; omega, by have := hrm.2.2.1; omega⟩
  have hal : Z.al 11 0 := x.1.2.2.2.2.2.2.2.1.2 11 0 (show 0 < 1 by decide)
  refine lv_aload_n hx hb d_law_823 rfl (lv_at hl 1 rfl) ?_
  refine lw_arg (j := 1) hx hb hX hbl hbA L.2.1 hl d_law_824 d_law_825 d_law_826 (by decide) d_law_827 d_law_828 (hin 1 (by decide) (by decide)) ?_
  refine lw_c (As := [.int (xs (i + 1).toNatClampNeg)]) (rest := []) x hml L hm (c_kcount l (848000 * (K : Int)) g 0 (xs (i + 1).toNatClampNeg) ⟨by omega, by omega⟩  hal) (lwT_C kd_X11_count lk_102 lki_102 lks_102) rfl ⟨rfl, rfl⟩ hd_kcount ⟨Nat.le_of_ble_eq_true rfl, Nat.le_of_ble_eq_true rfl⟩ rfl hl.1 rfl (lv_room (Nat.le_of_ble_eq_true rfl)) d_law_829 hcs (fun r g1 H1 locs1 hp L hm => ?_)
  have hMI1 : MI (K + 1) Z g1 := hMI.no hp.1 rfl ⟨by decide, by decide⟩
  have hJ1 : cJ Z g1 := cJ_fr hJ hp.1 rfl
  refine lv_pop hx hb d_law_832 rfl ?_
  refine lv_aload_n hx hb d_law_833 rfl (lv_at hl 2 rfl) ?_
  refine lw_arg (j := 1) hx hb hX hbl hbA L.2.1 hl d_law_834 d_law_835 d_law_836 (by decide) d_law_837 d_law_838 (hin 1 (by decide) (by decide)) ?_
  refine lw_m (As := [.int (xs (i + 1).toNatClampNeg)]) (rest := []) x hml L hm hKm (c_count l nn (84800 * (K : Int)) gm (xs (i + 1).toNatClampNeg) hnn ⟨by omega, by omega⟩ ) (lwT_M uc_count lk_105 lki_105 lks_105) rfl ⟨rfl, rfl⟩ hd_count ⟨Nat.le_of_ble_eq_true rfl, Nat.le_of_ble_eq_true rfl⟩ rfl hl.1 rfl (lv_room (Nat.le_of_ble_eq_true rfl)) d_law_839 hcs (fun r2 gm1 H2 locs2 hp2 L hm => ?_)
  refine lv_pop hx hb d_law_842 rfl ?_
  refine lv_goto (tgt := 846) hx hb d_law_843 (by decide) ?_
  exact kk Z g1 gm1 H2 locs2 x ⟨L.1, L.2.1, L.2.2.mono (by omega)⟩ hJ1 hMI1 ⟨hm.1, hm.2.1.mono (by omega), hm.2.2⟩ (mJ_fr hmJ hp2.1 rfl) rfl (hT.fr rfl (cDm_fr hp.1 (by decide)) (rDm_fr hp2.1 rfl rfl))
end LawCases
