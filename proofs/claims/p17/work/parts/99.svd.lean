/-! the damages of the other directions -/
theorem cDm_po {Z : cZ} {q q0 : Nat} {g g1 : mSt} {r : Int32} (h : po_kputCells Z q0 g r g1) (hq : q ≠ q0) : cDm g1 q = cDm g q :=
  cDm_eq (h.1.out (by simp [mOut, im_kputCells]; omega)) (fun i hi => h.1.out (by simp [mOut, im_kputCells]; omega)) (h.1.out (by simp [mOut, im_kputCells]; omega))
