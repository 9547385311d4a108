/-! an end: its line and its calls together -/
def ep (N : Nat) (g : mSt) (e : Nat) (m : Bool) : Nat := pot g e (2 * e) m + 2 * om N g e
/-- a step of an end -/
def eSt (N e : Nat) (g g1 : mSt) : Prop := (∀ m, ep N g1 e m ≤ ep N g e m) ∧ (∀ c ∈ qL g1 (2 * (2 * e)), c ∈ qL g (2 * (2 * e)) ∨ ∃ u cs, goodU u ∧ uCs u cs ∧ c ∈ cs) ∧ uLn g1 (2 * e) = 0 ∧ (li g e → li g1 e) ∧ (noP g e → noP g1 e)
theorem eSt.rf {N e : Nat} {g : mSt} (h : uLn g (2 * e) = 0) : eSt N e g g := ⟨fun _ => Nat.le_refl _, fun _ hc => Or.inl hc, h, id, id⟩
theorem eSt.tr {N e : Nat} {g g1 g2 : mSt} (h : eSt N e g g1) (k : eSt N e g1 g2) : eSt N e g g2 := ⟨fun m => Nat.le_trans (k.1 m) (h.1 m), fun c hc => (k.2.1 c hc).elim (fun z => h.2.1 c z) Or.inr, k.2.2.1, fun q => k.2.2.2.1 (h.2.2.2.1 q), fun q => k.2.2.2.2 (h.2.2.2.2 q)⟩
theorem eSt.line {M : List Nat} {N e : Nat} {g g1 g2 : mSt} (h : eSt N e g g1) (k : stp g1 g2 e (2 * e)) (f : mFr M g1 g2) (hM : (32 ∉ M ∧ 36 ∉ M) ∧ 42 ∉ M ∧ 43 ∉ M) : eSt N e g g2 := by
  refine h.tr ⟨fun m => ?_, k.2.1, k.2.2.1, k.2.2.2, fun q c hc => ?_⟩
  · unfold ep
    rw [om_eq (fun c => ⟨by rw [f 32 hM.1.1], by rw [f 36 hM.1.2], by rw [f 42 hM.2.1]⟩)]
    have := k.1 m
    omega
  · rw [f 32 hM.1.1] at hc
    rw [f 43 hM.2.2]
    exact q c hc
theorem cst.row {N e : Nat} {g g1 : mSt} (h : cst N e g g1) (j : Nat) (hj : j ∉ cRows ∧ j ≠ 198 ∧ j ≠ 832 ∧ j ≠ 864) : g1 j = g j := funext fun k => h.2.1 j k (fun z => by
  rcases z with z | z | z
  · exact hj.1 z.1
  · exact hj.2.1 z.1
  · rcases z.1 with w | w
    · exact hj.2.2.1 w
    · exact hj.2.2.2 w)
theorem eSt.calls {N e : Nat} {g g1 g2 : mSt} (h : eSt N e g g1) (k : cst N e g1 g2) : eSt N e g g2 := by
  have hq : qL g2 (2 * (2 * e)) = qL g1 (2 * (2 * e)) := by
    refine qL_ext ?_ (fun i _ => ?_)
    · unfold qSz
      rw [k.row 67 (by decide)]
    · unfold qC qPl
      rw [k.row 66 (by decide), k.row 544 (by decide), k.row 576 (by decide)]
  have hf : fl g2 e = fl g1 e := fl_eq (by rw [k.row 164 (by decide)]) (fun j _ => by unfold snt; rw [k.row 1280 (by decide)])
  refine h.tr ⟨fun m => ?_, fun c hc => Or.inl (by rw [← hq]; exact hc), ?_, fun q => ?_, fun q => k.noP q⟩
  · have := k.2.2.1
    unfold ep pot
    rw [hq, hf]
    omega
  · unfold uLn
    rw [k.row 111 (by decide)]
    exact h.2.2.1
  · refine ⟨by rw [k.row 170 (by decide), k.row 171 (by decide)]; exact q.1, fun j hj => ?_, k.2.2.2.1 q.2.2.1, k.2.2.2.2 q.2.2.2.1, by rw [k.row 1248 (by decide)]; exact q.2.2.2.2⟩
    unfold snt
    rw [k.row 1280 (by decide)]
    exact q.2.1 j hj
theorem cOut_e {n e : Nat} (h : e < n) : cOut n e = 2 * e := if_pos h
theorem eSt.stp {N e : Nat} {g g1 : mSt} (h : eSt N e g g1) : stp g1 g1 e (2 * e) := stp.rf h.2.2.1
theorem e_timers {Z : cZ} {N e : Nat} {p1 : Int32} {g g0 : mSt} {Ψ : Int32 → mSt → Prop} (he : e < Z.n) (hs : eSt N e g0 g) (h : ∀ r g1, eSt N e g0 g1 → Ψ r g1) : wp_ktimers Z e p1 g (fun r g1 => po_ktimers Z e p1 g r g1 → Ψ r g1) :=
  s_timers (cOut_e he) hs.stp (fun r g1 s hpo => h r g1 (hs.line s hpo.2.1 (by decide)))
theorem e_turn {Z : cZ} {N e : Nat} {p1 : Int32} {g g0 : mSt} {Ψ : mSt → Prop} (he : e < Z.n) (hl : li g0 e) (hs : eSt N e g0 g) (h : ∀ g1, eSt N e g0 g1 → Ψ g1) : wp_kturn Z e p1 g (fun _ g1 => po_kturn Z e p1 g 0 g1 → Ψ g1) :=
  s_turn (cOut_e he) (hs.2.2.2.1 hl) hs.stp (fun _ g1 s hpo => h g1 (hs.line s hpo.2.1 (by decide)))
theorem e_allOver {Z : cZ} {N e : Nat} {p1 : Int32} {g g0 : mSt} {Ψ : mSt → Prop} (hn : noP g0 e) (hs : eSt N e g0 g) (h : ∀ g1, eSt N e g0 g1 → Ψ g1) : wp_kallOver_4 Z e p1 g (fun _ g1 => po_kallOver_4 Z e p1 g 0 g1 → Ψ g1) :=
  s_allOverE cst.rf (hs.2.2.2.2 hn) (fun g1 s _ => h g1 (hs.calls s))
theorem e_callTimers {Z : cZ} {e : Nat} {p1 : Int32} {g g0 : mSt} {Ψ : mSt → Prop} (he : e < Z.n) (hs : eSt (Z.w 2) e g0 g) (h : ∀ g1, eSt (Z.w 2) e g0 g1 → Ψ g1) : wp_kcallTimers_4 Z e p1 g (fun _ g1 => po_kcallTimers_4 Z e p1 g 0 g1 → Ψ g1) :=
  s_callTimersE he cst.rf (fun g1 s _ => h g1 (hs.calls s))
theorem e_unit {Z : cZ} {N e q1 : Nat} {p2 p3 : Int32} {g g0 : mSt} {Ψ : Int32 → mSt → Prop} (he : e < Z.n) (hl : li g0 e) (hr : (g 170 e).toInt + 8 < 16777216) (hs : eSt N e g0 g) (h : ∀ r g1, eSt N e g0 g1 → Ψ r g1) : wp_kunitCame Z e q1 p2 p3 g (fun r g1 => po_kunitCame Z e q1 p2 p3 g r g1 → Ψ r g1) :=
  s_unit (cOut_e he) hs.stp (hs.2.2.2.1 hl) hr (fun r g1 s hpo => h r g1 (hs.line s hpo.2.1 (by decide)))
theorem e_takeNext {Z : cZ} {N e q1 : Nat} {g g0 : mSt} {Ψ : Int32 → mSt → Prop} (hs : eSt N e g0 g) (h : ∀ r g1, eSt N e g0 g1 → Ψ r g1) : wp_ktakeNext Z e q1 g (fun r g1 => po_ktakeNext Z e q1 g r g1 → Ψ r g1) :=
  s_takeNext hs.stp (fun r g1 s hpo => h r g1 (hs.line s hpo.2.1 (by decide)))
theorem e_ask {Z : cZ} {N e : Nat} {p1 p2 p3 : Int32} {g g0 : mSt} {Ψ : mSt → Prop} (he : e < Z.n) (hp : p1.toInt ≠ 2) (hs : eSt N e g0 g) (h : ∀ g1, eSt N e g0 g1 → Ψ g1) : wp_kask Z e p1 p2 p3 g (fun _ g1 => po_kask Z e p1 p2 p3 g 0 g1 → Ψ g1) :=
  s_ask (cOut_e he) hs.stp hp (fun g1 s _ hpo => h g1 (hs.line s hpo.2.1 (by decide)))
/-- the first of a tick's turns of an end -/
theorem e_first {Z : cZ} {e : Nat} {t : Int32} {g g0 : mSt} {Ψ : mSt → Prop} (he : e < Z.n) (hl : li g0 e) (hn : noP g0 e) (hs : eSt (Z.w 2) e g0 g) (h : ∀ g1, eSt (Z.w 2) e g0 g1 → Ψ g1) :
    wp_ktimers Z e t g (fun v g1 => po_ktimers Z e t g v g1 → ((v.toInt = 0) → wp_kcallTimers_4 Z e t g1 (fun _ g2 => po_kcallTimers_4 Z e t g1 0 g2 → wp_kturn Z e t g2 (fun _ g3 => po_kturn Z e t g2 0 g3 → Ψ g3))) ∧ ((v.toInt ≠ 0) → wp_kallOver_4 Z e t g1 (fun _ g2 => po_kallOver_4 Z e t g1 0 g2 → wp_kcallTimers_4 Z e t g2 (fun _ g3 => po_kcallTimers_4 Z e t g2 0 g3 → wp_kturn Z e t g3 (fun _ g4 => po_kturn Z e t g3 0 g4 → Ψ g4))))) :=
  e_timers he hs (fun v g1 s1 => ⟨fun _ => e_callTimers he s1 (fun g2 s2 => e_turn he hl s2 h), fun _ => e_allOver hn s1 (fun g2 s2 => e_callTimers he s2 (fun g3 s3 => e_turn he hl s3 h))⟩)
