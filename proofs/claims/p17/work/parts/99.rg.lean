/-! an end: its line and its calls together -/
def ep (N : Nat) (g : mSt) (e : Nat) (m : Bool) : Nat := pot g e (2 * e) m + 2 * om N g e
def smN : Nat → (Nat → Nat) → Nat
  | 0, _ => 0
  | n + 1, F => smN n F + F n
theorem smN_le {n : Nat} {F F1 : Nat → Nat} (h : ∀ c, c < n → F1 c ≤ F c) : smN n F1 ≤ smN n F := by
  induction n with
  | zero => exact Nat.le_refl _
  | succ n ih => exact Nat.add_le_add (ih (fun c hc => h c (by omega))) (h n (by omega))
theorem smN_mono {n n1 : Nat} {F : Nat → Nat} (h : n1 ≤ n) : smN n1 F ≤ smN n F := by
  induction h with
  | refl => exact Nat.le_refl _
  | step _ ih => exact Nat.le_trans ih (Nat.le_add_right _ _)
def asN (N : Nat) (g : mSt) (e : Nat) : Nat := smN N fun c => if (g 32 c).toInt = (e : Int) then asW g c else 0
def dN (N : Nat) (g : mSt) (e : Nat) : Nat := smN N fun c => if (g 32 c).toInt = (e : Int) then dW g c else 0
theorem asN_le {N : Nat} {g g1 : mSt} {e : Nat} (h : g1 32 = g 32) (k : ∀ c, c < N → asW g1 c ≤ asW g c) : asN N g1 e ≤ asN N g e := smN_le (fun c hc => by
  have := k c hc
  rw [h]
  split
  · exact this
  · exact Nat.le_refl _)
theorem asN_le1 {N : Nat} {g g1 : mSt} {e : Nat} (h : g1 32 = g 32) (k : ∀ c, c < N → asW g1 c ≤ asW g c) : asN (N + 1) g1 e ≤ asN (N + 1) g e + 1 := by
  have a : asN N g1 e ≤ asN N g e := asN_le h k
  have b : (if (g1 32 N).toInt = (e : Int) then asW g1 N else 0) ≤ 1 := by
    split
    · exact asW_le _ _
    · omega
  show smN N _ + (if (g1 32 N).toInt = (e : Int) then asW g1 N else 0) ≤ (smN N _ + _) + 1
  unfold asN at a
  omega
theorem dN_le {N : Nat} {g g1 : mSt} {e : Nat} (h : g1 32 = g 32) (k : ∀ c, dW g1 c ≤ dW g c) : dN N g1 e ≤ dN N g e := smN_le (fun c _ => by
  have := k c
  rw [h]
  split
  · exact this
  · exact Nat.le_refl _)
/-- a step of an end -/
def eSt (N e : Nat) (g g1 : mSt) : Prop := (∀ m, ep N g1 e m ≤ ep N g e m) ∧ (∀ c ∈ qL g1 (2 * (2 * e)), c ∈ qL g (2 * (2 * e)) ∨ ∃ u cs, goodU u ∧ uCs u cs ∧ c ∈ cs) ∧ uLn g1 (2 * e) = 0 ∧ (li g e → li g1 e) ∧ (noP g e → noP g1 e) ∧ dN N g1 e ≤ dN N g e ∧ asN N g1 e ≤ asN N g e
theorem eSt.rf {N e : Nat} {g : mSt} (h : uLn g (2 * e) = 0) : eSt N e g g := ⟨fun _ => Nat.le_refl _, fun _ hc => Or.inl hc, h, id, id, Nat.le_refl _, Nat.le_refl _⟩
theorem eSt.tr {N e : Nat} {g g1 g2 : mSt} (h : eSt N e g g1) (k : eSt N e g1 g2) : eSt N e g g2 := ⟨fun m => Nat.le_trans (k.1 m) (h.1 m), fun c hc => (k.2.1 c hc).elim (fun z => h.2.1 c z) Or.inr, k.2.2.1, fun q => k.2.2.2.1 (h.2.2.2.1 q), fun q => k.2.2.2.2.1 (h.2.2.2.2.1 q), Nat.le_trans k.2.2.2.2.2.1 h.2.2.2.2.2.1, Nat.le_trans k.2.2.2.2.2.2 h.2.2.2.2.2.2⟩
theorem eSt.line {M : List Nat} {N e : Nat} {g g1 g2 : mSt} (h : eSt N e g g1) (k : stp g1 g2 e (2 * e)) (f : mFr M g1 g2) (hM : (32 ∉ M ∧ 36 ∉ M) ∧ 42 ∉ M ∧ 43 ∉ M ∧ 46 ∉ M ∧ 48 ∉ M ∧ 49 ∉ M) : eSt N e g g2 := by
  refine h.tr ⟨fun m => ?_, k.2.1, k.2.2.1, k.2.2.2, fun q c hc => ?_, dN_le (f 32 hM.1.1) (fun c => Nat.le_of_eq (dW_eq (by rw [f 48 hM.2.2.2.2.1]) (by rw [f 49 hM.2.2.2.2.2]))), asN_le (f 32 hM.1.1) (fun c _ => Nat.le_of_eq (asW_eq (by rw [f 36 hM.1.2]) (by rw [f 46 hM.2.2.2.1])))⟩
  · unfold ep
    rw [om_eq (fun c => ⟨by rw [f 32 hM.1.1], by rw [f 36 hM.1.2], by rw [f 42 hM.2.1]⟩)]
    have := k.1 m
    omega
  · rw [f 32 hM.1.1] at hc
    rw [f 43 hM.2.2.1]
    exact q c hc
theorem cst.row {N M e : Nat} {g g1 : mSt} (h : cst N M e g g1) (j : Nat) (hj : j ∉ cRows ∧ j ≠ 198 ∧ j ≠ 832 ∧ j ≠ 864) : g1 j = g j := funext fun k => h.2.1 j k (fun z => by
  rcases z with z | z | z
  · exact hj.1 z.1
  · exact hj.2.1 z.1
  · rcases z.1 with w | w
    · exact hj.2.2.1 w
    · exact hj.2.2.2 w)
theorem eSt.calls0 {N M e : Nat} {g g1 g2 : mSt} (h : eSt N e g g1) (k : cst N M e g1 g2) : (∀ m, ep N g2 e m ≤ ep N g e m) ∧ (∀ c ∈ qL g2 (2 * (2 * e)), c ∈ qL g (2 * (2 * e)) ∨ ∃ u cs, goodU u ∧ uCs u cs ∧ c ∈ cs) ∧ uLn g2 (2 * e) = 0 ∧ (li g e → li g2 e) ∧ (noP g e → noP g2 e) ∧ dN N g2 e ≤ dN N g e := by
  have hq : qL g2 (2 * (2 * e)) = qL g1 (2 * (2 * e)) := by
    refine qL_ext ?_ (fun i _ => ?_)
    · unfold qSz
      rw [k.row 67 (by decide)]
    · unfold qC qPl
      rw [k.row 66 (by decide), k.row 544 (by decide), k.row 576 (by decide)]
  have hf : fl g2 e = fl g1 e := fl_eq (by rw [k.row 164 (by decide)]) (fun j _ => by unfold snt; rw [k.row 1280 (by decide)])
  refine ⟨fun m => ?_, fun c hc => h.2.1 c (by rw [← hq]; exact hc), ?_, fun q => ?_, fun q => k.noP (h.2.2.2.2.1 q), Nat.le_trans (dN_le k.1 k.2.2.2.2.2.2) h.2.2.2.2.2.1⟩
  · have := k.2.2.1
    refine Nat.le_trans ?_ (h.1 m)
    unfold ep pot
    rw [hq, hf]
    omega
  · unfold uLn
    rw [k.row 111 (by decide)]
    exact h.2.2.1
  · replace q := h.2.2.2.1 q
    refine ⟨by rw [k.row 170 (by decide), k.row 171 (by decide)]; exact q.1, fun j hj => ?_, k.2.2.2.1 q.2.2.1, k.2.2.2.2.1 q.2.2.2.1, by rw [k.row 1248 (by decide)]; exact q.2.2.2.2⟩
    unfold snt
    rw [k.row 1280 (by decide)]
    exact q.2.1 j hj
theorem eSt.calls {N e : Nat} {g g1 g2 : mSt} (h : eSt N e g g1) (k : cst N N e g1 g2) : eSt N e g g2 := by
  have a := h.calls0 k
  exact ⟨a.1, a.2.1, a.2.2.1, a.2.2.2.1, a.2.2.2.2.1, a.2.2.2.2.2, Nat.le_trans (asN_le k.1 k.2.2.2.2.2.1) h.2.2.2.2.2.2⟩
theorem cOut_e {n e : Nat} (h : e < n) : cOut n e = 2 * e := if_pos h
theorem eSt.stp {N e : Nat} {g g1 : mSt} (h : eSt N e g g1) : stp g1 g1 e (2 * e) := stp.rf h.2.2.1
theorem e_timers {Z : cZ} {N e : Nat} {p1 : Int32} {g g0 : mSt} {Ψ : Int32 → mSt → Prop} (he : e < Z.n) (hs : eSt N e g0 g) (h : ∀ r g1, eSt N e g0 g1 → Ψ r g1) : wp_ktimers Z e p1 g (fun r g1 => po_ktimers Z e p1 g r g1 → Ψ r g1) :=
  s_timers (cOut_e he) hs.stp (fun r g1 s hpo => h r g1 (hs.line s hpo.2.1 (by decide)))
theorem e_turn {Z : cZ} {N e : Nat} {p1 : Int32} {g g0 : mSt} {Ψ : mSt → Prop} (he : e < Z.n) (hl : li g0 e) (hs : eSt N e g0 g) (h : ∀ g1, eSt N e g0 g1 → Ψ g1) : wp_kturn Z e p1 g (fun _ g1 => po_kturn Z e p1 g 0 g1 → Ψ g1) :=
  s_turn (cOut_e he) (hs.2.2.2.1 hl) hs.stp (fun _ g1 s hpo => h g1 (hs.line s hpo.2.1 (by decide)))
theorem e_allOver {Z : cZ} {N e : Nat} {p1 : Int32} {g g0 : mSt} {Ψ : mSt → Prop} (hn : noP g0 e) (hs : eSt N e g0 g) (h : ∀ g1, eSt N e g0 g1 → Ψ g1) : wp_kallOver_4 Z e p1 g (fun _ g1 => po_kallOver_4 Z e p1 g 0 g1 → Ψ g1) :=
  s_allOverE cst.rf (hs.2.2.2.2.1 hn) (fun g1 s _ => h g1 (hs.calls s))
theorem e_callTimers {Z : cZ} {e : Nat} {p1 : Int32} {g g0 : mSt} {Ψ : mSt → Prop} (he : e < Z.n) (hs : eSt (Z.w 2) e g0 g) (h : ∀ g1, eSt (Z.w 2) e g0 g1 → Ψ g1) : wp_kcallTimers_4 Z e p1 g (fun _ g1 => po_kcallTimers_4 Z e p1 g 0 g1 → Ψ g1) :=
  s_callTimersE he cst.rf (fun g1 s _ => h g1 (hs.calls s))
theorem e_unit {Z : cZ} {N e q1 : Nat} {p2 p3 : Int32} {g g0 : mSt} {Ψ : Int32 → mSt → Prop} (he : e < Z.n) (hl : li g0 e) (hr : (g 170 e).toInt + 8 < 16777216) (hs : eSt N e g0 g) (h : ∀ r g1, eSt N e g0 g1 → Ψ r g1) : wp_kunitCame Z e q1 p2 p3 g (fun r g1 => po_kunitCame Z e q1 p2 p3 g r g1 → Ψ r g1) :=
  s_unit (cOut_e he) hs.stp (hs.2.2.2.1 hl) hr (fun r g1 s hpo => h r g1 (hs.line s hpo.2.1 (by decide)))
theorem e_takeNext {Z : cZ} {N e q1 : Nat} {g g0 : mSt} {Ψ : Int32 → mSt → Prop} (hs : eSt N e g0 g) (h : ∀ r g1, eSt N e g0 g1 → Ψ r g1) : wp_ktakeNext Z e q1 g (fun r g1 => po_ktakeNext Z e q1 g r g1 → Ψ r g1) :=
  s_takeNext hs.stp (fun r g1 s hpo => h r g1 (hs.line s hpo.2.1 (by decide)))
theorem e_ask {Z : cZ} {N e : Nat} {p1 p2 p3 : Int32} {g g0 : mSt} {Ψ : mSt → Prop} (he : e < Z.n) (hp : p1.toInt ≠ 2) (hs : eSt N e g0 g) (h : ∀ g1, eSt N e g0 g1 → Ψ g1) : wp_kask Z e p1 p2 p3 g (fun _ g1 => po_kask Z e p1 p2 p3 g 0 g1 → Ψ g1) :=
  s_ask (cOut_e he) hs.stp hp (fun g1 s _ hpo => h g1 (hs.line s hpo.2.1 (by decide)))
/-- the first of a tick's turns of an end -/
theorem e_first {Z : cZ} {e : Nat} {t : Int32} {g g0 : mSt} {Ψ : mSt → Prop} (he : e < Z.n) (hl : li g0 e) (hn : noP g0 e) (hs : eSt (Z.w 2) e g0 g) (h : ∀ g1, eSt (Z.w 2) e g0 g1 → Ψ g1) :
    wp_ktimers Z e t g (fun v g1 => po_ktimers Z e t g v g1 → ((v.toInt = 0) → wp_kcallTimers_4 Z e t g1 (fun _ g2 => po_kcallTimers_4 Z e t g1 0 g2 → wp_kturn Z e t g2 (fun _ g3 => po_kturn Z e t g2 0 g3 → Ψ g3))) ∧ ((v.toInt ≠ 0) → wp_kallOver_4 Z e t g1 (fun _ g2 => po_kallOver_4 Z e t g1 0 g2 → wp_kcallTimers_4 Z e t g2 (fun _ g3 => po_kcallTimers_4 Z e t g2 0 g3 → wp_kturn Z e t g3 (fun _ g4 => po_kturn Z e t g3 0 g4 → Ψ g4))))) :=
  e_timers he hs (fun v g1 s1 => ⟨fun _ => e_callTimers he s1 (fun g2 s2 => e_turn he hl s2 h), fun _ => e_allOver hn s1 (fun g2 s2 => e_callTimers he s2 (fun g3 s3 => e_turn he hl s3 h))⟩)
