/-! the whole state, and what is counted of it -/
def smZ : Nat → (Nat → Int) → Int
  | 0, _ => 0
  | n + 1, F => smZ n F + F n
theorem smZ_le {n : Nat} {F F1 : Nat → Int} (h : ∀ c, c < n → F1 c ≤ F c) : smZ n F1 ≤ smZ n F := by
  induction n with
  | zero => exact Int.le_refl _
  | succ n ih =>
    have a := ih (fun c hc => h c (by omega))
    have b := h n (by omega)
    show smZ n F1 + F1 n ≤ smZ n F + F n
    omega
theorem smZ_one {n : Nat} {F F1 : Nat → Int} {s : Nat} {d : Int} (h : ∀ q, q < n → q ≠ s → F1 q ≤ F q) (hs : s < n) (k : F1 s ≤ F s + d) : smZ n F1 ≤ smZ n F + d := by
  induction n with
  | zero => exact absurd hs (Nat.not_lt_zero _)
  | succ n ih =>
    show smZ n F1 + F1 n ≤ smZ n F + F n + d
    by_cases e : s = n
    · have a : smZ n F1 ≤ smZ n F := smZ_le (fun c hc => h c (by omega) (by omega))
      rw [e] at k
      omega
    · have a := ih (fun q hq hn => h q (by omega) hn) (by omega)
      have b := h n (by omega) (fun z => e z.symm)
      omega
theorem smZ_ad {n : Nat} {F F1 : Nat → Int} {d : Int} (h : ∀ c, c < n → F1 c ≤ F c + d) : smZ n F1 ≤ smZ n F + n * d := by
  induction n with
  | zero =>
    show (0 : Int) ≤ 0 + ((0 : Nat) : Int) * d
    simp
  | succ n ih =>
    have a := ih (fun c hc => h c (by omega))
    have b := h n (by omega)
    have e : ((n + 1 : Nat) : Int) * d = n * d + d := by
      rw [Int.natCast_add, Int.add_mul]
      simp
    show smZ n F1 + F1 n ≤ smZ n F + F n + ((n + 1 : Nat) : Int) * d
    rw [e]
    omega
theorem smZ_lb {n : Nat} {F : Nat → Int} {b : Int} (h : ∀ c, c < n → b ≤ F c) : n * b ≤ smZ n F := by
  induction n with
  | zero =>
    show ((0 : Nat) : Int) * b ≤ 0
    simp
  | succ n ih =>
    have a := ih (fun c hc => h c (by omega))
    have c := h n (by omega)
    have e : ((n + 1 : Nat) : Int) * b = n * b + b := by
      rw [Int.natCast_add, Int.add_mul]
      simp
    show ((n + 1 : Nat) : Int) * b ≤ smZ n F + F n
    rw [e]
    omega
/-- of a link: the mode; 1: the cells aren't found; 1: what came isn't known; the mode behind what is on the wire; what is set aside for that -/
abbrev Gh : Type := Bool × Nat × Nat × Bool × Int
def uF (n N : Nat) (g : mSt) (t : Int) (h : Gh) (f : Nat) : Int := 5 * lkT h.1 h.2.1 g (n + f) + 1500 * (h.2.1 : Int) + 6000 * (h.2.2.1 : Int) + h.2.2.2.2 + 6000 * (ep N g f h.2.2.2.1 : Int) - 12 * (lfG g t (n + f) : Int) + 10700 * ((dN N g f : Int) + (dm g (2 * f) : Int)) + 1458 * (asN N g f : Int) - 1578 * (g 135 f).toInt
def UU (n : Nat) (t : Int) (Z : cZ) (g : mSt) (G : Nat → Gh) : Int := 5 * XI n t Z g + 6 * (Z.w 3 : Int) + smZ n (fun f => uF n (Z.w 2) g t (G f) f)
def GH (g : mSt) (h : Gh) (f : Nat) : Prop := ((h.2.1 = 0 ↔ AG g (2 * f)) ∧ h.2.1 ≤ 1) ∧ (h.2.2.1 = 0 ↔ GP g (2 * f)) ∧ h.2.2.1 ≤ 1
/-- nothing on the wire that hasn't come -/
def P0 (h : Gh) : Prop := h.2.2.2.1 = h.1 ∧ h.2.2.2.2 = 0
/-- a tick's cells are on the wire: clean, or not -/
def P1 (g : mSt) (h : Gh) (f : Nat) : Prop := (∃ l, (∀ c ∈ l, gcell c ∧ c.2.length = 48) ∧ (∀ c, c < 4 → wcell g (2 * f) c (cAt l c)) ∧ (g 101 (2 * f)).toInt = 212 ∧ h.2.2.2.1 = altL h.1 (lt4 l) ∧ h.2.2.2.2 = 6000 * (altN h.1 (lt4 l) : Int)) ∨ ∃ z : Nat, (g 101 (2 * f)).toInt = (z : Int) ∧ z ≤ 212 ∧ (∀ x, x < z → oct (g 608 (8192 * (2 * f) + x))) ∧ h.2.2.2.2 = 10700
def EV (g : mSt) (R e : Nat) : Prop := (li g e ∧ noP g e ∧ uLn g (2 * e) = 0 ∧ ∀ c ∈ qL g (2 * (2 * e)), gcell c ∧ c.2.length = 48) ∧ (g 135 e).toInt ≤ 40 ∧ ro g e ≤ R
def SV (n : Nat) (t : Int) (B : Nat) (g : mSt) (f : Nat) : Prop := lnI t g (n + f) ∧ OH g (n + f) ∧ RB B g (2 * f)
def MVG (t : Int) (R B : Nat → Nat) (u : Int) (p : Nat → Prop) (Z : cZ) (g : mSt) (G : Nat → Gh) : Prop := (2 ≤ Z.n ∧ Z.n ≤ 4) ∧ CI Z.n (Z.w 2) g ∧ (capI Z.n g ∧ szT Z.n g ≤ Z.w 2 ∧ 121 * Z.w 0 ≤ 121 * (Z.w 2 + szT Z.n g) + Z.w 3) ∧ (∀ x, oct (g 1216 x)) ∧ (∀ e, e < Z.n → EV g (R e) e ∧ SV Z.n t (B e) g e ∧ OD g e) ∧ (∀ f, f < Z.n → GH g (G f) f ∧ (p f → P1 g (G f) f) ∧ (¬ p f → P0 (G f))) ∧ UU Z.n t Z g G ≤ u
def MV (t : Int) (R B : Nat → Nat) (u : Int) (p : Nat → Prop) (Z : cZ) (g : mSt) : Prop := ∃ G, MVG t R B u p Z g G
theorem MV.hn {t u : Int} {R B : Nat → Nat} {p : Nat → Prop} {Z : cZ} {g : mSt} (h : MV t R B u p Z g) : 2 ≤ Z.n ∧ Z.n ≤ 4 := by
  obtain ⟨G, h⟩ := h
  exact h.1
theorem MV.hc {t u : Int} {R B : Nat → Nat} {p : Nat → Prop} {Z : cZ} {g : mSt} (h : MV t R B u p Z g) : CI Z.n (Z.w 2) g := by
  obtain ⟨G, h⟩ := h
  exact h.2.1
theorem MV.ev {t u : Int} {R B : Nat → Nat} {p : Nat → Prop} {Z : cZ} {g : mSt} (h : MV t R B u p Z g) {e : Nat} (he : e < Z.n) : EV g (R e) e ∧ SV Z.n t (B e) g e ∧ OD g e := by
  obtain ⟨G, h⟩ := h
  exact h.2.2.2.2.1 e he
theorem MV.oc {t u : Int} {R B : Nat → Nat} {p : Nat → Prop} {Z : cZ} {g : mSt} (h : MV t R B u p Z g) : ∀ x, oct (g 1216 x) := by
  obtain ⟨G, h⟩ := h
  exact h.2.2.2.1
theorem EV.sm {R e N N1 : Nat} {g g1 : mSt} (h : EV g R e) (s : sL e N g N1 g1) : EV g1 R e := by
  obtain ⟨⟨a, b, c, d⟩, x, y⟩ := h
  exact ⟨⟨s.pl a, s.no b, by rw [s.u]; exact c, by rw [s.q]; exact d⟩, by rw [s.1 135 (by omega)]; exact x, by rw [s.pr]; exact y⟩
theorem SV.sm {n B f : Nat} {t : Int} {g g1 : mSt} (h : SV n t B g f) (s : sS n f g g1) : SV n t B g1 f := ⟨s.ln h.1, s.oh h.2.1, s.rb h.2.2⟩
theorem GH.sm {n f : Nat} {g g1 : mSt} {h : Gh} (k : GH g h f) (s : sS n f g g1) (hb : (g 225 (2 * f)).toInt ≠ 0 → (g 233 (2 * f)).toInt ≤ 52) : GH g1 h f := ⟨⟨k.1.1.trans s.ag.symm, k.1.2⟩, k.2.1.trans (s.gp hb).symm, k.2.2⟩
theorem P1.sm {f : Nat} {g g1 : mSt} {h : Gh} (k : P1 g h f) (s : sD f g g1) : P1 g1 h f := by
  have w : ∀ x, x < 8192 → g1 608 (8192 * (2 * f) + x) = g 608 (8192 * (2 * f) + x) := fun x hx => s.2.2 608 _ (Or.inl rfl) (by omega)
  rcases k with ⟨l, a, b, c, d⟩ | ⟨z, a, b, c, d⟩
  · exact Or.inl ⟨l, a, fun i hi => wcell_eq (b i hi) (fun y h1 h2 => w y (by omega)), by rw [s.1.2.1]; exact c, d⟩
  · exact Or.inr ⟨z, by rw [s.1.2.1]; exact a, b, fun x hx => by rw [w x (by omega)]; exact c x hx, d⟩
theorem uF.sm {n N N1 f : Nat} {t : Int} {g g1 : mSt} {h : Gh} (s : sE f N g N1 g1) (k : sS n f g g1) (d : sD f g g1) : uF n N1 g1 t h f = uF n N g t h f := by
  unfold uF
  rw [s.1.pe, s.d, s.1.pa, s.1.1 135 (by omega), k.lk, k.lf, d.d]
/-- a step at one of the links -/
theorem MVG.one {t u δ : Int} {R R1 B B1 : Nat → Nat} {p p1 : Nat → Prop} {Z Z1 : cZ} {g g1 : mSt} {G : Nat → Gh} {s : Nat} {h1 : Gh} (h : MVG t R B u p Z g G) (hs : s < Z.n) (hci : CI Z.n (Z1.w 2) g1) (hrs : rS Z g Z1 g1) (h1216 : g1 1216 = g 1216)
    (ho : ∀ f, f < Z.n → f ≠ s → sE f (Z.w 2) g (Z1.w 2) g1 ∧ sS Z.n f g g1 ∧ sD f g g1) (hR : ∀ f, f ≠ s → R1 f = R f ∧ B1 f = B f ∧ (p1 f ↔ p f))
    (hx : EV g1 (R1 s) s ∧ SV Z.n t (B1 s) g1 s ∧ OD g1 s) (x4 : GH g1 h1 s) (x5 : p1 s → P1 g1 h1 s) (x6 : ¬ p1 s → P0 h1) (x7 : 5 * XI Z.n t Z1 g1 + 6 * (Z1.w 3 : Int) + uF Z.n (Z1.w 2) g1 t h1 s ≤ 5 * XI Z.n t Z g + 6 * (Z.w 3 : Int) + uF Z.n (Z.w 2) g t (G s) s + δ) : MVG t R1 B1 (u + δ) p1 Z1 g1 (fun f => if f = s then h1 else G f) := by
  obtain ⟨hn, _, ⟨c1, c2, c3⟩, o1, ev, hG, hU⟩ := h
  have n1 : Z1.n = Z.n := hrs.1
  obtain ⟨x1, x2, x3⟩ := hx
  have r1 := hrs.2.2.1
  have r2 := hrs.2.2.2
  refine ⟨by rw [n1]; exact hn, by rw [n1]; exact hci, ⟨by rw [n1]; exact hrs.2.1 c1, by rw [n1]; omega, by rw [n1]; omega⟩, by rw [h1216]; exact o1, ?_, ?_, ?_⟩
  · rw [n1]
    intro e he
    by_cases w : e = s
    · rw [w]
      exact ⟨x1, x2, x3⟩
    · obtain ⟨y1, y2, y3⟩ := ho e he w
      obtain ⟨z1, z2, z3⟩ := ev e he
      rw [(hR e w).1, (hR e w).2.1]
      exact ⟨z1.sm y1.1, z2.sm y2, y3.od z3⟩
  · rw [n1]
    intro f hf
    show GH g1 (if f = s then h1 else G f) f ∧ (p1 f → P1 g1 (if f = s then h1 else G f) f) ∧ (¬ p1 f → P0 (if f = s then h1 else G f))
    by_cases w : f = s
    · rw [if_pos w, w]
      exact ⟨x4, x5, x6⟩
    · rw [if_neg w]
      obtain ⟨y1, y2, y3⟩ := ho f hf w
      obtain ⟨z1, z2, z3⟩ := hG f hf
      have rb := (ev f hf).2.1.2.2.1.2.2
      have hp := (hR f w).2.2
      exact ⟨z1.sm y2 rb, fun q => (z2 (hp.mp q)).sm y3, fun q => z3 (fun z => q (hp.mpr z))⟩
  · rw [n1]
    unfold UU at hU ⊢
    show 5 * XI Z.n t Z1 g1 + 6 * (Z1.w 3 : Int) + smZ Z.n (fun f => uF Z.n (Z1.w 2) g1 t (if f = s then h1 else G f) f) ≤ u + δ
    have := smZ_one (n := Z.n) (F := fun f => uF Z.n (Z.w 2) g t (G f) f) (F1 := fun f => uF Z.n (Z1.w 2) g1 t (if f = s then h1 else G f) f) (s := s) (d := uF Z.n (Z1.w 2) g1 t h1 s - uF Z.n (Z.w 2) g t (G s) s) (fun q hq hqs => by
      obtain ⟨y1, y2, y3⟩ := ho q hq hqs
      show uF Z.n (Z1.w 2) g1 t (if q = s then h1 else G q) q ≤ uF Z.n (Z.w 2) g t (G q) q
      rw [if_neg hqs, uF.sm y1 y2 y3]
      exact Int.le_refl _) hs (by
      show uF Z.n (Z1.w 2) g1 t (if s = s then h1 else G s) s ≤ uF Z.n (Z.w 2) g t (G s) s + _
      rw [if_pos rfl]
      omega)
    omega
theorem MV.one {t u δ : Int} {R R1 B B1 : Nat → Nat} {p p1 : Nat → Prop} {Z Z1 : cZ} {g g1 : mSt} {s : Nat} (h : MV t R B u p Z g) (hs : s < Z.n) (hci : CI Z.n (Z1.w 2) g1) (hrs : rS Z g Z1 g1) (h1216 : g1 1216 = g 1216)
    (ho : ∀ f, f < Z.n → f ≠ s → sE f (Z.w 2) g (Z1.w 2) g1 ∧ sS Z.n f g g1 ∧ sD f g g1) (hR : ∀ f, f ≠ s → R1 f = R f ∧ B1 f = B f ∧ (p1 f ↔ p f))
    (hd : ∀ h0 : Gh, GH g h0 s → (p s → P1 g h0 s) → (¬ p s → P0 h0) → EV g (R s) s → SV Z.n t (B s) g s → OD g s → ∃ h1 : Gh, (EV g1 (R1 s) s ∧ SV Z.n t (B1 s) g1 s ∧ OD g1 s) ∧ GH g1 h1 s ∧ (p1 s → P1 g1 h1 s) ∧ (¬ p1 s → P0 h1) ∧ 5 * XI Z.n t Z1 g1 + 6 * (Z1.w 3 : Int) + uF Z.n (Z1.w 2) g1 t h1 s ≤ 5 * XI Z.n t Z g + 6 * (Z.w 3 : Int) + uF Z.n (Z.w 2) g t h0 s + δ) : MV t R1 B1 (u + δ) p1 Z1 g1 := by
  obtain ⟨G, h⟩ := h
  obtain ⟨a, b, c⟩ := h.2.2.2.2.2.1 s hs
  obtain ⟨x, y, z⟩ := h.2.2.2.2.1 s hs
  obtain ⟨h1, k1, k2, k3, k4, k5⟩ := hd (G s) a b c x y z
  exact ⟨_, h.one hs hci hrs h1216 ho hR k1 k2 k3 k4 k5⟩
theorem cJ_z {Z : cZ} {g : mSt} (h : cJ Z g) : ∀ f, f < Z.n → lsZ g (Z.n + f) ≤ 16777216 := fun f hf => by
  have := (cJ_sz h (Z.n + f) (by omega)).2
  unfold lsZ
  omega
/-- an end's first part of a tick -/
theorem MV.e1 {t u : Int} {R B : Nat → Nat} {p : Nat → Prop} {Z : cZ} {g g1 : mSt} {e : Nat} (h : MV t R B u p Z g) (hJ : cJ Z g) (he : e < Z.n) (k : efR e (Z.w 2) g g1) : MV t R B u p Z g1 := by
  obtain ⟨s, fb, hro, h386, h1729, h135⟩ := k
  have sc := fB_sC he fb
  have ss : ∀ f, f < Z.n → sS Z.n f g g1 := fun f hf => fB_sS he h.hn.2 hf fb
  have sd : ∀ f, sD f g g1 := fun f => fB_sD (fun z => absurd z (by decide)) fb
  have h1216 : g1 1216 = g 1216 := funext fun x => fb.at (by decide) (by decide) (fun z => absurd z (by decide)) (by omega)
  have := h.one (δ := 0) (R1 := R) (B1 := B) (p1 := p) (Z1 := Z) (g1 := g1) he (sc.ci h.hc (cJ_z hJ)) (rS.rf h386 h1729) h1216 (fun f hf hne => ⟨fB_sE hne fb, ss f hf, sd f⟩) (fun f _ => ⟨rfl, rfl, Iff.rfl⟩) (fun h0 k1 k2 k3 k4 k5 k6 => ⟨h0, ⟨?_, k5.sm (ss e he), (sd e).od k6⟩, k1.sm (ss e he) k5.2.2.1.2.2, fun z => (k2 z).sm (sd e), k3, ?_⟩)
  · rw [Int.add_zero] at this
    exact this
  · obtain ⟨⟨a, b, c, d⟩, x, y⟩ := k4
    refine ⟨⟨s.2.2.2.1 a, s.2.2.2.2.1 b, s.2.2.1, fun c' hc' => ?_⟩, by rw [h135]; exact x, Nat.le_trans hro y⟩
    rcases s.2.1 c' hc' with z | ⟨u', cs, z1, z2, z3⟩
    · exact d c' z
    · exact gcell_all z1 z2 z3
  · have a1 := s.1 h0.2.2.2.1
    have a2 := s.2.2.2.2.2.1
    have a3 := s.2.2.2.2.2.2
    unfold uF XI
    rw [sc.lt h.hc (cJ_z hJ), (ss e he).lk, (ss e he).lf, (sd e).d, h135]
    omega
/-- a side of the switch in the first part of a tick -/
theorem MV.s1 {t u : Int} {R B : Nat → Nat} {p : Nat → Prop} {Z : cZ} {g g1 : mSt} {f : Nat} (h : MV t R B u p Z g) (hf : f < Z.n) (k : sfR Z.n (Z.w 2) f t g g1) : MV t R B u p Z g1 := by
  have oc := k.oc
  obtain ⟨⟨hci, hln⟩, hlt, _, _, fa, ⟨h32, h43⟩, h386, h1729, h1216, hrw⟩ := k
  have nc : NC Z.n (Z.w 2) g (Z.w 2) g1 := NC.rf.eq h32 h43
  have se : ∀ e, e < Z.n → sE e (Z.w 2) g (Z.w 2) g1 := fun e he => FA_sE he fa (Nat.le_refl _) nc
  have sd : ∀ e, sD e g g1 := fun e => FA_sD fa
  have hrb : ∀ B0, RB B0 g (2 * f) → RB B0 g1 (2 * f) := fun B0 z => by
    unfold RB OA OPl at z ⊢
    rw [hrw 233 (by omega), hrw 225 (by omega), hrw 232 (by omega), hrw 512 (by omega), hrw 800 (by omega)]
    exact z
  have := h.one (δ := 0) (R1 := R) (B1 := B) (p1 := p) (Z1 := Z) (g1 := g1) hf hci (rS.rf h386 h1729) h1216 (fun e he hne => ⟨se e he, FA_sS hne fa, sd e⟩) (fun f _ => ⟨rfl, rfl, Iff.rfl⟩) (fun h0 k1 k2 k3 k4 k5 k6 => ⟨h0, ⟨k4.sm (se f hf).1, ⟨hln, oc.2.2 k5.2.1, hrb _ k5.2.2⟩, (sd f).od k6⟩, ?_, fun z => (k2 z).sm (sd f), k3, ?_⟩)
  · rw [Int.add_zero] at this
    exact this
  · unfold GH AG GP tiW at k1 ⊢
    rw [hrw 225 (by omega), hrw 231 (by omega), hrw 232 (by omega), hrw 233 (by omega), hrw 234 (by omega), hrw 800 (by omega)]
    exact k1
  · have lk : lkT h0.1 h0.2.1 g1 (Z.n + f) ≤ lkT h0.1 h0.2.1 g (Z.n + f) := by
      have a1 := oc.1
      have a2 := oc.2.1
      unfold lkT
      split <;> omega
    unfold uF XI
    rw [(se f hf).1.pe, (se f hf).d, (se f hf).1.pa, (se f hf).1.1 135 (by omega), (sd f).d]
    omega
/-- an end's cells of data -/
theorem MV.d1 {t u : Int} {R B : Nat → Nat} {p : Nat → Prop} {Z : cZ} {g g1 : mSt} {e : Nat} {r : Int32} (h : MV t R B u p Z g) (hJ : cJ Z g) (he : e < Z.n) (k : esR e (Z.w 2) g g1) (hpo : po_kesendCells Z e (2 * e) g r g1) : MV t R B u p Z g1 := by
  obtain ⟨hd, hoc, fb⟩ := k
  have sc := fB_sC he fb
  have ss : ∀ f, f < Z.n → sS Z.n f g g1 := fun f hf => fB_sS he h.hn.2 hf fb
  have kk := hpo.2.1
  have sl := esend_sL (N := Z.w 2) hpo
  have := h.one (δ := 0) (R1 := R) (B1 := B) (p1 := p) (Z1 := Z) (g1 := g1) he (sc.ci h.hc (cJ_z hJ)) (rS.rf (kk 386 (by decide)) (kk 1729 (by decide))) (kk 1216 (by decide)) (fun f hf hne => ⟨fB_sE hne fb, ss f hf, fB_sD (fun _ => hne) fb⟩) (fun f _ => ⟨rfl, rfl, Iff.rfl⟩) (fun h0 k1 k2 k3 k4 k5 k6 => ⟨h0, ⟨k4.sm sl, k5.sm (ss e he), ⟨by rw [kk 106 (by decide)]; exact k6.1, fun i hi => by rw [kk 736 (by decide), kk 640 (by decide)]; exact k6.2.1 i hi, hoc k6.2.2⟩⟩, k1.sm (ss e he) k5.2.2.1.2.2, fun z => ?_, k3, ?_⟩)
  · rw [Int.add_zero] at this
    exact this
  · rcases k2 z with ⟨l, a, b, c, d⟩ | ⟨x, a, b, c, d⟩
    · exact Or.inl ⟨l, a, fun i hi => wcell_eq (b i hi) (fun y _ _ => by unfold W6; rw [kk 608 (by decide)]), by rw [kk 101 (by decide)]; exact c, d⟩
    · exact Or.inr ⟨x, by rw [kk 101 (by decide)]; exact a, b, by rw [kk 608 (by decide)]; exact c, d⟩
  · unfold uF XI dm
    rw [sc.lt h.hc (cJ_z hJ), (ss e he).lk, (ss e he).lf, sl.pe, sl.pa, sl.1 135 (by omega), kk 106 (by decide)]
    omega
