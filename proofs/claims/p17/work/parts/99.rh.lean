/-! an end: calls that are made -/
theorem s_open4 {Z : cZ} {i : Nat} {g : mSt} {Φ : Int32 → mSt → Prop} (h : ∀ r, Φ r g) : wp_kopenCalls_4 Z i g Φ := by
  refine ⟨fun _ _ g' => g' = g, fun a b g3 _ _ _ _ _ q3 => ?_, rfl⟩
  rw [show g3 = g from q3]
  exact s_lsize (fun v6 _ => ⟨fun _ => h _, fun _ => s_lget (fun v12 _ => s_isOpen (fun v14 _ => ⟨fun _ g16 => g16 = g, fun b g16 _ _ _ _ q16 v17 _ _ v18 _ _ _ => q16, fun _ => rfl, fun _ => rfl⟩))⟩)
theorem s_room4 {Z : cZ} {i : Nat} {g : mSt} {Φ : Int32 → mSt → Prop} (h : ∀ r : Int32, (r.toInt ≠ 0 → (g 135 i).toInt < 40) → Φ r g) : wp_khasRoom Z i g Φ := by
  intro v1 e1 _
  refine ⟨fun b g3 => g3 = g ∧ (b.toInt ≠ 0 → (g 135 i).toInt < 40), fun b g3 _ _ _ _ q3 => by rw [q3.1]; exact h _ q3.2, ⟨fun g4 => g4 = g, fun g4 _ _ _ q4 => ⟨q4, fun z => absurd rfl z⟩, fun _ => rfl, fun c => s_open4 (fun v10 _ => ⟨fun _ => rfl, fun _ => ⟨rfl, fun _ => by rw [← e1]; exact c⟩⟩)⟩⟩
theorem s_place4 {Z : cZ} {i : Nat} {p1 p2 : Int32} {g : mSt} {Φ : Int32 → mSt → Prop} (h : ∀ r, Φ r g) : wp_kplaceOfReference_4 Z i p1 p2 g Φ := by
  refine ⟨fun _ g' => g' = g, fun a g2 _ _ _ _ q2 => ?_, rfl⟩
  rw [show g2 = g from q2]
  exact s_lsize (fun v5 _ => ⟨fun _ => h _, fun _ => s_lget (fun v11 _ v12 _ _ => ⟨fun g13 => g13 = g, fun g13 _ _ _ q13 v14 _ _ _ => q13, fun _ => rfl, fun _ v16 _ _ => ⟨fun _ => rfl, fun _ => h _⟩⟩)⟩)
theorem s_lset {Z : cZ} {i : Nat} {p1 p2 : Int32} {g : mSt} {Φ : Int32 → cZ → mSt → Prop} (h : ∀ g1, mFr [1728] g g1 → Φ 0 Z g1) : wp_klset Z i p1 p2 g Φ := by
  intro v1 _ _
  unfold wp_kcheckIndex wp_kcheckIndex0 wp_kelementData
  repeat' first
    | exact trivial
    | (intro _ _ _ _ g9 e9; exact h g9 (fun a ha => by rw [e9, up2_of (by simpa using ha)]))
    | refine ⟨?_, ?_⟩
    | intro _
/-- how a list grew: kept as long as it was, or one more -/
def kS (Z : cZ) (g : mSt) (Z1 : cZ) (g1 : mSt) (s : Nat) : Prop := (Z1.n = Z.n ∧ (∀ K i, Z.al K i → Z1.al K i) ∧ Z1.w 2 = Z.w 2 ∧ Z1.w 3 = Z.w 3) ∧ (∀ q, q ≠ s → g1 386 q = g 386 q ∧ g1 1729 q = g 1729 q) ∧ ((g1 386 s = g 386 s ∧ g1 1729 s = g 1729 s ∧ Z1.w 0 = Z.w 0) ∨ ((g1 386 s).toInt = (g 386 s).toInt + 1 ∧ Z1.w 0 ≤ Z.w 0 + 1 ∧ ((g1 1729 s).toInt = (g 1729 s).toInt ∨ ((g 386 s).toInt = (g 1729 s).toInt ∧ ((g1 1729 s).toInt = 10 ∨ 2 * (g1 1729 s).toInt ≤ 3 * (g 1729 s).toInt)))))
theorem wAdd.kS {Z Z1 : cZ} {g g1 : mSt} {s : Nat} {v : Int32} {n : Nat} (h : wAdd g g1 s v) (h3 : Z1.w 3 = Z.w 3) (h2 : Z1.w 2 = Z.w 2) (hz : cZg Z Z1 1 n) : kS Z g Z1 g1 s := by
  refine ⟨⟨hz.1, hz.2.1, h2, h3⟩, fun q hq => ⟨h.1.out ?_, h.1.out ?_⟩, Or.inr ⟨h.2.2.2.1, hz.2.2.1, h.2.2.2.2⟩⟩
  · simp [mOut]
    omega
  · simp [mOut]
    omega
theorem s_keep4 {Z : cZ} {i n1 : Nat} {p1 : Int32} {g : mSt} {Φ : Int32 → cZ → mSt → Prop} (hg : gNd g i n1) (h : ∀ Z1 g1, mFr [384, 385, 386, 1728, 1729] g g1 → kS Z g Z1 g1 i → Φ 0 Z1 g1) : wp_kkeep_4 n1 Z i p1 g Φ := by
  intro v1 _ _ v2 _ _
  refine s_place4 (fun v4 _ => ⟨fun _ => s_lset (fun g11 k11 _ _ Z1 e1 => h Z1 g11 (fun a ha => k11 a (fun z => ha (by simp only [List.mem_singleton] at z; subst z; decide))) ?_), fun _ => ⟨hg, fun Z1 g16 hw h3 h2 hpo hz Z2 e2 => h Z2 g16 hpo.2.1 (by rw [e2]; exact hw.kS h3 h2 hz)⟩⟩)
  rw [e1]
  exact ⟨⟨rfl, fun _ _ z => z, rfl, rfl⟩, fun q _ => ⟨by rw [k11 386 (by decide)], by rw [k11 1729 (by decide)]⟩, Or.inl ⟨by rw [k11 386 (by decide)], by rw [k11 1729 (by decide)], rfl⟩⟩
theorem ep_mono {N N1 e : Nat} {g : mSt} {m : Bool} (h : N1 ≤ N) : ep N1 g e m ≤ ep N g e m := by
  have : om N1 g e ≤ om N g e := by
    unfold om
    rw [show N = N1 + (N - N1) by omega, List.range_add, List.countP_append]
    omega
  unfold ep
  omega
theorem smN_upd {n : Nat} {F F1 : Nat → Nat} {s d : Nat} (h : ∀ q, q ≠ s → F1 q = F q) (hs : s < n) (k : F1 s = F s + d) : smN n F1 = smN n F + d := by
  induction n with
  | zero => omega
  | succ n ih =>
    show smN n F1 + F1 n = smN n F + F n + d
    by_cases e : s = n
    · subst e
      have : smN s F1 = smN s F := by
        have a : smN s F1 ≤ smN s F := smN_le (fun c hc => Nat.le_of_eq (h c (by omega)))
        have b : smN s F ≤ smN s F1 := smN_le (fun c hc => Nat.le_of_eq (h c (by omega)).symm)
        omega
      omega
    · rw [ih (by omega), h n (by omega)]
      omega
def capI (n : Nat) (g : mSt) : Prop := ∀ s, s < 2 * n → (g 1729 s).toInt ≤ 10 ∨ 2 * (g 1729 s).toInt ≤ 3 * (g 386 s).toInt
def szT (n : Nat) (g : mSt) : Nat := smN (2 * n) fun s => (g 386 s).toInt.toNat
/-- the room: lists grow no faster than calls are made; cells by calls, lists, slots of frames and assemblers -/
def rS (Z : cZ) (g : mSt) (Z1 : cZ) (g1 : mSt) : Prop := Z1.n = Z.n ∧ (capI Z.n g → capI Z.n g1) ∧ szT Z.n g1 + Z.w 2 ≤ szT Z.n g + Z1.w 2 ∧ 121 * Z1.w 0 + 121 * (Z.w 2 + szT Z.n g) + Z.w 3 ≤ 121 * Z.w 0 + 121 * (Z1.w 2 + szT Z.n g1) + Z1.w 3
theorem rS.rf {Z : cZ} {g g1 : mSt} (h : g1 386 = g 386) (k : g1 1729 = g 1729) : rS Z g Z g1 := by
  refine ⟨rfl, fun q => by unfold capI; rw [h, k]; exact q, ?_, ?_⟩
  · unfold szT
    rw [h]
    exact Nat.le_refl _
  · unfold szT
    rw [h]
    exact Nat.le_refl _
theorem rS.tr {Z Z1 Z2 : cZ} {g g1 g2 : mSt} (h : rS Z g Z1 g1) (k : rS Z1 g1 Z2 g2) : rS Z g Z2 g2 := by
  obtain ⟨h1, h2, h3, h4⟩ := h
  obtain ⟨k1, k2, k3, k4⟩ := k
  rw [h1] at k2 k3 k4
  exact ⟨k1.trans h1, fun q => k2 (h2 q), by omega, by omega⟩
/-- a list may have grown, and a call was made before -/
theorem kS.rS {Z Za Z1 : cZ} {g ga g1 : mSt} {s : Nat} (h : kS Za ga Z1 g1 s) (hs : s < 2 * Z.n) (h0 : 0 ≤ (g 386 s).toInt) (hz : cZl Z Za 1 18) (h2 : Za.w 2 = Z.w 2 + 1) (h3 : Za.w 3 = Z.w 3) (e1 : ga 386 = g 386) (e2 : ga 1729 = g 1729) : rS Z g Z1 g1 := by
  obtain ⟨⟨a1, _, a2, a3⟩, b, c⟩ := h
  have z0 := hz.2.2.2.1
  have z1 := hz.1
  rw [e1, e2] at c
  have hsz : ∃ d, d ≤ 1 ∧ szT Z.n g1 = szT Z.n g + d ∧ Z1.w 0 ≤ Za.w 0 + d := by
    rcases c with ⟨c1, _, c3⟩ | ⟨c1, c2, _⟩
    · refine ⟨0, by omega, smN_upd (s := s) (fun q hq => ?_) hs ?_, by omega⟩
      · rw [(b q hq).1, e1]
      · rw [c1]
        rfl
    · refine ⟨1, by omega, smN_upd (s := s) (fun q hq => ?_) hs ?_, c2⟩
      · rw [(b q hq).1, e1]
      · omega
  obtain ⟨d, hd, hd1, hd2⟩ := hsz
  refine ⟨a1.trans z1, fun q r hr => ?_, by omega, by omega⟩
  have q0 := q r hr
  by_cases e : r = s
  · subst e
    rcases c with ⟨c1, c2, _⟩ | ⟨c1, _, c3⟩
    · rw [c1, c2]
      exact q0
    · rcases c3 with c3 | ⟨c3, c4⟩
      · omega
      · omega
  · rw [(b r e).1, (b r e).2, e1, e2]
    exact q0
/-- a step of an end in which calls may be made: each takes one of its 40 numbers -/
def eS2 (e N : Nat) (g : mSt) (N1 : Nat) (g1 : mSt) : Prop := ((∀ m, ep N1 g1 e m ≤ ep N g e m) ∧ (∀ c ∈ qL g1 (2 * (2 * e)), c ∈ qL g (2 * (2 * e)) ∨ ∃ u cs, goodU u ∧ uCs u cs ∧ c ∈ cs) ∧ uLn g1 (2 * e) = 0 ∧ (li g e → li g1 e) ∧ (noP g e → noP g1 e) ∧ dN N1 g1 e ≤ dN N g e) ∧ (N1 : Int) + (g 135 e).toInt ≤ (N : Int) + (g1 135 e).toInt ∧ (asN N1 g1 e : Int) + (g 135 e).toInt ≤ (asN N g e : Int) + (g1 135 e).toInt
theorem eS2.tr {e N N1 N2 : Nat} {g g1 g2 : mSt} (h : eS2 e N g N1 g1) (k : eS2 e N1 g1 N2 g2) : eS2 e N g N2 g2 := ⟨⟨fun m => Nat.le_trans (k.1.1 m) (h.1.1 m), fun c hc => (k.1.2.1 c hc).elim (fun z => h.1.2.1 c z) Or.inr, k.1.2.2.1, fun q => k.1.2.2.2.1 (h.1.2.2.2.1 q), fun q => k.1.2.2.2.2.1 (h.1.2.2.2.2.1 q), Nat.le_trans k.1.2.2.2.2.2 h.1.2.2.2.2.2⟩, by have := h.2.1; have := k.2.1; omega, by have := h.2.2; have := k.2.2; omega⟩
theorem eSt.to {e N : Nat} {g g1 : mSt} (h : eSt N e g g1) (k : (g 135 e).toInt ≤ (g1 135 e).toInt) : eS2 e N g N g1 := ⟨⟨h.1, h.2.1, h.2.2.1, h.2.2.2.1, h.2.2.2.2.1, h.2.2.2.2.2.1⟩, by omega, by have := h.2.2.2.2.2.2; omega⟩
theorem eS2.le {e N N1 N2 : Nat} {g g1 : mSt} (h : eS2 e N g N1 g1) (k : N2 ≤ N1) : eS2 e N g N2 g1 := ⟨⟨fun m => Nat.le_trans (ep_mono k) (h.1.1 m), h.1.2.1, h.1.2.2.1, h.1.2.2.2.1, h.1.2.2.2.2.1, Nat.le_trans (smN_mono k) h.1.2.2.2.2.2⟩, by have := h.2.1; omega, by have := h.2.2; have : asN N2 g1 e ≤ asN N1 g1 e := smN_mono k; omega⟩
theorem eSt.fr {M : List Nat} {N e : Nat} {g g1 g2 : mSt} (h : eSt N e g g1) (f : mFr M g1 g2) (hM1 : relN M = true) (hM : (32 ∉ M ∧ 36 ∉ M) ∧ 42 ∉ M ∧ 43 ∉ M ∧ 46 ∉ M ∧ 48 ∉ M ∧ 49 ∉ M) : eSt N e g g2 := h.line (h.stp.fr f hM1) f hM
/-- a new call -/
theorem e_new {e N c : Nat} {g g1 : mSt} {sd x o : Int32} (hu : uLn g (2 * e) = 0) (hc : c = N) (e1 : g1 = gNew g c sd x o) : (∀ m, ep (N + 1) g1 e m ≤ ep N g e m) ∧ (∀ k ∈ qL g1 (2 * (2 * e)), k ∈ qL g (2 * (2 * e)) ∨ ∃ u cs, goodU u ∧ uCs u cs ∧ k ∈ cs) ∧ uLn g1 (2 * e) = 0 ∧ (li g e → li g1 e) ∧ (noP g e → noP g1 e) ∧ dN (N + 1) g1 e ≤ dN N g e ∧ asN (N + 1) g1 e ≤ asN N g e := by
  have hr : ∀ j, 50 ≤ j → g1 j = g j := fun j hj => funext fun i => by rw [e1]; exact gNew_o (by omega)
  have hi : ∀ j i, i ≠ c → g1 j i = g j i := fun j i hne => by rw [e1]; exact gNew_o (by omega)
  have f : mFr (List.range 50) g g1 := fun j hj => hr j (by
    rw [List.mem_range] at hj
    omega)
  have s := (stp.rf (g := g) (i := e) (d := 2 * e) hu).fr f (by decide)
  refine ⟨fun m => ?_, s.2.1, s.2.2.1, s.2.2.2, fun q k hk => ?_, ?_, ?_⟩
  · have := s.1 m
    have h2 : om (N + 1) g1 e ≤ om N g e := by
      unfold om
      rw [List.range_succ, List.countP_append, List.countP_singleton]
      have h3 : omP g1 e N = false := by
        unfold omP
        rw [e1, ← hc]
        refine decide_eq_false (fun z => ?_)
        have z := z.2.1
        have : gNew g c sd x o 36 c = 0 := by
          unfold gNew
          rw [if_pos ⟨rfl, by decide, by decide⟩]
          rfl
        rw [this] at z
        exact absurd z (by decide)
      rw [h3]
      have h4 : (List.range N).countP (omP g1 e) = (List.range N).countP (omP g e) := by
        refine List.countP_congr (fun k hk => ?_)
        have hk := List.mem_range.mp hk
        unfold omP
        rw [hi 32 k (by omega), hi 36 k (by omega), hi 42 k (by omega)]
      rw [h4]
      exact Nat.le_refl _
    unfold ep
    omega
  · by_cases hkc : k = c
    · subst hkc
      have : g1 43 k = -1 := by
        rw [e1]
        unfold gNew
        rw [if_pos ⟨rfl, by decide, by decide⟩]
        rfl
      rw [this]
      decide
    · rw [hi 32 k hkc] at hk
      rw [hi 43 k hkc]
      exact q k hk
  · have a : dN N g1 e ≤ dN N g e := smN_le (fun c hc' => by rw [hi 32 c (by omega), dW_eq (hi 48 c (by omega)) (hi 49 c (by omega))]; exact Nat.le_refl _)
    have b : dW g1 N = 0 := dW_0 (by rw [e1, hc]; unfold gNew; rw [if_pos ⟨rfl, by decide, by decide⟩]; rfl)
    show smN N _ + (if _ then dW g1 N else 0) ≤ _
    rw [b, ite_self]
    exact a
  · have a : asN N g1 e ≤ asN N g e := smN_le (fun c hc' => by rw [hi 32 c (by omega), asW_eq (hi 36 c (by omega)) (hi 46 c (by omega))]; exact Nat.le_refl _)
    have b : asW g1 N = 0 := by
      have : g1 36 N = 0 := by rw [e1, hc]; unfold gNew; rw [if_pos ⟨rfl, by decide, by decide⟩]; rfl
      unfold asW
      rw [this]
      rfl
    show smN N _ + (if _ then asW g1 N else 0) ≤ _
    rw [b, ite_self]
    exact a
theorem s_eadd {Z : cZ} {i n1 : Nat} {p1 : Int32} {g : mSt} {Φ : Int32 → cZ → mSt → Prop} (hg : gNd g i n1) (hh : (g 135 i).toInt < 40) (h : ∀ Z1 g1, mFr [35, 135, 384, 385, 386, 1536, 1728, 1729] g g1 → (g1 135 i).toInt = (g 135 i).toInt + 1 → kS Z g Z1 g1 i → Φ 0 Z1 g1) : wp_keadd n1 Z i p1 g Φ := by
  intro v1 e1 _
  refine ⟨fun c => by exfalso; rw [e1] at c; omega, fun c g6 e6 g9 e9 v11 e11 _ t11 g13 e13 => ?_⟩
  have k13 : mFr [35, 135, 1536] g g13 := fun a ha => by
    simp only [List.mem_cons, List.not_mem_nil, or_false, not_or] at ha
    rw [e13, up2_of ha.2.1, e9, up2_of ha.2.2, e6, up2_of ha.1]
  refine s_keep4 (by unfold gNd; rw [k13 386 (by decide), k13 1729 (by decide)]; exact hg) (fun Z1 g16 k16 q16 hpo _ Z2 e2 => h Z2 g16 (fun a ha => ?_) ?_ ?_)
  · simp only [List.mem_cons, List.not_mem_nil, or_false, not_or] at ha
    rw [k16 a (by simp only [List.mem_cons, List.not_mem_nil, or_false, not_or]; omega), k13 a (by simp only [List.mem_cons, List.not_mem_nil, or_false, not_or]; omega)]
  · rw [k16 135 (by decide), e13, up2_i, t11, e1]
  · rw [e2]
    unfold kS at q16 ⊢
    rw [k13 386 (by decide), k13 1729 (by decide)] at q16
    exact q16
