/-! a part of the state that a step leaves as it was: an end -/
def sL (e N0 : Nat) (g0 : mSt) (N : Nat) (g : mSt) : Prop :=
  (∀ j, j = 135 ∨ j = 164 ∨ j = 170 ∨ j = 171 ∨ j = 197 ∨ j = 198 → g j e = g0 j e) ∧ (∀ j k, j = 832 ∨ j = 864 → k / 8192 = e → g j k = g0 j k) ∧ (∀ j k, j = 1248 ∨ j = 1280 → k / 8192 / 2 = e → g j k = g0 j k) ∧ (g 66 (2 * (2 * e)) = g0 66 (2 * (2 * e)) ∧ g 67 (2 * (2 * e)) = g0 67 (2 * (2 * e)) ∧ ∀ j k, j = 544 ∨ j = 576 → k / 8192 = 2 * (2 * e) → g j k = g0 j k) ∧ g 111 (2 * e) = g0 111 (2 * e) ∧ N0 ≤ N ∧ (∀ c, c < N0 → g 32 c = g0 32 c ∧ g 43 c = g0 43 c ∧ ((g0 32 c).toInt = (e : Int) → g 36 c = g0 36 c ∧ g 42 c = g0 42 c ∧ g 46 c = g0 46 c)) ∧ (∀ c, N0 ≤ c → c < N → (g 32 c).toInt ≠ (e : Int)) ∧ ∀ c, N ≤ c → g 32 c = g0 32 c ∧ g 43 c = g0 43 c
def sE (e N0 : Nat) (g0 : mSt) (N : Nat) (g : mSt) : Prop := sL e N0 g0 N g ∧ ∀ c, c < N0 → (g0 32 c).toInt = (e : Int) → g 48 c = g0 48 c ∧ g 49 c = g0 49 c
theorem cP_ext {N0 N : Nat} {p q : Nat → Bool} (hN : N0 ≤ N) (h1 : ∀ c, c < N0 → q c = p c) (h2 : ∀ c, N0 ≤ c → c < N → q c = false) : (List.range N).countP q = (List.range N0).countP p := by
  induction N with
  | zero =>
    have : N0 = 0 := by omega
    rw [this]
    rfl
  | succ N ih =>
    by_cases e : N0 = N + 1
    · rw [e]
      rw [e] at h1
      exact List.countP_congr (fun x hx => by rw [h1 x (List.mem_range.mp hx)])
    · rw [List.range_succ, List.countP_append, List.countP_singleton, h2 N (by omega) (by omega), ih (by omega) (fun c ha hb => h2 c ha (by omega))]
      rfl
theorem smN_ext {N0 N : Nat} {F F1 : Nat → Nat} (hN : N0 ≤ N) (h1 : ∀ c, c < N0 → F1 c = F c) (h2 : ∀ c, N0 ≤ c → c < N → F1 c = 0) : smN N F1 = smN N0 F := by
  induction N with
  | zero =>
    have : N0 = 0 := by omega
    rw [this]
    rfl
  | succ N ih =>
    by_cases e : N0 = N + 1
    · rw [e]
      rw [e] at h1
      exact smN_eq h1
    · show smN N F1 + F1 N = _
      rw [h2 N (by omega) (by omega), ih (by omega) (fun c ha hb => h2 c ha (by omega))]
      rfl
theorem smN_tr {n : Nat} {F F1 : Nat → Nat} {s a a1 : Nat} (h : ∀ q, q < n → q ≠ s → F1 q = F q) (hs : s < n) (k : F1 s + a1 ≤ F s + a) : smN n F1 + a1 ≤ smN n F + a := by
  induction n with
  | zero => exact absurd hs (Nat.not_lt_zero _)
  | succ n ih =>
    show smN n F1 + F1 n + a1 ≤ smN n F + F n + a
    by_cases e : s = n
    · have : smN n F1 = smN n F := smN_eq (fun q hq => h q (by omega) (by omega))
      rw [e] at k
      omega
    · have i := ih (fun q hq hn => h q (by omega) hn) (by omega)
      have := h n (by omega) (fun z => e z.symm)
      omega
theorem sL.q {e N0 N : Nat} {g0 g : mSt} (h : sL e N0 g0 N g) : qL g (2 * (2 * e)) = qL g0 (2 * (2 * e)) := by
  obtain ⟨h66, h67, hq⟩ := h.2.2.2.1
  refine qL_ext (by unfold qSz; rw [h67]) (fun i _ => ?_)
  unfold qC
  rw [qPl_eq h66]
  have hp : qPl g0 (2 * (2 * e)) i < 40 := Nat.mod_lt _ (by decide)
  refine cell_ext (hq 576 _ (Or.inr rfl) (by omega)) (fun j hj => hq 544 _ (Or.inl rfl) (by omega))
theorem sL.wt {e N0 N : Nat} {g0 g : mSt} (h : sL e N0 g0 N g) : wtL g e = wtL g0 e := by
  unfold wtL wtP
  rw [h.1 198 (by omega), h.1 197 (by omega)]
  refine List.map_congr_left (fun k _ => h.2.1 864 _ (Or.inr rfl) ?_)
  have : ((g0 197 e).toInt.toNat + k) % 10 < 10 := Nat.mod_lt _ (by decide)
  omega
theorem sL.pf {e N0 N : Nat} {g0 g : mSt} (h : sL e N0 g0 N g) : fl g e = fl g0 e := fl_eq (h.1 164 (by omega)) (fun j hj => h.2.2.1 1280 _ (Or.inr rfl) (by omega))
theorem sL.pe {e N0 N : Nat} {g0 g : mSt} (h : sL e N0 g0 N g) (m : Bool) : ep N g e m = ep N0 g0 e m := by
  unfold ep pot om
  rw [h.q, h.pf, h.wt, cP_ext (p := omP g0 e) h.2.2.2.2.2.1 (fun c hc => ?_) (fun c h1 h2 => ?_)]
  · obtain ⟨a, _, b⟩ := h.2.2.2.2.2.2.1 c hc
    unfold omP
    by_cases w : (g0 32 c).toInt = (e : Int)
    · rw [a, (b w).1, (b w).2.1]
    · rw [a]
      exact decide_eq_decide.mpr ⟨fun z => absurd z.1 w, fun z => absurd z.1 w⟩
  · unfold omP
    exact decide_eq_false (fun z => h.2.2.2.2.2.2.2.1 c h1 h2 z.1)
theorem sL.pa {e N0 N : Nat} {g0 g : mSt} (h : sL e N0 g0 N g) : asN N g e = asN N0 g0 e := by
  refine smN_ext h.2.2.2.2.2.1 (fun c hc => ?_) (fun c h1 h2 => if_neg (h.2.2.2.2.2.2.2.1 c h1 h2))
  obtain ⟨a, _, b⟩ := h.2.2.2.2.2.2.1 c hc
  rw [a]
  split
  · rename_i w
    exact asW_eq (b w).1 (b w).2.2
  · rfl
theorem sE.d {e N0 N : Nat} {g0 g : mSt} (h : sE e N0 g0 N g) : dN N g e = dN N0 g0 e := by
  refine smN_ext h.1.2.2.2.2.2.1 (fun c hc => ?_) (fun c h1 h2 => if_neg (h.1.2.2.2.2.2.2.2.1 c h1 h2))
  obtain ⟨a, _, _⟩ := h.1.2.2.2.2.2.2.1 c hc
  rw [a]
  split
  · rename_i w
    exact dW_eq (h.2 c hc w).1 (h.2 c hc w).2
  · rfl
theorem sL.pl {e N0 N : Nat} {g0 g : mSt} (h : sL e N0 g0 N g) (k : li g0 e) : li g e := by
  unfold li at k ⊢
  rw [h.1 171 (by omega), h.1 170 (by omega), h.wt]
  refine ⟨k.1, fun j hj => ?_, k.2.2.1, fun x hx => by rw [h.2.1 832 x (Or.inl rfl) hx]; exact k.2.2.2.1 x hx, fun x hx => by rw [h.2.2.1 1248 x (Or.inl rfl) (by omega)]; exact k.2.2.2.2 x hx⟩
  have : snt g e j = snt g0 e j := h.2.2.1 1280 _ (Or.inr rfl) (by omega)
  rw [this]
  exact k.2.1 j hj
theorem sL.no {e N0 N : Nat} {g0 g : mSt} (h : sL e N0 g0 N g) (k : noP g0 e) : noP g e := fun c hc => by
  by_cases w : c < N0
  · obtain ⟨a, b, _⟩ := h.2.2.2.2.2.2.1 c w
    rw [a] at hc
    rw [b]
    exact k c hc
  · by_cases w1 : c < N
    · exact absurd hc (h.2.2.2.2.2.2.2.1 c (by omega) w1)
    · obtain ⟨a, b⟩ := h.2.2.2.2.2.2.2.2 c (by omega)
      rw [a] at hc
      rw [b]
      exact k c hc
theorem sL.u {e N0 N : Nat} {g0 g : mSt} (h : sL e N0 g0 N g) : uLn g (2 * e) = uLn g0 (2 * e) := by
  unfold uLn
  rw [h.2.2.2.2.1]
theorem sL.pr {e N0 N : Nat} {g0 g : mSt} (h : sL e N0 g0 N g) : ro g e = ro g0 e := by
  unfold ro occ
  rw [h.1 170 (by omega)]
  congr 1
  refine List.countP_congr (fun k hk => ?_)
  have hk := List.mem_range.mp hk
  have : ahd g e k = ahd g0 e k := h.2.2.1 1280 _ (Or.inr rfl) (by omega)
  rw [this]
/-! a side of the switch with its receiver -/
def sS (n f : Nat) (g0 g : mSt) : Prop := (∀ j, j = 164 ∨ j = 177 ∨ j = 178 ∨ j = 180 → g j (n + f) = g0 j (n + f)) ∧ (∀ j k, j = 1248 ∨ j = 1280 → k / 8192 = 2 * (n + f) + 1 → g j k = g0 j k) ∧ (∀ j, 225 ≤ j → j ≤ 235 → g j (2 * f) = g0 j (2 * f)) ∧ ∀ j k, j = 800 ∨ j = 512 → k / 8192 = 2 * f → g j k = g0 j k
theorem sS.ln {n f : Nat} {t : Int} {g0 g : mSt} (h : sS n f g0 g) (k : lnI t g0 (n + f)) : lnI t g (n + f) := by
  unfold lnI at k ⊢
  rw [h.1 177 (by omega), h.1 178 (by omega), h.1 180 (by omega)]
  exact k
theorem sS.lf {n f : Nat} {t : Int} {g0 g : mSt} (h : sS n f g0 g) : lfG g t (n + f) = lfG g0 t (n + f) := by
  unfold lfG
  rw [h.1 164 (by omega), h.1 177 (by omega), h.1 178 (by omega), h.1 180 (by omega)]
theorem sS.ah {n f p : Nat} {g0 g : mSt} (h : sS n f g0 g) (hp : p < 8) : ahd g (n + f) p = ahd g0 (n + f) p := h.2.1 1280 _ (Or.inr rfl) (by omega)
theorem sS.oc {n f : Nat} {g0 g : mSt} (h : sS n f g0 g) : occ g (n + f) = occ g0 (n + f) := by
  unfold occ
  exact List.countP_congr (fun k hk => by rw [h.ah (List.mem_range.mp hk)])
theorem sS.os {n f : Nat} {g0 g : mSt} (h : sS n f g0 g) : osp g (n + f) = osp g0 (n + f) := by
  refine smN_eq (fun p hp => ?_)
  have a := h.ah hp
  have b : ∀ j, j < 60 → pAt g (n + f) p j = pAt g0 (n + f) p j := fun j hj => h.2.1 1248 _ (Or.inl rfl) (by omega)
  have : su19 g (n + f) p ↔ su19 g0 (n + f) p := by
    unfold su19 suB
    rw [a, b 0 (by omega), b 1 (by omega), b 5 (by omega), b 6 (by omega), b 8 (by omega), b 9 (by omega), b 10 (by omega), b 12 (by omega), b 14 (by omega), b 15 (by omega), b 17 (by omega)]
  by_cases w : su19 g0 (n + f) p
  · rw [if_pos w, if_pos (this.mpr w)]
  · rw [if_neg w, if_neg (fun z => w (this.mp z))]
theorem sS.oh {n f : Nat} {g0 g : mSt} (h : sS n f g0 g) (k : OH g0 (n + f)) : OH g (n + f) := fun x hx => by
  rw [h.2.1 1248 _ (Or.inl rfl) (by omega)]
  exact k x hx
theorem sS.rb {n f B : Nat} {g0 g : mSt} (h : sS n f g0 g) (k : RB B g0 (2 * f)) : RB B g (2 * f) := by
  unfold RB at k ⊢
  rw [h.2.2.1 233 (by decide) (by decide), h.2.2.1 225 (by decide) (by decide), h.2.2.1 232 (by decide) (by decide)]
  exact ⟨k.1, k.2.1, fun x hx => by rw [h.2.2.2 512 _ (Or.inr rfl) (by omega)]; exact k.2.2.1 x hx, fun x hx => by rw [h.2.2.2 800 _ (Or.inl rfl) (by omega)]; exact k.2.2.2 x hx⟩
theorem sS.ag {n f : Nat} {g0 g : mSt} (h : sS n f g0 g) : AG g (2 * f) ↔ AG g0 (2 * f) := by
  unfold AG
  rw [h.2.2.1 233 (by decide) (by decide), h.2.2.1 225 (by decide) (by decide)]
theorem sS.gp {n f : Nat} {g0 g : mSt} (h : sS n f g0 g) (hb : (g0 225 (2 * f)).toInt ≠ 0 → (g0 233 (2 * f)).toInt ≤ 52) : GP g (2 * f) ↔ GP g0 (2 * f) := by
  have r : ∀ j, 225 ≤ j → j ≤ 235 → g j (2 * f) = g0 j (2 * f) := h.2.2.1
  have key : ∀ C, ((g0 225 (2 * f)).toInt ≠ 0 → tiW C g0 (2 * f) (53 - (g0 233 (2 * f)).toInt.toNat)) ↔ ((g 225 (2 * f)).toInt ≠ 0 → tiW C g (2 * f) (53 - (g 233 (2 * f)).toInt.toNat)) := fun C => by
    unfold tiW
    rw [r 225 (by decide) (by decide), r 233 (by decide) (by decide), r 231 (by decide) (by decide), r 232 (by decide) (by decide), r 234 (by decide) (by decide)]
    refine ⟨fun z w => ⟨(z w).1, fun a b => ⟨((z w).2 a b).1, fun j hj => ?_⟩⟩, fun z w => ⟨(z w).1, fun a b => ⟨((z w).2 a b).1, fun j hj => ?_⟩⟩⟩
    · have := hb w
      rw [h.2.2.2 800 _ (Or.inl rfl) (by omega)]
      exact ((z w).2 a b).2 j hj
    · have := hb w
      rw [← h.2.2.2 800 _ (Or.inl rfl) (by omega)]
      exact ((z w).2 a b).2 j hj
  unfold GP
  exact ⟨fun ⟨C, hC, z⟩ => ⟨C, hC, (key C).mpr z⟩, fun ⟨C, hC, z⟩ => ⟨C, hC, (key C).mp z⟩⟩
theorem sS.lk {n f a : Nat} {m : Bool} {g0 g : mSt} (h : sS n f g0 g) : lkT m a g (n + f) = lkT m a g0 (n + f) := by
  unfold lkT
  rw [h.oc, h.os]
/-! a link's data and damages -/
def sD (f : Nat) (g0 g : mSt) : Prop := (g 106 (2 * f) = g0 106 (2 * f) ∧ g 101 (2 * f) = g0 101 (2 * f) ∧ g 67 (2 * (2 * f) + 1) = g0 67 (2 * (2 * f) + 1)) ∧ (∀ k, k / 8192 = 2 * (2 * f) + 1 → g 544 k = g0 544 k) ∧ ∀ j k, j = 608 ∨ j = 736 ∨ j = 640 → k / 8192 = 2 * f → g j k = g0 j k
theorem sD.d {f : Nat} {g0 g : mSt} (h : sD f g0 g) : dm g (2 * f) = dm g0 (2 * f) := by
  unfold dm qSz
  rw [h.1.1, h.1.2.2]
def OD (g : mSt) (f : Nat) : Prop := (0 ≤ (g 106 (2 * f)).toInt ∧ (g 106 (2 * f)).toInt ≤ 8) ∧ OK7 g (2 * f) ∧ ∀ x, x / 8192 = 2 * (2 * f) + 1 → oct (g 544 x)
theorem sD.od {f : Nat} {g0 g : mSt} (h : sD f g0 g) (k : OD g0 f) : OD g f := by
  refine ⟨by rw [h.1.1]; exact k.1, fun i hi => ?_, fun x hx => by rw [h.2.1 x hx]; exact k.2.2 x hx⟩
  rw [h.2.2 736 _ (Or.inr (Or.inl rfl)) (by omega), h.2.2 640 _ (Or.inr (Or.inr rfl)) (by omega)]
  exact k.2.1 i hi
/-! the switch's calls -/
def sC (n N0 : Nat) (g0 : mSt) (N : Nat) (g : mSt) : Prop := N0 ≤ N ∧ (∀ c, c < N0 → g 32 c = g0 32 c ∧ ((n : Int) ≤ (g0 32 c).toInt → ∀ j, j = 33 ∨ j = 34 ∨ j = 36 ∨ j = 38 ∨ j = 41 ∨ j = 42 ∨ j = 43 → g j c = g0 j c)) ∧ (∀ c, N0 ≤ c → c < N → (g 32 c).toInt < (n : Int)) ∧ ∀ f, f < n → g 323 f = g0 323 f ∧ g 386 (n + f) = g0 386 (n + f) ∧ ∀ p, p < 16777216 → g 1728 (16777216 * (n + f) + p) = g0 1728 (16777216 * (n + f) + p)
theorem sC.ls {n N0 N f : Nat} {g0 g : mSt} (h : sC n N0 g0 N g) (hf : f < n) : lsZ g (n + f) = lsZ g0 (n + f) := by
  unfold lsZ
  rw [(h.2.2.2 f hf).2.1]
theorem sC.le {n N0 N f p : Nat} {g0 g : mSt} (h : sC n N0 g0 N g) (hf : f < n) (hp : p < 16777216) : lsE g (n + f) p = lsE g0 (n + f) p := by
  unfold lsE
  rw [(h.2.2.2 f hf).2.2 p hp]
theorem sC.row {n N0 N f p : Nat} {g0 g : mSt} (h : sC n N0 g0 N g) (k : CL n N0 g0) (hf : f < n) (hp : p < lsZ g0 (n + f)) {j : Nat} (hj : j = 33 ∨ j = 34 ∨ j = 36 ∨ j = 38 ∨ j = 41 ∨ j = 42 ∨ j = 43) : g j (lsE g0 (n + f) p) = g0 j (lsE g0 (n + f) p) := by
  obtain ⟨a, b, _⟩ := (k f hf).2.1 p hp
  exact (h.2.1 _ a).2 (by rw [b]; omega) j hj
theorem sC.ci {n N0 N : Nat} {g0 g : mSt} (h : sC n N0 g0 N g) (k : CI n N0 g0) (hz : ∀ f, f < n → lsZ g0 (n + f) ≤ 16777216) : CI n N g := by
  refine ⟨fun f hf => ?_, fun c hc hs hp => ?_⟩
  · obtain ⟨u1, u2, u3, u4, u5⟩ := k.1 f hf
    have hz := hz f hf
    have q : ∀ p, p < lsZ g0 (n + f) → lsE g (n + f) p = lsE g0 (n + f) p := fun p hp => h.le hf (by omega)
    rw [h.ls hf, (h.2.2.2 f hf).1]
    refine ⟨fun p r hp hr e => u1 p r hp hr (by rw [q p hp, q r hr] at e; exact e), fun p hp => ?_, ?_, u4, by have := h.1; omega⟩
    · obtain ⟨a, b, c, d⟩ := u2 p hp
      rw [q p hp, (h.2.1 _ a).1, h.row k.1 hf hp (j := 38) (by omega), h.row k.1 hf hp (j := 34) (by omega), h.row k.1 hf hp (j := 33) (by omega)]
      exact ⟨Nat.lt_of_lt_of_le a h.1, b, c, d⟩
    · have : rtL g (n + f) = rtL g0 (n + f) := by
        unfold rtL
        rw [h.ls hf]
        refine smN_eq (fun p hp => ?_)
        rw [q p hp, h.row k.1 hf hp (j := 36) (by omega), h.row k.1 hf hp (j := 38) (by omega)]
      rw [this]
      exact u3
  · have hc0 : c < N0 := by
      by_cases w : c < N0
      · exact w
      · have := h.2.2.1 c (by omega) hc
        omega
    obtain ⟨a, b⟩ := h.2.1 c hc0
    rw [a] at hs
    have b := b hs
    rw [b 43 (by omega)] at hp ⊢
    obtain ⟨x1, x2, x3, x4⟩ := k.2 c hc0 hs hp
    obtain ⟨y1, y2⟩ := h.2.1 _ x1
    have y2 := y2 x2
    rw [y1, y2 43 (by omega)]
    refine ⟨Nat.lt_of_lt_of_le x1 h.1, x2, x3, ?_⟩
    rw [dyg_eq (b 36 (by omega)), dyg_eq (y2 36 (by omega))]
    exact x4
theorem sC.lt {n N0 N : Nat} {t : Int} {g0 g : mSt} (h : sC n N0 g0 N g) (k : CI n N0 g0) (hz : ∀ f, f < n → lsZ g0 (n + f) ≤ 16777216) : LT n g t = LT n g0 t := by
  refine smN_eq (fun f hf => ?_)
  unfold lfL
  rw [h.ls hf]
  refine smN_eq (fun p hp => ?_)
  have hz := hz f hf
  rw [h.le hf (by omega)]
  exact lf_eq (h.row k.1 hf hp (by omega)) (h.row k.1 hf hp (by omega)) (h.row k.1 hf hp (by omega))
