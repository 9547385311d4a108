/-! THE CLASS'S WORLD: objects and arrays by kinds (0 .. 15 objects, 16 .. 47 arrays of ints, 48 .. arrays of references), each kind with numbered instances; Z: where they lie, which there are, how many ends; all numbers are g row index (a field f of kind K: row 32 K + f, index the instance; an array: row 32 K) -/
abbrev cG : Type := (Nat → ClassId) × (Nat → Nat → Nat) × ClassId × ClassId × (Nat → ClassId)
abbrev cZ : Type := (Nat → Nat → Nat) × (Nat → Nat → Prop) × Nat × (Nat → Nat)
def cZ.ad (Z : cZ) : Nat → Nat → Nat := Z.1
def cZ.al (Z : cZ) : Nat → Nat → Prop := Z.2.1
def cZ.n (Z : cZ) : Nat := Z.2.2.1
/-- what was made: 0 cells, 1 slots, 2 calls, 3 slots of frames and assemblers, 10 + s slots of a side's list -/
def cZ.w (Z : cZ) : Nat → Nat := Z.2.2.2
def cRn (K : Nat) : String := match K with
  | 0 => RX0 | 1 => RX1 | 2 => RX2 | 3 => RX3 | 4 => RX4 | 5 => RX5 | 6 => RX6 | 7 => RX7 | 9 => RX9 | 10 => RX10 | 11 => RX11 | 13 => RX6 | _ => RJx4a65c
def cTn (K : Nat) : u_T := match K with
  | 0 => TX0 | 1 => TX1 | 2 => TX2 | 3 => TX3 | 4 => TX4 | 5 => TX5 | 6 => TX6 | 7 => TX7 | 9 => TX9 | 10 => TX10 | 11 => TX11 | 13 => TX6 | _ => TJx4a65c
def cNn (K : Nat) : Nat := match K with
  | 0 => 3 | 1 => 18 | 2 => 4 | 3 => 16 | 4 => 13 | 5 => 21 | 6 => 7 | 7 => 12 | 8 => 0 | 9 => 9 | 10 => 5 | 11 => 12 | 12 => 3 | 13 => 7 | _ => 0
def cOb (K : Nat) : Bool := decide (K < 14) && !(decide (K = 8))
def cRef (K f : Nat) : Bool := match K with
  | 0 => decide (f = 0)
  | 1 => decide (f = 0) || (decide (11 ≤ f) && decide (f ≤ 14))
  | 2 => decide (f ≤ 1)
  | 3 => decide (f ≤ 4) || (decide (6 ≤ f) && decide (f ≤ 9)) || decide (f = 14)
  | 4 => decide (f = 1) || decide (f = 2) || decide (f = 6) || decide (9 ≤ f)
  | 5 => decide (f ≤ 3)
  | 6 => decide (1 ≤ f) && decide (f ≤ 4)
  | 7 => decide (f = 0)
  | 9 => false
  | 10 => decide (f = 1) || decide (f = 2) || decide (f = 4)
  | 11 => decide (1 ≤ f) && decide (f ≤ 8)
  | 13 => decide (1 ≤ f) && decide (f ≤ 4)
  | _ => decide (f = 1)
def cOut (n i : Nat) : Nat := if i < n then 2 * i else 2 * (i - n) + 1
def cSd (Z : cZ) (s : Nat) : Nat := if s < Z.n then Z.ad 4 s else Z.ad 10 (s - Z.n)
def cOpt (Z : cZ) (K : Nat) (x : Int32) : Option Nat := if x.toInt < 0 then none else some (Z.ad K x.toInt.toNat)
/-- what a field of references holds; x: its number, where it can change -/
def cTo (Z : cZ) (x : Int32) (K i f : Nat) : Option Nat := match K with
  | 0 => some (Z.ad 16 i)
  | 1 => match f with
    | 0 => some (cSd Z x.toInt.toNat)
    | 11 => cOpt Z 1 x
    | 12 => cOpt Z 53 x
    | 13 => cOpt Z 37 x
    | _ => cOpt Z 0 x
  | 2 => match f with
    | 0 => some (Z.ad 17 i)
    | _ => some (Z.ad 18 i)
  | 3 => match f with
    | 0 => some (Z.ad 2 (2 * i))
    | 1 => some (Z.ad 2 (2 * i + 1))
    | 2 => some (Z.ad 7 i)
    | 3 => some (Z.ad 0 i)
    | 4 => some (Z.ad 19 i)
    | 6 => some (Z.ad 20 i)
    | 7 => some (Z.ad 21 i)
    | 8 => some (Z.ad 22 i)
    | 9 => some (Z.ad 23 i)
    | _ => some (Z.ad 24 i)
  | 4 => match f with
    | 1 => some (Z.ad 5 i)
    | 2 => some (Z.ad 12 i)
    | 6 => some (Z.ad 48 i)
    | 9 => some (Z.ad 30 i)
    | 10 => some (Z.ad 31 i)
    | 11 => some (Z.ad 32 i)
    | _ => some (Z.ad 33 i)
  | 5 => match f with
    | 0 => some (Z.ad 3 (cOut Z.n i))
    | 1 => some (Z.ad 6 i)
    | 2 => some (Z.ad 13 (2 * i))
    | _ => some (Z.ad 13 (2 * i + 1))
  | 6 => match f with
    | 1 => some (Z.ad 26 i)
    | 2 => some (Z.ad 27 i)
    | 3 => some (Z.ad 28 i)
    | _ => some (Z.ad 29 i)
  | 7 => some (Z.ad 25 i)
  | 10 => match f with
    | 1 => some (Z.ad 5 (Z.n + i))
    | 2 => some (Z.ad 12 (Z.n + i))
    | _ => some (Z.ad 49 0)
  | 11 => match f with
    | 1 => some (Z.ad 50 0)
    | 2 => some (Z.ad 51 0)
    | 3 => some (Z.ad 49 0)
    | 4 => some (Z.ad 52 0)
    | 5 => some (Z.ad 9 0)
    | 6 => some (Z.ad 34 0)
    | 7 => some (Z.ad 35 0)
    | _ => some (Z.ad 36 0)
  | 13 => match f with
    | 1 => some (Z.ad 39 i)
    | 2 => some (Z.ad 40 i)
    | 3 => some (Z.ad 41 i)
    | _ => some (Z.ad 42 i)
  | _ => if x.toInt < 0 then some (Z.ad 55 0) else some (Z.ad 54 i)
/-- what a place of an array of references holds -/
def cTe (Z : cZ) (x : Int32) (K i k : Nat) : Option Nat := match K with
  | 48 => cOpt Z 1 x
  | 49 => some (Z.ad 10 k)
  | 50 => some (Z.ad 3 k)
  | 51 => some (Z.ad 4 k)
  | 52 => some (cSd Z k)
  | 53 => some (Z.ad 38 (4 * i + k))
  | 55 => none
  | _ => cOpt Z 1 x
def cLen (K : Nat) : Nat := match K with
  | 16 => 240 | 17 => 1920 | 18 => 40 | 19 => 212 | 20 => 8 | 21 => 8 | 22 => 8 | 23 => 8 | 24 => 240 | 25 => 48
  | 26 => 600 | 27 => 10 | 28 => 10 | 29 => 10 | 39 => 480 | 40 => 8 | 41 => 8 | 42 => 8
  | 30 => 4000 | 31 => 20 | 32 => 20 | 33 => 20 | 34 => 60 | 35 => 240 | 36 => 200 | 37 => 4 | 38 => 240
  | _ => 0
def cLeR (Z : cZ) (g : mSt) (K i : Nat) : Nat := match K with
  | 48 => 40 | 49 => Z.n | 50 => 2 * Z.n | 51 => Z.n | 52 => 2 * Z.n | 53 => 4 | 55 => 0
  | _ => (g 1729 i).toInt.toNat
theorem cLen_le (K : Nat) : cLen K ≤ 4000 := by
  unfold cLen
  split <;> omega
theorem cNn_le (K : Nat) : cNn K ≤ 21 := by
  unfold cNn
  split <;> omega
def cBo (K : Nat) : Bool := decide (K = 29) || decide (K = 42)
/-- numbers that never change: how many ends, a side's link -/
def cFin (K f : Nat) : Bool := decide (f = 0) && (decide (K = 11) || (decide (K = 4) || decide (K = 10)))
def cCv (Z : cZ) (K i : Nat) : Int32 := if K = 11 then Int32.ofNat Z.n else Int32.ofNat i
def cV (Z : cZ) (g : mSt) (K i f : Nat) : Value := if cRef K f then va_rf (cTo Z (g (32 * K + f) i) K i f) else if cFin K f then .int (cCv Z K i) else .int (g (32 * K + f) i)
def cC (G : cG) (Z : cZ) (g : mSt) (K i : Nat) (H : Heap) : Prop :=
  if K < 16 then t_OB (Z.ad K i) (G.1 K) (cNn K) (G.2.1 K) H (cV Z g K i)
  else if K < 48 then H[Z.ad K i]? = some (vp_cell (if cBo K then G.2.2.2.1 else G.2.2.1) (cLen K, .inl (fun k => g (32 * K) (8192 * i + k))))
  else H[Z.ad K i]? = some (vp_cell (G.2.2.2.2 K) (cLeR Z g K i, .inr (.inr (.inr (.inr (fun k => cTe Z (g (32 * K) (16777216 * i + k)) K i k))))))
/-- kind 55, the JDK's empty array, is no cell of ours: only that there is one -/
def cH (G : cG) (Z : cZ) (g : mSt) (H : Heap) : Prop := ∀ K i, Z.al K i → (K ≠ 55 → cC G Z g K i H) ∧ (K = 55 → i = 0 ∧ ∃ c0 : Cell, H[Z.ad K i]? = some c0)
def cAp (Z : cZ) : Prop := ∀ K i K' i', Z.al K i → Z.al K' i' → Z.ad K i = Z.ad K' i' → K = K' ∧ i = i'
def cAd (Z : cZ) : Nat → Prop := fun q => ∃ K i, Z.al K i ∧ K ≠ 55 ∧ q = Z.ad K i
/-- which kinds stand from the start on, and how many of each -/
def cCt (n K : Nat) : Nat := match K with
  | 0 => 2 * n | 1 => 0 | 2 => 4 * n | 3 => 2 * n | 4 => n | 5 => 2 * n | 6 => 2 * n | 7 => 2 * n | 8 => 0 | 9 => 1 | 10 => n | 11 => 1 | 12 => 2 * n | 13 => 4 * n
  | 16 => 2 * n | 17 => 4 * n | 18 => 4 * n | 19 => 2 * n | 20 => 2 * n | 21 => 2 * n | 22 => 2 * n | 23 => 2 * n | 24 => 2 * n | 25 => 2 * n
  | 26 => 2 * n | 27 => 2 * n | 28 => 2 * n | 29 => 2 * n | 39 => 4 * n | 40 => 4 * n | 41 => 4 * n | 42 => 4 * n | 30 => n | 31 => n | 32 => n | 33 => n | 34 => 1 | 35 => 1 | 36 => 1
  | 48 => n | 49 => 1 | 50 => 1 | 51 => 1 | 52 => 1 | 55 => 1
  | _ => 0
def cSt (Z : cZ) : Prop := (2 ≤ Z.n ∧ Z.n ≤ 4) ∧ ∀ K i, i < cCt Z.n K → Z.al K i
def cEl (K : Nat) : String := match K with
  | 48 => RX1 | 49 => RX10 | 50 => RX3 | 51 => RX4 | 52 => "CellSwitch$Side" | _ => "java/lang/Object"
def cK (G : cG) (U : State) : Prop := (∀ K, cOb K = true → u_Kn U (cRn K) (cTn K) (cNn K) (G.1 K) (G.2.1 K)) ∧ (ArrOfT U G.2.2.1 .int ∧ ArrOfT U G.2.2.2.1 .boolean) ∧ ((∀ K, 48 ≤ K → K ≠ 53 → ArrOfT U (G.2.2.2.2 K) (.object (cEl K)) ∧ va_RA U (G.2.2.2.2 K) (.object (cEl K))) ∧ ArrOfT U (G.2.2.2.2 53) (.array .int))
theorem cK.moved {G : cG} {u U : State} (hvm : u.vm.Alike U.vm) (h : cK G u) : cK G U :=
  ⟨fun K hK => u_Kn_moved hvm (h.1 K hK), ⟨arrOfT_moved hvm h.2.1.1, arrOfT_moved hvm h.2.1.2⟩, fun K h1 h2 => ⟨arrOfT_moved hvm (h.2.2.1 K h1 h2).1, (h.2.2.1 K h1 h2).2.moved hvm⟩, arrOfT_moved hvm h.2.2.2⟩
theorem arrV_cg {cI : ClassId} {N : Nat} {f g : Nat → Value} (h : ∀ k, k < N → f k = g k) : arrV cI N f = arrV cI N g := by
  have e : (Array.ofFn (n := N) fun j => f j.val) = (Array.ofFn (n := N) fun j => g j.val) := congrArg _ (funext fun j => h j.val j.isLt)
  show ({ cls := cI, slots := Array.ofFn (n := N) fun j => f j.val, vm := .none } : Cell) = { cls := cI, slots := Array.ofFn (n := N) fun j => g j.val, vm := .none }
  rw [e]
/-- words of all classes lie in the list -/
theorem cws_in {K : Nat} (hK : cOb K = true) : ∀ w ∈ u_ws (cRn K) (cTn K) (cNn K), w ∈ wsUC := by
  unfold cOb at hK
  rw [Bool.and_eq_true] at hK
  have h1 := of_decide_eq_true hK.1
  rcases (by omega : K = 0 ∨ K = 1 ∨ K = 2 ∨ K = 3 ∨ K = 4 ∨ K = 5 ∨ K = 6 ∨ K = 7 ∨ K = 8 ∨ K = 9 ∨ K = 10 ∨ K = 11 ∨ K = 12 ∨ K = 13) with e | e | e | e | e | e | e | e | e | e | e | e | e | e <;> subst e
  · exact wsX00_inC
  · exact wsX10_inC
  · exact wsX20_inC
  · exact wsX30_inC
  · exact wsX40_inC
  · exact wsX50_inC
  · exact wsX60_inC
  · exact wsX70_inC
  · exact absurd hK.2 (by decide)
  · exact wsX90_inC
  · exact wsX100_inC
  · exact wsX110_inC
  · exact wsJx4a65c0_inC
  · exact wsX60_inC
theorem cnm (K : Nat) (hK : cOb K = true) : ∀ a, a < cNn K → ∀ b, b < cNn K → a ≠ b → (cTn K a).2.1 ≠ (cTn K b).2.1 := by
  unfold cOb at hK
  rw [Bool.and_eq_true] at hK
  have h1 := of_decide_eq_true hK.1
  rcases (by omega : K = 0 ∨ K = 1 ∨ K = 2 ∨ K = 3 ∨ K = 4 ∨ K = 5 ∨ K = 6 ∨ K = 7 ∨ K = 8 ∨ K = 9 ∨ K = 10 ∨ K = 11 ∨ K = 12 ∨ K = 13) with e | e | e | e | e | e | e | e | e | e | e | e | e | e <;> subst e
  · exact nmX0
  · exact nmX1
  · exact nmX2
  · exact nmX3
  · exact nmX4
  · exact nmX5
  · exact nmX6
  · exact nmX7
  · exact absurd hK.2 (by decide)
  · exact nmX9
  · exact nmX10
  · exact nmX11
  · exact nmJx4a65c
  · exact nmX6
theorem cty (K : Nat) (hK : cOb K = true) : ∀ k, k < cNn K → ∃ ty, parseFieldDescriptor (cTn K k).2.2.1 = some ty := by
  unfold cOb at hK
  rw [Bool.and_eq_true] at hK
  have h1 := of_decide_eq_true hK.1
  rcases (by omega : K = 0 ∨ K = 1 ∨ K = 2 ∨ K = 3 ∨ K = 4 ∨ K = 5 ∨ K = 6 ∨ K = 7 ∨ K = 8 ∨ K = 9 ∨ K = 10 ∨ K = 11 ∨ K = 12 ∨ K = 13) with e | e | e | e | e | e | e | e | e | e | e | e | e | e <;> subst e
  · exact fun k hk => ⟨_, tyX0_ok k hk⟩
  · exact fun k hk => ⟨_, tyX1_ok k hk⟩
  · exact fun k hk => ⟨_, tyX2_ok k hk⟩
  · exact fun k hk => ⟨_, tyX3_ok k hk⟩
  · exact fun k hk => ⟨_, tyX4_ok k hk⟩
  · exact fun k hk => ⟨_, tyX5_ok k hk⟩
  · exact fun k hk => ⟨_, tyX6_ok k hk⟩
  · exact fun k hk => ⟨_, tyX7_ok k hk⟩
  · exact absurd hK.2 (by decide)
  · exact fun k hk => ⟨_, tyX9_ok k hk⟩
  · exact fun k hk => ⟨_, tyX10_ok k hk⟩
  · exact fun k hk => ⟨_, tyX11_ok k hk⟩
  · exact fun k hk => ⟨_, tyJx4a65c_ok k hk⟩
  · exact fun k hk => ⟨_, tyX6_ok k hk⟩
/-- a number of an object is written -/
theorem cH.put {G : cG} {Z : cZ} {g : mSt} {H H1 : Heap} (hA : cAp Z) (hM : cH G Z g H) {K0 i0 f0 : Nat} {v : Int32} (hal : Z.al K0 i0) (hK : K0 < 16) (hf : f0 < cNn K0) (hr : cRef K0 f0 = false) (hc0 : cFin K0 f0 = false)
    (e1 : t_OB (Z.ad K0 i0) (G.1 K0) (cNn K0) (G.2.1 K0) H1 (updV (cV Z g K0 i0) f0 (.int v))) (oq : ∀ q : Nat, q ≠ Z.ad K0 i0 → H1[q]? = H[q]?) : cH G Z (up2 g (32 * K0 + f0) i0 v) H1 := by
  intro K i hKi
  refine ⟨fun h55 => ?_, fun h55 => ⟨((hM K i hKi).2 h55).1, Exists.imp (fun c0 hc0 => by rw [oq _ (fun z => by have := (hA K i K0 i0 hKi hal z).1; omega)]; exact hc0) ((hM K i hKi).2 h55).2⟩⟩
  have hN0 := cNn_le K0
  by_cases hs : K = K0 ∧ i = i0
  · obtain ⟨rfl, rfl⟩ := hs
    unfold cC
    rw [if_pos hK]
    refine e1.to (fun k hk => ?_)
    unfold updV cV
    by_cases hkf : k = f0
    · subst hkf
      rw [if_pos rfl, hr, if_neg (by decide), hc0, if_neg (by decide), up2_i]
    · rw [if_neg hkf, up2_o (by omega)]
  · have hne : Z.ad K i ≠ Z.ad K0 i0 := fun z => hs (hA K i K0 i0 hKi hal z)
    have hc := (hM K i hKi).1 h55
    unfold cC at hc ⊢
    have hN := cNn_le K
    by_cases h16 : K < 16
    · rw [if_pos h16] at hc ⊢
      refine (hc.kept (oq _ hne)).to (fun k hk => ?_)
      unfold cV
      have e : up2 g (32 * K0 + f0) i0 v (32 * K + k) i = g (32 * K + k) i := by
        by_cases hj : 32 * K + k = 32 * K0 + f0
        · have hKK : K = K0 := by omega
          have hii : i ≠ i0 := fun z => hs ⟨hKK, z⟩
          rw [hj]; exact up2_n hii
        · exact up2_o hj
      rw [e]
    · rw [if_neg h16] at hc ⊢
      have e : ∀ j, 512 ≤ j → up2 g (32 * K0 + f0) i0 v j = g j := fun j hj => up2_of (by omega)
      by_cases h40 : K < 48
      · rw [if_pos h40] at hc ⊢
        rw [oq _ hne, e _ (by omega)]
        exact hc
      · rw [if_neg h40] at hc ⊢
        have e2 : cLeR Z (up2 g (32 * K0 + f0) i0 v) K i = cLeR Z g K i := by
          unfold cLeR
          rw [e 1729 (by decide)]
        rw [oq _ hne, e _ (by omega), e2]
        exact hc
/-- a place of an array of ints is written -/
theorem cH.st {G : cG} {Z : cZ} {g : mSt} {H H1 : Heap} (hA : cAp Z) (hM : cH G Z g H) {K0 i0 k0 : Nat} {v : Int32} (hal : Z.al K0 i0) (hK : 16 ≤ K0 ∧ K0 < 48) (hk : k0 < cLen K0)
    (e1 : H1[Z.ad K0 i0]? = some (vp_cell (if cBo K0 then G.2.2.2.1 else G.2.2.1) (cLen K0, .inl (upd (fun k => g (32 * K0) (8192 * i0 + k)) k0 v)))) (oq : ∀ q : Nat, q ≠ Z.ad K0 i0 → H1[q]? = H[q]?) : cH G Z (up2 g (32 * K0) (8192 * i0 + k0) v) H1 := by
  intro K i hKi
  refine ⟨fun h55 => ?_, fun h55 => ⟨((hM K i hKi).2 h55).1, Exists.imp (fun c0 hc0 => by rw [oq _ (fun z => by have := (hA K i K0 i0 hKi hal z).1; omega)]; exact hc0) ((hM K i hKi).2 h55).2⟩⟩
  have hl0 := cLen_le K0
  by_cases hs : K = K0 ∧ i = i0
  · obtain ⟨rfl, rfl⟩ := hs
    unfold cC
    rw [if_neg (by omega), if_pos hK.2, e1]
    congr 3
    refine congrArg Sum.inl (funext fun b => ?_)
    unfold upd
    by_cases hb : b = k0
    · rw [if_pos hb, hb, up2_i]
    · rw [if_neg hb, up2_n (by omega)]
  · have hne : Z.ad K i ≠ Z.ad K0 i0 := fun z => hs (hA K i K0 i0 hKi hal z)
    have hc := (hM K i hKi).1 h55
    unfold cC at hc ⊢
    have hN := cNn_le K
    by_cases h16 : K < 16
    · rw [if_pos h16] at hc ⊢
      refine (hc.kept (oq _ hne)).to (fun k hk => ?_)
      unfold cV
      rw [up2_o (by omega)]
    · rw [if_neg h16] at hc ⊢
      by_cases h40 : K < 48
      · rw [if_pos h40] at hc ⊢
        rw [oq _ hne, hc]
        by_cases hKK : K = K0
        · subst hKK
          have hii : i ≠ i0 := fun z => hs ⟨rfl, z⟩
          have hl := cLen_le K
          rw [vp_cell_i, vp_cell_i]
          refine congrArg some (arrV_cg (fun k hk => ?_))
          rw [up2_n (by omega)]
        · rw [up2_of (by omega)]
      · rw [if_neg h40] at hc ⊢
        have e2 : cLeR Z (up2 g (32 * K0) (8192 * i0 + k0) v) K i = cLeR Z g K i := by
          unfold cLeR
          rw [up2_of (by omega)]
        rw [oq _ hne, up2_of (by omega), e2]
        exact hc
