/-! the elements of a message, as isFormed saw them -/
def wI (g : mSt) (k : Int) : Int := (g 33 k.toNat).toInt
theorem wI_at {g : mSt} {v i : Int32} {k : Int} (e : v = g 33 i.toNatClampNeg) (h : i.toInt = k) : wI g k = v.toInt := by
  unfold wI
  rw [e, ← h]
  rfl
theorem wI_fr {g g1 : mSt} (e : g1 33 = g 33) : wI g1 = wI g := by funext k; unfold wI; rw [e]
def ch (g : mSt) (z : Int) : Nat → Int → Prop
  | 0, a => z < a + 4
  | n + 1, a => z < a + 4 ∨ (wI g (a + 2) = 0 ∧ ((wI g (a + 3) = 1 ∧ ch g z n (a + 5)) ∨ (wI g (a + 3) = 2 ∧ ch g z n (a + 6))))
theorem ch_len {g : mSt} {z a : Int} {w2 w3 x v : Int32} (h : ∃ n, ch g z n a) (hz : ¬ z < a + 4) (e2 : wI g (a + 2) = w2.toInt) (e3 : wI g (a + 3) = w3.toInt) (ex : x = w2 <<< ((8 : Int32) &&& 31)) (ev : v = x ||| w3) : rg 1 2 v ∧ ∃ n, ch g z n (a + 4 + v.toInt) := by
  obtain ⟨n, h⟩ := h
  cases n with
  | zero => exact absurd h hz
  | succ n =>
    rcases h with h | ⟨h0, h⟩
    · exact absurd h hz
    · have q2 : w2 = 0 := Int32.toInt_inj.mp (by rw [← e2, h0]; rfl)
      subst q2
      rcases h with ⟨h1, h⟩ | ⟨h1, h⟩
      · have q3 : w3 = 1 := Int32.toInt_inj.mp (by rw [← e3, h1]; rfl)
        subst q3
        have qv : v = 1 := by rw [ev, ex]; decide
        subst qv
        exact ⟨⟨by decide, by decide⟩, n, by
          have e : a + 4 + (1 : Int32).toInt = a + 5 := by have : (1 : Int32).toInt = 1 := (by decide); omega
          rw [e]; exact h⟩
      · have q3 : w3 = 2 := Int32.toInt_inj.mp (by rw [← e3, h1]; rfl)
        subst q3
        have qv : v = 2 := by rw [ev, ex]; decide
        subst qv
        exact ⟨⟨by decide, by decide⟩, n, by
          have e : a + 4 + (2 : Int32).toInt = a + 6 := by have : (2 : Int32).toInt = 2 := (by decide); omega
          rw [e]; exact h⟩
theorem ch_end {g : mSt} {z a : Int} (h : z ≤ a) : ∃ n, ch g z n a := ⟨0, by show z < a + 4; omega⟩
theorem ch_1 {g : mSt} {z a b : Int} (h : ∃ n, ch g z n b) (h0 : wI g (a + 2) = 0) (h1 : wI g (a + 3) = 1) (hb : b = a + 5) : ∃ n, ch g z n a := by
  obtain ⟨n, h⟩ := h
  subst hb
  exact ⟨n + 1, Or.inr ⟨h0, Or.inl ⟨h1, h⟩⟩⟩
theorem ch_2 {g : mSt} {z a b : Int} (h : ∃ n, ch g z n b) (h0 : wI g (a + 2) = 0) (h1 : wI g (a + 3) = 2) (hb : b = a + 6) : ∃ n, ch g z n a := by
  obtain ⟨n, h⟩ := h
  subst hb
  exact ⟨n + 1, Or.inr ⟨h0, Or.inr ⟨h1, h⟩⟩⟩
theorem ch_fr {g g1 : mSt} {z : Int} (e : g1 33 = g 33) : ∀ n a, ch g z n a → ch g1 z n a := by
  have ew : ∀ k, wI g1 k = wI g k := fun k => by unfold wI; rw [e]
  intro n
  induction n with
  | zero => intro a h; exact h
  | succ n ih =>
    intro a h
    rcases h with h | ⟨h0, h⟩
    · exact Or.inl h
    · refine Or.inr ⟨by rw [ew]; exact h0, ?_⟩
      rcases h with ⟨h1, h⟩ | ⟨h1, h⟩
      · exact Or.inl ⟨by rw [ew]; exact h1, ih _ h⟩
      · exact Or.inr ⟨by rw [ew]; exact h1, ih _ h⟩
theorem lk_def : ∀ {ps : List (Int × Int)} {dflt k : Int}, ps.all (fun q => decide (q.1 ≠ k)) = true → Op.lookupswitch.offset ps dflt k = dflt := by
  intro ps
  induction ps with
  | nil => intro dflt k _; exact Op.lookupswitch.offset_nil dflt k
  | cons q r ih =>
    intro dflt k h
    obtain ⟨a, o⟩ := q
    rw [List.all_cons, Bool.and_eq_true] at h
    rw [Op.lookupswitch.offset_cons, if_neg (of_decide_eq_true h.1)]
    exact ih h.2
/-- a word of a unit -/
def bW (g : mSt) (k : Int) : Int32 := ((((g 33 k.toNat) <<< ((24 : Int32) &&& 31)) ||| ((g 33 (k + 1).toNat) <<< ((16 : Int32) &&& 31))) ||| ((g 33 (k + 2).toNat) <<< ((8 : Int32) &&& 31))) ||| (g 33 (k + 3).toNat)
theorem bW_fr {g g1 : mSt} (e : g1 33 = g 33) : bW g1 = bW g := by funext k; unfold bW; rw [e]
theorem wA {g : mSt} {v i : Int32} {k : Int} (e : v = g 33 i.toNatClampNeg) (h : i.toInt = k) : g 33 k.toNat = v := by rw [e, ← h]; rfl
