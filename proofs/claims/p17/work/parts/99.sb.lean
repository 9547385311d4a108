/-! a window's unit and the letter of its cell -/
def clE (E : Nat → Int32) (c x : Nat) : Int32 := E (53 * c + x)
theorem al_head {E : Nat → Int32} {s : Nat} {h : Int32} (hC : gC (clE E (s / 53))) (hs : s % 53 = 0) (hd : hdw E s h) (k : ch5 h) (k2 : (h &&& (2 : Int32)).toInt ≠ 0) : h = 82 := by
  obtain ⟨w, hw4, hr, _⟩ := hd
  have ec : ∀ j, E (s + j) = clE E (s / 53) j := fun j => by
    unfold clE
    congr 1
    omega
  obtain ⟨⟨⟨c0, c1, c2⟩, cc⟩, _⟩ := hC
  obtain ⟨d0, d1, d80, d82, _⟩ := n8_c
  have e4 : hw E s 4 = n8 (clE E (s / 53) 3) := by
    show (((0 * 256 + n8 (E (s + 0))) * 256 + n8 (E (s + 1))) * 256 + n8 (E (s + 2))) * 256 + n8 (E (s + 3)) = _
    rw [ec 0, ec 1, ec 2, ec 3, c0, c1, c2, d0]
    omega
  have ew : w = clE E (s / 53) 3 := n8_inj (hw4.trans e4)
  have n1 : ¬ ch5 1 := fun z => absurd z.2 (by decide)
  rcases cc with ⟨x, y, _⟩ | ⟨⟨x, y⟩ | ⟨x, y⟩, _⟩
  · have : h = 1 := by rw [hr (by rw [ew, x, hc_1, ec 4, y]), ew, x]
    rw [this] at k
    exact absurd k n1
  · have : h = 80 := by rw [hr (by rw [ew, x, hc_80, ec 4, y]), ew, x]
    rw [this] at k2
    exact absurd rfl k2
  · rw [hr (by rw [ew, x, hc_82, ec 4, y]), ew, x]
theorem win_S {E : Nat → Int32} {g g1 : mSt} {q s : Nat} {r : Int32} (hE : ∀ c, c < 5 → gC (clE E c)) (hs : 1 ≤ s ∧ s ≤ 212) (hw : win E g q s) (hr : ceR g g1 q r) (hr0 : r.toInt ≠ 0) (hp : OPl g q) (su : SU g1 q (g1 2 q)) : s % 53 = 0 ∧ ltr (82, plc (clE E (s / 53))) = some true := by
  obtain ⟨⟨k5, k2⟩, hu⟩ := hr.2.2.2 hr0
  obtain ⟨u1, u42, u43⟩ := hu hp 23 (by omega) su.1
  have hsb : suB (fun j => g 800 (8192 * q + j)) := by
    have := su.2.1
    unfold suB at this ⊢
    simp only [u1 0 (by omega), u1 1 (by omega), u1 5 (by omega), u1 6 (by omega), u1 8 (by omega), u1 9 (by omega), u1 10 (by omega), u1 12 (by omega), u1 14 (by omega), u1 15 (by omega), u1 17 (by omega)] at this
    exact this
  have h19 : (g 800 (8192 * q + 19)).toInt = 8 := by rw [← u1 19 (by omega)]; exact su.2.2
  have s0 : s % 53 = 0 := by
    by_cases z : s % 53 = 0
    · exact z
    · exfalso
      refine no_S (C := clE E (s / 53)) (D := clE E (s / 53 + 1)) (E := E) (s := s) (o := s % 53) (W := fun j => g 800 (8192 * q + j)) (hE _ (by omega)) (hE _ (by omega)) (by omega) (fun j hj _ => ?_) (fun j hj => ?_) (fun z => hw.1 z) k5 hsb h19 u43
      · unfold clE
        congr 1
        omega
      · show g 800 (8192 * q + j) = _
        rw [hw.2 j hj]
        unfold clE
        split <;> (congr 1; omega)
  refine ⟨s0, ?_⟩
  have pa : ∀ j, j < 48 → (plc (clE E (s / 53)))[j]? = some (g 800 (8192 * q + j)) := fun j hj => by
    rw [plc_at hj, hw.2 j hj]
    unfold clE
    congr 2
    omega
  have b42 : g 800 (8192 * q + 42) = 0 := tiI u42
  have b43 : g 800 (8192 * q + 43) = 23 := tiI u43
  unfold ltr
  rw [if_pos ⟨rfl, by show (plc (clE E (s / 53)))[42]? = _; rw [pa 42 (by omega), b42]⟩, if_pos (by show (plc (clE E (s / 53)))[43]? = _; rw [pa 43 (by omega), b43])]
theorem win_K {E : Nat → Int32} {g g1 : mSt} {q s : Nat} {r : Int32} (hE : ∀ c, c < 5 → gC (clE E c)) (hs : 1 ≤ s ∧ s ≤ 212) (hw : win E g q s) (hr : ceR g g1 q r) (hr0 : r.toInt ≠ 0) (hp : OPl g q) (ku : KU g1 q (g1 2 q)) : s % 53 ≠ 0 ∨ ltr (82, plc (clE E (s / 53))) = some false := by
  obtain ⟨⟨k5, k2⟩, hu⟩ := hr.2.2.2 hr0
  by_cases s0 : s % 53 = 0
  · right
    have pa : ∀ j, j < 48 → (plc (clE E (s / 53)))[j]? = some (g 800 (8192 * q + j)) := fun j hj => by
      rw [plc_at hj, hw.2 j hj]
      unfold clE
      congr 2
      omega
    rcases ku with ⟨l, t⟩ | ⟨l, t⟩
    · obtain ⟨u1, u42, u43⟩ := hu hp 8 (by omega) l
      have tp := wd_top (a := g1 512 (8192 * q + 4)) (b := g1 512 (8192 * q + (4 + 1))) (c := g1 512 (8192 * q + (4 + 2))) (d := g1 512 (8192 * q + (4 + 3))) (by rw [u1 4 (by omega)]; exact hp 4 (by omega)) (by rw [u1 5 (by omega)]; exact hp 5 (by omega)) (by rw [u1 6 (by omega)]; exact hp 6 (by omega)) (by rw [u1 7 (by omega)]; exact hp 7 (by omega))
      unfold wd at t
      rw [tp, u1 4 (by omega)] at t
      have b42 : g 800 (8192 * q + 42) = 0 := tiI u42
      have b43 : g 800 (8192 * q + 43) = 8 := tiI u43
      have b4 : g 800 (8192 * q + 4) = 1 := tiI t
      unfold ltr
      rw [if_pos ⟨rfl, by show (plc (clE E (s / 53)))[42]? = _; rw [pa 42 (by omega), b42]⟩, if_neg (by show ¬ (plc (clE E (s / 53)))[43]? = _; rw [pa 43 (by omega), b43]; decide), if_pos (Or.inl ⟨by show (plc (clE E (s / 53)))[43]? = _; rw [pa 43 (by omega), b43], by show (plc (clE E (s / 53)))[4]? = _; rw [pa 4 (by omega), b4]⟩)]
    · obtain ⟨u1, u42, u43⟩ := hu hp 4 (by omega) l
      have tp := wd_top (a := g1 512 (8192 * q + 0)) (b := g1 512 (8192 * q + (0 + 1))) (c := g1 512 (8192 * q + (0 + 2))) (d := g1 512 (8192 * q + (0 + 3))) (by rw [u1 0 (by omega)]; exact hp 0 (by omega)) (by rw [u1 1 (by omega)]; exact hp 1 (by omega)) (by rw [u1 2 (by omega)]; exact hp 2 (by omega)) (by rw [u1 3 (by omega)]; exact hp 3 (by omega))
      unfold wd at t
      rw [tp, u1 0 (by omega)] at t
      have b42 : g 800 (8192 * q + 42) = 0 := tiI u42
      have b43 : g 800 (8192 * q + 43) = 4 := tiI u43
      have b0 : g 800 (8192 * q + 0) = 3 := tiI t
      unfold ltr
      rw [if_pos ⟨rfl, by show (plc (clE E (s / 53)))[42]? = _; rw [pa 42 (by omega), b42]⟩, if_neg (by show ¬ (plc (clE E (s / 53)))[43]? = _; rw [pa 43 (by omega), b43]; decide), if_pos (Or.inr ⟨by show (plc (clE E (s / 53)))[43]? = _; rw [pa 43 (by omega), b43], by show (plc (clE E (s / 53)))[0]? = _; rw [pa 0 (by omega), b0]⟩)]
  · exact Or.inl s0
