/-! a clean tick of a link: its windows and the letters of its cells -/
def lt4 (l : List (Int32 × List Int32)) : List (Option Bool) := (l.take 4).map ltr
theorem al_c3 {E : Nat → Int32} {s : Nat} {h : Int32} (hC : gC (clE E (s / 53))) (hs : s % 53 = 0) (hd : hdw E s h) (k : ch5 h) (k2 : (h &&& (2 : Int32)).toInt ≠ 0) : clE E (s / 53) 3 = 82 := by
  have e82 := al_head hC hs hd k k2
  obtain ⟨w, hw4, hr, _⟩ := hd
  obtain ⟨w', w1, w2⟩ := good_hd hC hs
  have ew : w = w' := n8_inj (hw4.trans w1.symm)
  have eh : h = w := hr (by rw [ew]; exact w2)
  have ec : ∀ j, E (s + j) = clE E (s / 53) j := fun j => by
    unfold clE
    congr 1
    omega
  obtain ⟨⟨⟨c0, c1, c2⟩, _⟩, _⟩ := hC
  obtain ⟨d0, _⟩ := n8_c
  have e4 : hw E s 4 = n8 (clE E (s / 53) 3) := by
    show (((0 * 256 + n8 (E (s + 0))) * 256 + n8 (E (s + 1))) * 256 + n8 (E (s + 2))) * 256 + n8 (E (s + 3)) = _
    rw [ec 0, ec 1, ec 2, ec 3, c0, c1, c2, d0]
    omega
  rw [← n8_inj (hw4.trans e4), ← eh]
  exact e82
theorem cAt_in {l : List (Int32 × List Int32)} {c : Nat} (h : (cAt l c).1 = 82) (hc : c < 4) : ltr (cAt l c) ∈ lt4 l := by
  unfold cAt at h ⊢
  by_cases e : c < l.length
  · rw [List.getElem?_eq_getElem e]
    show ltr l[c] ∈ lt4 l
    unfold lt4
    refine List.mem_map.mpr ⟨l[c], ?_, rfl⟩
    rw [List.mem_take_iff_getElem]
    exact ⟨c, by omega, rfl⟩
  · rw [List.getElem?_eq_none (by omega)] at h
    exact absurd h (by decide)
theorem E_at {C : Nat → Int32} {g : mSt} {q c x : Nat} : clE (mkE C g q) (c + 1) x = W6 g q (53 * c + x) := by
  unfold clE W6
  rw [show 53 * (c + 1) + x = 53 + (53 * c + x) by omega]
  exact mkE_w
theorem plc_of {C : Nat → Int32} {p : List Int32} (hl : p.length = 48) (h : ∀ j, j < 48 → p[j]? = some (C (5 + j))) : plc C = p := by
  refine List.ext_getElem? (fun j => ?_)
  by_cases hj : j < 48
  · rw [plc_at hj, h j hj]
  · rw [List.getElem?_eq_none (by unfold plc; rw [List.length_map, List.length_range]; omega), List.getElem?_eq_none (by omega)]
theorem wcell_good {C : Nat → Int32} {g : mSt} {q c : Nat} {x : Int32 × List Int32} (h : wcell g q c x) (hx : x = iC ∨ (gcell x ∧ x.2.length = 48)) : gC (clE (mkE C g q) (c + 1)) ∧ plc (clE (mkE C g q) (c + 1)) = x.2 ∧ clE (mkE C g q) (c + 1) 3 = x.1 := by
  obtain ⟨⟨a0, a1, a2⟩, ⟨a3, a4⟩, a5⟩ := h
  have hl : x.2.length = 48 := by
    rcases hx with e | e
    · rw [e]
      rfl
    · exact e.2
  have pl : plc (clE (mkE C g q) (c + 1)) = x.2 := plc_of hl (fun j hj => by rw [a5 j hj, E_at, show 53 * c + (5 + j) = 53 * c + 5 + j by omega])
  have at5 : ∀ j, j < 48 → some (clE (mkE C g q) (c + 1) (5 + j)) = x.2[j]? := fun j hj => by rw [a5 j hj, E_at, show 53 * c + (5 + j) = 53 * c + 5 + j by omega]
  have e0 : clE (mkE C g q) (c + 1) 0 = 0 := by rw [E_at]; exact a0
  have e1 : clE (mkE C g q) (c + 1) 1 = 0 := by rw [E_at]; exact a1
  have e2 : clE (mkE C g q) (c + 1) 2 = 0 := by rw [E_at]; exact a2
  have e3 : clE (mkE C g q) (c + 1) 3 = x.1 := by rw [E_at]; exact a3
  have e4 : clE (mkE C g q) (c + 1) 4 = hc x.1 := by rw [E_at]; exact a4
  have op : ∀ j, j < 48 → oct (clE (mkE C g q) (c + 1) (5 + j)) := fun j hj => by
    rcases hx with e | e
    · have := at5 j hj
      rw [e] at this
      have : some (clE (mkE C g q) (c + 1) (5 + j)) = (List.replicate 48 (106 : Int32))[j]? := this
      rw [List.getElem?_replicate, if_pos hj] at this
      rw [Option.some.inj this]
      exact ⟨by decide, by decide⟩
    · exact e.1.2.2 _ (List.mem_of_getElem? (at5 j hj).symm)
  have o4 : oct (hc x.1) := by
    rcases hx with e | e
    · rw [e]
      show oct (hc 1)
      rw [hc_1]
      exact ⟨by decide, by decide⟩
    · rcases e.1.1 with z | z
      · rw [z, hc_80]
        exact ⟨by decide, by decide⟩
      · rw [z, hc_82]
        exact ⟨by decide, by decide⟩
  have o3 : oct x.1 := by
    rcases hx with e | e
    · rw [e]
      exact ⟨by decide, by decide⟩
    · rcases e.1.1 with z | z <;> rw [z] <;> exact ⟨by decide, by decide⟩
  have o0 : oct (0 : Int32) := ⟨by decide, by decide⟩
  refine ⟨⟨⟨⟨e0, e1, e2⟩, ?_⟩, fun z hz => ?_⟩, pl, e3⟩
  · rcases hx with e | e
    · left
      refine ⟨by rw [e3, e]; rfl, by rw [e4, e]; exact hc_1, fun j hj => ?_⟩
      have := at5 j hj
      rw [e] at this
      have : some (clE (mkE C g q) (c + 1) (5 + j)) = (List.replicate 48 (106 : Int32))[j]? := this
      rw [List.getElem?_replicate, if_pos hj] at this
      exact Option.some.inj this
    · right
      refine ⟨?_, by rw [pl]; exact e.1.2.1⟩
      rcases e.1.1 with z | z
      · exact Or.inl ⟨by rw [e3, z], by rw [e4, z]; exact hc_80⟩
      · exact Or.inr ⟨by rw [e3, z], by rw [e4, z]; exact hc_82⟩
  · rcases (by omega : z = 0 ∨ z = 1 ∨ z = 2 ∨ z = 3 ∨ z = 4 ∨ 5 ≤ z) with e | e | e | e | e | e
    · rw [e, e0]; exact o0
    · rw [e, e1]; exact o0
    · rw [e, e2]; exact o0
    · rw [e, e3]; exact o3
    · rw [e, e4]; exact o4
    · rw [show z = 5 + (z - 5) by omega]
      exact op _ (by omega)
theorem cAt_ok {l : List (Int32 × List Int32)} (hg : ∀ c ∈ l, gcell c ∧ c.2.length = 48) (c : Nat) : cAt l c = iC ∨ (gcell (cAt l c) ∧ (cAt l c).2.length = 48) := by
  unfold cAt
  by_cases e : c < l.length
  · right
    rw [List.getElem?_eq_getElem e]
    exact hg _ (List.getElem_mem e)
  · left
    rw [List.getElem?_eq_none (by omega)]
    rfl
/-- the stream of a clean tick -/
theorem cl_E {C : Nat → Int32} {l : List (Int32 × List Int32)} {g1 : mSt} {q : Nat} (hg : ∀ c ∈ l, gcell c ∧ c.2.length = 48) (hp : ∀ c, c < 4 → wcell g1 q c (cAt l c)) (hC : gC C) : ∀ c, c < 5 → gC (clE (mkE C g1 q) c) := fun c hc => by
  by_cases e : c = 0
  · subst e
    have : ∀ x, x < 53 → clE (mkE C g1 q) 0 x = C x := fun x hx => by
      unfold clE mkE
      rw [if_pos (by omega), show 53 * 0 + x = x by omega]
    obtain ⟨⟨⟨c0, c1, c2⟩, cc⟩, co⟩ := hC
    refine ⟨⟨⟨by rw [this 0 (by omega)]; exact c0, by rw [this 1 (by omega)]; exact c1, by rw [this 2 (by omega)]; exact c2⟩, ?_⟩, fun z hz => by rw [this z hz]; exact co z hz⟩
    have pl : plc (clE (mkE C g1 q) 0) = plc C := plc_of (by unfold plc; rw [List.length_map, List.length_range]) (fun j hj => by rw [plc_at hj, this (5 + j) (by omega)])
    rw [this 3 (by omega), this 4 (by omega), pl]
    rcases cc with ⟨x, y, z⟩ | z
    · exact Or.inl ⟨x, y, fun j hj => by rw [this (5 + j) (by omega)]; exact z j hj⟩
    · exact Or.inr z
  · obtain ⟨k, ek⟩ : ∃ k, c = k + 1 := ⟨c - 1, by omega⟩
    subst ek
    exact (wcell_good (hp k (by omega)) (cAt_ok hg k)).1
theorem E_oct {E : Nat → Int32} (h : ∀ c, c < 5 → gC (clE E c)) : ∀ z, z < 265 → oct (E z) := fun z hz => by
  have := (h (z / 53) (by omega)).2 (z % 53) (by omega)
  unfold clE at this
  rw [Nat.div_add_mod] at this
  exact this
/-- a window's letter stands among those of the tick -/
theorem cl_S {C : Nat → Int32} {l : List (Int32 × List Int32)} {g1 g g' : mSt} {q s : Nat} {r : Int32} (hg : ∀ c ∈ l, gcell c ∧ c.2.length = 48) (hp : ∀ c, c < 4 → wcell g1 q c (cAt l c)) (hC : gC C) (hs : 1 ≤ s ∧ s ≤ 212) (hw : win (mkE C g1 q) g q s) (hr : ceR g g' q r) (hr0 : r.toInt ≠ 0) (hpl : OPl g q) : (SU g' q (g' 2 q) → some true ∈ lt4 l) ∧ (KU g' q (g' 2 q) → s % 53 ≠ 0 ∨ some false ∈ lt4 l) := by
  have hE := cl_E hg hp hC
  obtain ⟨⟨k5, k2⟩, _⟩ := hr.2.2.2 hr0
  have key : s % 53 = 0 → ∀ b, ltr (82, plc (clE (mkE C g1 q) (s / 53))) = some b → some b ∈ lt4 l := fun s0 b hb => by
    have c3 := al_c3 (hE _ (by omega)) s0 (hw.1 (by omega)) k5 k2
    obtain ⟨k, ek⟩ : ∃ k, s / 53 = k + 1 := ⟨s / 53 - 1, by omega⟩
    rw [ek] at c3 hb
    obtain ⟨_, w2, w3⟩ := wcell_good (C := C) (hp k (by omega)) (cAt_ok hg k)
    rw [w3] at c3
    rw [w2] at hb
    have : (82, (cAt l k).2) = cAt l k := by rw [← c3]
    rw [this] at hb
    rw [← hb]
    exact cAt_in c3 (by omega)
  refine ⟨fun su => ?_, fun ku => ?_⟩
  · obtain ⟨s0, hb⟩ := win_S hE hs hw hr hr0 hpl su
    exact key s0 true hb
  · by_cases s0 : s % 53 = 0
    · right
      rcases win_K hE hs hw hr hr0 hpl ku with z | z
      · exact absurd s0 z
      · exact key s0 false z
    · exact Or.inl s0
