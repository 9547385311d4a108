/-! a cell of an end's line holds no SETUP anywhere but at its own place -/
theorem fm_get (W : List Int32) (i : Nat) : (W.flatMap w4)[4 * i]? = (W[i]?).map (fun v => by8 v 24) := by
  induction W generalizing i with
  | nil => rfl
  | cons x W ih =>
    rw [List.flatMap_cons]
    cases i with
    | zero => rfl
    | succ i =>
      rw [List.getElem?_append_right (by rw [w4_len]; omega), w4_len, show 4 * (i + 1) - 4 = 4 * i by omega, ih, List.getElem?_cons_succ]
/-- the first octet of a word with a small number, or of STATUS's last -/
def okT (y : Option Int32) : Prop := y = some 0 ∨ ∃ n : Int32, y = some (by8 ((11 : Int32) <<< ((24 : Int32) &&& 31) ||| n) 24)
theorem okT_ne {y : Option Int32} {x : Int32} (h : okT y) (h0 : x ≠ 0) (b : Nat) (hb : b < 8) (hk : (11 : Int32).toBitVec.getLsbD b = true) (hx : x.toBitVec.getLsbD b = false) : y ≠ some x := by
  intro e
  rcases h with q | ⟨n, q⟩
  · rw [q] at e
    exact h0 (Option.some.inj e).symm
  · rw [q] at e
    exact kind_ne b hb hk hx (Option.some.inj e)
/-- what is known of a cell's octets -/
def okC (p : List Int32) : Prop := ((∀ j, 23 ≤ j → j ≤ 42 → p[j]? = some 0) ∧ ∃ x : Int32, p[43]? = some x ∧ x.toInt ≤ 23) ∨ ∃ E : Nat, (∀ i, i < 11 → i ≠ E → okT p[4 * i]?) ∧ (E = 10 → okT p[44]?)
theorem okC_of {u : List Int32} {cs : List (Int32 × List Int32)} {c : Int32 × List Int32} (hg : goodU u) (h1 : 1 ≤ u.length) (h : uCs u cs) (hc : c ∈ cs) : okC c.2 := by
  obtain ⟨im, r, hr, hcs, hu, hz, h6, h5, _⟩ := h
  rw [hcs] at hc
  obtain ⟨k, hk, rfl⟩ := List.mem_map.mp hc
  have hk := List.mem_range.mp hk
  show okC ((List.range 48).map fun j => im (48 * k + j))
  rcases hg.2 with hs | ⟨ws, p, m, n, eu, hl, hsm, hm⟩
  · left
    have r1 : r = 1 := by omega
    subst r1
    have k0 : k = 0 := by omega
    subst k0
    refine ⟨fun j h1 h2 => ?_, im 43, ?_, by rw [show (43 : Nat) = 48 * 1 - 5 from rfl, h5]; omega⟩
    · rw [get48 (by omega)]
      by_cases hj : j = 42
      · subst hj
        exact congrArg some h6
      · rw [show 48 * 0 + j = j by omega, hz j (by omega) (by omega)]
    · rw [get48 (by decide)]
  · right
    have eu2 : u = (ws ++ [p, m, (11 : Int32) <<< ((24 : Int32) &&& 31) ||| n]).flatMap w4 := by
      rw [eu, List.flatMap_append]
      show _ = ws.flatMap w4 ++ (w4 p ++ (w4 m ++ (w4 _ ++ [])))
      rw [List.append_nil, List.append_assoc, List.append_assoc]
    have hlen : u.length = 4 * (ws.length + 3) := by
      rw [eu2, fm_len, List.length_append]
      rfl
    -- the first octet of word w
    have top : ∀ w, w ≠ ws.length → 4 * w < 48 * r - 6 → okT (some (im (4 * w))) := by
      intro w hw hlt
      by_cases hin : w < ws.length + 3
      · have e := hu (4 * w)
        rw [if_pos (by omega), eu2, fm_get] at e
        rw [← e]
        rcases (by omega : w < ws.length ∨ w = ws.length + 1 ∨ w = ws.length + 2) with q | q | q
        · left
          rw [List.getElem?_append_left q, List.getElem?_eq_getElem q, Option.map_some, hsm _ (List.getElem_mem q)]
        · left
          rw [List.getElem?_append_right (by omega), q, show ws.length + 1 - ws.length = 1 by omega]
          show some (by8 m 24) = some 0
          rw [hm]
        · right
          refine ⟨n, ?_⟩
          rw [List.getElem?_append_right (by omega), q, show ws.length + 2 - ws.length = 2 by omega]
          rfl
      · left
        rw [hz (4 * w) (by omega) hlt]
    have r2 : r = 1 ∨ r = 2 := by omega
    rcases r2 with q | q
    · subst q
      have k0 : k = 0 := by omega
      subst k0
      refine ⟨ws.length, fun i hi hne => ?_, fun z => by exfalso; omega⟩
      rw [get48 (by omega), show 48 * 0 + 4 * i = 4 * i by omega]
      exact top i hne (by omega)
    · subst q
      rcases (by omega : k = 0 ∨ k = 1) with w | w
      · subst w
        refine ⟨ws.length, fun i hi hne => ?_, fun z => ?_⟩
        · rw [get48 (by omega), show 48 * 0 + 4 * i = 4 * i by omega]
          exact top i hne (by omega)
        · rw [get48 (by decide)]
          exact top 11 (by omega) (by omega)
      · subst w
        refine ⟨ws.length - 12, fun i hi hne => ?_, fun z => by exfalso; omega⟩
        rw [get48 (by omega), show 48 * 1 + 4 * i = 4 * (12 + i) by omega]
        exact top (12 + i) (by omega) (by omega)
/-- the first octets of a SETUP as a unit, from the place o on -/
def spre (p : List Int32) (o : Nat) : Prop := (p[o]? = some 9 ∧ p[o + 1]? = some 3 ∧ p[o + 5]? = some 5 ∧ p[o + 6]? = some 128) ∧ (p[o + 8]? = some 10 ∧ p[o + 9]? = some 112 ∧ p[o + 10]? = some 128 ∧ p[o + 12]? = some 1) ∧ p[o + 14]? = some 89 ∧ p[o + 15]? = some 128 ∧ p[o + 19]? = some 8
theorem no_spre {p : List Int32} (h : okC p) (o : Nat) (h8 : 8 ≤ o) (h28 : o ≤ 28) : ¬ spre p o := by
  rintro ⟨⟨a0, a1, a5, a6⟩, ⟨a8, a9, a10, a12⟩, a14, a15, a19⟩
  rcases h with ⟨hz, x, hx, hxl⟩ | ⟨E, hE, hE2⟩
  · by_cases h43 : o + 15 = 43
    · rw [h43, hx] at a15
      rw [Option.some.inj a15] at hxl
      exact absurd hxl (by decide)
    · rw [hz (o + 15) (by omega) (by omega)] at a15
      exact absurd (Option.some.inj a15) (by decide)
  · have at4 : ∀ (w j : Nat) (y : Int32), w < 11 → w ≠ E → j = 4 * w → p[j]? = some y → (y = 9 ∨ y = 3 ∨ y = 5 ∨ y = 128 ∨ y = 10 ∨ y = 112 ∨ y = 1 ∨ y = 89 ∨ y = 8) → False := by
      intro w j y hw hne hj hy hv
      have ok := hE w hw hne
      rw [← hj] at ok
      rcases hv with q | q | q | q | q | q | q | q | q <;> subst q
      · exact okT_ne ok (by decide) 1 (by decide) (by decide) (by decide) hy
      · exact okT_ne ok (by decide) 3 (by decide) (by decide) (by decide) hy
      · exact okT_ne ok (by decide) 1 (by decide) (by decide) (by decide) hy
      · exact okT_ne ok (by decide) 0 (by decide) (by decide) (by decide) hy
      · exact okT_ne ok (by decide) 0 (by decide) (by decide) (by decide) hy
      · exact okT_ne ok (by decide) 0 (by decide) (by decide) (by decide) hy
      · exact okT_ne ok (by decide) 1 (by decide) (by decide) (by decide) hy
      · exact okT_ne ok (by decide) 1 (by decide) (by decide) (by decide) hy
      · exact okT_ne ok (by decide) 0 (by decide) (by decide) (by decide) hy
    rcases (by omega : o % 4 = 0 ∨ o % 4 = 1 ∨ o % 4 = 2 ∨ o % 4 = 3) with q | q | q | q
    · by_cases hn : o / 4 = E
      · exact at4 (o / 4 + 2) (o + 8) 10 (by omega) (by omega) (by omega) a8 (by simp)
      · exact at4 (o / 4) o 9 (by omega) hn (by omega) a0 (by simp)
    · by_cases hn : (o + 15) / 4 = E
      · by_cases h25 : o = 25
        · have ok := hE2 (by omega)
          rw [h25] at a19
          exact okT_ne ok (by decide) 0 (by decide) (by decide) (by decide) a19
        · exact at4 ((o + 19) / 4) (o + 19) 8 (by omega) (by omega) (by omega) a19 (by simp)
      · exact at4 ((o + 15) / 4) (o + 15) 128 (by omega) hn (by omega) a15 (by simp)
    · by_cases hn : (o + 6) / 4 = E
      · exact at4 ((o + 10) / 4) (o + 10) 128 (by omega) (by omega) (by omega) a10 (by simp)
      · exact at4 ((o + 6) / 4) (o + 6) 128 (by omega) hn (by omega) a6 (by simp)
    · by_cases hn : (o + 1) / 4 = E
      · exact at4 ((o + 5) / 4) (o + 5) 5 (by omega) (by omega) (by omega) a5 (by simp)
      · exact at4 ((o + 1) / 4) (o + 1) 3 (by omega) hn (by omega) a1 (by simp)
