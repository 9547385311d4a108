/-! letters of cells, and how often they alternate -/
def alt (m : Bool) : List (Option Bool) → Bool → Nat
  | [], f => if m = f then 0 else 1
  | none :: t, f => alt m t f
  | some b :: t, f => alt b t f + (if m = b then 0 else 1)
theorem alt_none {m f : Bool} {w t : List (Option Bool)} : alt m (w ++ none :: t) f = alt m (w ++ t) f := by
  induction w generalizing m with
  | nil => rfl
  | cons x w ih =>
    cases x with
    | none => exact ih
    | some b => exact congrArg (· + (if m = b then 0 else 1)) ih
theorem alt_nones {m f : Bool} {w t : List (Option Bool)} (h : ∀ x ∈ t, x = none) : alt m (w ++ t) f = alt m w f := by
  induction t generalizing w with
  | nil => rw [List.append_nil]
  | cons x t ih =>
    rw [h x (List.mem_cons_self ..), alt_none]
    exact ih (fun y hy => h y (List.mem_cons_of_mem _ hy))
theorem alt_same {m f : Bool} {w : List (Option Bool)} : alt m (w ++ [some f]) f = alt m w f := by
  induction w generalizing m with
  | nil =>
    show (if f = f then 0 else 1) + (if m = f then 0 else 1) = if m = f then 0 else 1
    rw [if_pos rfl, Nat.zero_add]
  | cons x w ih =>
    cases x with
    | none => exact ih
    | some b => exact congrArg (· + (if m = b then 0 else 1)) ih
theorem alt_flip {m f f1 : Bool} {w : List (Option Bool)} : alt m w f1 ≤ alt m w f + 1 := by
  induction w generalizing m with
  | nil =>
    show (if m = f1 then 0 else 1) ≤ (if m = f then 0 else 1) + 1
    split <;> omega
  | cons x w ih =>
    cases x with
    | none => exact ih
    | some b =>
      show alt b w f1 + _ ≤ alt b w f + _ + 1
      have := ih (m := b)
      omega
theorem alt_mode {m m1 f : Bool} {w : List (Option Bool)} : alt m1 w f ≤ alt m w f + 1 := by
  induction w with
  | nil =>
    show (if m1 = f then 0 else 1) ≤ (if m = f then 0 else 1) + 1
    split <;> omega
  | cons x w ih =>
    cases x with
    | none => exact ih
    | some b =>
      show alt b w f + (if m1 = b then 0 else 1) ≤ alt b w f + (if m = b then 0 else 1) + 1
      split <;> omega
/-- the mode behind some letters, and how often it changed -/
def altL (m : Bool) : List (Option Bool) → Bool
  | [] => m
  | none :: t => altL m t
  | some b :: t => altL b t
def altN (m : Bool) : List (Option Bool) → Nat
  | [] => 0
  | none :: t => altN m t
  | some b :: t => altN b t + (if m = b then 0 else 1)
theorem alt_app {m f : Bool} {p t : List (Option Bool)} : alt m (p ++ t) f = altN m p + alt (altL m p) t f := by
  induction p generalizing m with
  | nil => exact (Nat.zero_add _).symm
  | cons x p ih =>
    cases x with
    | none => exact ih
    | some b =>
      show alt b (p ++ t) f + _ = altN b p + _ + alt (altL b p) t f
      rw [ih]
      omega
theorem altN_pos {m : Bool} {p : List (Option Bool)} (h : some (!m) ∈ p) : 1 ≤ altN m p := by
  induction p generalizing m with
  | nil => cases h
  | cons x p ih =>
    cases x with
    | none =>
      rcases List.mem_cons.mp h with q | q
      · cases q
      · exact ih q
    | some b =>
      show 1 ≤ altN b p + (if m = b then 0 else 1)
      by_cases hb : m = b
      · rcases List.mem_cons.mp h with q | q
        · exfalso
          cases q
          cases m <;> cases hb
        · subst hb
          have := ih q
          omega
      · rw [if_neg hb]
        omega
/-- S (true): a cell of DATA with a message of 19 octets; K (false): BEGIN or END -/
def ltr (c : Int32 × List Int32) : Option Bool :=
  if c.1 = 82 ∧ c.2[42]? = some 0 then (if c.2[43]? = some 23 then some true else if (c.2[43]? = some 8 ∧ c.2[4]? = some 1) ∨ (c.2[43]? = some 4 ∧ c.2[0]? = some 3) then some false else none) else none
/-- the letter of a unit -/
def uLt (u : List Int32) : Option Bool := if u.length = 23 then some true else if (u.length = 8 ∧ u[4]? = some 1) ∨ (u.length = 4 ∧ u[0]? = some 3) then some false else none
theorem get48 {f : Nat → Int32} {j : Nat} (h : j < 48) : ((List.range 48).map f)[j]? = some (f j) := by rw [List.getElem?_map, List.getElem?_range h]; rfl
theorem some_n {x : Int32} {n : Nat} {k : Int32} {m : Nat} (hx : x.toInt = (n : Int)) (hk : k.toInt = (m : Int)) : (some x = some k) ↔ n = m := by
  constructor
  · intro h
    have h := congrArg Int32.toInt (Option.some.inj h)
    omega
  · intro h
    rw [Int32.toInt_inj.mp (show x.toInt = k.toInt by omega)]
theorem uCs_ltr {u : List Int32} {cs : List (Int32 × List Int32)} (h : uCs u cs) (h1 : 1 ≤ u.length) (h2 : u.length ≤ 200) : ∃ t, (∀ x ∈ t, x = none) ∧ cs.map ltr = t ++ [uLt u] := by
  obtain ⟨im, r, hr, hcs, hu, hz, h6, h5, _⟩ := h
  obtain ⟨r0, rfl⟩ : ∃ r0, r = r0 + 1 := ⟨r - 1, by omega⟩
  refine ⟨((List.range r0).map (fun c => ((if c + 1 = r0 + 1 then 82 else 80 : Int32), (List.range 48).map fun j => im (48 * c + j)))).map ltr, fun x hx => ?_, ?_⟩
  · obtain ⟨c, hc, rfl⟩ := List.mem_map.mp hx
    obtain ⟨k, hk, rfl⟩ := List.mem_map.mp hc
    have hk := List.mem_range.mp hk
    unfold ltr
    rw [if_neg]
    rintro ⟨a, _⟩
    rw [show ((if k + 1 = r0 + 1 then 82 else 80 : Int32), (List.range 48).map fun j => im (48 * k + j)).1 = 80 from if_neg (by omega)] at a
    exact absurd a (by decide)
  · rw [hcs, List.range_succ (n := r0), List.map_append, List.map_append, List.map_cons, List.map_nil, List.map_cons, List.map_nil]
    congr 2
    unfold ltr uLt
    have e43 : 48 * (r0 + 1) - 5 = 48 * r0 + 43 := by omega
    have e42 : 48 * (r0 + 1) - 6 = 48 * r0 + 42 := by omega
    rw [e43] at h5
    rw [e42] at h6
    show (if (if r0 + 1 = r0 + 1 then (82 : Int32) else 80) = 82 ∧ ((List.range 48).map fun j => im (48 * r0 + j))[42]? = some 0 then (if ((List.range 48).map fun j => im (48 * r0 + j))[43]? = some 23 then some true else if (((List.range 48).map fun j => im (48 * r0 + j))[43]? = some 8 ∧ ((List.range 48).map fun j => im (48 * r0 + j))[4]? = some 1) ∨ (((List.range 48).map fun j => im (48 * r0 + j))[43]? = some 4 ∧ ((List.range 48).map fun j => im (48 * r0 + j))[0]? = some 3) then some false else none) else none) = _
    rw [get48 (by decide), get48 (by decide), get48 (by decide), get48 (by decide), if_pos (show (if r0 + 1 = r0 + 1 then (82 : Int32) else 80) = 82 ∧ some (im (48 * r0 + 42)) = some 0 from ⟨if_pos rfl, by rw [h6]⟩)]
    have a23 := some_n (k := 23) (m := 23) h5 (by decide)
    have a8 := some_n (k := 8) (m := 8) h5 (by decide)
    have a4 := some_n (k := 4) (m := 4) h5 (by decide)
    by_cases c1 : u.length = 23
    · rw [if_pos (a23.mpr c1), if_pos c1]
    · rw [if_neg (fun z => c1 (a23.mp z)), if_neg c1]
      by_cases c2 : (u.length = 8 ∧ u[4]? = some 1) ∨ (u.length = 4 ∧ u[0]? = some 3)
      · rw [if_pos c2, if_pos]
        rcases c2 with ⟨q1, q2⟩ | ⟨q1, q2⟩
        · have : r0 = 0 := by omega
          subst this
          rw [hu 4, if_pos (by omega)] at q2
          exact Or.inl ⟨a8.mpr q1, q2⟩
        · have : r0 = 0 := by omega
          subst this
          rw [hu 0, if_pos (by omega)] at q2
          exact Or.inr ⟨a4.mpr q1, q2⟩
      · rw [if_neg c2, if_neg]
        rintro (⟨q1, q2⟩ | ⟨q1, q2⟩)
        · have q3 := a8.mp q1
          have : r0 = 0 := by omega
          subst this
          exact c2 (Or.inl ⟨q3, by rw [hu 4, if_pos (by omega)]; exact q2⟩)
        · have q3 := a4.mp q1
          have : r0 = 0 := by omega
          subst this
          exact c2 (Or.inr ⟨q3, by rw [hu 0, if_pos (by omega)]; exact q2⟩)
/-- what a unit adds -/
theorem alt_unit {u : List Int32} {cs : List (Int32 × List Int32)} {m f : Bool} {w : List (Option Bool)} (h : uCs u cs) (h1 : 1 ≤ u.length) (h2 : u.length ≤ 200) : alt m (w ++ cs.map ltr) f = alt m (w ++ [uLt u]) f := by
  obtain ⟨t, ht, e⟩ := uCs_ltr h h1 h2
  rw [e, ← List.append_assoc, alt_app (p := w ++ t), alt_app (p := w)]
  have : ∀ (t : List (Option Bool)) (m : Bool) , (∀ x ∈ t, x = none) → altN m t = 0 ∧ altL m t = m := by
    intro t
    induction t with
    | nil => exact fun m _ => ⟨rfl, rfl⟩
    | cons x t ih =>
      intro m hx
      rw [hx x (List.mem_cons_self ..)]
      exact ih m (fun y hy => hx y (List.mem_cons_of_mem _ hy))
  have h3 : ∀ (w : List (Option Bool)) (m : Bool), altN m (w ++ t) = altN m w ∧ altL m (w ++ t) = altL m w := by
    intro w
    induction w with
    | nil =>
      intro m
      exact this t m ht
    | cons x w ih =>
      intro m
      cases x with
      | none => exact ih m
      | some b =>
        refine ⟨?_, (ih b).2⟩
        show altN b (w ++ t) + _ = altN b w + _
        rw [(ih b).1]
  rw [(h3 w m).1, (h3 w m).2]
