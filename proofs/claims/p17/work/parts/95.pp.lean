theorem sh24 (k n : Int32) : (by8 (k <<< ((24 : Int32) &&& 31) ||| n) 24).toBitVec = ((k.toBitVec <<< 24 ||| n.toBitVec) >>> 24) &&& 255#32 := by
  have e1 : ((24 : Int32) &&& 31).toBitVec.smod 32 = 24#32 := by decide
  have e2 : ((24 : Int32).toUInt32 &&& Int32.toUInt32 31).toBitVec % 32 = 24#32 := by decide
  unfold by8
  show ((k <<< ((24 : Int32) &&& 31) ||| n).toUInt32 >>> ((24 : Int32).toUInt32 &&& Int32.toUInt32 31)).toBitVec &&& 255#32 = _
  rw [UInt32.toBitVec_shiftRight, e2]
  show (((k <<< ((24 : Int32) &&& 31)).toBitVec ||| n.toBitVec) >>> (24#32)) &&& 255#32 = _
  rw [Int32.toBitVec_shiftLeft, e1]
  rfl
theorem bitK {k n : Int32} {b : Nat} (hb : b < 8) (hk : k.toBitVec.getLsbD b = true) : (by8 (k <<< ((24 : Int32) &&& 31) ||| n) 24).toBitVec.getLsbD b = true := by
  rw [sh24, BitVec.getLsbD_and, BitVec.getLsbD_ushiftRight, BitVec.getLsbD_or, BitVec.getLsbD_shiftLeft]
  rcases (by omega : b = 0 ∨ b = 1 ∨ b = 2 ∨ b = 3 ∨ b = 4 ∨ b = 5 ∨ b = 6 ∨ b = 7) with h | h | h | h | h | h | h | h <;> subst h <;> simp [hk]
theorem kind_ne {k n : Int32} {x : Int32} (b : Nat) (hb : b < 8) (hk : k.toBitVec.getLsbD b = true) (hx : x.toBitVec.getLsbD b = false) : by8 (k <<< ((24 : Int32) &&& 31) ||| n) 24 ≠ x := by
  intro h
  have := bitK (n := n) hb hk
  rw [h, hx] at this
  cases this
/-- whether a SETUP of the line can still go; how many wait -/
def fl (g : mSt) (i : Nat) : Bool := decide ((g 164 i).toInt = 2) && (List.range 8).any (fun k => decide ((snt g i k).toInt = 19))
def n19 (l : List Int32) : Nat := l.countP (fun x => decide (x.toInt = 19))
def pot (g : mSt) (i d : Nat) (m : Bool) : Nat := alt m ((qL g (2 * d)).map ltr) (fl g i) + (fl g i).toNat + 2 * n19 (wtL g i)
/-- units that a line of an end sends: short ones, or words with small numbers (STATUS) -/
def stU (u : List Int32) : Prop := ∃ (ws : List Int32) (p m n : Int32), u = ws.flatMap w4 ++ w4 p ++ w4 m ++ w4 ((11 : Int32) <<< ((24 : Int32) &&& 31) ||| n) ∧ ws.length ≤ 12 ∧ (∀ v ∈ ws, by8 v 24 = 0) ∧ by8 m 24 = 0
def goodU (u : List Int32) : Prop := (∀ x ∈ u, oct x) ∧ (u.length ≤ 23 ∨ stU u)
/-- what a line keeps to: h at most r + 8; messages of at most 19 octets -/
def li (g : mSt) (i : Nat) : Prop := (g 171 i).toInt ≤ (g 170 i).toInt + 8 ∧ (∀ k, k < 8 → (snt g i k).toInt ≤ 19) ∧ (∀ x ∈ wtL g i, x.toInt ≤ 19) ∧ (∀ k, k / 8192 = i → oct (g 832 k)) ∧ ∀ k, k / 8192 = 2 * i → oct (g 1248 k)
/-- one step of the line i with the direction d: no more alternations to come, good cells only -/
def stp (g g1 : mSt) (i d : Nat) : Prop := (∀ m, pot g1 i d m ≤ pot g i d m) ∧ (∀ c ∈ qL g1 (2 * d), c ∈ qL g (2 * d) ∨ ∃ u cs, goodU u ∧ uCs u cs ∧ c ∈ cs) ∧ uLn g1 d = 0 ∧ (li g i → li g1 i)
/-- what a unit does to the queue -/
def emi (g g1 : mSt) (d : Nat) (u : List Int32) : Prop := qL g1 (2 * d) = qL g (2 * d) ∨ ∃ cs, uCs u cs ∧ qL g1 (2 * d) = qL g (2 * d) ++ cs
def relR : List Nat := [66, 67, 111, 164, 170, 171, 197, 198, 544, 576, 832, 864, 1248, 1280]
def relN (M : List Nat) : Bool := relR.all fun j => !(M.contains j)
theorem relN_at {M : List Nat} (h : relN M = true) {j : Nat} (hj : j ∈ relR) : j ∉ M := by
  have := List.all_eq_true.mp h j hj
  intro z
  rw [List.contains_iff_mem.mpr z] at this
  cases this
theorem mFr_nil {g g1 : mSt} (h : mFr [] g g1) : g1 = g := funext fun j => h j (by simp)
theorem fl_eq {g g1 : mSt} {i : Nat} (h : g1 164 i = g 164 i) (k : ∀ j, j < 8 → snt g1 i j = snt g i j) : fl g1 i = fl g i := by
  unfold fl
  rw [h]
  congr 1
  rw [Bool.eq_iff_iff, List.any_eq_true, List.any_eq_true]
  constructor
  · rintro ⟨x, hx, e⟩
    exact ⟨x, hx, by rw [← k x (List.mem_range.mp hx)]; exact e⟩
  · rintro ⟨x, hx, e⟩
    exact ⟨x, hx, by rw [k x (List.mem_range.mp hx)]; exact e⟩
theorem fl_fr {M : List Nat} {g g1 : mSt} (h : mFr M g g1) (k : 164 ∉ M ∧ 1280 ∉ M) (i : Nat) : fl g1 i = fl g i := fl_eq (by rw [h 164 k.1]) (fun j _ => by unfold snt; rw [h 1280 k.2])
theorem fl_st {g : mSt} {i : Nat} (h : (g 164 i).toInt ≠ 2) : fl g i = false := by
  unfold fl
  rw [decide_eq_false h, Bool.false_and]
theorem fl_cl {g : mSt} {i : Nat} (h : ∀ k, k < 8 → snt g i k = 0) : fl g i = false := by
  unfold fl
  rw [show (List.range 8).any (fun k => decide ((snt g i k).toInt = 19)) = false from ?_, Bool.and_false]
  rw [List.any_eq_false]
  intro x hx
  rw [h x (List.mem_range.mp hx)]
  decide
theorem li_fr {M : List Nat} {g g1 : mSt} (h : mFr M g g1) (k : ((170 ∉ M ∧ 171 ∉ M ∧ 1280 ∉ M) ∧ 197 ∉ M ∧ 198 ∉ M ∧ 864 ∉ M) ∧ 832 ∉ M ∧ 1248 ∉ M) (i : Nat) (hl : li g i) : li g1 i := by
  unfold li
  rw [h 170 k.1.1.1, h 171 k.1.1.2.1, wtL_fr h k.1.2, h 832 k.2.1, h 1248 k.2.2]
  exact ⟨hl.1, fun j hj => by unfold snt; rw [h 1280 k.1.1.2.2]; exact hl.2.1 j hj, hl.2.2⟩
theorem stp.rf {g : mSt} {i d : Nat} (h : uLn g d = 0) : stp g g i d := ⟨fun _ => Nat.le_refl _, fun _ hc => Or.inl hc, h, id⟩
theorem stp.tr {g g1 g2 : mSt} {i d : Nat} (h : stp g g1 i d) (k : stp g1 g2 i d) : stp g g2 i d := ⟨fun m => Nat.le_trans (k.1 m) (h.1 m), fun c hc => (k.2.1 c hc).elim (fun z => h.2.1 c z) Or.inr, k.2.2.1, fun q => k.2.2.2 (h.2.2.2 q)⟩
theorem stp.fr {M : List Nat} {g g1 g2 : mSt} {i d : Nat} (h : stp g g1 i d) (k : mFr M g1 g2) (hM : relN M = true) : stp g g2 i d := by
  have hq := qL_fr k ⟨⟨relN_at hM (by decide), relN_at hM (by decide)⟩, relN_at hM (by decide), relN_at hM (by decide)⟩ (2 * d)
  have hf := fl_fr k ⟨relN_at hM (by decide), relN_at hM (by decide)⟩ i
  have hw := wtL_fr k ⟨relN_at hM (by decide), relN_at hM (by decide), relN_at hM (by decide)⟩ i
  refine ⟨fun m => ?_, fun c hc => h.2.1 c (by rw [← hq]; exact hc), by rw [uLn_fr k (relN_at hM (by decide))]; exact h.2.2.1, fun q => li_fr k ⟨⟨⟨relN_at hM (by decide), relN_at hM (by decide), relN_at hM (by decide)⟩, relN_at hM (by decide), relN_at hM (by decide), relN_at hM (by decide)⟩, relN_at hM (by decide), relN_at hM (by decide)⟩ i (h.2.2.2 q)⟩
  have := h.1 m
  unfold pot at this ⊢
  rw [hq, hf, hw]
  exact this
theorem stp.up {g g1 g2 : mSt} {i d j k : Nat} {v : Int32} (h : stp g g1 i d) (e : g2 = up2 g1 j k v) (hj : relN [j] = true) : stp g g2 i d := h.fr (M := [j]) (fun a ha => by rw [e, up2_of (by simpa using ha)]) hj
theorem alt_fl {m f f1 : Bool} {w : List (Option Bool)} (h : f1 = f ∨ f1 = false) : alt m w f1 + f1.toNat ≤ alt m w f + f.toNat := by
  rcases h with h | h
  · rw [h]
    exact Nat.le_refl _
  · subst h
    cases f with
    | false => exact Nat.le_refl _
    | true => exact alt_flip
/-- a step that may send one unit -/
theorem stp.gen {g g1 g2 : mSt} {i d : Nat} {u : List Int32} (h : stp g g1 i d) (hq : emi g1 g2 d u) (h1 : 1 ≤ u.length) (h2 : u.length ≤ 200) (hg : goodU u) (hl : uLt u = none ∨ uLt u = some (fl g2 i)) (hf : fl g2 i = fl g1 i ∨ fl g2 i = false) (hw : n19 (wtL g2 i) ≤ n19 (wtL g1 i)) (h0 : uLn g2 d = 0) (hli : li g1 i → li g2 i) : stp g g2 i d := by
  refine h.tr ⟨fun m => ?_, fun c hc => ?_, h0, hli⟩
  · have e : alt m ((qL g2 (2 * d)).map ltr) (fl g2 i) = alt m ((qL g1 (2 * d)).map ltr) (fl g2 i) := by
      rcases hq with hq | ⟨cs, hcs, hq⟩
      · rw [hq]
      · rw [hq, List.map_append, alt_unit hcs h1 h2]
        rcases hl with hl | hl
        · rw [hl, alt_none, List.append_nil]
        · rw [hl, alt_same]
    unfold pot
    rw [e]
    have := alt_fl (m := m) (w := (qL g1 (2 * d)).map ltr) hf
    omega
  · rcases hq with hq | ⟨cs, hcs, hq⟩
    · rw [hq] at hc
      exact Or.inl hc
    · rw [hq] at hc
      rcases List.mem_append.mp hc with z | z
      · exact Or.inl z
      · exact Or.inr ⟨u, cs, hg, hcs, z⟩
/-- a step that sends nothing, and after which no SETUP can go -/
theorem stp.cl {g g1 g2 : mSt} {i d : Nat} (h : stp g g1 i d) (hq : qL g2 (2 * d) = qL g1 (2 * d)) (hf : fl g2 i = false) (hw : n19 (wtL g2 i) ≤ n19 (wtL g1 i)) (h0 : uLn g2 d = 0) (hli : li g1 i → li g2 i) : stp g g2 i d := by
  refine h.tr ⟨fun m => ?_, fun c hc => Or.inl (by rw [← hq]; exact hc), h0, hli⟩
  unfold pot
  rw [hq]
  have := alt_fl (m := m) (w := (qL g1 (2 * d)).map ltr) (Or.inr hf : fl g2 i = fl g1 i ∨ fl g2 i = false)
  omega
theorem w4_len (v : Int32) : (w4 v).length = 4 := rfl
/-- two words, or one: their letters -/
theorem uLt8 {a b : Int32} (h : by8 b 24 ≠ 1) : uLt (w4 a ++ w4 b) = none := by
  unfold uLt
  rw [if_neg (by rw [List.length_append, w4_len, w4_len]; decide), if_neg]
  rintro (⟨_, q⟩ | ⟨q, _⟩)
  · exact h (Option.some.inj q)
  · rw [List.length_append, w4_len, w4_len] at q
    exact absurd q (by decide)
theorem uLt8K {a b : Int32} : uLt (w4 a ++ w4 b) = none ∨ uLt (w4 a ++ w4 b) = some false := by
  unfold uLt
  rw [if_neg (by rw [List.length_append, w4_len, w4_len]; decide)]
  split
  · exact Or.inr rfl
  · exact Or.inl rfl
theorem uLt4K {b : Int32} : uLt (w4 b) = none ∨ uLt (w4 b) = some false := by
  unfold uLt
  rw [if_neg (by rw [w4_len]; decide)]
  split
  · exact Or.inr rfl
  · exact Or.inl rfl
theorem by8_oct (v a : Int32) : oct (by8 v a) := rg_and (show by8 v a = (v.toUInt32 >>> (a.toUInt32 &&& Int32.toUInt32 31)).toInt32 &&& 255 from rfl) 8 255 (by decide) rfl
theorem w4_oct (v : Int32) : ∀ x ∈ w4 v, oct x := by
  intro x hx
  unfold w4 at hx
  simp only [List.mem_cons, List.not_mem_nil, or_false] at hx
  rcases hx with h | h | h | h <;> rw [h] <;> exact by8_oct _ _
theorem oct_app {a b : List Int32} (h : ∀ x ∈ a, oct x) (k : ∀ x ∈ b, oct x) : ∀ x ∈ a ++ b, oct x := fun x hx => (List.mem_append.mp hx).elim (h x) (k x)
theorem good8 {a b : Int32} : goodU (w4 a ++ w4 b) ∧ 1 ≤ (w4 a ++ w4 b).length ∧ (w4 a ++ w4 b).length ≤ 200 := by
  unfold goodU
  rw [List.length_append, w4_len, w4_len]
  exact ⟨⟨oct_app (w4_oct _) (w4_oct _), Or.inl (by decide)⟩, by decide, by decide⟩
theorem good4 {b : Int32} : goodU (w4 b) ∧ 1 ≤ (w4 b).length ∧ (w4 b).length ≤ 200 := by
  unfold goodU
  rw [w4_len]
  exact ⟨⟨w4_oct _, Or.inl (by decide)⟩, by decide, by decide⟩
/-- a word and the end of a unit -/
theorem s_em2 {Z : cZ} {d : Nat} {a k n : Int32} {g : mSt} {Φ Ψ : mSt → Prop} (h0 : uLn g d = 0) (h : ∀ g2, mFr [67, 108, 111, 544, 576, 768] g g2 → emi g g2 d (w4 a ++ w4 (k <<< ((24 : Int32) &&& 31) ||| n)) → uLn g2 d = 0 → Ψ g2) (hΦ : ∀ g1, (wp_ksendUnit Z d k n g1 (fun _ g2 => po_ksendUnit Z d k n g1 0 g2 → Ψ g2)) → Φ g1) : wp_kword Z d a g (fun _ g1 => po_kword Z d a g 0 g1 → Φ g1) := by
  refine s_word (by omega) (fun g1 hu hpo => hΦ g1 (s_sendUnit (by rw [← uL_len, hu, List.length_append, uL_len, h0, w4_len]; decide) (fun g2 hu2 hq hpo2 => h g2 ?_ ?_ hu2)))
  · intro j hj
    simp only [List.mem_cons, List.not_mem_nil, or_false, not_or] at hj
    rw [hpo2.2.1 j (by simp only [List.mem_cons, List.not_mem_nil, or_false, not_or]; omega), hpo.2.1 j (by simp only [List.mem_cons, List.not_mem_nil, or_false, not_or]; omega)]
  · have e1 : qL g1 (2 * d) = qL g (2 * d) := qL_fr hpo.2.1 ⟨⟨by decide, by decide⟩, by decide, by decide⟩ _
    have e2 : uL g1 d = w4 a := by rw [hu, uL_nil h0]; rfl
    unfold emi
    rw [← e1, ← e2]
    exact hq
theorem s_em1 {Z : cZ} {d : Nat} {k n : Int32} {g : mSt} {Ψ : mSt → Prop} (h0 : uLn g d = 0) (h : ∀ g2, mFr [67, 108, 111, 544, 576, 768] g g2 → emi g g2 d (w4 (k <<< ((24 : Int32) &&& 31) ||| n)) → uLn g2 d = 0 → Ψ g2) : wp_ksendUnit Z d k n g (fun _ g2 => po_ksendUnit Z d k n g 0 g2 → Ψ g2) := by
  refine s_sendUnit (by omega) (fun g2 hu2 hq hpo2 => h g2 hpo2.2.1 ?_ hu2)
  unfold emi
  rw [uL_nil h0] at hq
  exact hq
theorem s_poll {Z : cZ} {i d : Nat} {p1 : Int32} {g g0 : mSt} {Φ : Int32 → mSt → Prop} (hd : cOut Z.n i = d) (hs : stp g0 g i d) (h : ∀ g1, stp g0 g1 i d → Φ 0 g1) : wp_kpoll Z i p1 g Φ := by
  intro v1 e1 _ v2 e2 _ g3 e3 g4 e4 g5 e5
  have hs5 := ((hs.up e3 (by decide)).up e4 (by decide)).up e5 (by decide)
  rw [hd]
  refine s_word (by rw [hs5.2.2.1]; decide) (fun g9 hu hpo v10 e10 _ => s_sendUnit (by rw [← uL_len, hu, List.length_append, uL_len, hs5.2.2.1, w4_len]; decide) (fun g11 hu2 hq hpo2 => h g11 ?_))
  have e1 : qL g9 (2 * d) = qL g5 (2 * d) := qL_fr hpo.2.1 ⟨⟨by decide, by decide⟩, by decide, by decide⟩ _
  have e2 : uL g9 d = w4 v2 := by rw [hu, uL_nil hs5.2.2.1]; rfl
  rw [e2, e1] at hq
  have hf : fl g11 i = fl g5 i := (fl_fr hpo2.2.1 ⟨by decide, by decide⟩ i).trans (fl_fr hpo.2.1 ⟨by decide, by decide⟩ i)
  have hw : wtL g11 i = wtL g5 i := (wtL_fr hpo2.2.1 ⟨by decide, by decide, by decide⟩ i).trans (wtL_fr hpo.2.1 ⟨by decide, by decide, by decide⟩ i)
  exact hs5.gen hq good8.2.1 good8.2.2 good8.1 (Or.inl (uLt8 (kind_ne 1 (by decide) (by decide) (by decide)))) (Or.inl hf) (by rw [hw]; exact Nat.le_refl _) hu2 (fun q => li_fr hpo2.2.1 (by decide) i (li_fr hpo.2.1 (by decide) i q))
