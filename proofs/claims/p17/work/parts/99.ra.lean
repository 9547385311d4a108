/-! an end's line: a unit that came; DATA that goes -/
theorem s_isUnit {Z : cZ} {q1 : Nat} {p2 : Int32} {g : mSt} {Φ : Int32 → mSt → Prop} (h : ∀ r, Φ r g) : wp_kisUnit Z q1 p2 g Φ := by
  unfold wp_kisUnit
  repeat' first
    | exact h _
    | exact trivial
    | refine s_wordAt (fun _ _ => ?_)
    | refine ⟨?_, ?_⟩
    | intro _
set_option maxHeartbeats 4000000 in
theorem s_unit {Z : cZ} {i d q1 : Nat} {p2 p3 : Int32} {g g0 : mSt} {Φ : Int32 → mSt → Prop} (hd : cOut Z.n i = d) (hs : stp g0 g i d) (hli : li g i) (hr : (g 170 i).toInt + 8 < 16777216) (h : ∀ r g1, stp g0 g1 i d → Φ r g1) : wp_kunitCame Z i q1 p2 p3 g Φ := by
  unfold wp_kunitCame
  refine s_isUnit (fun v2 _ => ?_)
  repeat' first
    | exact h _ _ hs
    | exact trivial
    | refine s_wordAt (fun _ _ => ?_)
    | exact s_begin hd hs (fun r g1 s _ => h _ _ s)
    | exact s_end hd hs (fun r g1 s _ => h _ _ s)
    | exact s_reset hd hs (fun _ g1 s _ => h _ _ s)
    | exact s_answer hs (fun _ g1 s _ => h _ _ s)
    | exact s_data hd hs (fun g1 s _ => h _ _ s)
    | exact s_pollC hd hs hli hr (fun g1 s _ => h _ _ s)
    | exact s_status hs (fun r g1 s _ => ⟨fun _ => h _ _ s, fun _ => h _ _ s⟩)
    | exact s_gap hs (fun r g1 s _ => ⟨fun _ => h _ _ s, fun _ => h _ _ s⟩)
    | refine ⟨?_, ?_⟩
    | intro _
theorem uLt_data {b : List Int32} {x : Int32} {f : Bool} (h1 : by8 x 24 ≠ 1) (h3 : by8 x 24 ≠ 3) (hf : b.length = 19 → f = true) : uLt (b ++ w4 x) = none ∨ uLt (b ++ w4 x) = some f := by
  unfold uLt
  rw [List.length_append, w4_len]
  by_cases c : b.length + 4 = 23
  · right
    rw [if_pos c, hf (by omega)]
  · left
    rw [if_neg c, if_neg]
    rintro (⟨q, e⟩ | ⟨q, e⟩)
    · have : b.length = 4 := by omega
      rw [List.getElem?_append_right (by omega), this] at e
      exact h1 (Option.some.inj e)
    · have : b.length = 0 := by omega
      rw [List.getElem?_append_right (by omega), this] at e
      exact h3 (Option.some.inj e)
theorem s_sendData {Z : cZ} {i d : Nat} {p1 : Int32} {g g0 : mSt} {Φ : Int32 → mSt → Prop} (hd : cOut Z.n i = d) (hs : stp g0 g i d) (hli : li g i) (hst : (g 164 i).toInt = 2) (h : ∀ r g1, stp g0 g1 i d → (g1 164 i).toInt = 2 → Φ r g1) : wp_ksendData Z i p1 g Φ := by
  intro v1 e1 r1 t1 v4 e4 _ g5 e5 g7 e7 v8 e8 _ v9 e9 _ g10 e10 v14 e14 _ t14 v16 e16 r16
  have r1 : 0 ≤ v1.toInt ∧ v1.toInt ≤ 7 := r1
  have r16 : 0 ≤ v16.toInt ∧ v16.toInt ≤ 60 := r16
  have k10 : mFr [179, 1312, 1344] g g10 := fun a ha => by
    simp only [List.mem_cons, List.not_mem_nil, or_false, not_or] at ha
    rw [e10, up2_of ha.1, e7, up2_of ha.2.2, e5, up2_of ha.2.1]
  have s10 := hs.fr k10 (by decide)
  have e16' : v16 = snt g i v1.toInt.toNat := by
    rw [e16, k10 1280 (by decide), nat_cl]
    rfl
  have l16 : v16.toInt ≤ 19 := by
    rw [e16']
    exact hli.2.1 _ (by omega)
  rw [hd]
  have z10 := s10.2.2.1
  refine s_row (by omega) (by omega) (by omega) (by rw [z10]; omega) (fun g17 u17 hpo17 => s_sendUnit ?_ (fun g18 hu2 hq hpo18 => ?_))
  · rw [← uL_len, u17, uL_nil z10, List.nil_append, List.length_map, List.length_range]
    omega
  · have hlen : (uL g17 d).length = v16.toInt.toNat := by rw [u17, uL_nil z10, List.nil_append, List.length_map, List.length_range]
    have e1q : qL g17 (2 * d) = qL g10 (2 * d) := qL_fr hpo17.2.1 ⟨⟨by decide, by decide⟩, by decide, by decide⟩ _
    rw [e1q] at hq
    have hf : fl g18 i = fl g10 i := (fl_fr hpo18.2.1 ⟨by decide, by decide⟩ i).trans (fl_fr hpo17.2.1 ⟨by decide, by decide⟩ i)
    have hf0 : fl g10 i = fl g i := fl_fr k10 ⟨by decide, by decide⟩ i
    have hw : wtL g18 i = wtL g10 i := (wtL_fr hpo18.2.1 ⟨by decide, by decide, by decide⟩ i).trans (wtL_fr hpo17.2.1 ⟨by decide, by decide, by decide⟩ i)
    have hlu : (uL g17 d ++ w4 ((8 : Int32) <<< ((24 : Int32) &&& 31) ||| p1)).length = v16.toInt.toNat + 4 := by rw [List.length_append, hlen, w4_len]
    have s18 : stp g0 g18 i d := by
      refine s10.gen hq (by omega) (by omega) ⟨oct_app (fun x hx => ?_) (w4_oct _), Or.inl (by omega)⟩ (uLt_data (kind_ne 3 (by decide) (by decide) (by decide)) (kind_ne 3 (by decide) (by decide) (by decide)) (fun c => ?_)) (Or.inl hf) (by rw [hw]; exact Nat.le_refl _) hu2 (fun q => li_fr hpo18.2.1 (by decide) i (li_fr hpo17.2.1 (by decide) i q))
      · rw [u17, uL_nil z10, List.nil_append] at hx
        obtain ⟨y, hy, rfl⟩ := List.mem_map.mp hx
        have hy := List.mem_range.mp hy
        rw [k10 1248 (by decide)]
        exact hli.2.2.2.2 _ (by omega)
      · rw [hf, hf0]
        unfold fl
        rw [decide_eq_true hst, Bool.true_and, List.any_eq_true]
        exact ⟨v1.toInt.toNat, List.mem_range.mpr (by omega), decide_eq_true (by rw [← e16']; omega)⟩
    have st18 : (g18 164 i).toInt = 2 := by rw [hpo18.2.1 164 (by decide), hpo17.2.1 164 (by decide), k10 164 (by decide), hst]
    exact ⟨fun _ g21 => g21 = g18, fun b g21 _ _ _ q21 => by rw [show g21 = g18 from q21]; exact h _ _ s18 st18, fun _ => rfl, fun _ => rfl⟩
