/-! an end's line: POLL and its answer -/
theorem by8_0 {v : Int32} (h : 0 ≤ v.toInt ∧ v.toInt < 16777216) : by8 v 24 = 0 := by
  have e2 : ((24 : Int32).toUInt32 &&& Int32.toUInt32 31).toBitVec % 32 = 24#32 := by decide
  have e : (by8 v 24).toBitVec = (v.toBitVec >>> 24) &&& 255#32 := by
    unfold by8
    show (v.toUInt32 >>> ((24 : Int32).toUInt32 &&& Int32.toUInt32 31)).toBitVec &&& 255#32 = _
    rw [UInt32.toBitVec_shiftRight, e2]
    rfl
  have hn : v.toBitVec.toNat < 16777216 := by
    have h1 : v.toInt = v.toBitVec.toInt := rfl
    rw [BitVec.toInt_eq_toNat_cond] at h1
    split at h1 <;> omega
  have hz : v.toBitVec >>> 24 = 0#32 := by
    apply BitVec.eq_of_toNat_eq
    rw [BitVec.toNat_ushiftRight, Nat.shiftRight_eq_div_pow]
    show v.toBitVec.toNat / 2 ^ 24 = 0
    omega
  rw [hz] at e
  exact Int32.toBitVec_inj.mp (by rw [e]; decide)
theorem fm_len (ws : List Int32) : (ws.flatMap w4).length = 4 * ws.length := by
  induction ws with
  | nil => rfl
  | cons x ws ih =>
    rw [List.flatMap_cons, List.length_append, ih, w4_len, List.length_cons]
    omega
theorem fm_snoc (ws : List Int32) (v : Int32) : (ws ++ [v]).flatMap w4 = ws.flatMap w4 ++ w4 v := by
  rw [List.flatMap_append, List.flatMap_cons, List.flatMap_nil, List.append_nil]
theorem all_snoc {ws : List Int32} {v : Int32} {p : Int32 → Prop} (h : ∀ x ∈ ws, p x) (k : p v) : ∀ x ∈ ws ++ [v], p x := by
  intro x hx
  rcases List.mem_append.mp hx with z | z
  · exact h x z
  · rw [List.mem_singleton.mp z]
    exact k
theorem s_tell {Z : cZ} {i d : Nat} {g : mSt} {Φ : Int32 → mSt → Prop} (hd : cOut Z.n i = d) (h0 : uLn g d = 0) (hr : (g 170 i).toInt + 8 < 16777216) (hh : (g 171 i).toInt ≤ (g 170 i).toInt + 8) (hlt : (g 170 i).toInt < (g 171 i).toInt) (h : ∀ g1 (ws : List Int32), uL g1 d = ws.flatMap w4 → ws.length ≤ 12 → (∀ v ∈ ws, by8 v 24 = 0) → Φ 0 g1) : wp_ktellList Z i g Φ := by
  intro v3 e3 r3
  rw [hd]
  have r3 : 0 ≤ v3.toInt ∧ v3.toInt ≤ 2000000000 := r3
  rw [← e3] at hr hh hlt
  refine s_word (by omega) (fun g4 u4 hpo4 v6 e6 _ t6 => ⟨fun a _ n g10 => (1 ≤ a.toInt ∧ a.toInt ≤ 12) ∧ ∃ ws : List Int32, uL g10 d = ws.flatMap w4 ∧ (ws.length : Int) = a.toInt ∧ ∀ v ∈ ws, by8 v 24 = 0, fun a b n g10 k10 _ ra _ rn hP v11 e11 _ => ?_, ⟨by decide, [v3], by rw [u4, uL_nil h0]; rfl, (show (1 : Int) = (1 : Int32).toInt by decide), fun v hv => by rw [List.mem_singleton.mp hv]; exact by8_0 (by omega)⟩⟩)
  obtain ⟨ha, ws, hu, hl, hs⟩ := hP
  have rn : 1 ≤ n.toInt ∧ n.toInt ≤ 2147483647 := rn
  have e11' : v11.toInt = (g 171 i).toInt := by rw [e11, k10 171 (by decide), hpo4.2.1 171 (by decide)]
  have wlen : ∀ g' : mSt, uL g' d = ws.flatMap w4 → uLn g' d ≤ 196 := fun g' e => by
    rw [← uL_len, e, fm_len]
    omega
  refine ⟨fun g12 => uL g12 d = ws.flatMap w4, fun g12 _ _ u12 => ⟨fun g13 => ∃ ws : List Int32, uL g13 d = ws.flatMap w4 ∧ ws.length ≤ 12 ∧ ∀ v ∈ ws, by8 v 24 = 0, fun g13 _ _ q13 => ?_, fun _ => ⟨ws, u12, by omega, hs⟩, fun c12 => ?_⟩, fun _ => hu, fun cn => ⟨fun _ => hu, fun c12 v27 e27 _ t27 v28 e28 _ => ⟨fun _ g30 => uL g30 d = ws.flatMap w4, fun b30 g30 _ _ _ u30 => ⟨fun a' _ g33 => (1 ≤ a'.toInt ∧ a'.toInt ≤ 12) ∧ ∃ ws : List Int32, uL g33 d = ws.flatMap w4 ∧ (ws.length : Int) = a'.toInt ∧ ∀ v ∈ ws, by8 v 24 = 0, fun a' b' g33 _ _ _ _ q33 v34 e34 _ t34 => q33, fun _ => ⟨ha, ws, u30, hl, hs⟩, fun _ => s_word (wlen g30 u30) (fun g36 u36 _ v37 e37 _ t37 => ⟨by omega, ws ++ [n], by rw [u36, fm_snoc, show uL g30 d = _ from u30], by rw [List.length_append, List.length_singleton]; omega, all_snoc hs (by8_0 (by omega))⟩)⟩, fun _ => hu, fun _ => hu⟩⟩⟩
  · obtain ⟨ws', a1, a2, a3⟩ := q13
    exact h g13 ws' a1 a2 a3
  · refine s_word (wlen g12 u12) (fun g18 u18 _ => ⟨ws ++ [v11], by rw [u18, fm_snoc, show uL g12 d = _ from u12], by rw [List.length_append, List.length_singleton]; omega, all_snoc hs (by8_0 (by omega))⟩)
theorem fm_oct (ws : List Int32) : ∀ x ∈ ws.flatMap w4, oct x := fun x hx => by
  obtain ⟨v, _, hv⟩ := List.mem_flatMap.mp hx
  exact w4_oct v x hv
theorem s_pollC {Z : cZ} {i d : Nat} {p1 p2 : Int32} {g g0 : mSt} {Φ : Int32 → mSt → Prop} (hd : cOut Z.n i = d) (hs : stp g0 g i d) (hli : li g i) (hr : (g 170 i).toInt + 8 < 16777216) (h : ∀ g1, stp g0 g1 i d → Φ 0 g1) : wp_kpollCame Z i p1 p2 g Φ := by
  intro v1 e1 _ v2 e2 r2 v3 e3 _ t3 v4 r4 m4 v5 r5 m5 g6 e6
  have r2 : 0 ≤ v2.toInt ∧ v2.toInt ≤ 2000000000 := r2
  have hli1 := hli.1
  rw [← e1, ← e2] at hli1
  have k6 : mFr [171] g g6 := fun a ha => by rw [e6, up2_of (by simpa using ha)]
  have e170 : g6 170 i = v2 := by rw [k6 170 (by decide), ← e2]
  have e171 : g6 171 i = v5 := by rw [e6, up2_i]
  have s6 : stp g0 g6 i d := hs.rh k6 (by decide) (fun q => by rw [e170, e171]; omega)
  rw [← e2] at hr
  rw [hd]
  have z6 := s6.2.2.1
  refine ⟨fun g9 => ∃ ws : List Int32, uL g9 d = ws.flatMap w4 ∧ ws.length ≤ 12 ∧ ∀ v ∈ ws, by8 v 24 = 0, fun g9 k9 _ q9 => ?_, fun _ => ⟨[], by rw [uL_nil z6]; rfl, by decide, fun v hv => by cases hv⟩, fun c => s_tell hd z6 (by rw [e170]; exact hr) (by rw [e170, e171]; omega) (by rw [e170, e171]; omega) (fun g20 ws a b c _ => ⟨ws, a, b, c⟩)⟩
  obtain ⟨ws, hu, hl, hsm⟩ := q9
  refine s_word ?_ (fun g12 u12 hpo12 => s_word ?_ (fun g14 u14 hpo14 => s_sendUnit ?_ (fun g16 hu2 hq hpo16 => h g16 ?_)))
  · rw [← uL_len, hu, fm_len]
    omega
  · rw [← uL_len, u12, hu, List.length_append, fm_len, w4_len]
    omega
  · rw [← uL_len, u14, u12, hu, List.length_append, List.length_append, fm_len, w4_len, w4_len]
    omega
  · have kk : mFr [111, 768] g6 g14 := mFr.tr' (mFr.tr' k9 hpo12.2.1 (by decide)) hpo14.2.1 (by decide)
    refine s6.unit kk (by decide) (u := ws.flatMap w4 ++ w4 p1 ++ w4 v3) (by rw [u14, u12, hu]) hu2 hq hpo16 ?_ ⟨oct_app (oct_app (oct_app (fm_oct _) (w4_oct _)) (w4_oct _)) (w4_oct _), Or.inr ⟨ws, p1, v3, v2, rfl, hl, hsm, by8_0 (by omega)⟩⟩
    rw [List.length_append, List.length_append, fm_len, w4_len, w4_len]
    omega
