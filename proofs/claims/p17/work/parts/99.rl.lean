/-- what a unit that counts is: BEGIN of 8 octets, END of 4 -/
def kindK (g : mSt) (q : Nat) (p2 : Int32) : Prop := 4 ≤ p2.toInt ∧ ∃ w k : Int32, w = wd g q (p2.toInt - 4).toNat ∧ k = (w.toUInt32 >>> ((24 : Int32).toUInt32 &&& Int32.toUInt32 31)).toInt32 ∧ (k.toInt = 1 → p2.toInt = 8) ∧ (k.toInt = 3 → p2.toInt = 4)
set_option maxHeartbeats 2000000 in
theorem s_isUnitX {Z : cZ} {q1 : Nat} {p2 : Int32} {g : mSt} {Φ : Int32 → mSt → Prop} (h : ∀ r : Int32, (r.toInt ≠ 0 → kindK g q1 p2) → Φ r g) : wp_kisUnit Z q1 p2 g Φ := by
  have h0 : Φ 0 g := h 0 (fun z => absurd rfl z)
  unfold wp_kisUnit
  refine ⟨fun _ => h0, ?_⟩
  intro c4
  refine ⟨?_, fun _ => h0⟩
  intro c240 v6 e6 r6 t6
  refine s_wordX (fun v9 hv9 _ => ?_)
  intro v10 _ _ v11 _ _ t11
  refine s_wordX (fun v14 _ _ => ?_)
  intro v15 e15 r15
  have key : (v15.toInt = 1 → p2.toInt = 8) → (v15.toInt = 3 → p2.toInt = 4) → Φ 1 g := fun a b => h 1 (fun _ => ⟨c4, v9, v15, by rw [hv9 (by omega) (by omega), t6], e15, a, b⟩)
  clear h hv9 e15
  repeat' first
    | exact h0
    | exact key (fun _ => by omega) (fun _ => by omega)
    | exact trivial
    | refine ⟨?_, ?_⟩
    | intro _
/-- the unit is a BEGIN or an END -/
def KU (g : mSt) (q : Nat) (p2 : Int32) : Prop := (p2.toInt = 8 ∧ ((wd g q 4).toUInt32 >>> ((24 : Int32).toUInt32 &&& Int32.toUInt32 31)).toInt32.toInt = 1) ∨ (p2.toInt = 4 ∧ ((wd g q 0).toUInt32 >>> ((24 : Int32).toUInt32 &&& Int32.toUInt32 31)).toInt32.toInt = 3)
set_option maxHeartbeats 2000000 in
theorem a_unitK {Z : cZ} {i q1 : Nat} {p2 p3 : Int32} {g : mSt} {Φ : Int32 → mSt → Prop} (h : ∀ (r : Int32) g1, (aS g g1 i ∨ ∃ n : Int32, n.toInt = p2.toInt - 4 ∧ aD g g1 i n) → (r.toInt = 1 → KU g q1 p2) → Φ r g1) : wp_kunitCame Z i q1 p2 p3 g Φ := by
  have h0 : Φ 0 g := h _ _ (Or.inl aS.rf) (fun z => absurd z (by decide))
  unfold wp_kunitCame
  refine s_isUnitX (fun v2 hk _ => ?_)
  refine ⟨?_, fun _ => h0⟩
  intro c2 v8 e8 r8 t8
  refine s_wordX (fun v11 hv11 _ => ?_)
  intro v12 e12 r12 v13 e13 r13
  obtain ⟨c4, w, k, ew, ek, k1, k3⟩ := hk c2
  have r8 : 0 ≤ v8.toInt ∧ v8.toInt ≤ 236 := r8
  have e11 : v11 = w := by rw [hv11 (by omega) (by omega), ew, t8]
  have e12k : v12 = k := by rw [e12, ek, e11]
  have K1 : v12.toInt = 1 → KU g q1 p2 := fun z => Or.inl (by
    have e := k1 (by rw [← e12k]; exact z)
    refine ⟨e, ?_⟩
    rw [show wd g q1 4 = w by rw [ew, e]; rfl, ← ek, ← e12k]
    exact z)
  have K3 : v12.toInt = 3 → KU g q1 p2 := fun z => Or.inr (by
    have e := k3 (by rw [← e12k]; exact z)
    refine ⟨e, ?_⟩
    rw [show wd g q1 0 = w by rw [ew, e]; rfl, ← ek, ← e12k]
    exact z)
  clear hk hv11 e11 e12k ek ew k1 k3 e12
  repeat' first
    | exact h0
    | exact h _ _ (Or.inl aS.rf) (fun z => absurd z (by decide))
    | exact trivial
    | refine s_wordAt (fun _ _ => ?_)
    | exact a_begin (fun r g1 s _ => h _ _ (Or.inl s) (fun _ => K1 (by assumption)))
    | exact a_end (fun r g1 s _ => h _ _ (Or.inl s) (fun _ => K3 (by assumption)))
    | exact a_reset (fun _ g1 s _ => h _ _ (Or.inl s) (fun z => absurd z (by decide)))
    | exact a_answer (fun _ g1 s _ => h _ _ (Or.inl s) (fun z => absurd z (by decide)))
    | exact a_data (fun g1 s _ => h _ _ (s.imp id (fun z => ⟨v8, t8, z⟩)) (fun z => absurd z (by decide)))
    | exact s_pollAny (fun g1 hpo => h _ _ (Or.inl (aS.rf.fr hpo.2.1 (by decide))) (fun z => absurd z (by decide)))
    | exact a_status (fun r g1 s _ => ⟨fun _ => h _ _ (Or.inl s) (fun z => absurd z (by decide)), fun _ => h _ _ (Or.inl s) (fun z => absurd z (by decide))⟩)
    | exact a_gap (fun r g1 s _ => ⟨fun _ => h _ _ (Or.inl s) (fun z => absurd z (by decide)), fun _ => h _ _ (Or.inl s) (fun z => absurd z (by decide))⟩)
    | refine ⟨?_, ?_⟩
    | intro _
