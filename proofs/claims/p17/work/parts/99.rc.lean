/-! messages that wait -/
/-- the octets of the messages that wait at i -/
def O8 (g : mSt) (i : Nat) : Prop := ∀ k, k / 8192 = i → oct (g 832 k)
theorem O8.up {g g1 : mSt} {i x : Nat} {v : Int32} (h : O8 g i) (hv : oct v) (e : g1 = up2 g 832 x v) : O8 g1 i := fun k hk => by
  by_cases c : k = x
  · rw [e, c, up2_i]
    exact hv
  · rw [e, up2_n c]
    exact h k hk
theorem O8.fr {g g1 : mSt} {i : Nat} (h : O8 g i) (e : g1 832 = g 832) : O8 g1 i := fun k hk => by rw [e]; exact h k hk
theorem oct_or {a b : Int32} (ha : oct a) (hb : oct b) : oct (a ||| b) := by
  have t : ∀ x : Int32, oct x → x.toBitVec.toNat < 256 := fun x hx => by
    have h1 : x.toInt = x.toBitVec.toInt := rfl
    rw [BitVec.toInt_eq_toNat_cond] at h1
    have h2 := hx.1
    have h3 := hx.2
    split at h1 <;> omega
  have h := Nat.or_lt_two_pow (n := 8) (t a ha) (t b hb)
  have e : (a ||| b).toBitVec.toNat = a.toBitVec.toNat ||| b.toBitVec.toNat := BitVec.toNat_or ..
  have h1 : (a ||| b).toInt = (a ||| b).toBitVec.toInt := rfl
  rw [BitVec.toInt_eq_toNat_cond, e] at h1
  unfold oct
  rw [h1]
  split <;> omega
theorem s_mbegin {Z : cZ} {i : Nat} {p1 p2 p3 p4 : Int32} {g : mSt} {Φ : Int32 → mSt → Prop} (hp1 : oct p1) (hp4 : oct p4) (h0 : Φ 0 g) (h1 : ∀ g1, wtL g1 i = wtL g i ++ [9] → (O8 g i → O8 g1 i) → Φ 1 g1) : wp_kbegin Z i p1 p2 p3 p4 g Φ := by
  intro v1 e1 r1
  refine ⟨fun c v5 e5 r5 v7 e7 _ t7 v9 e9 r9 t9 v10 e10 _ t10 g12 e12 v13 e13 _ t13 g14 e14 v15 e15 _ t15 v16 e16 _ v17 e17 r17 => ⟨fun b g19 => g19 = g14 ∧ oct b, fun b g19 _ _ _ q19 v20 e20 _ g21 e21 v22 e22 _ t22 v23 e23 _ v24 e24 r24 g25 e25 v26 e26 _ t26 v27 e27 r27 g28 e28 v29 e29 _ t29 g30 e30 v31 e31 _ t31 g32 e32 v33 e33 _ t33 g34 e34 v35 e35 _ t35 g36 e36 g38 e38 v40 e40 _ t40 g41 e41 => h1 g41 ?_ (fun o => ?_), fun _ => ⟨rfl, by decide, by decide⟩, fun _ => ⟨rfl, by decide, by decide⟩⟩, fun _ => h0⟩
  rotate_left
  · have o14 : O8 g19 i := by
      rw [show g19 = g14 from q19.1]
      exact (o.up ⟨by decide, by decide⟩ e12).up ⟨by decide, by decide⟩ e14
    have o36 := (((((((o14.up (by rw [e20]; exact oct_or ⟨r17.1, Int.le_trans r17.2 (by decide)⟩ q19.2) e21).up r24 e25).up r27 e28).up hp1 e30).up ⟨by decide, by decide⟩ e32).up ⟨by decide, by decide⟩ e34).up hp4 e36)
    exact o36.fr (by rw [e41, up2_of (by decide), e38, up2_of (by decide)])
  have r1 : 0 ≤ v1.toInt ∧ v1.toInt ≤ 10 := r1
  have r5 : 0 ≤ v5.toInt ∧ v5.toInt ≤ 9 := r5
  have k36 : ∀ j, j ≠ 832 → g36 j = g j := fun j hj => by rw [e36, up2_of hj, e34, up2_of hj, e32, up2_of hj, e30, up2_of hj, e28, up2_of hj, e25, up2_of hj, e21, up2_of hj, show g19 = g14 from q19.1, e14, up2_of hj, e12, up2_of hj]
  have a197 : (g41 197 i).toInt = v5.toInt := by rw [e41, up2_o (by decide), e38, up2_o (by decide), k36 197 (by decide), ← e5]
  have a198 : (g41 198 i).toInt = v40.toInt := by rw [e41, up2_i]
  have b197 : (g 197 i).toInt = v5.toInt := by rw [← e5]
  have b198 : (g 198 i).toInt = v1.toInt := by rw [← e1]
  unfold wtL wtP
  rw [a197, a198, b197, b198, show v40.toInt.toNat = v1.toInt.toNat + 1 by omega, List.range_succ, List.map_append, List.map_cons, List.map_nil]
  congr 1
  · refine List.map_congr_left (fun k hk => ?_)
    have hk := List.mem_range.mp hk
    rw [e41, up2_o (by decide), e38, up2_n (by rw [nat_cl]; omega), k36 864 (by decide)]
  · rw [e41, up2_o (by decide), e38, show 8192 * i + (v5.toInt.toNat + v1.toInt.toNat) % 10 = 8192 * i + v9.toNatClampNeg by rw [nat_cl]; omega, up2_i]
theorem s_melem {Z : cZ} {i : Nat} {p1 p2 p3 : Int32} {g : mSt} {Φ : Int32 → mSt → Prop} {l : List Int32} {x : Int32} (hw : wtL g i = l ++ [x]) (hx : x.toInt + 4 + p2.toInt ≤ 60) (hp1 : oct p1) (hp2 : oct p2) (h : ∀ g1 (y : Int32), y.toInt = x.toInt + 4 + p2.toInt → wtL g1 i = l ++ [y] → (O8 g i → O8 g1 i) → Φ 0 g1) : wp_kmelement Z i p1 p2 p3 g Φ := by
  intro v1 e1 r1 v2 e2 r2 v3 e3 _ t3 v5 r5 m5 v7 e7 _ t7 v9 e9 r9 t9 v12 e12 r12
  have r1 : 0 ≤ v1.toInt ∧ v1.toInt ≤ 9 := r1
  have r2 : 0 ≤ v2.toInt ∧ v2.toInt ≤ 10 := r2
  have b197 : (g 197 i).toInt = v1.toInt := by rw [← e1]
  have b198 : (g 198 i).toInt = v2.toInt := by rw [← e2]
  have hlen : l.length + 1 = v2.toInt.toNat := by
    have := congrArg List.length hw
    unfold wtL at this
    rw [List.length_map, List.length_range, List.length_append, List.length_singleton, b198] at this
    omega
  have hw' := hw
  unfold wtL wtP at hw'
  rw [b197, b198, ← hlen, List.range_succ, List.map_append, List.map_cons, List.map_nil] at hw'
  obtain ⟨hl, hxx⟩ := List.append_inj' hw' rfl
  have e12' : v12 = x := by
    rw [e12, ← List.cons.inj hxx |>.1]
    congr 1
    rw [nat_cl]
    omega
  refine ⟨fun c => by exfalso; omega, fun c v17 e17 _ t17 v19 e19 _ t19 => ⟨fun c19 v22 e22 _ t22 v24 e24 _ t24 g27 e27 v28 e28 _ t28 g30 e30 v31 e31 _ t31 g33 e33 v34 e34 _ t34 g36 e36 => ⟨fun _ g38 => O8 g i → O8 g38 i, fun a g38 k38 _ _ q38 => ⟨fun _ g41 e41 => h g41 v19 (by rw [t19, t17, e12']) ?_ (fun o => (q38 o).fr (by rw [e41, up2_of (by decide)])), fun _ v43 _ _ _ v45 _ _ _ v47 _ _ _ v49 _ _ _ v50 _ _ _ v52 _ _ v53 _ r53 g54 e54 v55 _ _ _ => fun o => (q38 o).up r53 e54⟩, fun o => (((o.up hp1 e27).up ⟨by decide, by decide⟩ e30).up ⟨by decide, by decide⟩ e33).up hp2 e36⟩, fun c19 => by exfalso; rw [t19, t17, e12'] at c19; omega⟩⟩
  have k36 : ∀ j, j ≠ 832 → g38 j = g j := fun j hj => by rw [k38 j (by simpa using hj), e36, up2_of hj, e33, up2_of hj, e30, up2_of hj, e27, up2_of hj]
  have a197 : (g41 197 i).toInt = v1.toInt := by rw [e41, up2_o (by decide), k36 197 (by decide), ← e1]
  have a198 : (g41 198 i).toInt = v2.toInt := by rw [e41, up2_o (by decide), k36 198 (by decide), ← e2]
  unfold wtL wtP
  rw [a197, a198, ← hlen, List.range_succ, List.map_append, List.map_cons, List.map_nil]
  congr 1
  · refine Eq.trans (List.map_congr_left (fun k hk => ?_)) hl
    have hk := List.mem_range.mp hk
    rw [e41, up2_n (by rw [nat_cl]; omega), k36 864 (by decide)]
  · rw [e41, show 8192 * i + (v1.toInt.toNat + l.length) % 10 = 8192 * i + v9.toNatClampNeg by rw [nat_cl]; omega, up2_i]
/-- said: nothing, or one more, of that length -/
def said (g g1 : mSt) (i n : Nat) : Prop := (wtL g1 i = wtL g i ∨ ∃ y : Int32, y.toInt = (n : Int) ∧ wtL g1 i = wtL g i ++ [y]) ∧ (O8 g i → O8 g1 i)
theorem s_sayPlain4 {Z : cZ} {i q2 : Nat} {p1 : Int32} {g : mSt} {Φ : Int32 → mSt → Prop} (hp : oct p1) (h : ∀ g1, said g g1 i 9 → Φ 0 g1) : wp_ksayPlain_4 Z i p1 q2 g Φ := by
  intro v3 _ _ v4 _ _
  exact s_mbegin hp ⟨by decide, by decide⟩ (fun _ => h _ ⟨Or.inl rfl, id⟩) (fun g1 e o _ => h _ ⟨Or.inr ⟨9, by decide, e⟩, o⟩)
theorem s_sayCause4 {Z : cZ} {i : Nat} {p1 p2 p3 p4 : Int32} {g : mSt} {Φ : Int32 → mSt → Prop} (hp : oct p1) (h : ∀ g1, said g g1 i 14 → Φ 0 g1) : wp_ksayCause_4 Z i p1 p2 p3 p4 g Φ := by
  refine s_mbegin hp ⟨by decide, by decide⟩ (fun _ => ⟨fun g5 => said g g5 i 14, fun g5 _ _ q => h _ q, fun _ => ⟨Or.inl rfl, id⟩, fun c => absurd rfl c⟩) (fun g1 e o _ => ⟨fun g5 => said g g5 i 14, fun g5 _ _ q => h _ q, fun c => absurd c (by decide), fun _ => s_melem e (by decide) ⟨by decide, by decide⟩ ⟨by decide, by decide⟩ (fun g9 y hy e9 o9 _ => ⟨Or.inr ⟨y, ?_, e9⟩, fun z => o9 (o z)⟩)⟩)
  rw [hy]
  decide
theorem s_saySetup4 {Z : cZ} {i q1 : Nat} {g : mSt} {Φ : Int32 → mSt → Prop} (h : ∀ g1, said g g1 i 19 → Φ 0 g1) : wp_ksaySetup_4 Z i q1 g Φ := by
  intro v3 _ _ v4 _ _
  refine s_mbegin ⟨by decide, by decide⟩ ⟨by decide, by decide⟩ (fun _ => ⟨fun g5 => said g g5 i 19, fun g5 _ _ q => h _ q, fun _ => ⟨Or.inl rfl, id⟩, fun c => absurd rfl c⟩) (fun g1 e o _ => ⟨fun g5 => said g g5 i 19, fun g5 _ _ q => h _ q, fun c => absurd c (by decide), fun _ v11 _ _ => s_melem e (by decide) ⟨by decide, by decide⟩ ⟨by decide, by decide⟩ (fun g12 y hy e12 o12 _ v13 _ _ => s_melem e12 ?_ ⟨by decide, by decide⟩ ⟨by decide, by decide⟩ (fun g14 z hz e14 o14 _ => ⟨Or.inr ⟨z, ?_, e14⟩, fun w => o14 (o12 (o w))⟩))⟩)
  · rw [hy]
    decide
  · rw [hz, hy]
    decide
