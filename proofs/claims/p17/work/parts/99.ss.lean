/-! what the steps leave as it was -/
theorem any_b {j : Nat} (h : j ∈ anyR) : 108 ≤ j ∧ ¬ (225 ≤ j ∧ j ≤ 235) := by
  unfold anyR at h
  simp only [List.mem_cons, List.not_mem_nil, or_false] at h
  omega
theorem FA.at {n f N j k : Nat} {g0 g : mSt} (h : FA n f N g0 g) (h1 : j ∉ cRows) (h2 : j ∉ anyR) (h3 : ¬ ((j = 198 ∧ n ≤ k) ∨ ((j = 832 ∨ j = 864) ∧ n ≤ k / 8192) ∨ (32 ≤ j ∧ j < 50 ∧ N ≤ k) ∨ j = 323 ∨ ((j = 384 ∨ j = 385 ∨ j = 386 ∨ j = 1729) ∧ n ≤ k) ∨ (j = 1728 ∧ n ≤ k / 16777216) ∨ (164 ≤ j ∧ j ≤ 180 ∧ k = n + f) ∨ (j = 197 ∧ k = n + f) ∨ ((j = 1248 ∨ j = 1280) ∧ k / 8192 / 2 = n + f) ∨ (j = 67 ∧ 2 ≤ k % 4) ∨ ((j = 544 ∨ j = 576) ∧ 2 ≤ k / 8192 % 4) ∨ (j = 111 ∧ k % 2 = 1) ∨ (j = 768 ∧ k / 8192 % 2 = 1) ∨ (225 ≤ j ∧ j ≤ 235 ∧ k = 2 * f) ∨ ((j = 800 ∨ j = 512) ∧ k / 8192 = 2 * f) ∨ (j < 3 ∧ k = 2 * f))) : g j k = g0 j k := h j k (fun z => h3 (by
  unfold ownA own2 ownS at z
  rcases z with ((⟨z, _⟩ | z | z) | z | z | z | z) | z | z
  · exact absurd z h1
  · exact Or.inl z
  · exact Or.inr (Or.inl z)
  · exact Or.inr (Or.inr (Or.inl z))
  · exact Or.inr (Or.inr (Or.inr (Or.inl z)))
  · exact Or.inr (Or.inr (Or.inr (Or.inr (Or.inl z))))
  · exact Or.inr (Or.inr (Or.inr (Or.inr (Or.inr (Or.inl z)))))
  · exact absurd z h2
  · exact Or.inr (Or.inr (Or.inr (Or.inr (Or.inr (Or.inr z)))))))
theorem FA.call {n f N j c : Nat} {g0 g : mSt} (h : FA n f N g0 g) (hj : 32 ≤ j ∧ j < 50) (hc : c < N) (hs : j ∉ cRows ∨ (g0 32 c).toInt < (n : Int)) : g j c = g0 j c := h j c (fun z => by
  unfold ownA own2 ownS at z
  rcases z with ((⟨z, w⟩ | z | z) | z | z | z | z) | z | z
  · rcases hs with hs | hs
    · exact absurd z hs
    · omega
  · omega
  · omega
  · omega
  · omega
  · omega
  · omega
  · have := any_b z
    omega
  · rcases z with z | z | z | z | z | z | z | z | z | z <;> omega)
theorem FA_sE {n f N0 N e : Nat} {g0 g : mSt} (he : e < n) (h : FA n f N0 g0 g) (hN : N0 ≤ N) (nc : NC n N0 g0 N g) : sE e N0 g0 N g := by
  have ca : ∀ j c, 32 ≤ j ∧ j < 50 → c < N0 → (g0 32 c).toInt = (e : Int) → g j c = g0 j c := fun j c hj hc w => h.call hj hc (Or.inr (by omega))
  refine ⟨⟨fun j hj => ?_, fun j k hj hk => ?_, fun j k hj hk => ?_, ⟨h.at (by decide) (by decide) (by omega), h.at (by decide) (by decide) (by omega), fun j k hj hk => ?_⟩, h.at (by decide) (by decide) (by omega), hN, fun c hc => ⟨h.call (by decide) hc (Or.inl (by decide)), h.call (by decide) hc (Or.inl (by decide)), fun w => ⟨ca 36 c (by decide) hc w, ca 42 c (by decide) hc w, ca 46 c (by decide) hc w⟩⟩, fun c h1 h2 => by have := nc.1 c h1 h2; omega, nc.2⟩, fun c hc w => ⟨ca 48 c (by decide) hc w, ca 49 c (by decide) hc w⟩⟩
  · rcases hj with hj | hj | hj | hj | hj | hj <;> subst hj <;> exact h.at (by decide) (by decide) (by omega)
  · rcases hj with hj | hj <;> subst hj <;> exact h.at (by decide) (by decide) (by omega)
  · rcases hj with hj | hj <;> subst hj <;> exact h.at (by decide) (by decide) (by omega)
  · rcases hj with hj | hj <;> subst hj <;> exact h.at (by decide) (by decide) (by omega)
theorem FA_sS {n f f' N0 : Nat} {g0 g : mSt} (hf : f' ≠ f) (h : FA n f N0 g0 g) : sS n f' g0 g := by
  refine ⟨fun j hj => ?_, fun j k hj hk => ?_, fun j h1 h2 => h.at (fun z => ?_) (fun z => ?_) (by omega), fun j k hj hk => ?_⟩
  · rcases hj with hj | hj | hj | hj <;> subst hj <;> exact h.at (by decide) (by decide) (by omega)
  · rcases hj with hj | hj <;> subst hj <;> exact h.at (by decide) (by decide) (by omega)
  · have := cRows_b z
    omega
  · have := any_b z
    omega
  · rcases hj with hj | hj <;> subst hj <;> exact h.at (by decide) (by decide) (by omega)
theorem FA_sD {n f f' N0 : Nat} {g0 g : mSt} (h : FA n f N0 g0 g) : sD f' g0 g := by
  refine ⟨⟨h.at (by decide) (by decide) (by omega), h.at (by decide) (by decide) (by omega), h.at (by decide) (by decide) (by omega)⟩, fun k hk => h.at (by decide) (by decide) (by omega), fun j k hj hk => ?_⟩
  rcases hj with hj | hj | hj <;> subst hj <;> exact h.at (by decide) (by decide) (by omega)
theorem fB.at {e N N1 j k : Nat} {b : Bool} {g0 g : mSt} (h : fB e N b g0 N1 g) (h1 : j ∉ cRows) (h2 : j ∉ anyR) (h4 : b = true → ¬ ((j = 67 ∧ k = 2 * (2 * e) + 1) ∨ ((j = 544 ∨ j = 576) ∧ k / 8192 = 2 * (2 * e) + 1))) (h3 : ¬ ((j = 198 ∧ k = e) ∨ ((j = 832 ∨ j = 864) ∧ k / 8192 = e) ∨ (32 ≤ j ∧ j < 50) ∨ ((j = 131 ∨ j = 135 ∨ j = 384 ∨ j = 385 ∨ j = 386 ∨ j = 1729) ∧ k = e) ∨ ((j = 1536 ∨ j = 1728) ∧ k / 16777216 = e) ∨ (164 ≤ j ∧ j ≤ 180 ∧ k = e) ∨ (j = 197 ∧ k = e) ∨ ((j = 1248 ∨ j = 1280) ∧ k / 8192 / 2 = e) ∨ (j = 67 ∧ k = 2 * (2 * e)) ∨ ((j = 544 ∨ j = 576) ∧ k / 8192 = 2 * (2 * e)) ∨ (j = 111 ∧ k = 2 * e) ∨ (j = 768 ∧ k / 8192 = 2 * e) ∨ (225 ≤ j ∧ j ≤ 235 ∧ k = 2 * e + 1) ∨ (j = 800 ∧ k / 8192 = 2 * e + 1) ∨ (j = 512 ∧ (k / 8192 = 2 * e + 1 ∨ 8 ≤ k / 8192)) ∨ (j < 3 ∧ (k = 2 * e + 1 ∨ 8 ≤ k)))) : g j k = g0 j k := h.2.1 j k (fun z => by
  unfold ownB own4 ownE at z
  rcases z with ((⟨z, _⟩ | z | z) | z | z | z) | z | z | z | z | z | z | z | z | z | z | z | z | z | z
  · exact absurd z h1
  · exact h3 (Or.inl z)
  · exact h3 (Or.inr (Or.inl z))
  · exact h3 (Or.inr (Or.inr (Or.inl ⟨z.1, z.2.1⟩)))
  · exact h3 (Or.inr (Or.inr (Or.inr (Or.inl z))))
  · exact h3 (Or.inr (Or.inr (Or.inr (Or.inr (Or.inl z)))))
  · exact absurd z h2
  · exact h3 (Or.inr (Or.inr (Or.inr (Or.inr (Or.inr (Or.inl z))))))
  · exact h3 (Or.inr (Or.inr (Or.inr (Or.inr (Or.inr (Or.inr (Or.inl z)))))))
  · exact h3 (Or.inr (Or.inr (Or.inr (Or.inr (Or.inr (Or.inr (Or.inr (Or.inl z))))))))
  · exact h3 (Or.inr (Or.inr (Or.inr (Or.inr (Or.inr (Or.inr (Or.inr (Or.inr (Or.inl z)))))))))
  · exact h3 (Or.inr (Or.inr (Or.inr (Or.inr (Or.inr (Or.inr (Or.inr (Or.inr (Or.inr (Or.inl z))))))))))
  · exact h3 (Or.inr (Or.inr (Or.inr (Or.inr (Or.inr (Or.inr (Or.inr (Or.inr (Or.inr (Or.inr (Or.inl z)))))))))))
  · exact h3 (Or.inr (Or.inr (Or.inr (Or.inr (Or.inr (Or.inr (Or.inr (Or.inr (Or.inr (Or.inr (Or.inr (Or.inl z))))))))))))
  · exact h3 (Or.inr (Or.inr (Or.inr (Or.inr (Or.inr (Or.inr (Or.inr (Or.inr (Or.inr (Or.inr (Or.inr (Or.inr (Or.inl z)))))))))))))
  · exact h3 (Or.inr (Or.inr (Or.inr (Or.inr (Or.inr (Or.inr (Or.inr (Or.inr (Or.inr (Or.inr (Or.inr (Or.inr (Or.inr (Or.inl z))))))))))))))
  · exact h3 (Or.inr (Or.inr (Or.inr (Or.inr (Or.inr (Or.inr (Or.inr (Or.inr (Or.inr (Or.inr (Or.inr (Or.inr (Or.inr (Or.inr (Or.inl z)))))))))))))))
  · exact h3 (Or.inr (Or.inr (Or.inr (Or.inr (Or.inr (Or.inr (Or.inr (Or.inr (Or.inr (Or.inr (Or.inr (Or.inr (Or.inr (Or.inr (Or.inr z)))))))))))))))
  · exact h3 (Or.inr (Or.inr (Or.inl ⟨by omega, by omega⟩)))
  · exact h4 z.1 z.2)
theorem fB.call {e N N1 j c : Nat} {b : Bool} {g0 g : mSt} (h : fB e N b g0 N1 g) (hj : 32 ≤ j ∧ j < 50) (hc : c < N) (hs : (g0 32 c).toInt ≠ (e : Int)) : g j c = g0 j c := h.2.1 j c (fun z => by
  unfold ownB own4 ownE at z
  rcases z with ((⟨_, z⟩ | z | z) | z | z | z) | z | z
  · exact hs z
  · omega
  · omega
  · omega
  · omega
  · omega
  · have := any_b z
    omega
  · rcases z with z | z | z | z | z | z | z | z | z | z | z | z | z
    · omega
    · omega
    · omega
    · omega
    · omega
    · omega
    · omega
    · omega
    · omega
    · omega
    · omega
    · exact hs z.2
    · omega)
theorem fB_sE {e e' N0 N : Nat} {b : Bool} {g0 g : mSt} (he : e' ≠ e) (h : fB e N0 b g0 N g) : sE e' N0 g0 N g := by
  have ca : ∀ j c, 32 ≤ j ∧ j < 50 → c < N0 → (g0 32 c).toInt = (e' : Int) → g j c = g0 j c := fun j c hj hc w => h.call hj hc (by omega)
  refine ⟨⟨fun j hj => ?_, fun j k hj hk => ?_, fun j k hj hk => ?_, ⟨h.at (by decide) (by decide) (fun _ => by omega) (by omega), h.at (by decide) (by decide) (fun _ => by omega) (by omega), fun j k hj hk => ?_⟩, h.at (by decide) (by decide) (fun _ => by omega) (by omega), h.1, fun c hc => ⟨(h.c32 hc).1, (h.c32 hc).2, fun w => ⟨ca 36 c (by decide) hc w, ca 42 c (by decide) hc w, ca 46 c (by decide) hc w⟩⟩, fun c h1 h2 => by have := h.2.2.1 c h1 h2; omega, h.2.2.2.1⟩, fun c hc w => ⟨ca 48 c (by decide) hc w, ca 49 c (by decide) hc w⟩⟩
  · rcases hj with hj | hj | hj | hj | hj | hj <;> subst hj <;> exact h.at (by decide) (by decide) (fun _ => by omega) (by omega)
  · rcases hj with hj | hj <;> subst hj <;> exact h.at (by decide) (by decide) (fun _ => by omega) (by omega)
  · rcases hj with hj | hj <;> subst hj <;> exact h.at (by decide) (by decide) (fun _ => by omega) (by omega)
  · rcases hj with hj | hj <;> subst hj <;> exact h.at (by decide) (by decide) (fun _ => by omega) (by omega)
theorem fB_sS {n e f N0 N : Nat} {b : Bool} {g0 g : mSt} (he : e < n) (hn : n ≤ 4) (hf : f < n) (h : fB e N0 b g0 N g) : sS n f g0 g := by
  refine ⟨fun j hj => ?_, fun j k hj hk => ?_, fun j h1 h2 => h.at (fun z => ?_) (fun z => ?_) (fun _ => by omega) (by omega), fun j k hj hk => ?_⟩
  · rcases hj with hj | hj | hj | hj <;> subst hj <;> exact h.at (by decide) (by decide) (fun _ => by omega) (by omega)
  · rcases hj with hj | hj <;> subst hj <;> exact h.at (by decide) (by decide) (fun _ => by omega) (by omega)
  · have := cRows_b z
    omega
  · have := any_b z
    omega
  · rcases hj with hj | hj <;> subst hj <;> exact h.at (by decide) (by decide) (fun _ => by omega) (by omega)
theorem fB_sD {e f N0 N : Nat} {b : Bool} {g0 g : mSt} (hb : b = true → f ≠ e) (h : fB e N0 b g0 N g) : sD f g0 g := by
  refine ⟨⟨h.at (by decide) (by decide) (fun _ => by omega) (by omega), h.at (by decide) (by decide) (fun _ => by omega) (by omega), h.at (by decide) (by decide) (fun z => by have := hb z; omega) (by omega)⟩, fun k hk => h.at (by decide) (by decide) (fun z => by have := hb z; omega) (by omega), fun j k hj hk => ?_⟩
  rcases hj with hj | hj | hj <;> subst hj <;> exact h.at (by decide) (by decide) (fun _ => by omega) (by omega)
theorem fB_sC {n e N0 N : Nat} {b : Bool} {g0 g : mSt} (he : e < n) (h : fB e N0 b g0 N g) : sC n N0 g0 N g := by
  refine ⟨h.1, fun c hc => ⟨(h.c32 hc).1, fun w j hj => h.call (by omega) hc (by omega)⟩, fun c h1 h2 => by have := h.2.2.1 c h1 h2; omega, fun f hf => ⟨h.at (by decide) (by decide) (fun _ => by omega) (by omega), h.at (by decide) (by decide) (fun _ => by omega) (by omega), fun p hp => h.at (by decide) (by decide) (fun _ => by omega) (by omega)⟩⟩
/-! cells are put on a link -/
theorem put_sE {Z : cZ} {d e N : Nat} {r : Int32} {g g1 : mSt} (hd : d ≠ 2 * e) (h : po_kputCells Z d g r g1) : sE e N g N g1 := by
  have k := h.2.1
  refine ⟨⟨fun j hj => ?_, fun j x hj _ => ?_, fun j x hj _ => ?_, ⟨h.1.out (by simp [mOut, im_kputCells]; omega), h.1.out (by simp [mOut, im_kputCells]; omega), fun j x hj _ => ?_⟩, by rw [k 111 (by decide)], Nat.le_refl _, fun c _ => ⟨by rw [k 32 (by decide)], by rw [k 43 (by decide)], fun _ => ⟨by rw [k 36 (by decide)], by rw [k 42 (by decide)], by rw [k 46 (by decide)]⟩⟩, fun c h1 h2 => by exfalso; omega, fun c _ => ⟨by rw [k 32 (by decide)], by rw [k 43 (by decide)]⟩⟩, fun c _ _ => ⟨by rw [k 48 (by decide)], by rw [k 49 (by decide)]⟩⟩
  · rcases hj with hj | hj | hj | hj | hj | hj <;> subst hj <;> rw [k _ (by decide)]
  · rcases hj with hj | hj <;> subst hj <;> rw [k _ (by decide)]
  · rcases hj with hj | hj <;> subst hj <;> rw [k _ (by decide)]
  · rcases hj with hj | hj <;> subst hj <;> rw [k _ (by decide)]
theorem put_sS {Z : cZ} {d n f : Nat} {r : Int32} {g g1 : mSt} (h : po_kputCells Z d g r g1) : sS n f g g1 := by
  have k := h.2.1
  refine ⟨fun j hj => ?_, fun j x hj _ => ?_, fun j h1 h2 => ?_, fun j x hj _ => ?_⟩
  · rcases hj with hj | hj | hj | hj <;> subst hj <;> rw [k _ (by decide)]
  · rcases hj with hj | hj <;> subst hj <;> rw [k _ (by decide)]
  · rw [k j (by simp only [List.mem_cons, List.not_mem_nil, or_false]; omega)]
  · rcases hj with hj | hj <;> subst hj <;> rw [k _ (by decide)]
theorem put_sD {Z : cZ} {d f : Nat} {r : Int32} {g g1 : mSt} (hd : d ≠ 2 * f) (h : po_kputCells Z d g r g1) : sD f g g1 := by
  have k := h.2.1
  refine ⟨⟨h.1.out (by simp [mOut, im_kputCells]; omega), h.1.out (by simp [mOut, im_kputCells]; omega), h.1.out (by simp [mOut, im_kputCells]; omega)⟩, fun x _ => by rw [k 544 (by decide)], fun j x hj hx => ?_⟩
  rcases hj with hj | hj | hj <;> subst hj <;> exact h.1.out (by simp [mOut, im_kputCells]; omega)
theorem put_sC {Z : cZ} {d n N : Nat} {r : Int32} {g g1 : mSt} (h : po_kputCells Z d g r g1) : sC n N g N g1 := by
  have k := h.2.1
  refine ⟨Nat.le_refl _, fun c _ => ⟨by rw [k 32 (by decide)], fun _ j hj => ?_⟩, fun c h1 h2 => by exfalso; omega, fun f _ => ⟨by rw [k 323 (by decide)], by rw [k 386 (by decide)], fun p _ => by rw [k 1728 (by decide)]⟩⟩
  rw [k j (by simp only [List.mem_cons, List.not_mem_nil, or_false]; omega)]
/-- an end when its cells were put on the link: its letters are on it -/
theorem put_E {Z : cZ} {e N : Nat} {r : Int32} {g g1 : mSt} (h : po_kputCells Z (2 * e) g r g1) (hq : qL g1 (2 * (2 * e)) = (qL g (2 * (2 * e))).drop 4) (m : Bool) : ep N g e m = altN m (lt4 (qL g (2 * (2 * e)))) + ep N g1 e (altL m (lt4 (qL g (2 * (2 * e))))) := by
  have k := h.2.1
  unfold ep pot
  rw [om_eq (g1 := g1) (g := g) (fun c => ⟨by rw [k 32 (by decide)], by rw [k 36 (by decide)], by rw [k 42 (by decide)]⟩), fl_fr k ⟨by decide, by decide⟩ e, wtL_fr k ⟨by decide, by decide, by decide⟩ e, hq]
  have : (qL g (2 * (2 * e))).map ltr = lt4 (qL g (2 * (2 * e))) ++ ((qL g (2 * (2 * e))).drop 4).map ltr := by
    unfold lt4
    rw [← List.map_append, List.take_append_drop]
  rw [this, alt_app]
  omega
