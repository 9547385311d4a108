/-! small rows of the class -/
theorem rg_lit {v w : Int32} {k : Int} (r : rg k k v) (h : w.toInt = k) : w = v := by
  have r : k ≤ v.toInt ∧ v.toInt ≤ k := r
  exact Int32.toInt_inj.mp (by omega)
theorem div4 {x v : Int32} (e : v = x / 4) (r : rg (-8) 228 x) : rg (-2) 57 v := by
  have r : -8 ≤ x.toInt ∧ x.toInt ≤ 228 := r
  have hk : (4 : Int32).toInt = 4 := by decide
  rw [e]
  by_cases h : 0 ≤ x.toInt
  · have q := ti_div (x := x) (y := 4) (k := 4) h (by decide) hk
    exact ⟨by omega, by omega⟩
  · have q : x.toInt.tdiv 4 = -((-x.toInt) / 4) := by
      have q1 : (-(-x.toInt)).tdiv 4 = -((-x.toInt).tdiv 4) := Int.neg_tdiv _ _
      rw [Int.neg_neg, Int.tdiv_eq_ediv_of_nonneg (a := -x.toInt) (by omega)] at q1
      exact q1
    have q2 : (x / 4).toInt = -((-x.toInt) / 4) := by
      rw [Int32.toInt_div, hk, q, Int.bmod_def]
      omega
    exact ⟨by omega, by omega⟩
theorem cCv_11 {Z : cZ} {i : Nat} {v : Int32} (e : v = cCv Z 11 i) (h : 2 ≤ Z.n ∧ Z.n ≤ 4) : v.toInt = (Z.n : Int) := by
  rw [e]
  unfold cCv
  rw [if_pos rfl]
  exact Int32.toInt_ofNat_of_lt (by omega)
theorem cCv_s {Z : cZ} {K i : Nat} {v : Int32} (e : v = cCv Z K i) (hK : decide (K ≠ 11) = true) (h : i < 1000) : v.toInt = (i : Int) := by
  rw [e]
  unfold cCv
  rw [if_neg (of_decide_eq_true hK)]
  exact Int32.toInt_ofNat_of_lt (by omega)
section CZ
variable {p : Program} {l : Launch} {e : Env} {R : Room} {s : State} {m : MethodId} {args : Array Value} {below : List Frame} {meth : Method} {c : Code} {H : Heap} {locs : List Loc} {cc : ByteArray} {pc : Nat} {ls : Array Slot} {G : cG} {Z : cZ} {g : mSt} {Ts : List Cond} {X : Int} {own : String} {A : Nat → Prop} {H0 : Heap}
theorem c_zret {Y : Int} {v : Int32} {post : Int32 → mSt → Prop} (x : cX p c cc s args Ts m G Z (cAd Z) own s.heap) (L : cL G Z (cAd Z) s.heap X g H locs) (hr : meth.sig.returnType = some .boolean) (hlocks : meth.locks = false) (hz : vp_nar .boolean v = v) (hXY : X ≤ Y) (hp : post v g) (hdg : decode cc pc = .ok (.ireturn, 1)) : W p l e R s m args below meth c H locs 0 0 (MQ below (cQi G Z Y post) args s 0 0 (cAd Z)) (F0 m pc ls [.int v]) := by
  obtain ⟨hx, hb, -⟩ := x
  have h3 : narrow .boolean (.int v) = .int v := by
    have h4 : narrow .boolean (.int v) = .int (vp_nar .boolean v) := rfl
    rw [h4, hz]
  exact W.zret hx hb hr h3 (fun t ht _ => ⟨⟨v, g, rfl, hp, by rw [← ht] at L; exact ⟨L.1, L.2.2.mono hXY⟩⟩, L.2.1.F ht⟩) L.2.1.2.2 hdg
theorem c_top {slots cells : Nat} {Q : State → Prop} {rest : List Value} {v w : Value} (h : w = v) (k : W p l e R s m args below meth c H locs cells slots Q (F0 m pc ls (w :: rest))) : W p l e R s m args below meth c H locs cells slots Q (F0 m pc ls (v :: rest)) := by rw [← h]; exact k
theorem hc_blind {av : List Value} : FrameBlind (va_Pc av hc_P) := fun a U g mk q => ⟨q.1, hc_P.moved (u := U) (U := U.calling g mk a) (Vm.Alike.refl U.vm) rfl q.2⟩
theorem hc_at (x : cX p c cc s args Ts m G Z A own H0) (L : cL G Z A H0 X g H locs) {U : State} (hU : U.heap = H) (hW : s.WarmedH U.vm) : hc_P U := by
  have h := hcT.moved hW.alike (x.2.2.2.2.2.2.2.2.1.kept L.2.1)
  rw [← hU] at h
  exact h.P
end CZ
theorem goodC {c : Cond} {ws : List Cond} (h : ∀ w ∈ ws, w ∈ wsUC) : GoodIn (wk c) ws := fun w hw => ⟨wk_in (h w hw), good_of_word (wsUC_good w (h w hw))⟩
theorem kw_cp : Cond.native arraycopyName ∈ wsUC ∧ Cond.static arraycopyName ∈ wsUC ∧ Cond.initialized "java/lang/System" ∈ wsUC := ⟨kz_0_19, kz_0_20, kn_javalangSystem⟩
theorem kw_min : Cond.static Lib.Math.min.name ∈ wsUC ∧ Cond.initialized "java/lang/Math" ∈ wsUC ∧ Cond.code Lib.Math.min.name Lib.Math.min.code 2 (some .int) ∈ wsUC := ⟨kz_5_2, kn_javalangMath, kz_5_3⟩
theorem kw_max : Cond.static Lib.Math.max.name ∈ wsUC ∧ Cond.initialized "java/lang/Math" ∈ wsUC ∧ Cond.code Lib.Math.max.name Lib.Math.max.code 2 (some .int) ∈ wsUC := ⟨kz_1_21, kn_javalangMath, kz_1_23⟩
theorem us_X11_hecOf : ∀ w ∈ wsX11_hecOf, w ∈ wsUC := by
  intro w h
  simp only [wsX11_hecOf, List.mem_cons, List.not_mem_nil, or_false] at h
  rcases h with e | e <;> rw [e]
  · exact kd_X11_hecOf
  · exact kf_X11_349
theorem us_X11_wrongBit : ∀ w ∈ wsX11_wrongBit, w ∈ wsUC := by
  intro w h
  simp only [wsX11_wrongBit, List.mem_cons, List.not_mem_nil, or_false] at h
  rcases h with e | e | e | e | e | e | e | e | e | e | e | e | e | e | e | e | e <;> rw [e]
  · exact kd_X11_wrongBit
  · exact kl_X11_330
  · exact kt_X11_hecOf
  · exact kn_X11
  · exact kd_X11_hecOf
  · exact kf_X11_349
  · exact kl_X11_352
  · exact kt_J6_bitCount_0f7a4
  · exact kn_J6
  · exact kd_J6_bitCount_0f7a4
  · exact kk_J6_265
  · exact kk_J6_266
  · exact kk_J6_267
  · exact kl_X11_357
  · exact kt_J6_numberOfLeadingZeros_0f7a4
  · exact kd_J6_numberOfLeadingZeros_0f7a4
  · exact kk_J6_264
