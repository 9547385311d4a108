/-! THE LAW: its words hold, its calls -/
theorem lw_selP {C : String} {x' y y' : MethodName} {s : State} {args : Array Value} (hy : y.cls ≠ "java/lang/invoke/MethodHandle" ∧ y.cls ≠ "java/lang/invoke/VarHandle") (hyy : y'.cls = y.cls) (h0 : (Cond.selects C x' y').before args s = true)
    (hpriv : (Cond.privateMethod y).before args s = true) (hinst : (Cond.instanceMethod y).before args s = true) : (Cond.selects C y y).before args s = true := by
  obtain ⟨c, r, mm, hc, -, hnm, -, k, hk, hni⟩ := Cond.selects_spec h0
  obtain ⟨mk, methM, hnamed, hmethM, -, -⟩ := Cond.instanceMethod_spec hinst
  have hfound : s.methodFound? y.cls y.name y.desc = some mk := State.methodFound?_of_named hnamed hy
  have hcls : mk.cls = mm.cls := Option.some.inj ((findClass_of_methodNamed hnamed).symm.trans (by rw [← hyy]; exact findClass_of_methodNamed hnm))
  have hsel : selectMethod {} s.vm c mk = .method mk := selectMethod_private hmethM (Cond.privateMethod_at hpriv mk methM hnamed hmethM)
  simp only [Cond.before, Cond.holds, Cond.value, hc, hfound, hnamed, hsel, hcls, hk]
  simp [hni]
theorem lwT_hts {args : Array Value} {s : State} (h : ∀ w ∈ lw_tbl, w.before args s = true) : ∀ w ∈ lwT, w.before args s = true := by
  have h4 := h _ lx_s_RX4
  have h10 := h _ lx_s_RX10
  have p1 := h _ lx_p_placeOfReference
  have i1 := h _ lx_i_placeOfReference
  have p2 := h _ lx_p_cleared
  have i2 := h _ lx_i_cleared
  intro w hw
  rcases List.mem_append.mp hw with q | q
  · simp only [lwX, List.mem_cons, List.not_mem_nil, or_false] at q
    rcases q with e | e | e | e <;> rw [e]
    · exact lw_selP (by decide +kernel) (by decide +kernel) h4 p1 i1
    · exact lw_selP (by decide +kernel) (by decide +kernel) h10 p1 i1
    · exact lw_selP (by decide +kernel) (by decide +kernel) h4 p2 i2
    · exact lw_selP (by decide +kernel) (by decide +kernel) h10 p2 i2
  · exact h w q
theorem lwT_V {index : Nat} {C : String} {y : MethodName} {ws : List Cond} (hws : ∀ w ∈ ws, w ∈ lwT) (hg : ∀ w ∈ ws, goodWord w = true) (h1 : Cond.methodLink R_law index y ∈ lwT) (h2 : Cond.instanceMethod y ∈ lwT) (h3 : Cond.selects C y y ∈ lwT) (h4 : Cond.initialized C ∈ lwT) : GoodIn lwT (wsV R_law index C y ws) := by
  refine goodIn_app (fun w hw => ?_) (fun w hw => ⟨hws w hw, good_of_word (hg w hw)⟩)
  simp only [List.mem_cons, List.not_mem_nil, or_false] at hw
  rcases hw with e | e | e | e <;> rw [e]
  · exact ⟨h1, good_of_word rfl⟩
  · exact ⟨h2, good_of_word rfl⟩
  · exact ⟨h3, good_of_word rfl⟩
  · exact ⟨h4, good_of_word rfl⟩
theorem lwT_C {index : Nat} {y : MethodName} {d : Cond} (h : d ∈ wsUC) (h1 : Cond.methodLink R_law index y ∈ lwT) (h2 : Cond.instanceMethod y ∈ lwT) (h3 : Cond.selects RX11 y y ∈ lwT) : GoodIn lwT (wsV R_law index RX11 y (wk d)) :=
  lwT_V (fun w hw => wsUC_L w (wk_all h w hw)) (fun w hw => wsUC_good w (wk_all h w hw)) h1 h2 h3 lkn_X11
theorem wm_all {d : Cond} (h : d ∈ wsU12) : ∀ w ∈ wm d, w ∈ wsU12 := by
  intro w hw
  rcases List.mem_cons.mp hw with e | e
  · rw [e]; exact h
  · exact e
theorem lwT_M {index : Nat} {y : MethodName} {d : Cond} (h : d ∈ wsU12) (h1 : Cond.methodLink R_law index y ∈ lwT) (h2 : Cond.instanceMethod y ∈ lwT) (h3 : Cond.selects RX12 y y ∈ lwT) : GoodIn lwT (wsV R_law index RX12 y (wm d)) :=
  lwT_V (fun w hw => wsU12_L w (wm_all h w hw)) (fun w hw => wsU12_good w (wm_all h w hw)) h1 h2 h3 lkn_X12
theorem mH_kept {Gm : mG} {h0 : Nat} {ad : Nat → Nat} {gm : mSt} {H H1 : Heap} (hM : mH Gm h0 ad gm H) (h : ∀ q, mA h0 ad q → H1[q]? = H[q]?) : mH Gm h0 ad gm H1 :=
  ⟨hM.1.kept (h h0 (Or.inl rfl)), fun j hj hij => by rw [h (ad j) (Or.inr ⟨j, hj, hij, rfl⟩)]; exact hM.2 j hj hij⟩
/-- the reference's world beside the class's -/
def lwM (Gm : mG) (h0 : Nat) (ad : Nat → Nat) (nn X : Int) (gm : mSt) (s : State) (Z : cZ) (H : Heap) : Prop := mH Gm h0 ad gm H ∧ mI nn X gm ∧ ∀ q, mA h0 ad q → ¬ cAd Z q ∧ s.heap.size ≤ q ∧ q < H.size
theorem lwM.kept {Gm : mG} {h0 : Nat} {ad : Nat → Nat} {nn X : Int} {gm : mSt} {s : State} {Z Z1 : cZ} {H H1 : Heap} (hm : lwM Gm h0 ad nn X gm s Z H) (hz : H.size ≤ H1.size) (hk : ∀ q : Nat, q < H.size → ¬ cAd Z q → H1[q]? = H[q]?) (hd : ∀ q, cAd Z1 q → cAd Z q ∨ H.size ≤ q) : lwM Gm h0 ad nn X gm s Z1 H1 := by
  obtain ⟨h1, h2, h3⟩ := hm
  refine ⟨mH_kept h1 (fun q hq => hk q (h3 q hq).2.2 (h3 q hq).1), h2, fun q hq => ?_⟩
  obtain ⟨a1, a2, a3⟩ := h3 q hq
  refine ⟨fun z => ?_, a2, by omega⟩
  rcases hd q z with w | w
  · exact a1 w
  · omega
section LawSteps
variable {p : Program} {l : Launch} {e : Env} {s : State} {m : MethodId} {below : List Frame} {meth : Method} {c : Code} {H : Heap} {locs : List Loc} {cells slots : Nat} {Q : State → Prop}
variable {pc : Nat} {ls : Array Slot} {rest : List Value} {G : cG} {Gm : mG} {h0 : Nat} {ad : Nat → Nat} {Z : cZ} {g gm : mSt} {A : Nat → Prop} {b : Nat} {nn X X' Y : Int}
theorem e0_lt {cc : ByteArray} {args : Array Value} {Ts : List Cond} {own : String} {H0 : Heap} (x : cXA p c cc s args Ts m G Z A own H0) : Z.ad 55 0 < H0.size := by
  obtain ⟨⟨hx, hb, hts, hin, hown, hK1, hA, hZ, hh, hne, hAd⟩, hE, hB⟩ := x
  obtain ⟨-, t, z1, z2⟩ := hh
  have et : (Value.ref t) = .ref (Z.ad 55 0) := va_Z_one z1 hE.2
  injection et with et
  subst et
  obtain ⟨cell, h1, -⟩ := z2
  exact (Array.getElem?_eq_some_iff.mp h1).1
/-- a call of the class's, that makes nothing -/
theorem lw_c {y : MethodName} {bytes : ByteArray} {maxL index n : Nat} {ret : Option FieldType} {ws ws' : List Cond} {rm : Room} {As stk : List Value} {post : Int32 → mSt → Prop} (x : cXA p c code s #[Value.ref b] lwT m G Z A R_law s.heap) (hml : c.maxLocals = 4) (L : cL G Z A s.heap X g H locs) (hm : lwM Gm h0 ad nn X' gm s Z H)
    (hM : Met l y ws rm (va_Pc (.ref (Z.ad 11 0) :: As) (cPre G Z X g)) (cQi G Z Y post) 0 0 (cAd Z)) (hT : GoodIn lwT (wsV R_law index RX11 y ws)) (hw : ws = Cond.code y bytes maxL ret :: ws') (hrm : rm.cells = 0 ∧ rm.slots = 0)
    (hd : y.cls = RX11 ∧ y.cls ≠ "java/lang/invoke/MethodHandle" ∧ y.cls ≠ "java/lang/invoke/VarHandle" ∧ (parseMethodDescriptor y.desc).map (fun d => d.parameters.length) = some n) (hR : rm.frames + 1 ≤ room_1.frames ∧ 8 + (maxL + 11) + rm.locals ≤ room_1.locals) (hn : As.length = n) (hls : ls.size = 4) (hst : stk = As.reverse ++ .ref (Z.ad 11 0) :: rest) (hroom : 2 * (F0 m pc ls stk).monitorRoom + (rest.map fun v => v.category).sum ≤ 8) (hdg : decode code pc = .ok (.invokevirtual index, 3)) (hcs : cells ≤ 600000 ∧ slots ≤ 7302250)
    (kk : ∀ (r : Int32) (g1 : mSt) (H1 : Heap) (locs1 : List Loc), post r g1 → cL G Z A s.heap Y g1 H1 locs1 → lwM Gm h0 ad nn X' gm s Z H1 → W p l e room_1 s m #[Value.ref b] below meth c H1 locs1 cells slots Q (F0 m (pc + 3) ls (.int r :: rest))) : W p l e room_1 s m #[Value.ref b] below meth c H locs cells slots Q (F0 m pc ls stk) := by
  have x' := x.1
  obtain ⟨hx, hb, hts, hin, hown, hK1, hA, hZ, hh, hne, hAd⟩ := x'
  have hal : Z.al 11 0 := hZ.2 11 0 (show 0 < 1 by decide)
  refine va_calli (va_runV (As := As) (rest := rest) ⟨hx, hb, hml, hown, hts⟩ hM (cwV n hts hT hw hrm.1 hrm.2 hd hR) ⟨cPre.blind, c_recv x.1 L hal rfl, fun U hU hW => ⟨rfl, by rw [hU]; exact L.1, L.2.2, hK1.moved hW.alike, hA, hZ, by rw [hU]; exact hcT.moved hW.alike ((hh.kept L.2.1).sub hAd), hne.warm hW⟩⟩ rfl hn hls hst hroom hdg hcs) L.2.1 (fun q _ h => hAd q h) (fun q h => hAd q h) (fun r u t H1 locs1 ht hvm hp hB hz hk hS => ?_)
  exact kk r u H1 locs1 hp ⟨by rw [← ht]; exact hB.1, hS, hB.2⟩ (hm.kept hz hk (fun q h => Or.inl h))
/-- a call of the class's that makes things -/
theorem lw_k {y : MethodName} {bytes : ByteArray} {maxL index n mc ms : Nat} {ret : Option FieldType} {ws ws' : List Cond} {rm : Room} {As stk : List Value} {post : Int32 → cZ → mSt → Prop} (x : cXA p c code s #[Value.ref b] lwT m G Z A R_law s.heap) (hml : c.maxLocals = 4) (L : cL G Z A s.heap X g H locs) (hm : lwM Gm h0 ad nn X' gm s Z H)
    (hM : Met l y ws rm (va_Pc (.ref (Z.ad 11 0) :: As) (cPreA G Z X g H.size)) (kE mc ms (cAf Z H.size) (cQiA G Z Y post)) mc ms (cAf Z H.size)) (hT : GoodIn lwT (wsV R_law index RX11 y ws)) (hw : ws = Cond.code y bytes maxL ret :: ws') (hrm : rm.cells = mc ∧ rm.slots = ms)
    (hd : y.cls = RX11 ∧ y.cls ≠ "java/lang/invoke/MethodHandle" ∧ y.cls ≠ "java/lang/invoke/VarHandle" ∧ (parseMethodDescriptor y.desc).map (fun d => d.parameters.length) = some n) (hR : rm.frames + 1 ≤ room_1.frames ∧ 8 + (maxL + 11) + rm.locals ≤ room_1.locals) (hn : As.length = n) (hls : ls.size = 4) (hst : stk = As.reverse ++ .ref (Z.ad 11 0) :: rest) (hroom : 2 * (F0 m pc ls stk).monitorRoom + (rest.map fun v => v.category).sum ≤ 8) (hdg : decode code pc = .ok (.invokevirtual index, 3)) (hcs : cells + mc ≤ 600000 ∧ slots + ms ≤ 7302250)
    (kk : ∀ (r : Int32) (Z1 : cZ) (g1 : mSt) (H1 : Heap) (locs1 : List Loc) (k n' : Nat), k ≤ mc → n' ≤ ms → post r Z1 g1 → cZl Z Z1 k n' → cXA p c code s #[Value.ref b] lwT m G Z1 A R_law s.heap → cL G Z1 A s.heap Y g1 H1 locs1 → lwM Gm h0 ad nn X' gm s Z1 H1 → W p l e room_1 s m #[Value.ref b] below meth c H1 locs1 (cells + k) (slots + n') Q (F0 m (pc + 3) ls (.int r :: rest))) : W p l e room_1 s m #[Value.ref b] below meth c H locs cells slots Q (F0 m pc ls stk) := by
  have x' := x
  obtain ⟨⟨hx, hb, hts, hin, hown, hK1, hA, hZ, hh, hne, hAd⟩, hE, hB⟩ := x'
  have hal : Z.al 11 0 := hZ.2 11 0 (show 0 < 1 by decide)
  have hr := k_runV (R := room_1) (e := e) (below := below) (meth := meth) (locs := locs) (cells := cells) (slots := slots) (g := F0 m pc ls stk) (As := As) (rest := rest) ⟨hx, hb, hml, hown, hts⟩ hM (cwV n hts hT hw hrm.1 hrm.2 hd hR) ⟨cPreA.blind, c_recv x.1 L hal rfl, fun U hU hW => k_pre x L U hU hW⟩ rfl hn hls hst hroom hdg hcs
  intro T hTh X0
  obtain ⟨v, st₀, t, T', L0, k, n', hkn, e0, X1, hL, e1, e2, ⟨⟨r, Z1, g1, hv, hp, hz, hP⟩, hF⟩, st⟩ := hr T hTh X0
  cases hv
  obtain ⟨p1, p2, p3, p4, p5⟩ := hP
  rw [e0] at p5
  have hF2 := hF
  obtain ⟨f1, f2⟩ := hF2
  rw [e0] at f1 f2
  obtain ⟨t2, a1, b1⟩ := kk r Z1 g1 T'.heap (locs ++ L0) k n' hkn.1 hkn.2 hp hz (x.next hz p3 p4 L.2.1.1 p5) ⟨by rw [e1]; exact p1, k_S x L e0 e1 hF hL, p2⟩ (hm.kept (by rw [e1]; exact f1) (fun q h1 h2 => by rw [e1]; exact f2 q h1 (fun z => z.elim h2 (fun w => by omega))) p5) T' rfl X1
  exact ⟨t2, st t2 a1, b1⟩
/-- a call of the reference's -/
theorem lw_m {y : MethodName} {bytes : ByteArray} {maxL index n : Nat} {ret : Option FieldType} {ws ws' : List Cond} {rm : Room} {As stk : List Value} {post : Int32 → mSt → Prop} (x : cXA p c code s #[Value.ref b] lwT m G Z A R_law s.heap) (hml : c.maxLocals = 4) (L : cL G Z A s.heap X g H locs) (hm : lwM Gm h0 ad nn X' gm s Z H) (hKm : mK Gm s ∧ mAp h0 ad)
    (hM : Met l y ws rm (va_Pc (.ref h0 :: As) (mPre Gm h0 ad nn X' gm)) (mQi Gm h0 ad nn Y post) 0 0 (mA h0 ad)) (hT : GoodIn lwT (wsV R_law index RX12 y ws)) (hw : ws = Cond.code y bytes maxL ret :: ws') (hrm : rm.cells = 0 ∧ rm.slots = 0)
    (hd : y.cls = RX12 ∧ y.cls ≠ "java/lang/invoke/MethodHandle" ∧ y.cls ≠ "java/lang/invoke/VarHandle" ∧ (parseMethodDescriptor y.desc).map (fun d => d.parameters.length) = some n) (hR : rm.frames + 1 ≤ room_1.frames ∧ 8 + (maxL + 11) + rm.locals ≤ room_1.locals) (hn : As.length = n) (hls : ls.size = 4) (hst : stk = As.reverse ++ .ref h0 :: rest) (hroom : 2 * (F0 m pc ls stk).monitorRoom + (rest.map fun v => v.category).sum ≤ 8) (hdg : decode code pc = .ok (.invokevirtual index, 3)) (hcs : cells ≤ 600000 ∧ slots ≤ 7302250)
    (kk : ∀ (r : Int32) (gm1 : mSt) (H1 : Heap) (locs1 : List Loc), post r gm1 → cL G Z A s.heap X g H1 locs1 → lwM Gm h0 ad nn Y gm1 s Z H1 → W p l e room_1 s m #[Value.ref b] below meth c H1 locs1 cells slots Q (F0 m (pc + 3) ls (.int r :: rest))) : W p l e room_1 s m #[Value.ref b] below meth c H locs cells slots Q (F0 m pc ls stk) := by
  have x' := x
  obtain ⟨⟨hx, hb, hts, hin, hown, hK1, hA, hZ, hh, hne, hAd⟩, hE, hB⟩ := x'
  obtain ⟨h1, h2, h3⟩ := hm
  have hrec : ∃ cellB : Cell, H[h0]? = some cellB ∧ cellB.vm.isStatics = false ∧ s.vm.findClass RX12 = some cellB.cls := by
    obtain ⟨⟨cell, q1, q2, q3, q4⟩, -⟩ := h1
    obtain ⟨⟨hS, hfc, kC, hkC, hkind⟩, -⟩ := hKm.1
    exact ⟨cell, q1, by rw [q3]; rfl, by rw [q2]; exact hfc⟩
  refine va_calli (va_runV (As := As) (rest := rest) ⟨hx, hb, hml, hown, hts⟩ hM (cwV n hts hT hw hrm.1 hrm.2 hd hR) ⟨mPre.blind, hrec, fun U hU hW => ⟨rfl, by rw [hU]; exact h1, h2, hKm.1.moved hW.alike, hKm.2⟩⟩ rfl hn hls hst hroom hdg hcs) L.2.1 (fun q _ h => hB q (h3 q h).2.1) (fun q h => hB q (h3 q h).2.1) (fun r u t H1 locs1 ht hvm hp hBo hz hk hS => ?_)
  refine kk r u H1 locs1 hp ⟨L.1.keep (fun K i hal => hk _ (L.1.lt hal) (fun z => ?_)), hS, L.2.2⟩ ⟨by rw [← ht]; exact hBo.1, hBo.2, fun q hq => ⟨(h3 q hq).1, (h3 q hq).2.1, by have := (h3 q hq).2.2; omega⟩⟩
  obtain ⟨a1, a2, a3⟩ := h3 _ z
  by_cases h55 : K = 55
  · subst h55
    have hi := ((L.1 55 i hal).2 rfl).1
    subst hi
    have := e0_lt x
    omega
  · exact a1 ⟨K, i, hal, h55, rfl⟩
/-- one int of the script -/
theorem lw_arg {L0 : Nat} {xs : Nat → Int32} {a2 h2 : Nat} {i : Int32} {n : Int} {j : Int32} (hx : p.tables.exec = Jvm.exec) (hb : c.code = code) (hX : va_X b L0 xs s s.heap) (hbl : b < s.heap.size) (hbA : ¬ A b) (hS : va_S A s.heap H locs) (hl : lv_has ls 4 [(0, .ref b), (1, .ref a2), (2, .ref h2), (3, .int i)])
    (d0 : decode code pc = .ok (.aload_n 0, 1)) (d1 : decode code (pc + 1) = .ok (.iload_n 3, 1)) (d2 : decode code (pc + 1 + 1) = .ok (.iconst n, 1)) (hj : Int32.ofInt n = j) (d3 : decode code (pc + 1 + 1 + 1) = .ok (.iadd, 1)) (d4 : decode code (pc + 1 + 1 + 1 + 1) = .ok (.iaload, 1)) (hin : vp_in (i + j) L0)
    (kk : W p l e room_1 s m #[Value.ref b] below meth c H locs cells slots Q (F0 m (pc + 1 + 1 + 1 + 1 + 1) ls (.int (xs (i + j).toNatClampNeg) :: rest))) : W p l e room_1 s m #[Value.ref b] below meth c H locs cells slots Q (F0 m pc ls rest) := by
  refine lv_aload_n hx hb d0 rfl (lv_at hl 0 rfl) ?_
  refine lv_iload_n hx hb d1 rfl (lv_at hl 3 rfl) ?_
  refine lv_iconst (v := j) hx hb d2 hj ?_
  refine lv_iadd hx hb d3 ?_
  exact va_sld hx hb hX hbl hbA hS hin d4 kk
end LawSteps
