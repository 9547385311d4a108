/-! references that change, answers that are references, inherited methods -/
theorem cOpt_some {Z : cZ} {K : Nat} {x : Int32} (h : 0 ≤ x.toInt) : cOpt Z K x = some (Z.ad K x.toInt.toNat) := by
  unfold cOpt
  rw [if_neg (by omega)]
theorem cOpt_none {Z : cZ} {K : Nat} {x : Int32} (h : x.toInt < 0) : cOpt Z K x = none := by
  unfold cOpt
  rw [if_pos h]
def cQr (G : cG) (Z : cZ) (Y : Int) (K : Nat) (post : Int32 → mSt → Prop) : Array Value → State → Outcome → State → Prop := fun _ st oc t => (∃ (r : Int32) (g1 : mSt), oc = .returned (some (va_rf (cOpt Z K r))) ∧ post r g1 ∧ cPo G Z Y g1 t) ∧ va_F (cAd Z) st t
theorem cH.putr {G : cG} {Z : cZ} {g : mSt} {H H1 : Heap} (hA : cAp Z) (hM : cH G Z g H) {K0 i0 f0 : Nat} {v : Int32} (hal : Z.al K0 i0) (hK : K0 < 16) (hf : f0 < cNn K0) (hr : cRef K0 f0 = true)
    (e1 : t_OB (Z.ad K0 i0) (G.1 K0) (cNn K0) (G.2.1 K0) H1 (updV (cV Z g K0 i0) f0 (va_rf (cTo Z v K0 i0 f0)))) (oq : ∀ q : Nat, q ≠ Z.ad K0 i0 → H1[q]? = H[q]?) : cH G Z (up2 g (32 * K0 + f0) i0 v) H1 := by
  intro K i hKi
  refine ⟨fun h55 => ?_, fun h55 => ⟨((hM K i hKi).2 h55).1, Exists.imp (fun c0 hc0 => by rw [oq _ (fun z => by have := (hA K i K0 i0 hKi hal z).1; omega)]; exact hc0) ((hM K i hKi).2 h55).2⟩⟩
  have hN0 := cNn_le K0
  by_cases hs : K = K0 ∧ i = i0
  · obtain ⟨rfl, rfl⟩ := hs
    unfold cC
    rw [if_pos hK]
    refine e1.to (fun k hk => ?_)
    unfold updV cV
    by_cases hkf : k = f0
    · subst hkf
      rw [if_pos rfl, hr, if_pos rfl, up2_i]
    · rw [if_neg hkf, up2_o (by omega)]
  · have hne : Z.ad K i ≠ Z.ad K0 i0 := fun z => hs (hA K i K0 i0 hKi hal z)
    have hc := (hM K i hKi).1 h55
    unfold cC at hc ⊢
    have hN := cNn_le K
    by_cases h16 : K < 16
    · rw [if_pos h16] at hc ⊢
      refine (hc.kept (oq _ hne)).to (fun k hk => ?_)
      unfold cV
      have e : up2 g (32 * K0 + f0) i0 v (32 * K + k) i = g (32 * K + k) i := by
        by_cases hj : 32 * K + k = 32 * K0 + f0
        · have hKK : K = K0 := by omega
          have hii : i ≠ i0 := fun z => hs ⟨hKK, z⟩
          rw [hj]; exact up2_n hii
        · exact up2_o hj
      rw [e]
    · rw [if_neg h16] at hc ⊢
      have e : ∀ j, 512 ≤ j → up2 g (32 * K0 + f0) i0 v j = g j := fun j hj => up2_of (by omega)
      by_cases h40 : K < 48
      · rw [if_pos h40] at hc ⊢
        rw [oq _ hne, e _ (by omega)]
        exact hc
      · rw [if_neg h40] at hc ⊢
        have e2 : cLeR Z (up2 g (32 * K0 + f0) i0 v) K i = cLeR Z g K i := by
          unfold cLeR
          rw [e 1729 (by decide)]
        rw [oq _ hne, e _ (by omega), e2]
        exact hc
section CDyn
variable {p : Program} {l : Launch} {e : Env} {R : Room} {s : State} {m : MethodId} {args : Array Value} {below : List Frame} {meth : Method} {c : Code} {H : Heap} {locs : List Loc} {cells slots : Nat} {Q : State → Prop}
variable {cc : ByteArray} {pc : Nat} {ls : Array Slot} {rest : List Value} {G : cG} {Z : cZ} {g : mSt} {H0 : Heap} {Ts : List Cond} {X : Int} {own : String} {A : Nat → Prop}
/-- a field of references is written; v: the number that stands for it -/
theorem c_putr (x : cX p c cc s args Ts m G Z A own H0) (L : cL G Z A H0 X g H locs) (K i f j : Nat) (hal : Z.al K i) (hj : j = 32 * K + f) (hk : (cOb K && (decide (f < cNn K) && cRef K f)) = true) (hfin : (cTn K f).2.2.2 = false) {ty : FieldType} (hd : parseFieldDescriptor (cTn K f).2.2.1 = some ty) {v : Int32} {w : Value} (hv : va_rf (cTo Z v K i f) = w) (hn : narrow ty w = w) (hfit : fits ty w = true) {index : Nat} (hw : Cond.fieldLink own index (cTn K f).1 (cTn K f).2.1 (cTn K f).2.2.1 ∈ Ts) (hdg : decode cc pc = .ok (.putfield index, 3)) (hr : rg (cLo j) (cHi X j) v)
    (kk : ∀ (g1 : mSt) (H1 : Heap) (locs1 : List Loc), g1 = up2 g j i v → cL G Z A H0 X g1 H1 locs1 → W p l e R s m args below meth c H1 locs1 cells slots Q (F0 m (pc + 3) ls rest)) : W p l e R s m args below meth c H locs cells slots Q (F0 m pc ls (w :: .ref (Z.ad K i) :: rest)) := by
  subst hj
  rw [Bool.and_eq_true, Bool.and_eq_true] at hk
  have hap := cap x K hk.1
  obtain ⟨hx, hb, hts, hin, hown, hK1, hA, -, -, -, hAd⟩ := x
  have hf := of_decide_eq_true hk.2.1
  have hin2 : ∀ w ∈ u_ws (cRn K) (cTn K) (cNn K), w ∈ Ts := fun w h => hin w (cws_in hk.1 w h)
  obtain ⟨cell, q1, q2, q3, q4⟩ := L.1.ob hal hk.1
  obtain ⟨hS, hfc, kC, hkC, hkind⟩ := hK1.1 K hk.1
  obtain ⟨cf, kf, fi, fd, hi, hsl⟩ := hS f hf
  have hlay := hts _ (hin2 _ (u_in_lay hf))
  unfold u_lay at hlay
  rw [if_neg (by rw [hfin]; decide)] at hlay
  have hst := (u_facts hfc hkC (u_lays hts hin2 hf) hi).1
  have h6 := u_store (v := w) hfc hkC hkind hlay hi hd hn hfit
  have hk16 : K < 16 := by
    have h0 := hk.1
    unfold cOb at h0
    rw [Bool.and_eq_true] at h0
    have := of_decide_eq_true h0.1
    omega
  refine W.putK hx hb (f := fd) ⟨hown, hts _ hw, ⟨_, _, _, hi⟩, hst⟩ (by rw [q2]; exact h6) q1 q3 (by rw [hsl]; exact k2_hasslot (q4 f hf)) rfl rfl hdg fun H' e1 e2 e3 => ?_
  rw [hsl] at e1 ⊢
  exact kk _ H' _ rfl ⟨L.1.putr hA hal hk16 hf hk.2.2 ⟨_, e1, q2, q3, by rw [hv]; exact t_set q4 hap hf w⟩ e3, L.2.1.put e2 e3 (hAd _ ⟨K, i, hal, by omega, rfl⟩), L.2.2.up hr⟩
/-- a field of references that may hold none -/
theorem c_geto (x : cX p c cc s args Ts m G Z A own H0) (L : cL G Z A H0 X g H locs) (K i f j : Nat) (hal : Z.al K i) (hj : j = 32 * K + f) (hk : (cOb K && (decide (f < cNn K) && cRef K f)) = true) {index : Nat} {w : Value} (hv : va_rf (cTo Z (g j i) K i f) = w) (hw : Cond.fieldLink own index (cTn K f).1 (cTn K f).2.1 (cTn K f).2.2.1 ∈ Ts) (hdg : decode cc pc = .ok (.getfield index, 3))
    (kk : W p l e R s m args below meth c H locs cells slots Q (F0 m (pc + 3) ls (w :: rest))) : W p l e R s m args below meth c H locs cells slots Q (F0 m pc ls (.ref (Z.ad K i) :: rest)) := by
  subst hj
  rw [Bool.and_eq_true, Bool.and_eq_true] at hk
  exact cg_any x L.1 K i f hal hk.1 (of_decide_eq_true hk.2.1) (v := w) (by unfold cV; rw [hk.2.2, if_pos rfl]; exact hv) hw hdg kk
theorem c_aret {Y : Int} {r : Int32} {K a : Nat} {rt : FieldType} {post : Int32 → mSt → Prop} (x : cX p c cc s args Ts m G Z (cAd Z) own s.heap) (L : cL G Z (cAd Z) s.heap X g H locs) (hr : meth.sig.returnType = some rt) (hrt : (∃ n, rt = .object n) ∨ ∃ t, rt = .array t) (hlocks : meth.locks = false) (hXY : X ≤ Y) (ha : cOpt Z K r = some a) (hp : post r g) (hdg : decode cc pc = .ok (.areturn, 1)) : W p l e R s m args below meth c H locs 0 0 (MQ below (cQr G Z Y K post) args s 0 0 (cAd Z)) (F0 m pc ls [.ref a]) := by
  obtain ⟨hx, hb, -⟩ := x
  exact W.aret hx hb hr hrt (Or.inr ⟨a, rfl⟩) (fun t ht _ => ⟨⟨r, g, by rw [ha]; rfl, hp, by rw [← ht] at L; exact ⟨L.1, L.2.2.mono hXY⟩⟩, L.2.1.F ht⟩) L.2.1.2.2 hdg
theorem c_nret {Y : Int} {r : Int32} {K : Nat} {rt : FieldType} {post : Int32 → mSt → Prop} (x : cX p c cc s args Ts m G Z (cAd Z) own s.heap) (L : cL G Z (cAd Z) s.heap X g H locs) (hr : meth.sig.returnType = some rt) (hrt : (∃ n, rt = .object n) ∨ ∃ t, rt = .array t) (hlocks : meth.locks = false) (hXY : X ≤ Y) (ha : cOpt Z K r = none) (hp : post r g) (hdg : decode cc pc = .ok (.areturn, 1)) : W p l e R s m args below meth c H locs 0 0 (MQ below (cQr G Z Y K post) args s 0 0 (cAd Z)) (F0 m pc ls [.null]) := by
  obtain ⟨hx, hb, -⟩ := x
  exact W.aret hx hb hr hrt (Or.inl rfl) (fun t ht _ => ⟨⟨r, g, by rw [ha]; rfl, hp, by rw [← ht] at L; exact ⟨L.1, L.2.2.mono hXY⟩⟩, L.2.1.F ht⟩) L.2.1.2.2 hdg
theorem c_cr {y : MethodName} {bytes : ByteArray} {maxL index n nL K2 : Nat} {ret : Option FieldType} {ws ws' : List Cond} {rm : Room} {As stk : List Value} {Y : Int} {post : Int32 → mSt → Prop} (x : cX p c cc s args Ts m G Z A own H0) (hml : c.maxLocals = nL) (L : cL G Z A H0 X g H locs) (K i : Nat) (hal : Z.al K i) (hK : cOb K = true)
    (hM : Met l y ws rm (va_Pc (.ref (Z.ad K i) :: As) (cPre G Z X g)) (cQr G Z Y K2 post) 0 0 (cAd Z)) (hT : GoodIn Ts (wsV own index (cRn K) y ws)) (hw : ws = Cond.code y bytes maxL ret :: ws') (hrm : rm.cells = 0 ∧ rm.slots = 0)
    (hd : y.cls = cRn K ∧ y.cls ≠ "java/lang/invoke/MethodHandle" ∧ y.cls ≠ "java/lang/invoke/VarHandle" ∧ (parseMethodDescriptor y.desc).map (fun d => d.parameters.length) = some n) (hR : rm.frames + 1 ≤ R.frames ∧ 8 + (maxL + 11) + rm.locals ≤ R.locals) (hn : As.length = n) (hls : ls.size = nL) (hst : stk = As.reverse ++ .ref (Z.ad K i) :: rest) (hroom : 2 * (F0 m pc ls stk).monitorRoom + (rest.map fun v => v.category).sum ≤ 8) (hdg : decode cc pc = .ok (.invokevirtual index, 3))
    (kk : ∀ (r : Int32) (g1 : mSt) (H1 : Heap) (locs1 : List Loc), post r g1 → cL G Z A H0 Y g1 H1 locs1 → W p l e R s m args below meth c H1 locs1 cells slots Q (F0 m (pc + 3) ls (va_rf (cOpt Z K2 r) :: rest))) (hcs : cells ≤ R.cells ∧ slots ≤ R.slots := by exact ⟨Nat.zero_le _, Nat.zero_le _⟩) : W p l e R s m args below meth c H locs cells slots Q (F0 m pc ls stk) := by
  have x' := x
  obtain ⟨hx, hb, hts, hin, hown, hK1, hA, hZ, hh, hne, hAd⟩ := x'
  have hr := va_runV (g := F0 m pc ls stk) (R := R) (locs := locs) (cells := cells) (slots := slots) (e := e) (below := below) (meth := meth) (As := As) (rest := rest) ⟨hx, hb, hml, hown, hts⟩ hM (cwV n hts hT hw hrm.1 hrm.2 hd hR) ⟨cPre.blind, c_recv x L hal hK, fun U hU hW => ⟨rfl, by rw [hU]; exact L.1, L.2.2, hK1.moved hW.alike, hA, hZ, by rw [hU]; exact hcT.moved hW.alike ((hh.kept L.2.1).sub hAd), hne.warm hW⟩⟩ rfl hn hls hst hroom hdg hcs
  intro T hT XX
  obtain ⟨v, st₀, t, T', LL, h0, X', hL, e1, e2, ⟨⟨r, g1, hv, hp, hB⟩, hz, hk⟩, st⟩ := hr T hT XX
  cases hv
  rw [h0] at hz hk
  obtain ⟨t2, a1, b1⟩ := kk r g1 T'.heap (locs ++ LL) hp ⟨by rw [e1]; exact hB.1, ⟨Nat.le_trans L.2.1.1 (by rw [e1]; exact hz), fun q h1 h2 => by rw [e1, hk q (Nat.lt_of_lt_of_le h1 L.2.1.1) (fun z => h2 (hAd q z))]; exact L.2.1.2.1 q h1 h2, fun q hq => by
      rcases List.mem_append.mp hq with h | h
      · exact L.2.1.2.2 q h
      · exact hAd _ (hL q h)⟩, hB.2⟩ T' rfl X'
  exact ⟨t2, st t2 a1, b1⟩
theorem c_cast (x : cX p c cc s args Ts m G Z A own H0) (L : cL G Z A H0 X g H locs) (K i : Nat) (hal : Z.al K i) (hK : cOb K = true) {index : Nat} (hw : Cond.classLink own index (cRn K) ∈ Ts) (hdg : decode cc pc = .ok (.checkcast index, 3))
    (kk : W p l e R s m args below meth c H locs cells slots Q (F0 m (pc + 3) ls (.ref (Z.ad K i) :: rest))) : W p l e R s m args below meth c H locs cells slots Q (F0 m pc ls (.ref (Z.ad K i) :: rest)) := by
  obtain ⟨hx, hb, hts, hin, hown, hK1, hA, -, -, -, hAd⟩ := x
  obtain ⟨cell, q1, q2, q3, q4⟩ := L.1.ob hal hK
  exact va_castS hx hb hown (hts _ hw) (hK1.1 K hK).2 ⟨cell, q1, by rw [q3]; rfl, by rw [q2]; exact (hK1.1 K hK).2.1⟩ hdg kk
theorem c_cvU {owner : String} {x0 y : MethodName} {bytes : ByteArray} {maxL index n nL : Nat} {ws ws' : List Cond} {rm : Room} {As stk : List Value} {Y : Int} {post : mSt → Prop} (x : cX p c cc s args Ts m G Z A own H0) (hml : c.maxLocals = nL) (L : cL G Z A H0 X g H locs) (K i : Nat) (hal : Z.al K i) (hK : cOb K = true)
    (hM : Met l y ws rm (va_Pc (.ref (Z.ad K i) :: As) (cPre G Z X g)) (cQv G Z Y post) 0 0 (cAd Z)) (hT : GoodIn Ts (va_wsU own index (cRn K) owner x0 y ws)) (hw : ws = Cond.code y bytes maxL none :: ws') (hrm : rm.cells = 0 ∧ rm.slots = 0)
    (hyx : y = ⟨owner, x0.name, x0.desc⟩) (hd : owner ≠ "java/lang/invoke/MethodHandle" ∧ owner ≠ "java/lang/invoke/VarHandle" ∧ (parseMethodDescriptor x0.desc).map (fun d => d.parameters.length) = some n) (hR : rm.frames + 1 ≤ R.frames ∧ 8 + (maxL + 11) + rm.locals ≤ R.locals) (hn : As.length = n) (hls : ls.size = nL) (hst : stk = As.reverse ++ .ref (Z.ad K i) :: rest) (hroom : 2 * (F0 m pc ls stk).monitorRoom + (rest.map fun v => v.category).sum ≤ 8) (hdg : decode cc pc = .ok (.invokevirtual index, 3))
    (kk : ∀ (g1 : mSt) (H1 : Heap) (locs1 : List Loc), post g1 → cL G Z A H0 Y g1 H1 locs1 → W p l e R s m args below meth c H1 locs1 cells slots Q (F0 m (pc + 3) ls rest)) (hcs : cells ≤ R.cells ∧ slots ≤ R.slots := by exact ⟨Nat.zero_le _, Nat.zero_le _⟩) : W p l e R s m args below meth c H locs cells slots Q (F0 m pc ls stk) := by
  have x' := x
  obtain ⟨hx, hb, hts, hin, hown, hK1, hA, hZ, hh, hne, hAd⟩ := x'
  refine va_callv (va_runU (As := As) (rest := rest) ⟨hx, hb, hml, hown, hts⟩ hM (va_cwU n hts hT hw hrm.1 hrm.2 hyx hd hR) ⟨cPre.blind, c_recv x L hal hK, fun U hU hW => ⟨rfl, by rw [hU]; exact L.1, L.2.2, hK1.moved hW.alike, hA, hZ, by rw [hU]; exact hcT.moved hW.alike ((hh.kept L.2.1).sub hAd), hne.warm hW⟩⟩ rfl hn hls hst hroom hdg hcs) L.2.1 (fun q _ h => hAd q h) (fun q h => hAd q h) (fun u t H1 locs1 ht hvm hp hB hz hk hS => ?_)
  exact kk u H1 locs1 hp ⟨by rw [← ht]; exact hB.1, hS, hB.2⟩
theorem c_ciU {owner : String} {x0 y : MethodName} {bytes : ByteArray} {maxL index n nL : Nat} {ret : Option FieldType} {ws ws' : List Cond} {rm : Room} {As stk : List Value} {Y : Int} {post : Int32 → mSt → Prop} (x : cX p c cc s args Ts m G Z A own H0) (hml : c.maxLocals = nL) (L : cL G Z A H0 X g H locs) (K i : Nat) (hal : Z.al K i) (hK : cOb K = true)
    (hM : Met l y ws rm (va_Pc (.ref (Z.ad K i) :: As) (cPre G Z X g)) (cQi G Z Y post) 0 0 (cAd Z)) (hT : GoodIn Ts (va_wsU own index (cRn K) owner x0 y ws)) (hw : ws = Cond.code y bytes maxL ret :: ws') (hrm : rm.cells = 0 ∧ rm.slots = 0)
    (hyx : y = ⟨owner, x0.name, x0.desc⟩) (hd : owner ≠ "java/lang/invoke/MethodHandle" ∧ owner ≠ "java/lang/invoke/VarHandle" ∧ (parseMethodDescriptor x0.desc).map (fun d => d.parameters.length) = some n) (hR : rm.frames + 1 ≤ R.frames ∧ 8 + (maxL + 11) + rm.locals ≤ R.locals) (hn : As.length = n) (hls : ls.size = nL) (hst : stk = As.reverse ++ .ref (Z.ad K i) :: rest) (hroom : 2 * (F0 m pc ls stk).monitorRoom + (rest.map fun v => v.category).sum ≤ 8) (hdg : decode cc pc = .ok (.invokevirtual index, 3))
    (kk : ∀ (r : Int32) (g1 : mSt) (H1 : Heap) (locs1 : List Loc), post r g1 → cL G Z A H0 Y g1 H1 locs1 → W p l e R s m args below meth c H1 locs1 cells slots Q (F0 m (pc + 3) ls (.int r :: rest))) (hcs : cells ≤ R.cells ∧ slots ≤ R.slots := by exact ⟨Nat.zero_le _, Nat.zero_le _⟩) : W p l e R s m args below meth c H locs cells slots Q (F0 m pc ls stk) := by
  have x' := x
  obtain ⟨hx, hb, hts, hin, hown, hK1, hA, hZ, hh, hne, hAd⟩ := x'
  refine va_calli (va_runU (As := As) (rest := rest) ⟨hx, hb, hml, hown, hts⟩ hM (va_cwU n hts hT hw hrm.1 hrm.2 hyx hd hR) ⟨cPre.blind, c_recv x L hal hK, fun U hU hW => ⟨rfl, by rw [hU]; exact L.1, L.2.2, hK1.moved hW.alike, hA, hZ, by rw [hU]; exact hcT.moved hW.alike ((hh.kept L.2.1).sub hAd), hne.warm hW⟩⟩ rfl hn hls hst hroom hdg hcs) L.2.1 (fun q _ h => hAd q h) (fun q h => hAd q h) (fun r u t H1 locs1 ht hvm hp hB hz hk hS => ?_)
  exact kk r u H1 locs1 hp ⟨by rw [← ht]; exact hB.1, hS, hB.2⟩
theorem c_cvA {owner : String} {x0 y : MethodName} {bytes : ByteArray} {maxL index n nL : Nat} {ws ws' : List Cond} {rm : Room} {As stk : List Value} {Y : Int} {post : mSt → Prop} (x : cX p c cc s args Ts m G Z A own H0) (hml : c.maxLocals = nL) (L : cL G Z A H0 X g H locs) (K i : Nat) (hal : Z.al K i) (hK : cOb K = true)
    (hM : Met l y ws rm (va_Pc (.ref (Z.ad K i) :: As) (cPre G Z X g)) (cQv G Z Y post) 0 0 (cAd Z)) (hT : GoodIn Ts (va_wsU own index (cRn K) owner x0 y ws)) (hw : ws = Cond.code y bytes maxL none :: ws') (hrm : rm.cells = 0 ∧ rm.slots = 0)
    (hdc : (⟨owner, x0.name, x0.desc⟩ : MethodName) ∈ cDl) (hd : owner ≠ "java/lang/invoke/MethodHandle" ∧ owner ≠ "java/lang/invoke/VarHandle" ∧ (parseMethodDescriptor x0.desc).map (fun d => d.parameters.length) = some n) (hR : rm.frames + 1 ≤ R.frames ∧ 8 + (maxL + 11) + rm.locals ≤ R.locals) (hn : As.length = n) (hls : ls.size = nL) (hst : stk = As.reverse ++ .ref (Z.ad K i) :: rest) (hroom : 2 * (F0 m pc ls stk).monitorRoom + (rest.map fun v => v.category).sum ≤ 8) (hdg : decode cc pc = .ok (.invokevirtual index, 3))
    (kk : ∀ (g1 : mSt) (H1 : Heap) (locs1 : List Loc), post g1 → cL G Z A H0 Y g1 H1 locs1 → W p l e R s m args below meth c H1 locs1 cells slots Q (F0 m (pc + 3) ls rest)) (hcs : cells ≤ R.cells ∧ slots ≤ R.slots := by exact ⟨Nat.zero_le _, Nat.zero_le _⟩) : W p l e R s m args below meth c H locs cells slots Q (F0 m pc ls stk) := by
  have x' := x
  obtain ⟨hx, hb, hts, hin, hown, hK1, hA, hZ, hh, hne, hAd⟩ := x'
  refine va_callv (va_runU (As := As) (rest := rest) ⟨hx, hb, hml, hown, hts⟩ hM (va_cwA n hts hT hw hrm.1 hrm.2 (hne.2 _ hdc) hd hR) ⟨cPre.blind, c_recv x L hal hK, fun U hU hW => ⟨rfl, by rw [hU]; exact L.1, L.2.2, hK1.moved hW.alike, hA, hZ, by rw [hU]; exact hcT.moved hW.alike ((hh.kept L.2.1).sub hAd), hne.warm hW⟩⟩ rfl hn hls hst hroom hdg hcs) L.2.1 (fun q _ h => hAd q h) (fun q h => hAd q h) (fun u t H1 locs1 ht hvm hp hB hz hk hS => ?_)
  exact kk u H1 locs1 hp ⟨by rw [← ht]; exact hB.1, hS, hB.2⟩
end CDyn
theorem wk_U {c d : Cond} {own C owner : String} {index : Nat} {x y : MethodName} (h : d ∈ wsUC) (h1 : Cond.methodLink own index x ∈ wsUC) (h2 : Cond.sameMethod x.cls owner x.name x.desc ∈ wsUC) (h3 : Cond.selects C x y ∈ wsUC) (h4 : Cond.instanceMethod y ∈ wsUC) (h5 : Cond.initialized y.cls ∈ wsUC) : GoodIn (wk c) (va_wsU own index C owner x y (wk d)) := by
  refine goodIn_app (fun w hw => ?_) (wk_good h)
  have hw2 : w ∈ wsUC := by
    simp only [List.mem_cons, List.not_mem_nil, or_false] at hw
    rcases hw with e | e | e | e | e <;> rw [e] <;> assumption
  exact ⟨wk_in hw2, good_of_word (wsUC_good w hw2)⟩
