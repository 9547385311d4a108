/-! THE LAW'S CASES: a call of the class, a call of the reference -/
def lwI (p : Program) (c : Code) (s : State) (m : MethodId) (G : cG) (Gm : mG) (A : Nat → Prop) (h0 : Nat) (ad : Nat → Nat) (b L0 : Nat) (xs : Nat → Int32) (nn : Int) (K : Nat) (i : Int32) (ls : Array Slot) (Z : cZ) (g gm : mSt) (H : Heap) (locs : List Loc) : Prop :=
  cXA p c code s #[Value.ref b] lwT m G Z A R_law s.heap ∧ c.maxLocals = 4 ∧ cL G Z A s.heap (848000 * (K : Int)) g H locs ∧ cJ Z g ∧ MI K Z g ∧ lwM Gm h0 ad nn (84800 * (K : Int)) gm s Z H ∧ mJ nn [] gm ∧ (mK Gm s ∧ mAp h0 ad) ∧ (2 ≤ nn ∧ nn ≤ 4) ∧ K ≤ 511 ∧ (va_X b L0 xs s s.heap ∧ b < s.heap.size ∧ ¬ A b) ∧ (lv_has ls 4 [(0, .ref b), (1, .ref (Z.ad 11 0)), (2, .ref h0), (3, .int i)] ∧ dmR Z nn g gm) ∧ ∀ j : Int32, 1 ≤ j.toInt → j.toInt ≤ 5 → vp_in (i + j) L0
/-- what a case hands on -/
def lwE (p : Program) (l : Launch) (e : Env) (c : Code) (s : State) (m : MethodId) (below : List Frame) (meth : Method) (G : cG) (Gm : mG) (A : Nat → Prop) (h0 : Nat) (ad : Nat → Nat) (b : Nat) (nn : Int) (K : Nat) (ls : Array Slot) (Z : cZ) (Q : State → Prop) : Prop :=
  ∀ (Z1 : cZ) (g1 gm1 : mSt) (H1 : Heap) (locs1 : List Loc), cXA p c code s #[Value.ref b] lwT m G Z1 A R_law s.heap → cL G Z1 A s.heap (848000 * ((K + 1 : Nat) : Int)) g1 H1 locs1 → cJ Z1 g1 → MI (K + 1) Z1 g1 → lwM Gm h0 ad nn (84800 * ((K + 1 : Nat) : Int)) gm1 s Z1 H1 → mJ nn [] gm1 → Z1.ad 11 0 = Z.ad 11 0 → dmR Z1 nn g1 gm1 →
    W p l e room_1 s m #[Value.ref b] below meth c H1 locs1 (392 + Z1.w 0) (307970 + Z1.w 1) Q (F0 m 846 ls [])
theorem lw_gh11 : ∀ w ∈ wsX11_header, goodWord w = true := List.all_eq_true.mp (by decide +kernel)
theorem lw_gh12 : ∀ w ∈ wsX12_header, goodWord w = true := List.all_eq_true.mp (by decide +kernel)
theorem lw_call {Z : cZ} {g : mSt} (h : RM Z g 599600 6990000) (p1 : Int32) (hn : 2 ≤ Z.n ∧ Z.n ≤ 4) : ∃ n1 : Nat, (p1.toInt.toNat < Z.n → gNd g p1.toInt.toNat n1) ∧ Z.w 1 + 18 + n1 ≤ 6990000 := by
  obtain ⟨h1, h2, h3, h4⟩ := h
  by_cases hp : p1.toInt.toNat < Z.n
  · obtain ⟨s', hs1, hs2⟩ : ∃ s', p1.toInt.toNat ≠ s' ∧ s' < 2 * Z.n := ⟨2 * Z.n - 1, by omega, by omega⟩
    obtain ⟨n1, n2, a1, a2, a3⟩ := h4 _ s' hs1 (by omega) hs2
    exact ⟨n1, fun _ => a1, by omega⟩
  · exact ⟨0, fun z => absurd z hp, by omega⟩
section LawCases
variable {p : Program} {l : Launch} {e : Env} {s : State} {m : MethodId} {below : List Frame} {meth : Method} {c : Code} {H : Heap} {locs : List Loc} {Q : State → Prop}
variable {ls : Array Slot} {G : cG} {Gm : mG} {h0 : Nat} {ad : Nat → Nat} {Z : cZ} {g gm : mSt} {A : Nat → Prop} {b L0 : Nat} {xs : Nat → Int32} {nn : Int} {K : Nat} {i : Int32}
set_option maxHeartbeats 2000000 in
/-- feed -/
theorem lw_case0 (I : lwI p c s m G Gm A h0 ad b L0 xs nn K i ls Z g gm H locs) (kk : lwE p l e c s m below meth G Gm A h0 ad b nn K ls Z Q) : W p l e room_1 s m #[Value.ref b] below meth c H locs (392 + Z.w 0) (307970 + Z.w 1) Q (F0 m 136 ls []) := by
  obtain ⟨x, hml, L, hJ, hMI, hm, hmJ, hKm, hnn, hK, ⟨hX, hbl, hbA⟩, ⟨hl, hT⟩, hin⟩ := I
  have hx := x.1.1
  have hb := x.1.2.1
  have hrm := hMI.rm hJ (by omega)
  have hcs : 392 + Z.w 0 ≤ 600000 ∧ 307970 + Z.w 1 ≤ 7302250 := ⟨by have := hrm.2.1; omega, by have := hrm.2.2.1; omega⟩
  have hal : Z.al 11 0 := x.1.2.2.2.2.2.2.2.1.2 11 0 (show 0 < 1 by decide)
  refine lv_aload_n hx hb d_law_136 rfl (lv_at hl 1 rfl) ?_
  refine lw_arg (j := 1) hx hb hX hbl hbA L.2.1 hl d_law_137 d_law_138 d_law_139 (by decide) d_law_140 d_law_141 (hin 1 (by decide) (by decide)) ?_
  refine lw_arg (j := 2) hx hb hX hbl hbA L.2.1 hl d_law_142 d_law_143 d_law_144 (by decide) d_law_145 d_law_146 (hin 2 (by decide) (by decide)) ?_
  refine lw_arg (j := 3) hx hb hX hbl hbA L.2.1 hl d_law_147 d_law_148 d_law_149 (by decide) d_law_150 d_law_151 (hin 3 (by decide) (by decide)) ?_
  refine lw_arg (j := 4) hx hb hX hbl hbA L.2.1 hl d_law_152 d_law_153 d_law_154 (by decide) d_law_155 d_law_156 (hin 4 (by decide) (by decide)) ?_
  refine lw_arg (j := 5) hx hb hX hbl hbA L.2.1 hl d_law_157 d_law_158 d_law_159 (by decide) d_law_160 d_law_161 (hin 5 (by decide) (by decide)) ?_
  refine lw_c (As := [.int (xs (i + 1).toNatClampNeg), .int (xs (i + 2).toNatClampNeg), .int (xs (i + 3).toNatClampNeg), .int (xs (i + 4).toNatClampNeg), .int (xs (i + 5).toNatClampNeg)]) (rest := []) x hml L hm (d_kfeed l (848000 * (K : Int)) g 0 (xs (i + 1).toNatClampNeg) (xs (i + 2).toNatClampNeg) (xs (i + 3).toNatClampNeg) (xs (i + 4).toNatClampNeg) (xs (i + 5).toNatClampNeg) ⟨by omega, by omega⟩  hal (Φ := fun _ g1 => MI (K + 1) Z g1) (i_feed hMI (fun _ _ h => h))) (lwT_C kd_X11_feed lk_21 lki_21 lks_21) rfl ⟨rfl, rfl⟩ hd_kfeed ⟨Nat.le_of_ble_eq_true rfl, Nat.le_of_ble_eq_true rfl⟩ rfl hl.1 rfl (lv_room (Nat.le_of_ble_eq_true rfl)) d_law_162 hcs (fun r g1 H1 locs1 hp L hm => ?_)
  have hMI1 : MI (K + 1) Z g1 := hp.1
  have hJ1 : cJ Z g1 := cJ_fr hJ hp.2.2.1 rfl
  refine lv_pop hx hb d_law_165 rfl ?_
  refine lv_aload_n hx hb d_law_166 rfl (lv_at hl 2 rfl) ?_
  refine lw_arg (j := 1) hx hb hX hbl hbA L.2.1 hl d_law_167 d_law_168 d_law_169 (by decide) d_law_170 d_law_171 (hin 1 (by decide) (by decide)) ?_
  refine lw_arg (j := 2) hx hb hX hbl hbA L.2.1 hl d_law_172 d_law_173 d_law_174 (by decide) d_law_175 d_law_176 (hin 2 (by decide) (by decide)) ?_
  refine lw_arg (j := 3) hx hb hX hbl hbA L.2.1 hl d_law_177 d_law_178 d_law_179 (by decide) d_law_180 d_law_181 (hin 3 (by decide) (by decide)) ?_
  refine lw_arg (j := 4) hx hb hX hbl hbA L.2.1 hl d_law_182 d_law_183 d_law_184 (by decide) d_law_185 d_law_186 (hin 4 (by decide) (by decide)) ?_
  refine lw_arg (j := 5) hx hb hX hbl hbA L.2.1 hl d_law_187 d_law_188 d_law_189 (by decide) d_law_190 d_law_191 (hin 5 (by decide) (by decide)) ?_
  refine lw_m (As := [.int (xs (i + 1).toNatClampNeg), .int (xs (i + 2).toNatClampNeg), .int (xs (i + 3).toNatClampNeg), .int (xs (i + 4).toNatClampNeg), .int (xs (i + 5).toNatClampNeg)]) (rest := []) x hml L hm hKm (c_feed l nn (84800 * (K : Int)) gm (xs (i + 1).toNatClampNeg) (xs (i + 2).toNatClampNeg) (xs (i + 3).toNatClampNeg) (xs (i + 4).toNatClampNeg) (xs (i + 5).toNatClampNeg) hnn ⟨by omega, by omega⟩ ) (lwT_M uc_feed lk_25 lki_25 lks_25) rfl ⟨rfl, rfl⟩ hd_feed ⟨Nat.le_of_ble_eq_true rfl, Nat.le_of_ble_eq_true rfl⟩ rfl hl.1 rfl (lv_room (Nat.le_of_ble_eq_true rfl)) d_law_192 hcs (fun r2 gm1 H2 locs2 hp2 L hm => ?_)
  refine lv_pop hx hb d_law_195 rfl ?_
  refine lv_goto (tgt := 846) hx hb d_law_196 (by decide) ?_
  exact kk Z g1 gm1 H2 locs2 x ⟨L.1, L.2.1, L.2.2.mono (by omega)⟩ hJ1 hMI1 ⟨hm.1, hm.2.1.mono (by omega), hm.2.2⟩ (mJ_fr hmJ hp2.1 rfl) rfl (hT.fr rfl (cDm_fr hp.2.2.1 (by decide)) (rDm_fr hp2.1 rfl rfl))
set_option maxHeartbeats 2000000 in
/-- end -/
theorem lw_case1 (I : lwI p c s m G Gm A h0 ad b L0 xs nn K i ls Z g gm H locs) (kk : lwE p l e c s m below meth G Gm A h0 ad b nn K ls Z Q) : W p l e room_1 s m #[Value.ref b] below meth c H locs (392 + Z.w 0) (307970 + Z.w 1) Q (F0 m 199 ls []) := by
  obtain ⟨x, hml, L, hJ, hMI, hm, hmJ, hKm, hnn, hK, ⟨hX, hbl, hbA⟩, ⟨hl, hT⟩, hin⟩ := I
  have hx := x.1.1
  have hb := x.1.2.1
  have hrm := hMI.rm hJ (by omega)
  have hcs : 392 + Z.w 0 ≤ 600000 ∧ 307970 + Z.w 1 ≤ 7302250 := ⟨by have := hrm.2.1; omega, by have := hrm.2.2.1; omega⟩
  have hal : Z.al 11 0 := x.1.2.2.2.2.2.2.2.1.2 11 0 (show 0 < 1 by decide)
  refine lv_aload_n hx hb d_law_199 rfl (lv_at hl 1 rfl) ?_
  refine lw_arg (j := 1) hx hb hX hbl hbA L.2.1 hl d_law_200 d_law_201 d_law_202 (by decide) d_law_203 d_law_204 (hin 1 (by decide) (by decide)) ?_
  refine lw_c (As := [.int (xs (i + 1).toNatClampNeg)]) (rest := []) x hml L hm (c_kend l (848000 * (K : Int)) g 0 (xs (i + 1).toNatClampNeg) ⟨by omega, by omega⟩  hal) (lwT_C kd_X11_end lk_26 lki_26 lks_26) rfl ⟨rfl, rfl⟩ hd_kend ⟨Nat.le_of_ble_eq_true rfl, Nat.le_of_ble_eq_true rfl⟩ rfl hl.1 rfl (lv_room (Nat.le_of_ble_eq_true rfl)) d_law_205 hcs (fun r g1 H1 locs1 hp L hm => ?_)
  have hMI1 : MI (K + 1) Z g1 := hMI.no hp.1 rfl ⟨by decide, by decide⟩
  have hJ1 : cJ Z g1 := cJ_fr hJ hp.1 rfl
  refine lv_pop hx hb d_law_208 rfl ?_
  refine lv_aload_n hx hb d_law_209 rfl (lv_at hl 2 rfl) ?_
  refine lw_arg (j := 1) hx hb hX hbl hbA L.2.1 hl d_law_210 d_law_211 d_law_212 (by decide) d_law_213 d_law_214 (hin 1 (by decide) (by decide)) ?_
  refine lw_m (As := [.int (xs (i + 1).toNatClampNeg)]) (rest := []) x hml L hm hKm (c_end l nn (84800 * (K : Int)) gm (xs (i + 1).toNatClampNeg) hnn ⟨by omega, by omega⟩ ) (lwT_M uc_end lk_30 lki_30 lks_30) rfl ⟨rfl, rfl⟩ hd_end ⟨Nat.le_of_ble_eq_true rfl, Nat.le_of_ble_eq_true rfl⟩ rfl hl.1 rfl (lv_room (Nat.le_of_ble_eq_true rfl)) d_law_215 hcs (fun r2 gm1 H2 locs2 hp2 L hm => ?_)
  refine lv_pop hx hb d_law_218 rfl ?_
  refine lv_goto (tgt := 846) hx hb d_law_219 (by decide) ?_
  exact kk Z g1 gm1 H2 locs2 x ⟨L.1, L.2.1, L.2.2.mono (by omega)⟩ hJ1 hMI1 ⟨hm.1, hm.2.1.mono (by omega), hm.2.2⟩ (mJ_fr hmJ hp2.1 rfl) rfl (hT.fr rfl (cDm_fr hp.1 (by decide)) (rDm_fr hp2.1 rfl rfl))
set_option maxHeartbeats 2000000 in
/-- tick -/
theorem lw_case2 (I : lwI p c s m G Gm A h0 ad b L0 xs nn K i ls Z g gm H locs) (kk : lwE p l e c s m below meth G Gm A h0 ad b nn K ls Z Q) : W p l e room_1 s m #[Value.ref b] below meth c H locs (392 + Z.w 0) (307970 + Z.w 1) Q (F0 m 222 ls []) := by
  obtain ⟨x, hml, L, hJ, hMI, hm, hmJ, hKm, hnn, hK, ⟨hX, hbl, hbA⟩, ⟨hl, hT⟩, hin⟩ := I
  have hx := x.1.1
  have hb := x.1.2.1
  have hrm := hMI.rm hJ (by omega)
  have hcs : 392 + Z.w 0 ≤ 600000 ∧ 307970 + Z.w 1 ≤ 7302250 := ⟨by have := hrm.2.1; omega, by have := hrm.2.2.1; omega⟩
  have hal : Z.al 11 0 := x.1.2.2.2.2.2.2.2.1.2 11 0 (show 0 < 1 by decide)
  obtain ⟨na, ha⟩ : ∃ na, Z.w 0 + na = 599608 := ⟨599608 - Z.w 0, by have := hrm.2.1; omega⟩
  obtain ⟨nb, hb2⟩ : ∃ nb, Z.w 1 + nb = 6994280 := ⟨6994280 - Z.w 1, by have := hrm.2.2.1; omega⟩
  refine lv_aload_n hx hb d_law_222 rfl (lv_at hl 1 rfl) ?_
  refine lw_arg (j := 1) hx hb hX hbl hbA L.2.1 hl d_law_223 d_law_224 d_law_225 (by decide) d_law_226 d_law_227 (hin 1 (by decide) (by decide)) ?_
  refine lw_k (As := [.int (xs (i + 1).toNatClampNeg)]) (rest := []) x hml L hm (d_ktick l (848000 * (K : Int)) g 0 (xs (i + 1).toNatClampNeg) H.size na nb 599608 6994280 ⟨by omega, by omega⟩ hJ ha hb2 hal (Φ := fun r Z1 g1 => MI (K + 1) Z1 g1 ∧ tkD (Z.n : Int) (xs (i + 1).toNatClampNeg) (cDm g) (cDm g1)) (i_tick hMI hK (by decide) (by decide) (fun _ _ _ h h2 => ⟨h, h2⟩))) (lwT_C kd_X11_tick lk_31 lki_31 lks_31) rfl ⟨rfl, rfl⟩ hd_ktick ⟨Nat.le_of_ble_eq_true rfl, Nat.le_of_ble_eq_true rfl⟩ rfl hl.1 rfl (lv_room (Nat.le_of_ble_eq_true rfl)) d_law_228 ⟨show 392 + Z.w 0 + na ≤ 600000 by omega, show 307970 + Z.w 1 + nb ≤ 7302250 by omega⟩ (fun r Z1 g1 H1 locs1 nk nn2 hk1 hk2 hp hz x L hm => ?_)
  have hMI1 : MI (K + 1) Z1 g1 := hp.1.1
  have hJ1 : cJ Z1 g1 := hp.2.2.2.2.1
  have ea : Z1.ad 11 0 = Z.ad 11 0 := hz.2.2.1 11 0 hal (by omega)
  rw [show 392 + Z.w 0 + nk = 392 + Z1.w 0 by have := hz.2.2.2.1; omega, show 307970 + Z.w 1 + nn2 = 307970 + Z1.w 1 by have := hz.2.2.2.2; omega]
  have hcs : 392 + Z1.w 0 ≤ 600000 ∧ 307970 + Z1.w 1 ≤ 7302250 := ⟨by have := hz.2.2.2.1; omega, by have := hz.2.2.2.2; omega⟩
  refine lv_pop hx hb d_law_231 rfl ?_
  refine lv_aload_n hx hb d_law_232 rfl (lv_at hl 2 rfl) ?_
  refine lw_arg (j := 1) hx hb hX hbl hbA L.2.1 hl d_law_233 d_law_234 d_law_235 (by decide) d_law_236 d_law_237 (hin 1 (by decide) (by decide)) ?_
  refine lw_m (As := [.int (xs (i + 1).toNatClampNeg)]) (rest := []) x hml L hm hKm (cD_tick l nn (84800 * (K : Int)) gm (xs (i + 1).toNatClampNeg) hnn ⟨by omega, by omega⟩ hmJ) (lwT_M uc_tick lk_34 lki_34 lks_34) rfl ⟨rfl, rfl⟩ hd_tick ⟨Nat.le_of_ble_eq_true rfl, Nat.le_of_ble_eq_true rfl⟩ rfl hl.1 rfl (lv_room (Nat.le_of_ble_eq_true rfl)) d_law_238 hcs (fun r2 gm1 H2 locs2 hp2 L hm => ?_)
  refine lv_pop hx hb d_law_241 rfl ?_
  refine lv_goto (tgt := 846) hx hb d_law_242 (by decide) ?_
  exact kk Z1 g1 gm1 H2 locs2 x ⟨L.1, L.2.1, L.2.2.mono (by omega)⟩ hJ1 hMI1 ⟨hm.1, hm.2.1.mono (by omega), hm.2.2⟩ (hp2.2.2.1) ea (hT.tk hz.1 hp.1.2 hp2.2.2.2)
set_option maxHeartbeats 2000000 in
/-- call -/
theorem lw_case3 (I : lwI p c s m G Gm A h0 ad b L0 xs nn K i ls Z g gm H locs) (kk : lwE p l e c s m below meth G Gm A h0 ad b nn K ls Z Q) : W p l e room_1 s m #[Value.ref b] below meth c H locs (392 + Z.w 0) (307970 + Z.w 1) Q (F0 m 245 ls []) := by
  obtain ⟨x, hml, L, hJ, hMI, hm, hmJ, hKm, hnn, hK, ⟨hX, hbl, hbA⟩, ⟨hl, hT⟩, hin⟩ := I
  have hx := x.1.1
  have hb := x.1.2.1
  have hrm := hMI.rm hJ (by omega)
  have hcs : 392 + Z.w 0 ≤ 600000 ∧ 307970 + Z.w 1 ≤ 7302250 := ⟨by have := hrm.2.1; omega, by have := hrm.2.2.1; omega⟩
  have hal : Z.al 11 0 := x.1.2.2.2.2.2.2.2.1.2 11 0 (show 0 < 1 by decide)
  obtain ⟨n1, hg1, hr1⟩ := lw_call hrm (xs (i + 1).toNatClampNeg) hMI.n
  refine lv_aload_n hx hb d_law_245 rfl (lv_at hl 1 rfl) ?_
  refine lw_arg (j := 1) hx hb hX hbl hbA L.2.1 hl d_law_246 d_law_247 d_law_248 (by decide) d_law_249 d_law_250 (hin 1 (by decide) (by decide)) ?_
  refine lw_arg (j := 2) hx hb hX hbl hbA L.2.1 hl d_law_251 d_law_252 d_law_253 (by decide) d_law_254 d_law_255 (hin 2 (by decide) (by decide)) ?_
  refine lw_arg (j := 3) hx hb hX hbl hbA L.2.1 hl d_law_256 d_law_257 d_law_258 (by decide) d_law_259 d_law_260 (hin 3 (by decide) (by decide)) ?_
  refine lw_k (As := [.int (xs (i + 1).toNatClampNeg), .int (xs (i + 2).toNatClampNeg), .int (xs (i + 3).toNatClampNeg)]) (rest := []) x hml L hm (d_kxcall l (848000 * (K : Int)) g 0 (xs (i + 1).toNatClampNeg) (xs (i + 2).toNatClampNeg) (xs (i + 3).toNatClampNeg) H.size n1 ⟨by omega, by omega⟩ hJ (by have := hrm.1; omega) hal (Φ := fun _ Z1 g1 => MI (K + 1) Z1 g1) (i_call hMI hJ hg1 (fun _ _ _ h => h))) (lwT_C kd_X11_call lk_35 lki_35 lks_35) rfl ⟨rfl, rfl⟩ hd_kxcall ⟨Nat.le_of_ble_eq_true rfl, Nat.le_of_ble_eq_true rfl⟩ rfl hl.1 rfl (lv_room (Nat.le_of_ble_eq_true rfl)) d_law_261 ⟨show 392 + Z.w 0 + 2 ≤ 600000 by have := hrm.2.1; omega, show 307970 + Z.w 1 + (18 + n1) ≤ 7302250 by omega⟩ (fun r Z1 g1 H1 locs1 nk nn2 hk1 hk2 hp hz x L hm => ?_)
  have hMI1 : MI (K + 1) Z1 g1 := hp.1
  have hJ1 : cJ Z1 g1 := hp.2.2.2.2.1
  have ea : Z1.ad 11 0 = Z.ad 11 0 := hz.2.2.1 11 0 hal (by omega)
  rw [show 392 + Z.w 0 + nk = 392 + Z1.w 0 by have := hz.2.2.2.1; omega, show 307970 + Z.w 1 + nn2 = 307970 + Z1.w 1 by have := hz.2.2.2.2; omega]
  have hcs : 392 + Z1.w 0 ≤ 600000 ∧ 307970 + Z1.w 1 ≤ 7302250 := ⟨by have := hrm.2.1; have := hz.2.2.2.1; omega, by have := hz.2.2.2.2; omega⟩
  refine lv_pop hx hb d_law_264 rfl ?_
  refine lv_aload_n hx hb d_law_265 rfl (lv_at hl 2 rfl) ?_
  refine lw_arg (j := 1) hx hb hX hbl hbA L.2.1 hl d_law_266 d_law_267 d_law_268 (by decide) d_law_269 d_law_270 (hin 1 (by decide) (by decide)) ?_
  refine lw_arg (j := 2) hx hb hX hbl hbA L.2.1 hl d_law_271 d_law_272 d_law_273 (by decide) d_law_274 d_law_275 (hin 2 (by decide) (by decide)) ?_
  refine lw_arg (j := 3) hx hb hX hbl hbA L.2.1 hl d_law_276 d_law_277 d_law_278 (by decide) d_law_279 d_law_280 (hin 3 (by decide) (by decide)) ?_
  refine lw_m (As := [.int (xs (i + 1).toNatClampNeg), .int (xs (i + 2).toNatClampNeg), .int (xs (i + 3).toNatClampNeg)]) (rest := []) x hml L hm hKm (c_call l nn (84800 * (K : Int)) gm (xs (i + 1).toNatClampNeg) (xs (i + 2).toNatClampNeg) (xs (i + 3).toNatClampNeg) hnn ⟨by omega, by omega⟩ hmJ) (lwT_M uc_call lk_39 lki_39 lks_39) rfl ⟨rfl, rfl⟩ hd_call ⟨Nat.le_of_ble_eq_true rfl, Nat.le_of_ble_eq_true rfl⟩ rfl hl.1 rfl (lv_room (Nat.le_of_ble_eq_true rfl)) d_law_281 hcs (fun r2 gm1 H2 locs2 hp2 L hm => ?_)
  refine lv_pop hx hb d_law_284 rfl ?_
  refine lv_goto (tgt := 846) hx hb d_law_285 (by decide) ?_
  exact kk Z1 g1 gm1 H2 locs2 x ⟨L.1, L.2.1, L.2.2.mono (by omega)⟩ hJ1 hMI1 ⟨hm.1, hm.2.1.mono (by omega), hm.2.2⟩ (hp2.2.2.1) ea (hT.fr hz.1 (cDm_fr hp.2.2.1 (by decide)) (rDm_fr hp2.1 rfl rfl))
set_option maxHeartbeats 2000000 in
/-- hang -/
theorem lw_case4 (I : lwI p c s m G Gm A h0 ad b L0 xs nn K i ls Z g gm H locs) (kk : lwE p l e c s m below meth G Gm A h0 ad b nn K ls Z Q) : W p l e room_1 s m #[Value.ref b] below meth c H locs (392 + Z.w 0) (307970 + Z.w 1) Q (F0 m 288 ls []) := by
  obtain ⟨x, hml, L, hJ, hMI, hm, hmJ, hKm, hnn, hK, ⟨hX, hbl, hbA⟩, ⟨hl, hT⟩, hin⟩ := I
  have hx := x.1.1
  have hb := x.1.2.1
  have hrm := hMI.rm hJ (by omega)
  have hcs : 392 + Z.w 0 ≤ 600000 ∧ 307970 + Z.w 1 ≤ 7302250 := ⟨by have := hrm.2.1; omega, by have := hrm.2.2.1; omega⟩
  have hal : Z.al 11 0 := x.1.2.2.2.2.2.2.2.1.2 11 0 (show 0 < 1 by decide)
  refine lv_aload_n hx hb d_law_288 rfl (lv_at hl 1 rfl) ?_
  refine lw_arg (j := 1) hx hb hX hbl hbA L.2.1 hl d_law_289 d_law_290 d_law_291 (by decide) d_law_292 d_law_293 (hin 1 (by decide) (by decide)) ?_
  refine lw_arg (j := 2) hx hb hX hbl hbA L.2.1 hl d_law_294 d_law_295 d_law_296 (by decide) d_law_297 d_law_298 (hin 2 (by decide) (by decide)) ?_
  refine lw_c (As := [.int (xs (i + 1).toNatClampNeg), .int (xs (i + 2).toNatClampNeg)]) (rest := []) x hml L hm (d_khang l (848000 * (K : Int)) g 0 (xs (i + 1).toNatClampNeg) (xs (i + 2).toNatClampNeg) ⟨by omega, by omega⟩ hJ hal (Φ := fun _ g1 => MI (K + 1) Z g1) (i_hang hMI hJ (fun _ _ h => h))) (lwT_C kd_X11_hang lk_40 lki_40 lks_40) rfl ⟨rfl, rfl⟩ hd_khang ⟨Nat.le_of_ble_eq_true rfl, Nat.le_of_ble_eq_true rfl⟩ rfl hl.1 rfl (lv_room (Nat.le_of_ble_eq_true rfl)) d_law_299 hcs (fun r g1 H1 locs1 hp L hm => ?_)
  have hMI1 : MI (K + 1) Z g1 := hp.1
  have hJ1 : cJ Z g1 := hp.2.2.2.2.1
  refine lv_pop hx hb d_law_302 rfl ?_
  refine lv_aload_n hx hb d_law_303 rfl (lv_at hl 2 rfl) ?_
  refine lw_arg (j := 1) hx hb hX hbl hbA L.2.1 hl d_law_304 d_law_305 d_law_306 (by decide) d_law_307 d_law_308 (hin 1 (by decide) (by decide)) ?_
  refine lw_arg (j := 2) hx hb hX hbl hbA L.2.1 hl d_law_309 d_law_310 d_law_311 (by decide) d_law_312 d_law_313 (hin 2 (by decide) (by decide)) ?_
  refine lw_m (As := [.int (xs (i + 1).toNatClampNeg), .int (xs (i + 2).toNatClampNeg)]) (rest := []) x hml L hm hKm (c_hang l nn (84800 * (K : Int)) gm (xs (i + 1).toNatClampNeg) (xs (i + 2).toNatClampNeg) hnn ⟨by omega, by omega⟩ hmJ) (lwT_M uc_hang lk_44 lki_44 lks_44) rfl ⟨rfl, rfl⟩ hd_hang ⟨Nat.le_of_ble_eq_true rfl, Nat.le_of_ble_eq_true rfl⟩ rfl hl.1 rfl (lv_room (Nat.le_of_ble_eq_true rfl)) d_law_314 hcs (fun r2 gm1 H2 locs2 hp2 L hm => ?_)
  refine lv_pop hx hb d_law_317 rfl ?_
  refine lv_goto (tgt := 846) hx hb d_law_318 (by decide) ?_
  exact kk Z g1 gm1 H2 locs2 x ⟨L.1, L.2.1, L.2.2.mono (by omega)⟩ hJ1 hMI1 ⟨hm.1, hm.2.1.mono (by omega), hm.2.2⟩ (hp2.2.2.1) rfl (hT.fr rfl (cDm_fr hp.2.2.1 (by decide)) (rDm_fr hp2.1 rfl rfl))
set_option maxHeartbeats 2000000 in
/-- policy -/
theorem lw_case5 (I : lwI p c s m G Gm A h0 ad b L0 xs nn K i ls Z g gm H locs) (kk : lwE p l e c s m below meth G Gm A h0 ad b nn K ls Z Q) : W p l e room_1 s m #[Value.ref b] below meth c H locs (392 + Z.w 0) (307970 + Z.w 1) Q (F0 m 321 ls []) := by
  obtain ⟨x, hml, L, hJ, hMI, hm, hmJ, hKm, hnn, hK, ⟨hX, hbl, hbA⟩, ⟨hl, hT⟩, hin⟩ := I
  have hx := x.1.1
  have hb := x.1.2.1
  have hrm := hMI.rm hJ (by omega)
  have hcs : 392 + Z.w 0 ≤ 600000 ∧ 307970 + Z.w 1 ≤ 7302250 := ⟨by have := hrm.2.1; omega, by have := hrm.2.2.1; omega⟩
  have hal : Z.al 11 0 := x.1.2.2.2.2.2.2.2.1.2 11 0 (show 0 < 1 by decide)
  refine lv_aload_n hx hb d_law_321 rfl (lv_at hl 1 rfl) ?_
  refine lw_arg (j := 1) hx hb hX hbl hbA L.2.1 hl d_law_322 d_law_323 d_law_324 (by decide) d_law_325 d_law_326 (hin 1 (by decide) (by decide)) ?_
  refine lw_arg (j := 2) hx hb hX hbl hbA L.2.1 hl d_law_327 d_law_328 d_law_329 (by decide) d_law_330 d_law_331 (hin 2 (by decide) (by decide)) ?_
  refine lw_arg (j := 3) hx hb hX hbl hbA L.2.1 hl d_law_332 d_law_333 d_law_334 (by decide) d_law_335 d_law_336 (hin 3 (by decide) (by decide)) ?_
  refine lw_c (As := [.int (xs (i + 1).toNatClampNeg), .int (xs (i + 2).toNatClampNeg), .int (xs (i + 3).toNatClampNeg)]) (rest := []) x hml L hm (c_kpolicy l (848000 * (K : Int)) g 0 (xs (i + 1).toNatClampNeg) (xs (i + 2).toNatClampNeg) (xs (i + 3).toNatClampNeg) ⟨by omega, by omega⟩  hal) (lwT_C kd_X11_policy lk_45 lki_45 lks_45) rfl ⟨rfl, rfl⟩ hd_kpolicy ⟨Nat.le_of_ble_eq_true rfl, Nat.le_of_ble_eq_true rfl⟩ rfl hl.1 rfl (lv_room (Nat.le_of_ble_eq_true rfl)) d_law_337 hcs (fun r g1 H1 locs1 hp L hm => ?_)
  have hMI1 : MI (K + 1) Z g1 := hMI.no hp.1 rfl ⟨by decide, by decide⟩
  have hJ1 : cJ Z g1 := cJ_fr hJ hp.1 rfl
  refine lv_pop hx hb d_law_340 rfl ?_
  refine lv_aload_n hx hb d_law_341 rfl (lv_at hl 2 rfl) ?_
  refine lw_arg (j := 1) hx hb hX hbl hbA L.2.1 hl d_law_342 d_law_343 d_law_344 (by decide) d_law_345 d_law_346 (hin 1 (by decide) (by decide)) ?_
  refine lw_arg (j := 2) hx hb hX hbl hbA L.2.1 hl d_law_347 d_law_348 d_law_349 (by decide) d_law_350 d_law_351 (hin 2 (by decide) (by decide)) ?_
  refine lw_arg (j := 3) hx hb hX hbl hbA L.2.1 hl d_law_352 d_law_353 d_law_354 (by decide) d_law_355 d_law_356 (hin 3 (by decide) (by decide)) ?_
  refine lw_m (As := [.int (xs (i + 1).toNatClampNeg), .int (xs (i + 2).toNatClampNeg), .int (xs (i + 3).toNatClampNeg)]) (rest := []) x hml L hm hKm (c_policy l nn (84800 * (K : Int)) gm (xs (i + 1).toNatClampNeg) (xs (i + 2).toNatClampNeg) (xs (i + 3).toNatClampNeg) hnn ⟨by omega, by omega⟩ ) (lwT_M uc_policy lk_48 lki_48 lks_48) rfl ⟨rfl, rfl⟩ hd_policy ⟨Nat.le_of_ble_eq_true rfl, Nat.le_of_ble_eq_true rfl⟩ rfl hl.1 rfl (lv_room (Nat.le_of_ble_eq_true rfl)) d_law_357 hcs (fun r2 gm1 H2 locs2 hp2 L hm => ?_)
  refine lv_pop hx hb d_law_360 rfl ?_
  refine lv_goto (tgt := 846) hx hb d_law_361 (by decide) ?_
  exact kk Z g1 gm1 H2 locs2 x ⟨L.1, L.2.1, L.2.2.mono (by omega)⟩ hJ1 hMI1 ⟨hm.1, hm.2.1.mono (by omega), hm.2.2⟩ (mJ_fr hmJ hp2.1 rfl) rfl (hT.fr rfl (cDm_fr hp.1 (by decide)) (rDm_fr hp2.1 rfl rfl))
set_option maxHeartbeats 2000000 in
/-- send -/
theorem lw_case6 (I : lwI p c s m G Gm A h0 ad b L0 xs nn K i ls Z g gm H locs) (kk : lwE p l e c s m below meth G Gm A h0 ad b nn K ls Z Q) : W p l e room_1 s m #[Value.ref b] below meth c H locs (392 + Z.w 0) (307970 + Z.w 1) Q (F0 m 364 ls []) := by
  obtain ⟨x, hml, L, hJ, hMI, hm, hmJ, hKm, hnn, hK, ⟨hX, hbl, hbA⟩, ⟨hl, hT⟩, hin⟩ := I
  have hx := x.1.1
  have hb := x.1.2.1
  have hrm := hMI.rm hJ (by omega)
  have hcs : 392 + Z.w 0 ≤ 600000 ∧ 307970 + Z.w 1 ≤ 7302250 := ⟨by have := hrm.2.1; omega, by have := hrm.2.2.1; omega⟩
  have hal : Z.al 11 0 := x.1.2.2.2.2.2.2.2.1.2 11 0 (show 0 < 1 by decide)
  refine lv_aload_n hx hb d_law_364 rfl (lv_at hl 1 rfl) ?_
  refine lw_arg (j := 1) hx hb hX hbl hbA L.2.1 hl d_law_365 d_law_366 d_law_367 (by decide) d_law_368 d_law_369 (hin 1 (by decide) (by decide)) ?_
  refine lw_arg (j := 2) hx hb hX hbl hbA L.2.1 hl d_law_370 d_law_371 d_law_372 (by decide) d_law_373 d_law_374 (hin 2 (by decide) (by decide)) ?_
  refine lw_k (As := [.int (xs (i + 1).toNatClampNeg), .int (xs (i + 2).toNatClampNeg)]) (rest := []) x hml L hm (d_kxsend l (848000 * (K : Int)) g 0 (xs (i + 1).toNatClampNeg) (xs (i + 2).toNatClampNeg) H.size ⟨by omega, by omega⟩ hJ (by have := hrm.1; omega) hal (Φ := fun _ Z1 g1 => MI (K + 1) Z1 g1) (i_send hMI hJ (fun _ _ _ h => h))) (lwT_C kd_X11_send lk_49 lki_49 lks_49) rfl ⟨rfl, rfl⟩ hd_kxsend ⟨Nat.le_of_ble_eq_true rfl, Nat.le_of_ble_eq_true rfl⟩ rfl hl.1 rfl (lv_room (Nat.le_of_ble_eq_true rfl)) d_law_375 ⟨show 392 + Z.w 0 + 6 ≤ 600000 by have := hrm.2.1; omega, show 307970 + Z.w 1 + 968 ≤ 7302250 by have := hrm.2.2.1; omega⟩ (fun r Z1 g1 H1 locs1 nk nn2 hk1 hk2 hp hz x L hm => ?_)
  have hMI1 : MI (K + 1) Z1 g1 := hp.1
  have hJ1 : cJ Z1 g1 := hp.2.2.2.2.1
  have ea : Z1.ad 11 0 = Z.ad 11 0 := hz.2.2.1 11 0 hal (by omega)
  rw [show 392 + Z.w 0 + nk = 392 + Z1.w 0 by have := hz.2.2.2.1; omega, show 307970 + Z.w 1 + nn2 = 307970 + Z1.w 1 by have := hz.2.2.2.2; omega]
  have hcs : 392 + Z1.w 0 ≤ 600000 ∧ 307970 + Z1.w 1 ≤ 7302250 := ⟨by have := hrm.2.1; have := hz.2.2.2.1; omega, by have := hrm.2.2.1; have := hz.2.2.2.2; omega⟩
  refine lv_pop hx hb d_law_378 rfl ?_
  refine lv_aload_n hx hb d_law_379 rfl (lv_at hl 2 rfl) ?_
  refine lw_arg (j := 1) hx hb hX hbl hbA L.2.1 hl d_law_380 d_law_381 d_law_382 (by decide) d_law_383 d_law_384 (hin 1 (by decide) (by decide)) ?_
  refine lw_arg (j := 2) hx hb hX hbl hbA L.2.1 hl d_law_385 d_law_386 d_law_387 (by decide) d_law_388 d_law_389 (hin 2 (by decide) (by decide)) ?_
  refine lw_m (As := [.int (xs (i + 1).toNatClampNeg), .int (xs (i + 2).toNatClampNeg)]) (rest := []) x hml L hm hKm (c_send l nn (84800 * (K : Int)) gm (xs (i + 1).toNatClampNeg) (xs (i + 2).toNatClampNeg) hnn ⟨by omega, by omega⟩ hmJ) (lwT_M uc_send lk_52 lki_52 lks_52) rfl ⟨rfl, rfl⟩ hd_send ⟨Nat.le_of_ble_eq_true rfl, Nat.le_of_ble_eq_true rfl⟩ rfl hl.1 rfl (lv_room (Nat.le_of_ble_eq_true rfl)) d_law_390 hcs (fun r2 gm1 H2 locs2 hp2 L hm => ?_)
  refine lv_pop hx hb d_law_393 rfl ?_
  refine lv_goto (tgt := 846) hx hb d_law_394 (by decide) ?_
  exact kk Z1 g1 gm1 H2 locs2 x ⟨L.1, L.2.1, L.2.2.mono (by omega)⟩ hJ1 hMI1 ⟨hm.1, hm.2.1.mono (by omega), hm.2.2⟩ (hp2.2.2.1) ea (hT.fr hz.1 (cDm_fr hp.2.2.1 (by decide)) (rDm_fr hp2.1 rfl rfl))
set_option maxHeartbeats 2000000 in
/-- about -/
theorem lw_case7 (I : lwI p c s m G Gm A h0 ad b L0 xs nn K i ls Z g gm H locs) (kk : lwE p l e c s m below meth G Gm A h0 ad b nn K ls Z Q) : W p l e room_1 s m #[Value.ref b] below meth c H locs (392 + Z.w 0) (307970 + Z.w 1) Q (F0 m 397 ls []) := by
  obtain ⟨x, hml, L, hJ, hMI, hm, hmJ, hKm, hnn, hK, ⟨hX, hbl, hbA⟩, ⟨hl, hT⟩, hin⟩ := I
  have hx := x.1.1
  have hb := x.1.2.1
  have hrm := hMI.rm hJ (by omega)
  have hcs : 392 + Z.w 0 ≤ 600000 ∧ 307970 + Z.w 1 ≤ 7302250 := ⟨by have := hrm.2.1; omega, by have := hrm.2.2.1; omega⟩
  have hal : Z.al 11 0 := x.1.2.2.2.2.2.2.2.1.2 11 0 (show 0 < 1 by decide)
  refine lv_aload_n hx hb d_law_397 rfl (lv_at hl 1 rfl) ?_
  refine lw_arg (j := 1) hx hb hX hbl hbA L.2.1 hl d_law_398 d_law_399 d_law_400 (by decide) d_law_401 d_law_402 (hin 1 (by decide) (by decide)) ?_
  refine lw_arg (j := 2) hx hb hX hbl hbA L.2.1 hl d_law_403 d_law_404 d_law_405 (by decide) d_law_406 d_law_407 (hin 2 (by decide) (by decide)) ?_
  refine lw_arg (j := 3) hx hb hX hbl hbA L.2.1 hl d_law_408 d_law_409 d_law_410 (by decide) d_law_411 d_law_412 (hin 3 (by decide) (by decide)) ?_
  refine lw_c (As := [.int (xs (i + 1).toNatClampNeg), .int (xs (i + 2).toNatClampNeg), .int (xs (i + 3).toNatClampNeg)]) (rest := []) x hml L hm (c_kabout l (848000 * (K : Int)) g 0 (xs (i + 1).toNatClampNeg) (xs (i + 2).toNatClampNeg) (xs (i + 3).toNatClampNeg) ⟨by omega, by omega⟩ hJ hal) (lwT_C kd_X11_about lk_53 lki_53 lks_53) rfl ⟨rfl, rfl⟩ hd_kabout ⟨Nat.le_of_ble_eq_true rfl, Nat.le_of_ble_eq_true rfl⟩ rfl hl.1 rfl (lv_room (Nat.le_of_ble_eq_true rfl)) d_law_413 hcs (fun r g1 H1 locs1 hp L hm => ?_)
  have hMI1 : MI (K + 1) Z g1 := hMI.no hp.1 rfl ⟨by decide, by decide⟩
  have hJ1 : cJ Z g1 := hp.2.2.1
  refine lv_pop hx hb d_law_416 rfl ?_
  refine lv_aload_n hx hb d_law_417 rfl (lv_at hl 2 rfl) ?_
  refine lw_arg (j := 1) hx hb hX hbl hbA L.2.1 hl d_law_418 d_law_419 d_law_420 (by decide) d_law_421 d_law_422 (hin 1 (by decide) (by decide)) ?_
  refine lw_arg (j := 2) hx hb hX hbl hbA L.2.1 hl d_law_423 d_law_424 d_law_425 (by decide) d_law_426 d_law_427 (hin 2 (by decide) (by decide)) ?_
  refine lw_arg (j := 3) hx hb hX hbl hbA L.2.1 hl d_law_428 d_law_429 d_law_430 (by decide) d_law_431 d_law_432 (hin 3 (by decide) (by decide)) ?_
  refine lw_m (As := [.int (xs (i + 1).toNatClampNeg), .int (xs (i + 2).toNatClampNeg), .int (xs (i + 3).toNatClampNeg)]) (rest := []) x hml L hm hKm (c_about l nn (84800 * (K : Int)) gm (xs (i + 1).toNatClampNeg) (xs (i + 2).toNatClampNeg) (xs (i + 3).toNatClampNeg) hnn ⟨by omega, by omega⟩ ) (lwT_M uc_about lk_56 lki_56 lks_56) rfl ⟨rfl, rfl⟩ hd_about ⟨Nat.le_of_ble_eq_true rfl, Nat.le_of_ble_eq_true rfl⟩ rfl hl.1 rfl (lv_room (Nat.le_of_ble_eq_true rfl)) d_law_433 hcs (fun r2 gm1 H2 locs2 hp2 L hm => ?_)
  refine lv_pop hx hb d_law_436 rfl ?_
  refine lv_goto (tgt := 846) hx hb d_law_437 (by decide) ?_
  exact kk Z g1 gm1 H2 locs2 x ⟨L.1, L.2.1, L.2.2.mono (by omega)⟩ hJ1 hMI1 ⟨hm.1, hm.2.1.mono (by omega), hm.2.2⟩ (mJ_fr hmJ hp2.1 rfl) rfl (hT.fr rfl (cDm_fr hp.1 (by decide)) (rDm_fr hp2.1 rfl rfl))
set_option maxHeartbeats 2000000 in
/-- calls -/
theorem lw_case8 (I : lwI p c s m G Gm A h0 ad b L0 xs nn K i ls Z g gm H locs) (kk : lwE p l e c s m below meth G Gm A h0 ad b nn K ls Z Q) : W p l e room_1 s m #[Value.ref b] below meth c H locs (392 + Z.w 0) (307970 + Z.w 1) Q (F0 m 440 ls []) := by
  obtain ⟨x, hml, L, hJ, hMI, hm, hmJ, hKm, hnn, hK, ⟨hX, hbl, hbA⟩, ⟨hl, hT⟩, hin⟩ := I
  have hx := x.1.1
  have hb := x.1.2.1
  have hrm := hMI.rm hJ (by omega)
  have hcs : 392 + Z.w 0 ≤ 600000 ∧ 307970 + Z.w 1 ≤ 7302250 := ⟨by have := hrm.2.1; omega, by have := hrm.2.2.1; omega⟩
  have hal : Z.al 11 0 := x.1.2.2.2.2.2.2.2.1.2 11 0 (show 0 < 1 by decide)
  refine lv_aload_n hx hb d_law_440 rfl (lv_at hl 1 rfl) ?_
  refine lw_arg (j := 1) hx hb hX hbl hbA L.2.1 hl d_law_441 d_law_442 d_law_443 (by decide) d_law_444 d_law_445 (hin 1 (by decide) (by decide)) ?_
  refine lw_c (As := [.int (xs (i + 1).toNatClampNeg)]) (rest := []) x hml L hm (c_kcalls l (848000 * (K : Int)) g 0 (xs (i + 1).toNatClampNeg) ⟨by omega, by omega⟩  hal) (lwT_C kd_X11_calls lk_57 lki_57 lks_57) rfl ⟨rfl, rfl⟩ hd_kcalls ⟨Nat.le_of_ble_eq_true rfl, Nat.le_of_ble_eq_true rfl⟩ rfl hl.1 rfl (lv_room (Nat.le_of_ble_eq_true rfl)) d_law_446 hcs (fun r g1 H1 locs1 hp L hm => ?_)
  have hMI1 : MI (K + 1) Z g1 := hMI.no hp.1 rfl ⟨by decide, by decide⟩
  have hJ1 : cJ Z g1 := cJ_fr hJ hp.1 rfl
  refine lv_pop hx hb d_law_449 rfl ?_
  refine lv_aload_n hx hb d_law_450 rfl (lv_at hl 2 rfl) ?_
  refine lw_arg (j := 1) hx hb hX hbl hbA L.2.1 hl d_law_451 d_law_452 d_law_453 (by decide) d_law_454 d_law_455 (hin 1 (by decide) (by decide)) ?_
  refine lw_m (As := [.int (xs (i + 1).toNatClampNeg)]) (rest := []) x hml L hm hKm (c_calls l nn (84800 * (K : Int)) gm (xs (i + 1).toNatClampNeg) hnn ⟨by omega, by omega⟩ ) (lwT_M uc_calls lk_60 lki_60 lks_60) rfl ⟨rfl, rfl⟩ hd_calls ⟨Nat.le_of_ble_eq_true rfl, Nat.le_of_ble_eq_true rfl⟩ rfl hl.1 rfl (lv_room (Nat.le_of_ble_eq_true rfl)) d_law_456 hcs (fun r2 gm1 H2 locs2 hp2 L hm => ?_)
  refine lv_pop hx hb d_law_459 rfl ?_
  refine lv_goto (tgt := 846) hx hb d_law_460 (by decide) ?_
  exact kk Z g1 gm1 H2 locs2 x ⟨L.1, L.2.1, L.2.2.mono (by omega)⟩ hJ1 hMI1 ⟨hm.1, hm.2.1.mono (by omega), hm.2.2⟩ (mJ_fr hmJ hp2.1 rfl) rfl (hT.fr rfl (cDm_fr hp.1 (by decide)) (rDm_fr hp2.1 rfl rfl))
set_option maxHeartbeats 2000000 in
/-- received -/
theorem lw_case9 (I : lwI p c s m G Gm A h0 ad b L0 xs nn K i ls Z g gm H locs) (kk : lwE p l e c s m below meth G Gm A h0 ad b nn K ls Z Q) : W p l e room_1 s m #[Value.ref b] below meth c H locs (392 + Z.w 0) (307970 + Z.w 1) Q (F0 m 463 ls []) := by
  obtain ⟨x, hml, L, hJ, hMI, hm, hmJ, hKm, hnn, hK, ⟨hX, hbl, hbA⟩, ⟨hl, hT⟩, hin⟩ := I
  have hx := x.1.1
  have hb := x.1.2.1
  have hrm := hMI.rm hJ (by omega)
  have hcs : 392 + Z.w 0 ≤ 600000 ∧ 307970 + Z.w 1 ≤ 7302250 := ⟨by have := hrm.2.1; omega, by have := hrm.2.2.1; omega⟩
  have hal : Z.al 11 0 := x.1.2.2.2.2.2.2.2.1.2 11 0 (show 0 < 1 by decide)
  refine lv_aload_n hx hb d_law_463 rfl (lv_at hl 1 rfl) ?_
  refine lw_arg (j := 1) hx hb hX hbl hbA L.2.1 hl d_law_464 d_law_465 d_law_466 (by decide) d_law_467 d_law_468 (hin 1 (by decide) (by decide)) ?_
  refine lw_arg (j := 2) hx hb hX hbl hbA L.2.1 hl d_law_469 d_law_470 d_law_471 (by decide) d_law_472 d_law_473 (hin 2 (by decide) (by decide)) ?_
  refine lw_arg (j := 3) hx hb hX hbl hbA L.2.1 hl d_law_474 d_law_475 d_law_476 (by decide) d_law_477 d_law_478 (hin 3 (by decide) (by decide)) ?_
  refine lw_c (As := [.int (xs (i + 1).toNatClampNeg), .int (xs (i + 2).toNatClampNeg), .int (xs (i + 3).toNatClampNeg)]) (rest := []) x hml L hm (c_kreceived l (848000 * (K : Int)) g 0 (xs (i + 1).toNatClampNeg) (xs (i + 2).toNatClampNeg) (xs (i + 3).toNatClampNeg) ⟨by omega, by omega⟩  hal) (lwT_C kd_X11_received lk_61 lki_61 lks_61) rfl ⟨rfl, rfl⟩ hd_kreceived ⟨Nat.le_of_ble_eq_true rfl, Nat.le_of_ble_eq_true rfl⟩ rfl hl.1 rfl (lv_room (Nat.le_of_ble_eq_true rfl)) d_law_479 hcs (fun r g1 H1 locs1 hp L hm => ?_)
  have hMI1 : MI (K + 1) Z g1 := hMI.no hp.1 rfl ⟨by decide, by decide⟩
  have hJ1 : cJ Z g1 := cJ_fr hJ hp.1 rfl
  refine lv_pop hx hb d_law_482 rfl ?_
  refine lv_aload_n hx hb d_law_483 rfl (lv_at hl 2 rfl) ?_
  refine lw_arg (j := 1) hx hb hX hbl hbA L.2.1 hl d_law_484 d_law_485 d_law_486 (by decide) d_law_487 d_law_488 (hin 1 (by decide) (by decide)) ?_
  refine lw_arg (j := 2) hx hb hX hbl hbA L.2.1 hl d_law_489 d_law_490 d_law_491 (by decide) d_law_492 d_law_493 (hin 2 (by decide) (by decide)) ?_
  refine lw_arg (j := 3) hx hb hX hbl hbA L.2.1 hl d_law_494 d_law_495 d_law_496 (by decide) d_law_497 d_law_498 (hin 3 (by decide) (by decide)) ?_
  refine lw_m (As := [.int (xs (i + 1).toNatClampNeg), .int (xs (i + 2).toNatClampNeg), .int (xs (i + 3).toNatClampNeg)]) (rest := []) x hml L hm hKm (c_received l nn (84800 * (K : Int)) gm (xs (i + 1).toNatClampNeg) (xs (i + 2).toNatClampNeg) (xs (i + 3).toNatClampNeg) hnn ⟨by omega, by omega⟩ ) (lwT_M uc_received lk_64 lki_64 lks_64) rfl ⟨rfl, rfl⟩ hd_received ⟨Nat.le_of_ble_eq_true rfl, Nat.le_of_ble_eq_true rfl⟩ rfl hl.1 rfl (lv_room (Nat.le_of_ble_eq_true rfl)) d_law_499 hcs (fun r2 gm1 H2 locs2 hp2 L hm => ?_)
  refine lv_pop hx hb d_law_502 rfl ?_
  refine lv_goto (tgt := 846) hx hb d_law_503 (by decide) ?_
  exact kk Z g1 gm1 H2 locs2 x ⟨L.1, L.2.1, L.2.2.mono (by omega)⟩ hJ1 hMI1 ⟨hm.1, hm.2.1.mono (by omega), hm.2.2⟩ (mJ_fr hmJ hp2.1 rfl) rfl (hT.fr rfl (cDm_fr hp.1 (by decide)) (rDm_fr hp2.1 rfl rfl))
end LawCases
