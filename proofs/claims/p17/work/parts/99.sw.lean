/-! cells come: at an end, at the switch -/
theorem MV.dn {t u : Int} {R B : Nat → Nat} {p : Nat → Prop} {Z Z1 : cZ} {g g1 : mSt} {e R1 : Nat} (h : MV t R B u p Z g) (hJ : cJ Z g) (he : e < Z.n) (k : ER e Z g Z1 g1) (hro : ro g1 e ≤ R1) : MV t (fun x => if x = e then R1 else R x) B u p Z1 g1 := by
  obtain ⟨⟨kn, krs⟩, ks, fb, kw, kv⟩ := k
  have sc := fB_sC he fb
  have ss : ∀ f, f < Z.n → sS Z.n f g g1 := fun f hf => fB_sS he h.hn.2 hf fb
  have sd : ∀ f, sD f g g1 := fun f => fB_sD (fun z => absurd z (by decide)) fb
  have h1216 : g1 1216 = g 1216 := funext fun x => fb.at (by decide) (by decide) (fun z => absurd z (by decide)) (by omega)
  have := h.one (δ := 0) (R1 := fun x => if x = e then R1 else R x) (B1 := B) (p1 := p) (Z1 := Z1) (g1 := g1) he (sc.ci h.hc (cJ_z hJ)) krs h1216 (fun f hf hne => ⟨fB_sE hne fb, ss f hf, sd f⟩) (fun f hf => ⟨if_neg hf, rfl, Iff.rfl⟩) (fun h0 k1 k2 k3 k4 k5 k6 => ⟨h0, ⟨?_, k5.sm (ss e he), (sd e).od k6⟩, k1.sm (ss e he) k5.2.2.1.2.2, fun z => (k2 z).sm (sd e), k3, ?_⟩)
  · rw [Int.add_zero] at this
    exact this
  · obtain ⟨⟨a, b, c, d⟩, x, y⟩ := k4
    refine ⟨⟨ks.1.2.2.2.1 a, ks.1.2.2.2.2.1 b, ks.1.2.2.1, fun c' hc' => ?_⟩, fb.2.2.2.2 x, by rw [if_pos rfl]; exact hro⟩
    rcases ks.1.2.1 c' hc' with z | ⟨u', cs, z1, z2, z3⟩
    · exact d c' z
    · exact gcell_all z1 z2 z3
  · have a1 := ks.1.1 h0.2.2.2.1
    have a2 := ks.1.2.2.2.2.2
    have a3 := ks.2.1
    unfold uF XI
    rw [sc.lt h.hc (cJ_z hJ), (ss e he).lk, (ss e he).lf, (sd e).d]
    omega
/-- what came of a link at the switch -/
theorem MVG.cl {t u : Int} {R B : Nat → Nat} {p : Nat → Prop} {Z Z1 : cZ} {g g1 : mSt} {G : Nat → Gh} {f B1 : Nat} {bK bS : Prop} {w a1 d1 : Nat} (h : MVG t R B u p Z g G) (hf : f < Z.n) (ar : AR Z.n f t Z g bK bS w 0 0 Z1 g1) (rb : RB B1 g1 (2 * f)) (ha : (a1 = 0 ↔ AG g1 (2 * f)) ∧ a1 ≤ 1) (hd : (d1 = 0 ↔ GP g1 (2 * f)) ∧ d1 ≤ 1)
    (hx : 5 * XI Z.n t Z1 g1 + 5 * lkT (G f).2.2.2.1 a1 g1 (Z.n + f) + 1500 * (a1 : Int) + 6000 * (d1 : Int) ≤ 5 * XI Z.n t Z g + 5 * lkT (G f).1 (G f).2.1 g (Z.n + f) + 1500 * ((G f).2.1 : Int) + 6000 * ((G f).2.2.1 : Int) + (G f).2.2.2.2 + 320) : MV t R (fun x => if x = f then B1 else B x) (u + 320) (fun x => x ≠ f ∧ p x) Z1 g1 := by
  obtain ⟨⟨_, r2, r3, r4⟩, ⟨c1, c2, c3, c4⟩, _, l1, fa⟩ := ar
  have se : ∀ e, e < Z.n → sE e (Z.w 2) g (Z1.w 2) g1 := fun e he => FA_sE he fa r2 c4
  have sd : ∀ e, sD e g g1 := fun e => FA_sD fa
  have h1216 : g1 1216 = g 1216 := funext fun x => fa.at (by decide) (by decide) (by omega)
  have ev := h.2.2.2.2.1 f hf
  refine ⟨_, h.one (δ := 320) (s := f) (h1 := ((G f).2.2.2.1, a1, d1, (G f).2.2.2.1, 0)) (R1 := R) (B1 := fun x => if x = f then B1 else B x) (p1 := fun x => x ≠ f ∧ p x) hf c1 r4 h1216 (fun e he hne => ⟨se e he, FA_sS hne fa, sd e⟩) (fun x hx => ⟨rfl, if_neg hx, ⟨fun z => z.2, fun z => ⟨hx, z⟩⟩⟩) ⟨ev.1.sm (se f hf).1, ⟨c2, c3, by rw [if_pos rfl]; exact rb⟩, (sd f).od ev.2.2⟩ ⟨ha, hd⟩ (fun z => absurd rfl z.1) (fun _ => ⟨rfl, rfl⟩) ?_⟩
  have e3 : (Z1.w 3 : Int) = (Z.w 3 : Int) := by rw [r3]
  unfold uF
  dsimp only
  rw [(se f hf).1.pe, (se f hf).d, (se f hf).1.pa, (se f hf).1.1 135 (by omega), (sd f).d]
  omega
theorem m_up {TC TS i0 f : Nat} {Z : cZ} {g : mSt} {p1 tI : Int32} {u : Int} {R B : Nat → Nat} {p : Nat → Prop} {Φ : Int32 → cZ → mSt → Prop} (h : MV tI.toInt R B u p Z g) (hf : f < Z.n) (hp1 : p1.toInt = ((2 * f : Nat) : Int)) (ht : 0 ≤ tI.toInt ∧ tI.toInt ≤ 1000000000) (h362 : g 362 i0 = tI) (hB : B f + 265 ≤ 1000000000) (hpf : p f) (hu : u ≤ 35543000) (hTC : 596700 ≤ TC) (hTS : 6826000 ≤ TS) (k : ∀ Z1 g1, MV tI.toInt R (fun x => if x = f then B f + 265 else B x) (u + 320) (fun x => x ≠ f ∧ p x) Z1 g1 → Φ 0 Z1 g1) : wp_karrive TC TS Z i0 p1 (2 * f) g Φ := by
  have hroom : ∀ (Z1 : cZ) (g1 : mSt), cJ Z1 g1 → Z1.n = Z.n → rS Z g Z1 g1 → Z1.w 3 = Z.w 3 → XI Z.n tI.toInt Z1 g1 ≤ XI Z.n tI.toInt Z g + 400 → CI Z.n (Z1.w 2) g1 → RM Z1 g1 TC TS := fun Z1 g1 hJ _ hrs h3 hx hci => h.rx hu hTC hTS hJ hrs hci (by rw [h3]; omega)
  obtain ⟨G, h⟩ := h
  obtain ⟨gh, gp, _⟩ := h.2.2.2.2.2.1 f hf
  obtain ⟨_, sv, _⟩ := h.2.2.2.2.1 f hf
  have hA : CI Z.n (Z.w 2) g ∧ lnI tI.toInt g (Z.n + f) ∧ OH g (Z.n + f) := ⟨h.2.1, sv.1, sv.2.1⟩
  rcases gp hpf with ⟨l, a, b, c, d1, d2⟩ | ⟨z, a, b, c, d⟩
  · refine k_linkC hf hp1 ht h362 hB a b c sv.2.2 hA hroom (fun Z1 g1 w hw ar rb gpn agn => k Z1 g1 ?_)
    obtain ⟨a', x1, x2, x3⟩ := lk_clean (m := (G f).1) (d := (G f).2.2.1) gh.1.1 gh.2.1 gh.1.2 hw (opL_3 h.2.1.1 hf) ar agn
    refine h.cl (d1 := 0) hf ar rb ⟨x1, x2⟩ ⟨⟨fun _ => gpn, fun _ => rfl⟩, Nat.zero_le _⟩ ?_
    rw [d1, d2]
    omega
  · refine k_linkD hf hp1 ht h362 hB b c a sv.2.2 hA hroom (fun Z1 g1 w hw ar rb => k Z1 g1 ?_)
    obtain ⟨a', d', x1, x2, x3, x4, x5⟩ := lk_any (a := (G f).2.1) (d := (G f).2.2.1) (m := (G f).1) (m' := (G f).2.2.2.1) hw ar
    refine h.cl hf ar rb ⟨x1, x3⟩ ⟨x2, x4⟩ ?_
    rw [d]
    omega
theorem m_dn {TC TS i0 e R1 : Nat} {Z : cZ} {g : mSt} {p1 : Int32} {t u : Int} {R B : Nat → Nat} {p : Nat → Prop} {Φ : Int32 → cZ → mSt → Prop} (h : MV t R B u p Z g) (hJ : cJ Z g) (he : e < Z.n) (hp1 : p1.toInt = ((2 * e + 1 : Nat) : Int)) (hR : R e + 300 ≤ 16000000) (hR1 : R e + 212 ≤ R1) (hu : u ≤ 35543000) (hTC : 596700 ≤ TC) (hTS : 6826000 ≤ TS) (k : ∀ Z1 g1, MV t (fun x => if x = e then R1 else R x) B u p Z1 g1 → Φ 0 Z1 g1) : wp_karrive TC TS Z i0 p1 (2 * e + 1) g Φ := by
  obtain ⟨⟨⟨a, b, c, _⟩, _, y⟩, _, _⟩ := h.ev he
  exact k_arrE he hp1 c a b (by omega) (fun Z1 g1 hJ1 er => (h.dn hJ he er (Nat.le_refl _)).rm hJ1 hu hTC hTS) (fun Z1 g1 er hro => k Z1 g1 (h.dn hJ he er (by omega)))
/-! time goes on -/
theorem LT_tick {n N : Nat} {t : Int} {g : mSt} (h : CL n N g) (hn : n ≤ 4) : LT n g t ≤ LT n g (t + 1) + 12 := by
  have : ∀ m, m ≤ n → smN m (fun f => lfL g t (n + f)) ≤ smN m (fun f => lfL g (t + 1) (n + f)) + m * 3 := fun m => by
    induction m with
    | zero => exact fun _ => Nat.zero_le _
    | succ m ih =>
      intro hm
      have i := ih (by omega)
      have a : lfL g t (n + m) ≤ lfL g (t + 1) (n + m) + opL g (n + m) := by
        have : ∀ k, smN k (fun p => lf g t (lsE g (n + m) p)) ≤ smN k (fun p => lf g (t + 1) (lsE g (n + m) p)) + smN k (fun p => if (g 36 (lsE g (n + m) p)).toInt = 0 then 0 else 1) := fun k => by
          induction k with
          | zero => exact Nat.le_refl _
          | succ k ih2 =>
            have x := @lf_tick g t (lsE g (n + m) k)
            show smN k (fun p => lf g t (lsE g (n + m) p)) + lf g t (lsE g (n + m) k) ≤ smN k (fun p => lf g (t + 1) (lsE g (n + m) p)) + lf g (t + 1) (lsE g (n + m) k) + (smN k (fun p => if (g 36 (lsE g (n + m) p)).toInt = 0 then 0 else 1) + (if (g 36 (lsE g (n + m) k)).toInt = 0 then 0 else 1))
            omega
        exact this _
      have b := opL_3 h (show m < n by omega)
      show smN m (fun f => lfL g t (n + f)) + lfL g t (n + m) ≤ smN m (fun f => lfL g (t + 1) (n + f)) + lfL g (t + 1) (n + m) + (m + 1) * 3
      omega
  have := this n (Nat.le_refl _)
  unfold LT
  omega
theorem MV.tk {t u : Int} {R B : Nat → Nat} {p : Nat → Prop} {Z : cZ} {g : mSt} (h : MV t R B u p Z g) : MV (t + 1) R B (u + 108) p Z g := by
  obtain ⟨G, hn, hc, h3, h4, ev, hG, hU⟩ := h
  refine ⟨G, hn, hc, h3, h4, fun e he => ?_, hG, ?_⟩
  · obtain ⟨a, b, c⟩ := ev e he
    exact ⟨a, ⟨lnI_tick b.1, b.2.1, b.2.2⟩, c⟩
  · have l := LT_tick (t := t) hc.1 hn.2
    have s := smZ_ad (n := Z.n) (F := fun f => uF Z.n (Z.w 2) g t (G f) f) (F1 := fun f => uF Z.n (Z.w 2) g (t + 1) (G f) f) (d := 12) (fun f _ => by
      have := @lfG_tick g t (Z.n + f)
      show uF Z.n (Z.w 2) g (t + 1) (G f) f ≤ uF Z.n (Z.w 2) g t (G f) f + 12
      unfold uF
      omega)
    unfold UU XI at hU ⊢
    omega
theorem MV.le {t u u1 : Int} {R R1 B B1 : Nat → Nat} {p p1 : Nat → Prop} {Z : cZ} {g : mSt} (h : MV t R B u p Z g) (hu : u ≤ u1) (hR : ∀ e, e < Z.n → R e ≤ R1 e) (hB : ∀ e, e < Z.n → B e ≤ B1 e) (hp : ∀ f, f < Z.n → (p1 f ↔ p f)) : MV t R1 B1 u1 p1 Z g := by
  obtain ⟨G, hn, hc, h3, h4, ev, hG, hU⟩ := h
  refine ⟨G, hn, hc, h3, h4, fun e he => ?_, fun f hf => ?_, Int.le_trans hU hu⟩
  · obtain ⟨a, b, c⟩ := ev e he
    have x := hR e he
    have y := hB e he
    refine ⟨⟨a.1, a.2.1, Nat.le_trans a.2.2 x⟩, ⟨b.1, b.2.1, ⟨⟨b.2.2.1.1, ?_, b.2.2.1.2.2⟩, b.2.2.2⟩⟩, c⟩
    have := b.2.2.1.2.1
    omega
  · obtain ⟨a, b, c⟩ := hG f hf
    exact ⟨a, fun z => b ((hp f hf).mp z), fun z => c (fun w => z ((hp f hf).mpr w))⟩
/-! a call of tick -/
def MT (i0 : Nat) (t0 u0 : Int) (R0 B0 k : Nat) (Z : cZ) (g : mSt) : Prop := MV (t0 + k) (fun _ => R0 + 212 * k) (fun _ => B0 + 265 * k) (u0 + 1388 * k) (fun _ => False) Z g ∧ (g 362 i0).toInt = t0 + k
set_option maxHeartbeats 4000000 in
theorem k_tick {TC TS i0 R0 B0 : Nat} {Z0 : cZ} {p1 : Int32} {g0 : mSt} {t0 u0 : Int} {Φ : Int32 → cZ → mSt → Prop} (h : MT i0 t0 u0 R0 B0 0 Z0 g0) (ht : 0 ≤ t0 ∧ t0 ≤ 900000000) (hR : R0 + 212 * 60 ≤ 15900000) (hB : B0 + 265 * 60 ≤ 900000000) (hu : u0 + 1388 * 50 ≤ 35543000) (hTC : 596700 ≤ TC) (hTS : 6826000 ≤ TS) (hk : ∀ r Z g, (∃ k, k ≤ 50 ∧ MT i0 t0 u0 R0 B0 k Z g) → (g 1152 = g0 1152 ∧ g 361 = g0 361) → tkD (Z0.n : Int) p1 (cDm g0) (cDm g) → Φ r Z g) : wp_ktick TC TS Z0 i0 p1 g0 Φ := by
  obtain ⟨n0, en0⟩ : ∃ n, n = Z0.n := ⟨_, rfl⟩
  rw [← en0] at hk
  intro Z eZ
  subst eZ
  refine ⟨fun cl => hk _ _ _ ⟨0, by omega, h⟩ ⟨rfl, rfl⟩ ⟨fun z => absurd z (by omega), fun _ _ => rfl⟩, fun cg => ⟨fun c50 => ⟨fun a Zx g => 0 ≤ a.toInt ∧ a.toInt ≤ p1.toInt ∧ tkP n0 a.toInt.toNat 0 (cDm g0) (cDm g) ∧ MT i0 t0 u0 R0 B0 a.toInt.toNat Zx g, fun a Zx g7 f7 _ hJ7 hZ7 ra ⟨a0, a1, td, mt⟩ => ⟨fun c v11 e11 _ => hk _ _ _ ⟨a.toInt.toNat, by omega, mt⟩ ⟨f7 1152 (by decide), f7 361 (by decide)⟩ ⟨fun _ => tkP_end td (by omega), fun z => absurd ⟨cg, c50⟩ z⟩, fun c v13 e13 _ v14 e14 _ g15 e15 => ?_⟩, ⟨by decide, by show (0 : Int) ≤ _; omega, tkP_z (by decide), h⟩⟩, fun cb => hk _ _ _ ⟨0, by omega, h⟩ ⟨rfl, rfl⟩ ⟨fun z => absurd z (by omega), fun _ _ => rfl⟩⟩⟩
  obtain ⟨mv, tm⟩ := mt
  obtain ⟨k, ek⟩ : ∃ x, x = a.toInt.toNat := ⟨_, rfl⟩
  rw [← ek] at mv tm td
  have hk50 : k < 50 := by omega
  have t13 : v13.toInt = t0 + k := by rw [e13]; exact tm
  have t14 : v14.toInt = t0 + k + 1 := by rw [e14, add_i (by rw [t13]; have : (1 : Int32).toInt = 1 := by decide
                                                             omega), t13]; rfl
  have k15 : mFr [362] g7 g15 := fun j hj => by rw [e15, up2_of (by simpa using hj)]
  have m15 : MV v14.toInt (fun _ => R0 + 212 * k) (fun _ => B0 + 265 * k) (u0 + 1388 * k + 108) (fun _ => False) Zx g15 := by
    rw [t14]
    exact (mv.fr k15 (by decide)).tk
  have t15 : g15 362 i0 = v14 := by rw [e15, up2_i]
  have hn0 := mv.hn
  refine ⟨fun _ Zy g => MV v14.toInt (fun _ => R0 + 212 * k) (fun _ => B0 + 265 * k) (u0 + 1388 * k + 108) (fun _ => False) Zy g, fun s Zy g17 k17 _ hJ17 hZ17 rs m17 v20 e20 _ => ⟨fun c20 => ?_, fun c20 => ⟨fun cs v74 e74 _ => ?_, fun cs sx esx v97 e97 _ => ?_⟩⟩, m15⟩
  · -- the rest of a tick
    have t17 : g17 362 i0 = v14 := by rw [k17 362 (by decide), t15]
    refine ⟨fun _ Zz g => MV v14.toInt (fun _ => R0 + 212 * k) (fun _ => B0 + 265 * k) (u0 + 1388 * k + 108) (fun _ => False) Zz g, fun e Zz g24 k24 _ hJ24 hZ24 re m24 v26 e26 _ => ⟨fun c26 => ?_, fun c26 v63 e63 _ t63 => ?_⟩, m17⟩
    · have t24 : g24 362 i0 = v14 := by rw [k24 362 (by decide), t17]
      refine ⟨fun d Zw g => tkP n0 k d.toInt.toNat (cDm g0) (cDm g) ∧ MV v14.toInt (fun _ => R0 + 212 * k) (fun _ => B0 + 265 * k) (u0 + 1388 * k + 108) (fun f => ((2 * f : Nat) : Int) < d.toInt) Zw g, fun d Zw g30 k30 _ hJ30 hZ30 rd ⟨td30, m30⟩ v33 e33 _ => ⟨fun c33 => ?_, fun c33 v51 e51 _ => ?_⟩, ?_⟩
      · -- the cells come
        have td37 : tkP n0 (k + 1) 0 (cDm g0) (cDm g30) := tkP_next td30 (by omega)
        have t30 : g30 362 i0 = v14 := by rw [k30 362 (by decide), t24]
        have rd : 0 ≤ d.toInt ∧ d.toInt ≤ 8 := rd
        refine ⟨fun d Zv g => MV v14.toInt (fun e => if ((2 * e + 1 : Nat) : Int) < d.toInt then R0 + 212 * k + 212 else R0 + 212 * k) (fun f => if ((2 * f : Nat) : Int) < d.toInt then B0 + 265 * k + 265 else B0 + 265 * k) (u0 + 1388 * k + 108 + 320 * ((d.toInt + 1) / 2)) (fun f => ¬ ((2 * f : Nat) : Int) < d.toInt) Zv g, fun d Zv g37 k37 _ hJ37 hZ37 rd2 m37 v40 e40 _ => ⟨fun c40 v43 e43 _ t43 => ?_, fun c40 => ?_⟩, ?_⟩
        · -- a tick is over
          have rd2 : 0 ≤ d.toInt ∧ d.toInt ≤ 8 := rd2
          have hn1 := m37.hn
          refine ⟨by omega, by omega, tkP_d (tkP_fr td37 (cDm_fr k37 (by decide))) rfl (by omega), ?_, ?_⟩
          · rw [show v43.toInt.toNat = k + 1 by omega]
            have e1 : t0 + ((k + 1 : Nat) : Int) = v14.toInt := by omega
            rw [e1]
            refine m37.le ?_ (fun e he => ?_) (fun f hf => ?_) (fun f hf => ⟨fun z => z.elim, fun z => by exfalso; omega⟩)
            · have : (d.toInt + 1) / 2 ≤ 4 := by omega
              omega
            · show (if ((2 * e + 1 : Nat) : Int) < d.toInt then R0 + 212 * k + 212 else R0 + 212 * k) ≤ R0 + 212 * (k + 1)
              split <;> omega
            · show (if ((2 * f : Nat) : Int) < d.toInt then B0 + 265 * k + 265 else B0 + 265 * k) ≤ B0 + 265 * (k + 1)
              split <;> omega
          · rw [k37 362 (by decide), t30, show v43.toInt.toNat = k + 1 by omega]
            omega
        · -- what comes
          have rd2 : 0 ≤ d.toInt ∧ d.toInt ≤ 8 := rd2
          have t37 : g37 362 i0 = v14 := by rw [k37 362 (by decide), t30]
          have hn1 := m37.hn
          have d7 : (d.toInt + 1) / 2 ≤ 4 := by omega
          by_cases par : d.toInt % 2 = 0
          · obtain ⟨f, ef⟩ : ∃ f : Nat, d.toInt = ((2 * f : Nat) : Int) := ⟨(d.toInt / 2).toNat, by omega⟩
            have hf : f < Zv.n := by omega
            rw [show d.toInt.toNat = 2 * f by omega]
            have hBf : (if ((2 * f : Nat) : Int) < d.toInt then B0 + 265 * k + 265 else B0 + 265 * k) = B0 + 265 * k := if_neg (by omega)
            refine m_up (tI := v14) m37 hf ef (by omega) t37 (by show (if ((2 * f : Nat) : Int) < d.toInt then B0 + 265 * k + 265 else B0 + 265 * k) + 265 ≤ _; rw [hBf]; omega) (by show ¬ _; omega) (by omega) hTC hTS (fun Z1 g1 m1 hpo46 Z2 eZ2 v48 _ _ t48 => ?_)
            subst eZ2
            refine m1.le (by omega) (fun e he => ?_) (fun x hx => ?_) (fun x hx => ?_)
            · show (if ((2 * e + 1 : Nat) : Int) < d.toInt then R0 + 212 * k + 212 else R0 + 212 * k) ≤ (if ((2 * e + 1 : Nat) : Int) < v48.toInt then R0 + 212 * k + 212 else R0 + 212 * k)
              split <;> split <;> omega
            · show (if x = f then (if ((2 * f : Nat) : Int) < d.toInt then B0 + 265 * k + 265 else B0 + 265 * k) + 265 else (if ((2 * x : Nat) : Int) < d.toInt then B0 + 265 * k + 265 else B0 + 265 * k)) ≤ (if ((2 * x : Nat) : Int) < v48.toInt then B0 + 265 * k + 265 else B0 + 265 * k)
              rw [hBf]
              split <;> split <;> (try split) <;> omega
            · show (¬ ((2 * x : Nat) : Int) < v48.toInt) ↔ (x ≠ f ∧ ¬ ((2 * x : Nat) : Int) < d.toInt)
              omega
          · obtain ⟨e, ee⟩ : ∃ e : Nat, d.toInt = ((2 * e + 1 : Nat) : Int) := ⟨(d.toInt / 2).toNat, by omega⟩
            have he : e < Zv.n := by omega
            rw [show d.toInt.toNat = 2 * e + 1 by omega]
            have hRe : (if ((2 * e + 1 : Nat) : Int) < d.toInt then R0 + 212 * k + 212 else R0 + 212 * k) = R0 + 212 * k := if_neg (by omega)
            refine m_dn (R1 := R0 + 212 * k + 212) m37 hJ37 he ee (by show (if ((2 * e + 1 : Nat) : Int) < d.toInt then R0 + 212 * k + 212 else R0 + 212 * k) + 300 ≤ _; rw [hRe]; omega) (by show (if ((2 * e + 1 : Nat) : Int) < d.toInt then R0 + 212 * k + 212 else R0 + 212 * k) + 212 ≤ _; rw [hRe]; omega) (by omega) hTC hTS (fun Z1 g1 m1 hpo46 Z2 eZ2 v48 _ _ t48 => ?_)
            subst eZ2
            refine m1.le (by omega) (fun x hx => ?_) (fun x hx => ?_) (fun x hx => ?_)
            · show (if x = e then R0 + 212 * k + 212 else (if ((2 * x + 1 : Nat) : Int) < d.toInt then R0 + 212 * k + 212 else R0 + 212 * k)) ≤ (if ((2 * x + 1 : Nat) : Int) < v48.toInt then R0 + 212 * k + 212 else R0 + 212 * k)
              split <;> split <;> (try split) <;> omega
            · show (if ((2 * x : Nat) : Int) < d.toInt then B0 + 265 * k + 265 else B0 + 265 * k) ≤ (if ((2 * x : Nat) : Int) < v48.toInt then B0 + 265 * k + 265 else B0 + 265 * k)
              split <;> split <;> omega
            · show (¬ ((2 * x : Nat) : Int) < v48.toInt) ↔ ¬ ((2 * x : Nat) : Int) < d.toInt
              omega
        · -- all cells are on the wires
          have hn1 := m30.hn
          have z0 : (0 : Int32).toInt = 0 := by decide
          show MV v14.toInt (fun e => if ((2 * e + 1 : Nat) : Int) < (0 : Int32).toInt then R0 + 212 * k + 212 else R0 + 212 * k) (fun f => if ((2 * f : Nat) : Int) < (0 : Int32).toInt then B0 + 265 * k + 265 else B0 + 265 * k) (u0 + 1388 * k + 108 + 320 * (((0 : Int32).toInt + 1) / 2)) (fun f => ¬ ((2 * f : Nat) : Int) < (0 : Int32).toInt) Zw g30
          rw [z0]
          refine m30.le (by omega) (fun e he => ?_) (fun f hf => ?_) (fun f hf => ?_)
          · show R0 + 212 * k ≤ (if ((2 * e + 1 : Nat) : Int) < 0 then R0 + 212 * k + 212 else R0 + 212 * k)
            split <;> omega
          · show B0 + 265 * k ≤ (if ((2 * f : Nat) : Int) < 0 then B0 + 265 * k + 265 else B0 + 265 * k)
            split <;> omega
          · show (¬ ((2 * f : Nat) : Int) < 0) ↔ ((2 * f : Nat) : Int) < d.toInt
            omega
      · -- a tick's cells of a direction
        have rd : 0 ≤ d.toInt ∧ d.toInt ≤ 8 := rd
        have hn1 := m30.hn
        by_cases par : d.toInt % 2 = 0
        · obtain ⟨f, ef⟩ : ∃ f : Nat, d.toInt = ((2 * f : Nat) : Int) := ⟨(d.toInt / 2).toNat, by omega⟩
          have hf : f < Zw.n := by omega
          rw [show d.toInt.toNat = 2 * f by omega]
          obtain ⟨ev, sv, od⟩ := m30.ev hf
          refine wc_kputCells (Φ := fun _ g53 => PA g30 g53 (2 * f) 4) (Ψ := fun _ g53 => cDm g53 (2 * f) = dIt 4 (cDm g30 (2 * f))) (fun r g53 pa dd hpo53 v55 _ _ g56 e56 v57 _ _ t57 => ?_) (s_putA od.1 od.2.1 (fun c hc => (ev.1.2.2.2 c hc).1) od.2.2 (fun _ _ h => h)) (s_putD (fun _ _ h => h))
          have m53 := m30.put hJ30 hf (by show ¬ _; omega) pa hpo53
          have k56 : mFr [363] g53 g56 := fun j hj => by rw [e56, up2_of (by simpa using hj)]
          refine ⟨tkP_put td30 (q0 := 2 * f) (by omega) (by omega) (by omega) ((cDm_fr k56 (by decide) _).trans dd) (fun q hq => (cDm_fr k56 (by decide) q).trans (cDm_po hpo53 hq)), (m53.fr k56 (by decide)).le (Int.le_refl _) (fun _ _ => Nat.le_refl _) (fun _ _ => Nat.le_refl _) (fun x hx => ?_)⟩
          show ((2 * x : Nat) : Int) < v57.toInt ↔ (x = f ∨ ((2 * x : Nat) : Int) < d.toInt)
          omega
        · refine s_putD (fun r g53 dd hpo53 v55 _ _ g56 e56 v57 _ _ t57 => ?_)
          have m53 := m30.odd hJ30 (by omega) hpo53
          have k56 : mFr [363] g53 g56 := fun j hj => by rw [e56, up2_of (by simpa using hj)]
          refine ⟨tkP_put td30 (q0 := d.toInt.toNat) rfl (by omega) (by omega) ((cDm_fr k56 (by decide) _).trans dd) (fun q hq => (cDm_fr k56 (by decide) q).trans (cDm_po hpo53 hq)), (m53.fr k56 (by decide)).le (Int.le_refl _) (fun _ _ => Nat.le_refl _) (fun _ _ => Nat.le_refl _) (fun x hx => ?_)⟩
          show ((2 * x : Nat) : Int) < v57.toInt ↔ ((2 * x : Nat) : Int) < d.toInt
          omega
      · have hn1 := m24.hn
        refine ⟨tkP_d (tkP_fr td (fun q => ((cDm_fr k24 (by decide) q).trans (cDm_fr k17 (by decide) q)).trans (cDm_fr k15 (by decide) q))) (by decide) rfl, m24.le (Int.le_refl _) (fun _ _ => Nat.le_refl _) (fun _ _ => Nat.le_refl _) (fun x hx => ⟨fun z => ?_, fun z => z.elim⟩)⟩
        have z : ((2 * x : Nat) : Int) < (0 : Int32).toInt := z
        have z0 : (0 : Int32).toInt = 0 := by decide
        omega
    · -- data
      have re : 0 ≤ e.toInt ∧ e.toInt ≤ 4 := re
      have he : e.toInt.toNat < Zz.n := by omega
      rw [show v63.toInt.toNat = 2 * e.toInt.toNat by omega]
      exact s_esend (fun x => m24.oc x) (fun g66 r66 hpo66 v67 _ _ _ => m24.d1 hJ24 he r66 hpo66)
  · -- an end
    obtain ⟨⟨⟨a, b, c, _⟩, _, _⟩, _, _⟩ := m17.ev cs
    exact e_first2 cs a b c (fun g1 ef v84 _ _ _ => m17.e1 hJ17 cs ef)
  · -- a side of the switch
    have rs : 0 ≤ s.toInt ∧ s.toInt ≤ 8 := rs
    have hsx : sx < Zy.n := by omega
    have e97 : v97 = v14 := by rw [e97, k17 362 (by decide), t15]
    rw [e97]
    exact sw_first hsx (fun c hc => hJ17.2.2.2.2.1.1.2.1 c hc) (by omega) m17.hc (m17.ev hsx).2.1.1 (fun g1 sf v107 _ _ _ => m17.s1 hsx sf)
