/-! THE REFERENCE LAYS ITS POLICIES OUT: the whole -/
section L3
variable {N d nl np na nk c : Nat} {F : FM} {a : Nat → Int32} {Z : IM}
theorem l158 (hN : 20 ≤ N) (hok : plOK a nk c) (hZ : ∀ k, Z 1 2 k = a k) (h15 : a 15 = nI np) (hZ11 : ∀ q, q < np → Z 1 11 q = tv (brF a (a 8) nl) q) (hZ17 : ∀ q, q < np → Z 1 17 q = tv (eF a (a 8) nl) q) (hZw : Z 1 0 22 = orb (fun r => ¬ rtl (fun i => a (20 + 2 * i)) (fun i => a (20 + 2 * i + 1)) (nI r) (-1) (-1) nl = a r) 8) (hcn : c < np) (hnp : np ≤ 24) (h18 : a 18 = nI na) (hna : na ≤ 8) (hq : ∀ i, i < na → ∃ p, p < np ∧ a (391 + 2 * i) = nI p) (n : Nat) : sg (sem N (d + 3)) 0 zc237 (n + 5) 158 [vR (some (1, 0)), vI (nI c)] (ts S2 Z c 0 (tF a (a 8) nl na)) F = sg (sem N (d + 3)) 0 zc237 n 158 [vR (some (1, 0)), vI (nI (c + 1))] (ts S2 Z (c + 1) 0 (tF a (a 8) nl na)) F := by
  have hc : c < 24 := by omega
  have hj := jn_ok hok
  have ic : inb (nI c) 24 := inb_nI hc (by decide)
  have cc : (nI c).toNatClampNeg = c := nI_clamp (by omega)
  have i0 : inb (nI (268 + 3 * c)) 406 := inb_nI (by omega) (by decide)
  have i1 : inb (nI (268 + 3 * c + 1)) 406 := inb_nI (by omega) (by decide)
  have i2 : inb (nI (268 + 3 * c + 2)) 406 := inb_nI (by omega) (by decide)
  have k0 : (nI (268 + 3 * c)).toNatClampNeg = 268 + 3 * c := nI_clamp (by omega)
  have k1 : (nI (268 + 3 * c + 1)).toNatClampNeg = 269 + 3 * c := by rw [nI_clamp (by omega)]; omega
  have k2 : (nI (268 + 3 * c + 2)).toNatClampNeg = 270 + 3 * c := by rw [nI_clamp (by omega)]; omega
  have hX : ∀ k, ts S2 Z c 0 (tF a (a 8) nl na) 1 2 k = a k := fun k => by rw [ts_o rfl, hZ]
  have e11 : ∀ q, q < np → ts S2 Z c 0 (tF a (a 8) nl na) 1 11 q = tv (brF a (a 8) nl) q := fun q hq => by rw [ts_o rfl, hZ11 q hq]
  have e10 : ∀ q, q < c → ts S2 Z c 0 (tF a (a 8) nl na) 1 10 q = tv (hF a (a 8) nl na) q := fun q hq => by rw [ts_r rfl hq, t10]
  have vh := vH (l := a 8) (nl := nl) (na := na) hj hc
  have fin := fun (fl0 : Int32) hf => l310 (N := N) (d := d) (F := F) (nl := nl) (na := na) (np := np) (nk := nk) (Z := Z) hN hc hok hZ hZ17 hZw hcn hnp h18 hna hq n (fl0 := fl0) hf
  rw [show n + 5 = (n + 4) + 1 by omega, u237_158]; unfold b237_158
  rw [hX 15, h15, if_neg (nI_ge hcn (by omega))]
  simp only [m196, bI_v, nI_1, L2, nI_add, eq_true i0, eq_true i1, eq_true i2, ↓reduceIte, k0, k1, k2, hX, eq_true ic, cc, e11 c hcn]
  by_cases h3 : a (268 + 3 * c) = 3
  · obtain ⟨u, v, hu, hv, eu, ev⟩ := hj (Or.inl h3)
    rw [if_pos h3] at vh
    rw [eu, ev, nI_clamp (by omega), nI_clamp (by omega)] at vh
    have f1 := fin 1 (Or.inl ⟨rfl, Or.inl h3⟩)
    rw [eu, ev] at f1
    rw [if_pos h3, if_pos h3, eu, ev, if_pos (inb_nI (by omega) (by decide)), if_pos (inb_nI (by omega) (by decide)), nI_clamp (by omega), nI_clamp (by omega), e10 u hu, e10 v hv]
    by_cases z1 : tv (hF a (a 8) nl na) u = 0
    · rw [bz_f (fun z => z.1 z1)] at vh
      rw [vh] at f1
      rw [if_pos z1]
      exact f1
    · rw [if_neg z1]
      by_cases z2 : tv (hF a (a 8) nl na) v = 0
      · rw [bz_f (fun z => z.2 z2)] at vh
        rw [vh] at f1
        rw [if_pos z2]
        exact f1
      · rw [bz_t ⟨z1, z2⟩] at vh
        rw [vh] at f1
        rw [if_neg z2]
        exact f1
  · rw [if_neg h3] at vh
    rw [if_neg h3]
    by_cases h4 : a (268 + 3 * c) = 4
    · obtain ⟨u, v, hu, hv, eu, ev⟩ := hj (Or.inr h4)
      rw [if_pos h4] at vh
      rw [eu, ev, nI_clamp (by omega), nI_clamp (by omega)] at vh
      have f1 := fin 1 (Or.inl ⟨rfl, Or.inr h4⟩)
      rw [eu, ev] at f1
      rw [if_pos h4, if_neg h3, if_pos h4, eu, ev, if_pos (inb_nI (by omega) (by decide)), if_pos (inb_nI (by omega) (by decide)), nI_clamp (by omega), nI_clamp (by omega), e10 u hu, e10 v hv]
      by_cases z1 : tv (hF a (a 8) nl na) u = 0
      · rw [if_pos z1]
        by_cases z2 : tv (hF a (a 8) nl na) v = 0
        · rw [bz_f (fun z => z.elim (fun w => w z1) (fun w => w z2))] at vh
          rw [vh] at f1
          rw [if_pos z2]
          exact f1
        · rw [bz_t (Or.inr z2)] at vh
          rw [vh] at f1
          rw [if_neg z2]
          exact f1
      · rw [bz_t (Or.inl z1)] at vh
        rw [vh] at f1
        rw [if_neg z1]
        exact f1
    · have hk : ¬ (a (268 + 3 * c) = 3 ∨ a (268 + 3 * c) = 4) := fun z => z.elim h3 h4
      have f0 := fin 0 (Or.inr ⟨rfl, hk⟩)
      rw [if_neg h4] at vh
      rw [if_neg h4, if_neg h3, if_neg h4]
      by_cases h6 : a (268 + 3 * c) = 6
      · rw [if_pos h6] at vh
        rw [vh] at f0
        rw [if_pos h6, m231 (a := a) (nl := nl) (na := na) hN _ hX h18 hna (fun i hi => by obtain ⟨p, hp, ep⟩ := hq i hi; exact ⟨p, by omega, ep, e11 p hp⟩), bI_v]
        exact f0
      · rw [if_neg h6] at vh
        rw [vh] at f0
        rw [if_neg h6]
        exact f0
theorem l237b (hN : 20 ≤ N) (hok : ∀ p, p < np → plOK a nk p) (hZ : ∀ k, Z 1 2 k = a k) (h15 : a 15 = nI np) (hZ11 : ∀ q, q < np → Z 1 11 q = tv (brF a (a 8) nl) q) (hZ17 : ∀ q, q < np → Z 1 17 q = tv (eF a (a 8) nl) q) (hZw : Z 1 0 22 = orb (fun r => ¬ rtl (fun i => a (20 + 2 * i)) (fun i => a (20 + 2 * i + 1)) (nI r) (-1) (-1) nl = a r) 8) (hnp : np ≤ 24) (h18 : a 18 = nI na) (hna : na ≤ 8) (hq : ∀ i, i < na → ∃ p, p < np ∧ a (391 + 2 * i) = nI p) : ∀ (k c m : Nat), c + k = np → 5 * k < m → sg (sem N (d + 3)) 0 zc237 m 158 [vR (some (1, 0)), vI (nI c)] (ts S2 Z c 0 (tF a (a 8) nl na)) F = some (vI 0, ts S2 Z np 0 (tF a (a 8) nl na), F) := by
  intro k
  induction k with
  | zero =>
    intro c m hc hm
    obtain ⟨q, rfl⟩ : ∃ q, m = q + 1 := ⟨m - 1, by omega⟩
    have e : c = np := by omega
    subst e
    rw [u237_158]; unfold b237_158
    rw [ts_o rfl, hZ, h15, if_pos (nI_le (Nat.le_refl _) (by omega))]
  | succ k ih =>
    intro c m hc hm
    obtain ⟨q, rfl⟩ : ∃ q, m = q + 5 := ⟨m - 5, by omega⟩
    rw [l158 (np := np) (nk := nk) hN (hok c (by omega)) hZ h15 hZ11 hZ17 hZw (by omega) hnp h18 hna hq q]
    exact ih (c + 1) q (by omega) (by omega)
theorem l11 {Y : IM} (hN : 50 ≤ N) (hok : plOK a nk c) (hY : ∀ k, Y 1 2 k = a k) (h15 : a 15 = nI np) (h11 : a 11 = nI nl) (hl : nl ≤ 40) (hYw : Y 1 0 22 = orb (fun r => ¬ rtl (fun i => a (20 + 2 * i)) (fun i => a (20 + 2 * i + 1)) (nI r) (-1) (-1) nl = a r) 8) (hcn : c < np) (hnp : np ≤ 24) (n : Nat) : sg (sem N (d + 3)) 0 zc237 (n + 1) 11 [vR (some (1, 0)), vI (nI c)] (ts S1 Y c 0 (tF a (a 8) nl na)) F = sg (sem N (d + 3)) 0 zc237 n 11 [vR (some (1, 0)), vI (nI (c + 1))] (ts S1 Y (c + 1) 0 (tF a (a 8) nl na)) F := by
  have hc : c < 24 := by omega
  have hj := jn_ok hok
  have ic : inb (nI c) 24 := inb_nI hc (by decide)
  have cc : (nI c).toNatClampNeg = c := nI_clamp (by omega)
  have i0 : inb (nI (268 + 3 * c)) 406 := inb_nI (by omega) (by decide)
  have i1 : inb (nI (268 + 3 * c + 1)) 406 := inb_nI (by omega) (by decide)
  have i2 : inb (nI (268 + 3 * c + 2)) 406 := inb_nI (by omega) (by decide)
  have k0 : (nI (268 + 3 * c)).toNatClampNeg = 268 + 3 * c := nI_clamp (by omega)
  have k1 : (nI (268 + 3 * c + 1)).toNatClampNeg = 269 + 3 * c := by rw [nI_clamp (by omega)]; omega
  have k2 : (nI (268 + 3 * c + 2)).toNatClampNeg = 270 + 3 * c := by rw [nI_clamp (by omega)]; omega
  have hX : ∀ k, ts S1 Y c 0 (tF a (a 8) nl na) 1 2 k = a k := fun k => by rw [ts_o rfl, hY]
  have h230 := m230 (N := N) (d := d) (F := F) (a := a) (nk := nk) (nl := nl) (X := ts S1 Y c 0 (tF a (a 8) nl na)) hN hc hok hX h11 hl (by rw [ts_o rfl, hYw]) (fun q hq => by rw [ts_r rfl hq, t11])
  have w11 : wI (ts S1 Y c 0 (tF a (a 8) nl na)) 1 11 c (tv (brF a (a 8) nl) c) = ts S1 Y c 11 (tF a (a 8) nl na) := ts_w rfl (by omega) (fun o ho hle => by have := S1_iff ho; omega) (t11 (na := na) c).symm
  have e17 : ∀ q, q < c → ts S1 Y c 11 (tF a (a 8) nl na) 1 17 q = tv (eF a (a 8) nl) q := fun q hq => by rw [ts_r rfl hq, t17]
  have e11 : ts S1 Y c 11 (tF a (a 8) nl na) 1 11 c = tv (brF a (a 8) nl) c := by rw [ts_c rfl (by omega), t11]
  have fin : ∀ x, x = tv (eF a (a 8) nl) c → wI (ts S1 Y c 11 (tF a (a 8) nl na)) 1 17 c x = ts S1 Y (c + 1) 0 (tF a (a 8) nl na) := fun x hx => by
    rw [ts_w (o' := 17) rfl (by omega) (fun o ho hle => by have := S1_iff ho; omega) (by rw [hx]; exact (t17 (na := na) c).symm)]
    exact ts_n (fun o ho => by have := S1_iff ho; omega)
  have ve := vE (l := a 8) (nl := nl) hj hc
  rw [u237_11]; unfold b237_11
  rw [hX 15, h15, if_neg (nI_ge hcn (by omega))]
  simp only [m196, bI_v, nI_1, L2, nI_add, eq_true i0, eq_true i1, eq_true i2, ↓reduceIte, k0, k1, k2, hX, h230, eq_true ic, cc, nar_01 (br_01 a (a 8) nl c), w11, e11]
  by_cases h3 : a (268 + 3 * c) = 3
  · obtain ⟨u, v, hu, hv, eu, ev⟩ := hj (Or.inl h3)
    rw [if_pos h3] at ve
    rw [eu, ev, nI_clamp (by omega), nI_clamp (by omega)] at ve
    rw [if_pos h3, eu, ev, if_pos (inb_nI (by omega) (by decide)), if_pos (inb_nI (by omega) (by decide)), nI_clamp (by omega), nI_clamp (by omega), e17 u hu, e17 v hv, m233, bI_v, fin _ ve.symm]
  · rw [if_neg h3] at ve
    rw [if_neg h3]
    by_cases h4 : a (268 + 3 * c) = 4
    · obtain ⟨u, v, hu, hv, eu, ev⟩ := hj (Or.inr h4)
      rw [if_pos h4] at ve
      rw [eu, ev, nI_clamp (by omega), nI_clamp (by omega)] at ve
      rw [if_pos h4, eu, ev, if_pos (inb_nI (by omega) (by decide)), if_pos (inb_nI (by omega) (by decide)), nI_clamp (by omega), nI_clamp (by omega), e17 u hu, e17 v hv, m232, bI_v, fin _ ve.symm]
    · rw [if_neg h4] at ve
      rw [if_neg h4]
      by_cases h5 : a (268 + 3 * c) = 5
      · rw [if_pos h5] at ve
        rw [if_pos h5, fin _ ve.symm]
      · rw [if_neg h5] at ve
        rw [if_neg h5]
        by_cases h0 : tv (brF a (a 8) nl) c = 0
        · rw [if_pos h0] at ve
          rw [if_pos h0, fin _ ve.symm]
        · rw [if_neg h0] at ve
          rw [if_neg h0, fin _ ve.symm]
end L3
/-- the reference's store once its policies are laid out -/
def layI (I : IM) (nl np na : Nat) : IM := ts S2 (ts S1 (wI (fl I 1 19 8 (rpT I 20 nl)) 1 0 22 (orb (fun r => ¬ rpT I 20 nl r = I 1 2 r) 8)) np 0 (tF (I 1 2) (I 1 2 8) nl na)) np 0 (tF (I 1 2) (I 1 2 8) nl na)
/-- what must be known of a row -/
def rok (a : Nat → Int32) (nl np na nk : Nat) : Prop := a 11 = nI nl ∧ nl ≤ 40 ∧ (∀ i, i < nl → ∃ r, r < 8 ∧ a (20 + 2 * i) = nI r) ∧ a 15 = nI np ∧ np ≤ 24 ∧ (∀ p, p < np → plOK a nk p) ∧ a 18 = nI na ∧ na ≤ 8 ∧ ∀ i, i < na → ∃ p, p < np ∧ a (391 + 2 * i) = nI p
theorem m237 {N d nl np na nk : Nat} {I : IM} {F : FM} (hN : 300 ≤ N) (h : rok (I 1 2) nl np na nk) : sem N (d + 4) 237 [vR (some (1, 0))] I F = some (vI 0, layI I nl np na, F) := by
  obtain ⟨h11, hl, hr, h15, hnp, hok, h18, hna, hq⟩ := h
  rw [s237]; unfold b237
  rw [m236a (by omega) h11 hl hr, bI_v]
  dsimp only
  unfold layI
  have hY : ∀ k, wI (fl I 1 19 8 (rpT I 20 nl)) 1 0 22 (orb (fun r => ¬ rpT I 20 nl r = I 1 2 r) 8) 1 2 k = I 1 2 k := fun k => by rw [wI_eq, if_neg (fun z => by omega), fl_eq, if_neg (fun z => by omega)]
  have hYw : wI (fl I 1 19 8 (rpT I 20 nl)) 1 0 22 (orb (fun r => ¬ rpT I 20 nl r = I 1 2 r) 8) 1 0 22 = orb (fun r => ¬ rtl (fun i => I 1 2 (20 + 2 * i)) (fun i => I 1 2 (20 + 2 * i + 1)) (nI r) (-1) (-1) nl = I 1 2 r) 8 := wI_s _ _ _ _ _
  generalize wI (fl I 1 19 8 (rpT I 20 nl)) 1 0 22 (orb (fun r => ¬ rpT I 20 nl r = I 1 2 r) 8) = Y at hY hYw ⊢
  obtain ⟨M, rfl⟩ : ∃ M, N = M + 150 := ⟨N - 150, by omega⟩
  have hlp := lp (S := fun m c => sg (sem (M + 150) (d + 3)) 0 zc237 (m + 150) 11 [vR (some (1, 0)), vI (nI c)] (ts S1 Y c 0 (tF (I 1 2) (I 1 2 8) nl na)) F) (T := some (vI 0, ts S2 (ts S1 Y np 0 (tF (I 1 2) (I 1 2 8) nl na)) np 0 (tF (I 1 2) (I 1 2 8) nl na), F)) (m := np) ?_ ?_ np 0 M (by omega) (by omega)
  · try dsimp only at hlp
    rw [ts_0 (fun o ho => by have := S1_iff ho; omega)] at hlp
    exact hlp
  · intro m c hc
    try dsimp only
    rw [show m + 1 + 150 = (m + 150) + 1 by omega]
    exact l11 (np := np) (by omega) (hok c hc) hY h15 h11 hl hYw hc hnp (m + 150)
  · intro m
    try dsimp only
    rw [show m + 1 + 150 = (m + 150) + 1 by omega, u237_11]; unfold b237_11
    rw [ts_o rfl, hY, h15, if_pos (nI_le (Nat.le_refl _) (by omega))]
    have hb := l237b (N := M + 150) (d := d) (F := F) (nl := nl) (np := np) (na := na) (nk := nk) (a := I 1 2) (Z := ts S1 Y np 0 (tF (I 1 2) (I 1 2 8) nl na)) (by omega) hok (fun k => by rw [ts_o rfl, hY]) h15 (fun q hq => by rw [ts_r rfl hq, t11]) (fun q hq => by rw [ts_r rfl hq, t17]) (by rw [ts_o rfl, hYw]) hnp h18 hna hq np 0 (m + 150) (by omega) (by omega)
    rw [ts_0 (fun o ho => by have := S2_iff ho; omega)] at hb
    exact hb
/-! what is read of it -/
theorem lay_2 {I : IM} {nl np na k : Nat} : layI I nl np na 1 2 k = I 1 2 k := by
  unfold layI
  rw [ts_o rfl, ts_o rfl, wI_eq, if_neg (fun z => by omega), fl_eq, if_neg (fun z => by omega)]
theorem lay_t {I : IM} {nl np na o k : Nat} (hS : S2 o = true) (hk : k < np) : layI I nl np na 1 o k = tF (I 1 2) (I 1 2 8) nl na o k := by
  unfold layI
  rw [ts_r hS hk]
theorem lay_b {I : IM} {nl np na b o k : Nat} (h : b ≠ 1) : layI I nl np na b o k = I b o k := by
  unfold layI
  rw [ts_eq, if_neg (fun z => h z.1), ts_eq, if_neg (fun z => h z.1), wI_eq, if_neg (fun z => h z.1), fl_eq, if_neg (fun z => h z.1)]
theorem lay_1 {I : IM} {nl np na o k : Nat} (h : ¬ ((o = 0 ∧ k = 22) ∨ (10 ≤ o ∧ o ≤ 19))) : layI I nl np na 1 o k = I 1 o k := by
  unfold layI
  have hs2 : ¬ S2 o = true := fun z => by have := S2_iff z; omega
  have hs1 : ¬ S1 o = true := fun z => by have := S1_iff z; omega
  rw [ts_eq, if_neg (fun z => hs2 z.2.1), ts_eq, if_neg (fun z => hs1 z.2.1), wI_eq, if_neg (fun z => by omega), fl_eq, if_neg (fun z => by omega)]
theorem sm_lay {I J : IM} {F G : FM} {nl np na : Nat} (h : smI I J F G) : smI I (layI J nl np na) F G := by
  obtain ⟨q1, q2, q3, q4⟩ := h
  refine ⟨fun b o k z => ?_, fun o k => ?_, fun k => ?_, q4⟩
  · by_cases e : b = 1
    · subst e
      rw [lay_1 (by unfold kpl at z; omega), q1 1 o k z]
    · rw [lay_b e, q1 b o k z]
  · rw [lay_b (by omega), q2]
  · rw [lay_2, q3]
theorem rok_of {B : Nat → Nat → Int32} {f g : UInt32} {a : Nat → Int32} {nl nc nk nx np na ns : Nat} (h : CRep B f a g nl nc nk nx np na ns) : rok a nl np na nk := by
  obtain ⟨-, -, ⟨g1, g2, g3, g4⟩, -, -, ⟨v1, v2, v3, v4, v5, v6, v7, v8⟩, -, -⟩ := h
  exact ⟨g2, g3, fun i hi => (g4 i hi).2.2, v2, v3, fun p hp => (v4 p hp).2.2.2.2.2, v6, v7, fun i hi => (v8 i hi).2.2.2⟩
