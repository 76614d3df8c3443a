/-! ASKS, WHY, SEALS -/
/-- the reference's tables over a row that stands -/
theorem rlay {J : IM} {F : FM} {a : Nat → Int32} {N d nl np na nk : Nat} (hN : 300 ≤ N) (hJ : ∀ k, J 1 2 k = a k) (h : rok a nl np na nk) : sem N (d + 4) 237 [vR (some (1, 0))] J F = some (vI 0, layI J nl np na, F) ∧ ∀ o k, S2 o = true → k < np → layI J nl np na 1 o k = tF a (a 8) nl na o k := by
  have e : J 1 2 = a := funext hJ
  refine ⟨m237 hN (by rw [e]; exact h), fun o k ho hk => ?_⟩
  rw [lay_t ho hk, e]
theorem w0j_12 {I : IM} {a : Nat → Int32} {l : Int32} {nl np na : Nat} (k : Nat) : wI (jdgI I a l nl np na) 1 0 0 0 1 2 k = I 1 2 k := by rw [w0_12, jdg_b (by omega)]
section JT
variable {a : Nat → Int32} {l : Int32} {nl na : Nat}
theorem j5 (k : Nat) : jF a l nl na 5 k = tv (hF a l nl na) k := rfl
theorem j6 (k : Nat) : jF a l nl na 6 k = tv (gF a l nl na) k := rfl
theorem j7 (k : Nat) : jF a l nl na 7 k = tv (oF a l nl na) k := rfl
theorem j8 (k : Nat) : jF a l nl na 8 k = tv (zF a l nl na) k := rfl
theorem j9 (k : Nat) : jF a l nl na 9 k = tv (yF a l nl na) k := rfl
end JT
theorem m270 {N d n p : Nat} {I : IM} {F : FM} (hN : 30 ≤ N) (hp : p < n) (hs : I 1 2 15 = nI n) (hn : n ≤ 24) : sem N (d + 1) 270 [vR (some (1, 0)), vI (nI p)] I F = some (vI (orb (fun q => I 1 13 q = I 1 13 p) n), I, F) := by
  have ip : inb (nI p) 24 := inb_nI (by omega) (by decide)
  have cp : (nI p).toNatClampNeg = p := nI_clamp (by omega)
  rw [s270]; unfold b270
  refine lp (S := fun m c => sg (sem N d) 1 zc270 m 4 [vR (some (1, 0)), vI (nI p), vI (orb (fun q => I 1 13 q = I 1 13 p) c), vI (nI c)] I F) (m := n) ?_ ?_ n 0 N (by omega) (by omega)
  · intro m c hc
    try dsimp only
    have ic : inb (nI c) 24 := inb_nI (by omega) (by decide)
    have cc : (nI c).toNatClampNeg = c := nI_clamp (by omega)
    rw [u270_4]; unfold b270_4
    rw [hs, if_neg (nI_ge hc (by omega))]
    simp only [eq_true ic, eq_true ip, ↓reduceIte, cc, cp, nI_1, or0]
    by_cases h : I 1 13 c = I 1 13 p
    · rw [if_pos h, show orb (fun q => I 1 13 q = I 1 13 p) (c + 1) = orb (fun q => I 1 13 q = I 1 13 p) c ||| sh1 c from if_pos h]
    · rw [if_neg h, show orb (fun q => I 1 13 q = I 1 13 p) (c + 1) = orb (fun q => I 1 13 q = I 1 13 p) c from if_neg h]
  · intro m
    try dsimp only
    rw [u270_4]; unfold b270_4
    rw [hs, if_pos (nI_le (Nat.le_refl _) (by omega))]
theorem st158 : StpI InvC 158 269 2 := by
  intro as I F hl hI
  obtain ⟨x, y, rfl⟩ := len2 hl
  simp only [List.map_cons, List.map_nil]
  obtain ⟨nl, nc, nk, nx, np, na, ns, hR⟩ := hI.1
  obtain ⟨p1, -⟩ := hR.2.1
  have hok := rok_of hR
  have hjk := jok_of hR
  obtain ⟨v1, v2, v3, v4, -⟩ := hR.2.2.2.2.2.1
  have c81 := m81 (N := zN) (d := 7) (I := I) (F := F) (b := 2) (n := np) (by omega) x v1 v3
  by_cases hx : inb x np
  · obtain ⟨p, hp, hp2, rfl, ep⟩ := inb_get hx
    have ip : inb (nI p) 24 := inb_mono v3 hx
    obtain ⟨-, -, -, w23, w24, -⟩ := v4 p hp
    have c33 := m33 (N := zN) (d := 3) (I := I) (F := F) (c := 2) (nk := nk) (np := np) (na := na) (nl := nl) (a := I 1 2) (I 1 2 8) (by omega) (by decide) hjk
    have d0 := rlay (J := wI I 1 0 0 0) (F := F) (a := I 1 2) (N := zN) (d := 4) (by decide) (fun k => w0_12 k) hok
    have d1 := rlay (J := wI (jdgI I (I 1 2) (I 1 2 8) nl np na) 1 0 0 0) (F := F) (a := I 1 2) (N := zN) (d := 4) (by decide) (fun k => w0j_12 k) hok
    have n2 : y = 2 → I 2 24 p = tF (I 1 2) (I 1 2 8) nl na 13 p := fun _ => by rw [w24, tv_lt hp, t13]
    have n3 : y = 3 → I 2 23 p = tF (I 1 2) (I 1 2 8) nl na 14 p := fun _ => by rw [w23, tv_lt hp, t14]
    have q1 : ∀ J : IM, (∀ k, J 1 2 k = I 1 2 k) → sem zN 8 200 [vR (some (1, 0)), vI (nI p)] (wI J 1 0 0 0) F = some (vI (bz (inb (nI p) np)), wI J 1 0 0 0, F) := fun J hJ => m200 (nI p) (by rw [w0_12, hJ, v2]) (by omega)
    by_cases y2 : y = 2
    · refine qs_of (x := I 2 24 p) hI (I1 := I) (F1 := F) ?_ (I2 := layI (wI I 1 0 0 0) nl np na) (F2 := F) ?_ sm_rfl (sm_lay (sm_0 sm_rfl))
      · rw [s158]; unfold b158
        rw [c81, bI_v, ite_bzif, if_pos hx, if_pos y2, if_pos ip, ep]
      · rw [s269]; unfold b269
        dsimp only
        subst y2
        rw [q1 I (fun _ => rfl), bI_v, ite_bzif, if_pos hx, d0.1, bV_v, if_neg (by decide), if_neg (by decide), if_pos rfl, if_pos ip, ep, d0.2 13 p rfl hp, n2 rfl]
    by_cases y3 : y = 3
    · refine qs_of (x := I 2 23 p) hI (I1 := I) (F1 := F) ?_ (I2 := layI (wI I 1 0 0 0) nl np na) (F2 := F) ?_ sm_rfl (sm_lay (sm_0 sm_rfl))
      · rw [s158]; unfold b158
        rw [c81, bI_v, ite_bzif, if_pos hx, if_neg y2, if_pos y3, if_pos ip, ep]
      · rw [s269]; unfold b269
        dsimp only
        subst y3
        rw [q1 I (fun _ => rfl), bI_v, ite_bzif, if_pos hx, d0.1, bV_v, if_neg (by decide), if_neg (by decide), if_neg (by decide), if_pos rfl, if_pos ip, ep, d0.2 14 p rfl hp, n3 rfl]
    by_cases y6 : y = 6
    · refine qs_of (x := orb (fun q => I 2 24 q = I 2 24 p) np) hI (I1 := I) (F1 := F) ?_ (I2 := layI (wI I 1 0 0 0) nl np na) (F2 := F) ?_ sm_rfl (sm_lay (sm_0 sm_rfl))
      · rw [s158]; unfold b158
        rw [c81, bI_v, ite_bzif, if_pos hx, if_neg y2, if_neg y3, if_pos y6, m86 (by omega) (by decide) hp v1 v3, bI_v]
      · rw [s269]; unfold b269
        dsimp only
        subst y6
        rw [q1 I (fun _ => rfl), bI_v, ite_bzif, if_pos hx, d0.1, bV_v, if_neg (by decide), if_neg (by decide), if_neg (by decide), if_neg (by decide), if_neg (by decide), if_neg (by decide), if_pos rfl, m270 (by decide) hp (by rw [lay_2, w0_12, v2]) v3, bI_v]
        have hn : ∀ q, q < np → layI (wI I 1 0 0 0) nl np na 1 13 q = I 2 24 q := fun q hq => by
          rw [d0.2 13 q rfl hq, (v4 q hq).2.2.2.2.1, tv_lt hq, t13]
        rw [orb_congr (P := fun q => layI (wI I 1 0 0 0) nl np na 1 13 q = layI (wI I 1 0 0 0) nl np na 1 13 p) (Q := fun q => I 2 24 q = I 2 24 p) (fun q hq => by rw [hn q hq, hn p hp])]
    obtain ⟨J, hJ⟩ : ∃ J, jdgI I (I 1 2) (I 1 2 8) nl np na = J := ⟨_, rfl⟩
    have jt : ∀ o, Z2 o = true → J 0 o p = jF (I 1 2) (I 1 2 8) nl na o p := fun o ho => by rw [← hJ]; exact jdg_t ho hp
    have hsm : smI I J F F := by rw [← hJ]; exact sm_jdg sm_rfl
    rw [hJ] at c33 d1
    have cls : sem zN 9 158 [vR (some (0, 0)), vI (nI p), vI y] I F = (if y = 0 then (if J 0 5 p = 0 then some (vI 0, J, F) else some (vI 1, J, F)) else if y = 1 then some (vI (J 0 7 p), J, F) else if y = 4 then some (vI (J 0 6 p), J, F) else if y = 5 then some (vI (J 0 8 p), J, F) else some (vI (-1), J, F)) := by
      rw [s158]; unfold b158
      rw [c81, bI_v, ite_bzif, if_pos hx, if_neg y2, if_neg y3, if_neg y6, p1, c33, bV_v]
      simp only [eq_true ip, ↓reduceIte, ep, y2, y3]
    have mdl : sem zN 9 269 [vR (some (1, 0)), vI (nI p), vI y] J F = (if y = 0 then (if tv (hF (I 1 2) (I 1 2 8) nl na) p = 0 then some (vI 0, layI (wI J 1 0 0 0) nl np na, F) else some (vI 1, layI (wI J 1 0 0 0) nl np na, F)) else if y = 1 then some (vI (tv (oF (I 1 2) (I 1 2 8) nl na) p), layI (wI J 1 0 0 0) nl np na, F) else if y = 4 then some (vI (tv (gF (I 1 2) (I 1 2 8) nl na) p), layI (wI J 1 0 0 0) nl np na, F) else if y = 5 then some (vI (tv (zF (I 1 2) (I 1 2 8) nl na) p), layI (wI J 1 0 0 0) nl np na, F) else some (vI (-1), layI (wI J 1 0 0 0) nl np na, F)) := by
      rw [s269]; unfold b269
      dsimp only
      rw [q1 J (fun k => hsm.2.2.1 k), bI_v, ite_bzif, if_pos hx, d1.1, bV_v]
      simp only [eq_true ip, ↓reduceIte, ep, y2, y3, y6, d1.2 10 p rfl hp, d1.2 12 p rfl hp, d1.2 16 p rfl hp, d1.2 18 p rfl hp, t10, t12, t16, t18]
    rw [jt 5 rfl, jt 7 rfl, jt 6 rfl, jt 8 rfl, j5, j6, j7, j8] at cls
    by_cases y0 : y = 0
    · rw [if_pos y0] at cls mdl
      by_cases h5 : tv (hF (I 1 2) (I 1 2 8) nl na) p = 0
      · rw [if_pos h5] at cls mdl
        exact qs_of hI cls mdl hsm (sm_lay (sm_0 sm_rfl))
      · rw [if_neg h5] at cls mdl
        exact qs_of hI cls mdl hsm (sm_lay (sm_0 sm_rfl))
    rw [if_neg y0] at cls mdl
    by_cases y1 : y = 1
    · rw [if_pos y1] at cls mdl
      exact qs_of hI cls mdl hsm (sm_lay (sm_0 sm_rfl))
    rw [if_neg y1] at cls mdl
    by_cases y4 : y = 4
    · rw [if_pos y4] at cls mdl
      exact qs_of hI cls mdl hsm (sm_lay (sm_0 sm_rfl))
    rw [if_neg y4] at cls mdl
    by_cases y5 : y = 5
    · rw [if_pos y5] at cls mdl
      exact qs_of hI cls mdl hsm (sm_lay (sm_0 sm_rfl))
    rw [if_neg y5] at cls mdl
    exact qs_of hI cls mdl hsm (sm_lay (sm_0 sm_rfl))
  · refine qs_0 (x := -1) hI ?_ ?_
    · rw [s158]; unfold b158
      rw [c81, bI_v, ite_bzif, if_neg hx]
    · rw [s269]; unfold b269
      dsimp only
      rw [m200 (n := np) x (by rw [w0_12, v2]) (by omega), bI_v, ite_bzif, if_neg hx]
theorem st159 : StpI InvC 159 271 1 := by
  intro as I F hl hI
  obtain ⟨x, rfl⟩ := len1 hl
  simp only [List.map_cons, List.map_nil]
  obtain ⟨nl, nc, nk, nx, np, na, ns, hR⟩ := hI.1
  obtain ⟨p1, -⟩ := hR.2.1
  have hok := rok_of hR
  have hjk := jok_of hR
  obtain ⟨v1, v2, v3, v4, -⟩ := hR.2.2.2.2.2.1
  have c81 := m81 (N := zN) (d := 7) (I := I) (F := F) (b := 2) (n := np) (by omega) x v1 v3
  by_cases hx : inb x np
  · obtain ⟨p, hp, hp2, rfl, ep⟩ := inb_get hx
    have ip : inb (nI p) 24 := inb_mono v3 hx
    have c33 := m33 (N := zN) (d := 3) (I := I) (F := F) (c := 2) (nk := nk) (np := np) (na := na) (nl := nl) (a := I 1 2) (I 1 2 8) (by omega) (by decide) hjk
    have d1 := rlay (J := wI (jdgI I (I 1 2) (I 1 2 8) nl np na) 1 0 0 0) (F := F) (a := I 1 2) (N := zN) (d := 4) (by decide) (fun k => w0j_12 k) hok
    refine qs_of (x := tv (yF (I 1 2) (I 1 2 8) nl na) p) hI (I1 := jdgI I (I 1 2) (I 1 2 8) nl np na) (F1 := F) ?_ (I2 := layI (wI (jdgI I (I 1 2) (I 1 2 8) nl np na) 1 0 0 0) nl np na) (F2 := F) ?_ (sm_jdg sm_rfl) (sm_lay (sm_0 sm_rfl))
    · rw [s159]; unfold b159
      rw [c81, bI_v, ite_bzif, if_pos hx, p1, c33, bV_v, if_pos ip, ep, jdg_t rfl hp, j9]
    · rw [s271]; unfold b271
      dsimp only
      rw [d1.1, bV_v, m200 (n := np) (nI p) (by rw [lay_2, w0j_12, v2]) (by omega), bI_v, ite_bzif, if_pos hx, if_pos ip, ep, d1.2 15 p rfl hp, t15]
  · have d0 := rlay (J := wI I 1 0 0 0) (F := F) (a := I 1 2) (N := zN) (d := 4) (by decide) (fun k => w0_12 k) hok
    refine qs_of (x := -1) hI (I1 := I) (F1 := F) ?_ (I2 := layI (wI I 1 0 0 0) nl np na) (F2 := F) ?_ sm_rfl (sm_lay (sm_0 sm_rfl))
    · rw [s159]; unfold b159
      rw [c81, bI_v, ite_bzif, if_neg hx]
    · rw [s271]; unfold b271
      dsimp only
      rw [d0.1, bV_v, m200 (n := np) x (by rw [lay_2, w0_12, v2]) (by omega), bI_v, ite_bzif, if_neg hx]
theorem m35 {N d np na nl : Nat} {I : IM} {F : FM} {a : Nat → Int32} {l : Int32} (x : Int32) (hnp : np ≤ 24) (hw : I 0 1 8 = nI np) (h7 : ∀ q, q < np → I 0 7 q = tv (oF a l nl na) q) : sem N (d + 1) 35 [vR (some (0, 1)), vI x] I F = some (vI (bz (inb x np ∧ tv (oF a l nl na) x.toNatClampNeg = 2)), I, F) := by
  rw [s35]; unfold b35
  by_cases hx : inb x np
  · obtain ⟨c, hc, hc2, rfl, ec⟩ := inb_get hx
    rw [if_neg (nI_pos hc2), hw, if_neg (nI_ge hc (by omega)), if_pos (inb_mono hnp hx), ite_bz]
    refine congrArg (fun v => some (vI v, I, F)) (bz_congr ?_)
    have e7 : I 0 7 (nI c).toNatClampNeg = tv (oF a l nl na) (nI c).toNatClampNeg := by rw [ec, h7 c hc]
    rw [e7]
    exact ⟨fun z => ⟨hx, z⟩, fun z => z.2⟩
  · rw [bz_f (fun z => hx z.1)]
    by_cases h0 : x < 0
    · rw [if_pos h0]
    · rw [if_neg h0, hw, if_pos]
      rw [inb_iff] at hx
      rw [i_lt, i_0] at h0
      rw [i_le, i_nI (by omega)]
      omega
/-- seals that could be unsealed; seals that are lost -/
def slH (a : Nat → Int32) (l : Int32) (nl na : Nat) (s : Nat) : Prop := a (342 + 3 * s) = -1 ∨ ¬ tv (hF a l nl na) (a (342 + 3 * s)).toNatClampNeg = 0
def slP (a : Nat → Int32) (l : Int32) (nl na : Nat) (w : Int32) (s : Nat) : Prop := if w = 0 then (¬ a (182 + 4 * (a (341 + 3 * s)).toNatClampNeg) = -1 ∧ slH a l nl na s) else (¬ a (342 + 3 * s) = -1 ∧ tv (oF a l nl na) (a (342 + 3 * s)).toNatClampNeg = 2)
noncomputable def slB (a : Nat → Int32) (l : Int32) (nl na : Nat) (w : Int32) (n : Nat) : Int32 := @orb (slP a l nl na w) (fun _ => Classical.propDecidable _) n
theorem slB_s {a : Nat → Int32} {l : Int32} {nl na : Nat} {w : Int32} {n : Nat} : (slP a l nl na w n → slB a l nl na w (n + 1) = slB a l nl na w n ||| sh1 n) ∧ (¬ slP a l nl na w n → slB a l nl na w (n + 1) = slB a l nl na w n) := by
  constructor
  · intro h
    exact if_pos h
  · intro h
    exact if_neg h
section SL
variable {N d nl np na ns nk nx : Nat} {I : IM} {F : FM} {a : Nat → Int32} {l : Int32}
theorem c160 (hN : 20 ≤ N) (w : Int32) (hw : w = 0 ∨ w = 1) (hnp : np ≤ 24) (hky : kyR (I 2) a nk nx) (hsl : slR (I 2) a nk np ns) (h18 : I 0 1 8 = nI np) (h5 : ∀ q, q < np → I 0 5 q = tv (hF a l nl na) q) (h7 : ∀ q, q < np → I 0 7 q = tv (oF a l nl na) q) : sg (sem N (d + 1)) 1 zc160 N 36 [vR (some (0, 0)), vI w, vI 0, vI 0] I F = some (vI (slB a l nl na w ns), I, F) := by
  obtain ⟨t1, t2, t3, t4⟩ := hsl
  have n10 : ((1 : Int32) = 0) = False := eq_false (by decide)
  refine lp (S := fun m c => sg (sem N (d + 1)) 1 zc160 m 36 [vR (some (0, 0)), vI w, vI (slB a l nl na w c), vI (nI c)] I F) (m := ns) ?_ ?_ ns 0 N (by omega) (by omega)
  · intro m c hc
    try dsimp only
    obtain ⟨u1, u2, u3, ⟨k, hk, ek⟩, hpol⟩ := t4 c hc
    have ic : inb (nI c) 10 := inb_nI (by omega) (by decide)
    have cc : (nI c).toNatClampNeg = c := nI_clamp (by omega)
    have nk10 : nk ≤ 10 := hky.2.2.1
    have hpi : ∀ (X : Prop), (a (342 + 3 * c) = -1 ∨ inb (a (342 + 3 * c)) np) := fun X => by
      rcases hpol with h | ⟨p, hp, h⟩
      · exact Or.inl h
      · exact Or.inr (by rw [h]; exact inb_nI hp (by omega))
    have hpi := hpi True
    rw [u160_36]; unfold b160_36
    rw [t1, if_neg (nI_ge hc (by omega)), if_neg (show ¬ (10 : Int32) ≤ nI c from nI_ge (show c < 10 by omega) (by decide))]
    simp only [eq_true ic, ↓reduceIte, cc, u2, u3, nI_1, n10]
    rcases hw with rfl | rfl
    · rw [if_pos rfl, ek, m56 (by omega) (by omega), bI_v, slOf_c hky hk]
      by_cases h1 : a (182 + 4 * k) = -1
      · rw [if_pos h1, slB_s.2 (fun z => by
          have z1 := (if_pos (rfl : (0 : Int32) = 0)).mp z
          rw [ek, nI_clamp (by omega)] at z1
          exact z1.1 h1)]
      · rw [if_neg h1, m34 (a := a) (l := l) (nl := nl) (na := na) (np := np) _ hnp h18 h5, bI_v, ite_bzif]
        by_cases h2 : a (342 + 3 * c) = -1 ∨ (inb (a (342 + 3 * c)) np ∧ ¬ tv (hF a l nl na) (a (342 + 3 * c)).toNatClampNeg = 0)
        · rw [if_pos h2, slB_s.1 ((if_pos (rfl : (0 : Int32) = 0)).mpr ⟨by rw [ek, nI_clamp (by omega)]; exact h1, h2.elim Or.inl (fun z => Or.inr z.2)⟩)]
        · rw [if_neg h2, slB_s.2 (fun z => by
            have z1 := ((if_pos (rfl : (0 : Int32) = 0)).mp z).2
            rcases z1 with y | y
            · exact h2 (Or.inl y)
            · rcases hpi with q | q
              · exact h2 (Or.inl q)
              · exact h2 (Or.inr ⟨q, y⟩))]
    · rw [if_neg (by decide), m35 (a := a) (l := l) (nl := nl) (na := na) (np := np) _ hnp h18 h7, bI_v, ite_bzif]
      have n10' : ¬ (1 : Int32) = 0 := by decide
      by_cases h2 : inb (a (342 + 3 * c)) np ∧ tv (oF a l nl na) (a (342 + 3 * c)).toNatClampNeg = 2
      · rw [if_pos h2, slB_s.1 ((if_neg n10').mpr ⟨fun z => inb_m1 np (by rw [← z]; exact h2.1), h2.2⟩)]
      · rw [if_neg h2, slB_s.2 (fun z => by
          have z1 := (if_neg n10').mp z
          rcases hpi with q | q
          · exact z1.1 q
          · exact h2 ⟨q, z1.2⟩)]
  · intro m
    try dsimp only
    rw [u160_36]; unfold b160_36
    rw [t1, if_pos (nI_le (Nat.le_refl _) (by omega))]
theorem c272 (hN : 20 ≤ N) (w : Int32) (hw : w = 0 ∨ w = 1) (hnp : np ≤ 24) (hnk : nk ≤ 10) (hX : ∀ k, I 1 2 k = a k) (h16 : a 16 = nI ns) (hns : ns ≤ 10) (hsl : ∀ s, s < ns → (∃ k, k < nk ∧ a (341 + 3 * s) = nI k) ∧ (a (342 + 3 * s) = -1 ∨ ∃ p, p < np ∧ a (342 + 3 * s) = nI p)) (h10 : ∀ q, q < np → I 1 10 q = tv (hF a l nl na) q) (h12 : ∀ q, q < np → I 1 12 q = tv (oF a l nl na) q) : sg (sem N (d + 1)) 1 zc272 N 25 [vR (some (1, 0)), vI w, vI 0, vI 0] I F = some (vI (slB a l nl na w ns), I, F) := by
  have n10 : ((1 : Int32) = 0) = False := eq_false (by decide)
  refine lp (S := fun m c => sg (sem N (d + 1)) 1 zc272 m 25 [vR (some (1, 0)), vI w, vI (slB a l nl na w c), vI (nI c)] I F) (m := ns) ?_ ?_ ns 0 N (by omega) (by omega)
  · intro m c hc
    try dsimp only
    obtain ⟨⟨k, hk, ek⟩, hpol⟩ := hsl c hc
    have i1 : inb (nI (340 + 3 * c + 1)) 406 := inb_nI (by omega) (by decide)
    have i2 : inb (nI (340 + 3 * c + 2)) 406 := inb_nI (by omega) (by decide)
    have k1 : (nI (340 + 3 * c + 1)).toNatClampNeg = 341 + 3 * c := by rw [nI_clamp (by omega)]; omega
    have k2 : (nI (340 + 3 * c + 2)).toNatClampNeg = 342 + 3 * c := by rw [nI_clamp (by omega)]; omega
    have j2 : inb (nI (180 + 4 * k + 2)) 406 := inb_nI (by omega) (by decide)
    have l2 : (nI (180 + 4 * k + 2)).toNatClampNeg = 182 + 4 * k := by rw [nI_clamp (by omega)]; omega
    rw [u272_25]; unfold b272_25
    rw [hX, h16, if_neg (nI_ge hc (by omega))]
    simp only [m197, bI_v, nI_1, L2, nI_add, eq_true i1, eq_true i2, ↓reduceIte, k1, k2, hX, ek, m194, eq_true j2, l2, n10, or0]
    rw [← L2]
    rcases hw with rfl | rfl
    · rw [if_pos rfl]
      by_cases h1 : a (182 + 4 * k) = -1
      · rw [if_pos h1, slB_s.2 (fun z => by
          have z1 := (if_pos (rfl : (0 : Int32) = 0)).mp z
          rw [ek, nI_clamp (by omega)] at z1
          exact z1.1 h1)]
      · rw [if_neg h1]
        by_cases h2 : a (342 + 3 * c) = -1
        · rw [if_pos h2, slB_s.1 ((if_pos (rfl : (0 : Int32) = 0)).mpr ⟨by rw [ek, nI_clamp (by omega)]; exact h1, Or.inl h2⟩)]
        · rw [if_neg h2]
          obtain ⟨p, hp, e⟩ := hpol.resolve_left h2
          have ip : inb (nI p) 24 := inb_nI (by omega) (by decide)
          have cp : (nI p).toNatClampNeg = p := nI_clamp (by omega)
          simp only [e, eq_true ip, ↓reduceIte, cp, h10 p hp]
          by_cases h3 : tv (hF a l nl na) p = 0
          · rw [if_pos h3, slB_s.2 (fun z => by
              have z1 := ((if_pos (rfl : (0 : Int32) = 0)).mp z).2
              rcases z1 with y | y
              · exact h2 y
              · rw [e, cp] at y
                exact y h3)]
          · rw [if_neg h3, slB_s.1 ((if_pos (rfl : (0 : Int32) = 0)).mpr ⟨by rw [ek, nI_clamp (by omega)]; exact h1, Or.inr (by rw [e, cp]; exact h3)⟩)]
    · have n10' : ¬ (1 : Int32) = 0 := by decide
      rw [if_neg n10']
      by_cases h2 : a (342 + 3 * c) = -1
      · rw [if_pos h2, slB_s.2 (fun z => ((if_neg n10').mp z).1 h2)]
      · rw [if_neg h2]
        obtain ⟨p, hp, e⟩ := hpol.resolve_left h2
        have ip : inb (nI p) 24 := inb_nI (by omega) (by decide)
        have cp : (nI p).toNatClampNeg = p := nI_clamp (by omega)
        simp only [e, eq_true ip, ↓reduceIte, cp, h12 p hp]
        by_cases h3 : tv (oF a l nl na) p = 2
        · rw [if_pos h3, slB_s.1 ((if_neg n10').mpr ⟨h2, by rw [e, cp]; exact h3⟩)]
        · rw [if_neg h3, slB_s.2 (fun z => by
            have z1 := ((if_neg n10').mp z).2
            rw [e, cp] at z1
            exact h3 z1)]
  · intro m
    try dsimp only
    rw [u272_25]; unfold b272_25
    rw [hX, h16, if_pos (nI_le (Nat.le_refl _) (by omega))]
end SL
theorem st160 : StpI InvC 160 272 1 := by
  intro as I F hl hI
  obtain ⟨x, rfl⟩ := len1 hl
  simp only [List.map_cons, List.map_nil]
  obtain ⟨nl, nc, nk, nx, np, na, ns, hR⟩ := hI.1
  obtain ⟨p1, -⟩ := hR.2.1
  have hok := rok_of hR
  have hjk := jok_of hR
  have hky := hR.2.2.2.2.1
  have hsl := hR.2.2.2.2.2.2.1
  obtain ⟨v1, v2, v3, v4, -⟩ := hR.2.2.2.2.2.1
  have c33 := m33 (N := zN) (d := 3) (I := I) (F := F) (c := 2) (nk := nk) (np := np) (na := na) (nl := nl) (a := I 1 2) (I 1 2 8) (by omega) (by decide) hjk
  have d1 := rlay (J := wI (jdgI I (I 1 2) (I 1 2 8) nl np na) 1 0 0 0) (F := F) (a := I 1 2) (N := zN) (d := 4) (by decide) (fun k => w0j_12 k) hok
  have d184 := fun (J : IM) => m184 (h := 1) (n := 2) zN 7 (x := x) (by decide) J F
  have e2 : jdgI I (I 1 2) (I 1 2 8) nl np na 2 = I 2 := funext (fun o => funext (fun k => jdg_b (by omega)))
  by_cases hx : x = 0 ∨ x = 1
  · have hx2 : inb x 2 := by
      rcases hx with rfl | rfl
      · decide
      · decide
    refine qs_of (x := slB (I 1 2) (I 1 2 8) nl na x ns) hI (I1 := jdgI I (I 1 2) (I 1 2 8) nl np na) (F1 := F) ?_ (I2 := layI (wI (jdgI I (I 1 2) (I 1 2 8) nl np na) 1 0 0 0) nl np na) (F2 := F) ?_ (sm_jdg sm_rfl) (sm_lay (sm_0 sm_rfl))
    · have fin := c160 (N := zN) (d := 7) (I := jdgI I (I 1 2) (I 1 2 8) nl np na) (F := F) (a := I 1 2) (l := I 1 2 8) (nl := nl) (na := na) (np := np) (ns := ns) (nk := nk) (nx := nx) (by decide) x hx v3 (by rw [e2]; exact hky) (by rw [e2]; exact hsl) jdg_w (fun q hq => by rw [jdg_t rfl hq, j5]) (fun q hq => by rw [jdg_t rfl hq, j7])
      rw [s160]; unfold b160
      rw [p1, c33, bV_v]
      by_cases h0 : x = 0
      · rw [if_pos h0]; exact fin
      · rw [if_neg h0, if_pos (hx.resolve_left h0)]; exact fin
    · rw [s272]; unfold b272
      dsimp only
      rw [d184, bI_v, ite_bzif, if_pos hx2, d1.1, bV_v]
      exact c272 (N := zN) (d := 7) (nk := nk) (np := np) (by decide) x hx v3 hky.2.2.1 (fun k => by rw [lay_2, w0j_12]) hsl.2.1 hsl.2.2.1 (fun s hs => ⟨(hsl.2.2.2 s hs).2.2.2.1, (hsl.2.2.2 s hs).2.2.2.2⟩) (fun q hq => by rw [d1.2 10 q rfl hq, t10]) (fun q hq => by rw [d1.2 12 q rfl hq, t12])
  · have h0 : ¬ x = 0 := fun z => hx (Or.inl z)
    have h1 : ¬ x = 1 := fun z => hx (Or.inr z)
    refine qs_0 (x := -1) hI ?_ ?_
    · rw [s160]; unfold b160
      rw [if_neg h0, if_neg h1]
    · rw [s272]; unfold b272
      dsimp only
      rw [d184, bI_v, ite_bzif, if_neg (nin2 h0 h1)]
