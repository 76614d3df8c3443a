/-! UNSEAL -/
/-- rows that the policies see alike -/
def rsame (a a' : Nat → Int32) : Prop := ∀ k, (k < 8 ∨ k = 9 ∨ (20 ≤ k ∧ k < 100) ∨ (268 ≤ k ∧ k < 340) ∨ (386 ≤ k ∧ k < 406)) → a' k = a k
theorem vB {a : Nat → Int32} {l : Int32} {nl c : Nat} (hj : jn2 a c) (hc : c < 24) : tv (brF a l nl) c = if a (268 + 3 * c) = 3 then bz (¬ tv (brF a l nl) (a (269 + 3 * c)).toNatClampNeg = 0 ∧ ¬ tv (brF a l nl) (a (270 + 3 * c)).toNatClampNeg = 0) else if a (268 + 3 * c) = 4 then bz (¬ tv (brF a l nl) (a (269 + 3 * c)).toNatClampNeg = 0 ∨ ¬ tv (brF a l nl) (a (270 + 3 * c)).toNatClampNeg = 0) else brV a l nl (a (268 + 3 * c)) (a (269 + 3 * c)) (a (270 + 3 * c)) := by
  refine (tv_eq (brF a l nl) c).trans ?_
  show (if a (268 + 3 * c) = 3 then bz (¬ tabl (brF a l nl) c (a (269 + 3 * c)).toNatClampNeg = 0 ∧ ¬ tabl (brF a l nl) c (a (270 + 3 * c)).toNatClampNeg = 0) else if a (268 + 3 * c) = 4 then bz (¬ tabl (brF a l nl) c (a (269 + 3 * c)).toNatClampNeg = 0 ∨ ¬ tabl (brF a l nl) c (a (270 + 3 * c)).toNatClampNeg = 0) else brV a l nl (a (268 + 3 * c)) (a (269 + 3 * c)) (a (270 + 3 * c))) = _
  by_cases h3 : a (268 + 3 * c) = 3
  · have z := jn_lt hj hc (Or.inl h3)
    rw [if_pos h3, if_pos h3, tv_lt z.1, tv_lt z.2]
  · rw [if_neg h3, if_neg h3]
    by_cases h4 : a (268 + 3 * c) = 4
    · have z := jn_lt hj hc (Or.inr h4)
      rw [if_pos h4, if_pos h4, tv_lt z.1, tv_lt z.2]
    · rw [if_neg h4, if_neg h4]
theorem rtl_sm {a a' : Nat → Int32} {nl : Nat} (hs : rsame a a') (hnl : nl ≤ 40) (r : Int32) : rtl (fun i => a' (20 + 2 * i)) (fun i => a' (20 + 2 * i + 1)) r (-1) (-1) nl = rtl (fun i => a (20 + 2 * i)) (fun i => a (20 + 2 * i + 1)) r (-1) (-1) nl := rtl_c (fun i hi => ⟨hs _ (by omega), hs _ (by omega)⟩)
theorem exb_c {P Q : Nat → Prop} [DecidablePred P] [DecidablePred Q] {m : Nat} (h : ∀ i, i < m → (P i ↔ Q i)) : (exb P m = true) ↔ (exb Q m = true) := by
  rw [exb_iff, exb_iff]
  exact ⟨fun ⟨i, hi, z⟩ => ⟨i, hi, (h i hi).mp z⟩, fun ⟨i, hi, z⟩ => ⟨i, hi, (h i hi).mpr z⟩⟩
theorem brV_c {a a' : Nat → Int32} {l : Int32} {nl nk p : Nat} (hs : rsame a a') (hnl : nl ≤ 40) (hok : plOK a nk p) : brV a' l nl (a (268 + 3 * p)) (a (269 + 3 * p)) (a (270 + 3 * p)) = brV a l nl (a (268 + 3 * p)) (a (269 + 3 * p)) (a (270 + 3 * p)) := by
  unfold brV
  generalize hK : a (268 + 3 * p) = K at *
  generalize hx : a (269 + 3 * p) = x at *
  generalize hy : a (270 + 3 * p) = y at *
  unfold plOK at hok
  rw [hK, hx, hy] at hok
  rcases hok with ⟨rfl, h1⟩ | ⟨rfl, h1⟩ | rfl | ⟨h0, h1, h2⟩ | rfl | ⟨rfl, h1⟩ | ⟨rfl, h1⟩
  · rw [if_pos rfl, if_pos rfl, dig_c (r' := a) (fun i hi => hs i (by omega))]
  · obtain ⟨i, hi, hi2, rfl, ei⟩ := inb_get h1
    rw [if_neg (show ¬ (1 : Int32) = 0 by decide), if_pos rfl, if_neg (show ¬ (1 : Int32) = 0 by decide), if_pos rfl, ei, hs (386 + i) (by omega)]
  · rw [if_neg (show ¬ (2 : Int32) = 0 by decide), if_neg (show ¬ (2 : Int32) = 1 by decide), if_pos rfl, if_neg (show ¬ (2 : Int32) = 0 by decide), if_neg (show ¬ (2 : Int32) = 1 by decide), if_pos rfl]
  · rcases h0 with rfl | rfl
    · rw [if_neg (show ¬ (3 : Int32) = 0 by decide), if_neg (show ¬ (3 : Int32) = 1 by decide), if_neg (show ¬ (3 : Int32) = 2 by decide), if_neg (show ¬ (3 : Int32) = 5 by decide), if_neg (show ¬ (3 : Int32) = 7 by decide), if_neg (show ¬ (3 : Int32) = 0 by decide), if_neg (show ¬ (3 : Int32) = 1 by decide), if_neg (show ¬ (3 : Int32) = 2 by decide), if_neg (show ¬ (3 : Int32) = 5 by decide), if_neg (show ¬ (3 : Int32) = 7 by decide)]
    · rw [if_neg (show ¬ (4 : Int32) = 0 by decide), if_neg (show ¬ (4 : Int32) = 1 by decide), if_neg (show ¬ (4 : Int32) = 2 by decide), if_neg (show ¬ (4 : Int32) = 5 by decide), if_neg (show ¬ (4 : Int32) = 7 by decide), if_neg (show ¬ (4 : Int32) = 0 by decide), if_neg (show ¬ (4 : Int32) = 1 by decide), if_neg (show ¬ (4 : Int32) = 2 by decide), if_neg (show ¬ (4 : Int32) = 5 by decide), if_neg (show ¬ (4 : Int32) = 7 by decide)]
  · rw [if_neg (show ¬ (5 : Int32) = 0 by decide), if_neg (show ¬ (5 : Int32) = 1 by decide), if_neg (show ¬ (5 : Int32) = 2 by decide), if_pos rfl, if_neg (show ¬ (5 : Int32) = 0 by decide), if_neg (show ¬ (5 : Int32) = 1 by decide), if_neg (show ¬ (5 : Int32) = 2 by decide), if_pos rfl, hs 9 (by omega)]
  · rw [if_neg (show ¬ (6 : Int32) = 0 by decide), if_neg (show ¬ (6 : Int32) = 1 by decide), if_neg (show ¬ (6 : Int32) = 2 by decide), if_neg (show ¬ (6 : Int32) = 5 by decide), if_neg (show ¬ (6 : Int32) = 7 by decide), if_neg (show ¬ (6 : Int32) = 0 by decide), if_neg (show ¬ (6 : Int32) = 1 by decide), if_neg (show ¬ (6 : Int32) = 2 by decide), if_neg (show ¬ (6 : Int32) = 5 by decide), if_neg (show ¬ (6 : Int32) = 7 by decide)]
  · obtain ⟨r, hr, hr2, rfl, er⟩ := inb_get h1
    rw [if_neg (show ¬ (7 : Int32) = 0 by decide), if_neg (show ¬ (7 : Int32) = 1 by decide), if_neg (show ¬ (7 : Int32) = 2 by decide), if_neg (show ¬ (7 : Int32) = 5 by decide), if_pos rfl, if_neg (show ¬ (7 : Int32) = 0 by decide), if_neg (show ¬ (7 : Int32) = 1 by decide), if_neg (show ¬ (7 : Int32) = 2 by decide), if_neg (show ¬ (7 : Int32) = 5 by decide), if_pos rfl, er, rtl_sm hs hnl, hs r (by omega)]
    have hl : (lgd a' nl (nI r) y = true) ↔ (lgd a nl (nI r) y = true) := by
      unfold lgd
      exact exb_c (fun i hi => by rw [hs (20 + 2 * i) (by omega), hs (20 + 2 * i + 1) (by omega)])
    exact bz_congr (by rw [hl])
section RC
variable {a a' : Nat → Int32} {l : Int32} {nl np na nk : Nat}
theorem pl_sm (hs : rsame a a') {q : Nat} (hq : q < 24) : a' (268 + 3 * q) = a (268 + 3 * q) ∧ a' (269 + 3 * q) = a (269 + 3 * q) ∧ a' (270 + 3 * q) = a (270 + 3 * q) := ⟨hs _ (by omega), hs _ (by omega), hs _ (by omega)⟩
theorem jn_sm (hs : rsame a a') {q : Nat} (hq : q < 24) (h : jn2 a q) : jn2 a' q := by
  obtain ⟨e1, e2, e3⟩ := pl_sm hs hq
  unfold jn2
  rw [e1, e2, e3]
  exact h
theorem brf_c (hs : rsame a a') (hnl : nl ≤ 40) (hnp : np ≤ 24) (hok : ∀ q, q < np → plOK a nk q) : ∀ p, p < np → tv (brF a' l nl) p = tv (brF a l nl) p := by
  intro p
  induction p using Nat.strongRecOn with
  | _ p ih =>
    intro hp
    have hj := jn_ok (hok p hp)
    obtain ⟨e1, e2, e3⟩ := pl_sm hs (q := p) (by omega)
    rw [vB hj (by omega), vB (jn_sm hs (by omega) hj) (by omega), e1, e2, e3]
    by_cases h3 : a (268 + 3 * p) = 3
    · have z := jn_lt hj (by omega) (Or.inl h3)
      rw [if_pos h3, if_pos h3, ih _ z.1 (by omega), ih _ z.2 (by omega)]
    · rw [if_neg h3, if_neg h3]
      by_cases h4 : a (268 + 3 * p) = 4
      · have z := jn_lt hj (by omega) (Or.inr h4)
        rw [if_pos h4, if_pos h4, ih _ z.1 (by omega), ih _ z.2 (by omega)]
      · rw [if_neg h4, if_neg h4, brV_c hs hnl (hok p hp)]
theorem h_c (hs : rsame a a') (hnl : nl ≤ 40) (hnp : np ≤ 24) (hna : na ≤ 8) (hok : ∀ q, q < np → plOK a nk q) (hq : ∀ i, i < na → ∃ p, p < np ∧ a (391 + 2 * i) = nI p) : ∀ p, p < np → tv (hF a' l nl na) p = tv (hF a l nl na) p := by
  intro p
  induction p using Nat.strongRecOn with
  | _ p ih =>
    intro hp
    have hj := jn_ok (hok p hp)
    obtain ⟨e1, e2, e3⟩ := pl_sm hs (q := p) (by omega)
    rw [vH hj (by omega), vH (jn_sm hs (by omega) hj) (by omega), e1, e2, e3, brf_c hs hnl hnp hok p hp]
    by_cases h3 : a (268 + 3 * p) = 3
    · have z := jn_lt hj (by omega) (Or.inl h3)
      rw [if_pos h3, if_pos h3, ih _ z.1 (by omega), ih _ z.2 (by omega)]
    · rw [if_neg h3, if_neg h3]
      by_cases h4 : a (268 + 3 * p) = 4
      · have z := jn_lt hj (by omega) (Or.inr h4)
        rw [if_pos h4, if_pos h4, ih _ z.1 (by omega), ih _ z.2 (by omega)]
      · rw [if_neg h4, if_neg h4]
        by_cases h6 : a (268 + 3 * p) = 6
        · rw [if_pos h6, if_pos h6]
          refine bz_congr ?_
          unfold sgd
          refine exb_c (fun i hi => ?_)
          obtain ⟨q, hq1, eq1⟩ := hq i hi
          rw [hs (390 + 2 * i) (by omega), hs (391 + 2 * i) (by omega), eq1, nI_clamp (by omega), brf_c hs hnl hnp hok q hq1]
        · rw [if_neg h6, if_neg h6]
theorem rok_sm (hs : rsame a a') (h11 : a' 11 = a 11) (h15 : a' 15 = a 15) (h18 : a' 18 = a 18) (h : rok a nl np na nk) : rok a' nl np na nk := by
  obtain ⟨r1, r2, r3, r4, r5, r6, r7, r8, r9⟩ := h
  refine ⟨by rw [h11, r1], r2, fun i hi => ?_, by rw [h15, r4], r5, fun p hp => ?_, by rw [h18, r7], r8, fun i hi => ?_⟩
  · rw [hs (20 + 2 * i) (by omega)]; exact r3 i hi
  · obtain ⟨e1, e2, e3⟩ := pl_sm hs (q := p) (by omega)
    have := r6 p hp
    unfold plOK at this ⊢
    rw [e1, e2, e3]
    exact this
  · rw [hs (391 + 2 * i) (by omega)]; exact r9 i hi
/-- the reference's holdings over a row that the policies see alike -/
theorem rlay2 {J : IM} {F : FM} {N d : Nat} (hN : 300 ≤ N) (hs : rsame a (J 1 2)) (h11 : J 1 2 11 = a 11) (h15 : J 1 2 15 = a 15) (h18 : J 1 2 18 = a 18) (h : rok a nl np na nk) : sem N (d + 4) 237 [vR (some (1, 0))] J F = some (vI 0, layI J nl np na, F) ∧ ∀ k, k < np → layI J nl np na 1 10 k = tv (hF a (J 1 2 8) nl na) k := by
  have h' := rok_sm hs h11 h15 h18 h
  obtain ⟨r1, r2, r3, r4, r5, r6, r7, r8, r9⟩ := h
  refine ⟨m237 hN h', fun k hk => ?_⟩
  rw [lay_t rfl hk, t10, h_c hs r2 r5 r8 r6 r9 k hk]
end RC
theorem m181 {N d nl np na nk : Nat} {I : IM} {F : FM} {a : Nat → Int32} (x : Int32) (hN : 300 ≤ N) (hj : jok (I 2) a nl np na nk) : sem N (d + 6) 181 [vR (some (0, 0)), vI x] I F = some (vI (bz (x = -1 ∨ (inb x np ∧ ¬ tv (hF a (I 2 1 2) nl na) x.toNatClampNeg = 0))), jdgI I a (I 2 1 2) nl np na, F) := by
  have hnp : np ≤ 24 := hj.2.2.2.2.2.2.1
  rw [s181]; unfold b181
  rw [m33 (I 2 1 2) (by omega) hN hj, bV_v, m34 (a := a) (l := I 2 1 2) (nl := nl) (na := na) (np := np) x hnp jdg_w (fun q hq => by rw [jdg_t rfl hq, j5]), bI_v, if_pos bz_01]
theorem pC_jdg {J C : IM} {G FC : FM} {a : Nat → Int32} {l : Int32} {nl np na : Nat} (h : pC J G C FC) : pC J G (jdgI C a l nl np na) FC := by
  refine ⟨fun b o k z1 z2 => ?_, h.2⟩
  by_cases e : b = 0
  · subst e
    rw [jdg_1 (by unfold scC at z2; omega), h.1 0 o k z1 z2]
  · rw [jdg_b e, h.1 b o k z1 z2]
theorem pM_lay {R M : IM} {H FX : FM} {nl np na : Nat} (h : pM R H M FX) : pM R H (layI M nl np na) FX := by
  refine ⟨fun b o k z1 z2 z3 => ?_, h.2⟩
  by_cases e : b = 1
  · subst e
    rw [lay_1 (by unfold scM at z2; omega), h.1 1 o k z1 z2 z3]
  · rw [lay_b e, h.1 b o k z1 z2 z3]

def t250 (gc gl : Nat → List Vl → IM → FM → Option Rs) (x0 x1 r6 : Int32) : Int32 → IM → FM → Option Rs := (fun r8 I8 F8 => (bV (gc 237 [vR (some (1, 0))] I8 F8) (fun I9 F9 => (if r8 = 0 then (if inb (r6 + (2 : Int32)) 406 then (if (I9 1 2 (r6 + (2 : Int32)).toNatClampNeg) = (-1 : Int32) then (gl 119 [vR (some (1, 0)), vI r6, vI r8, vI x1, vI (1 : Int32), vI x0, vR (some (1, 0))] I9 F9) else (if inb (r6 + (2 : Int32)) 406 then (if inb (I9 1 2 (r6 + (2 : Int32)).toNatClampNeg) 24 then (if (I9 1 10 (I9 1 2 (r6 + (2 : Int32)).toNatClampNeg).toNatClampNeg) = 0 then (gl 119 [vR (some (1, 0)), vI r6, vI (-7 : Int32), vI x1, vI (1 : Int32), vI x0, vR (some (1, 0))] I9 F9) else (gl 119 [vR (some (1, 0)), vI r6, vI r8, vI x1, vI (1 : Int32), vI x0, vR (some (1, 0))] I9 F9)) else none) else none)) else none) else (gl 119 [vR (some (1, 0)), vI r6, vI r8, vI x1, vI (1 : Int32), vI x0, vR (some (1, 0))] I9 F9)))))
theorem st136 : StpI InvC 136 250 3 := by
  intro as I F hl hI
  obtain ⟨x, y, w, rfl⟩ := len3 hl
  simp only [List.map_cons, List.map_nil]
  obtain ⟨nl, nc, nk, nx, np, na, ns, hR⟩ := hI.1
  have hK := hR.2.2.2.2.1
  have hS := hR.2.2.2.2.2.2.2
  obtain ⟨t1, t2, t3, t4⟩ := hR.2.2.2.2.2.2.1
  obtain ⟨q1, q2, q3, -, -, -, q7, -⟩ := hR.2.2.2.2.1
  obtain ⟨p1, -⟩ := hR.2.1
  obtain ⟨ff, hfo⟩ := hR.1
  have hok := rok_of hR
  have hjk := jok_of hR
  have hnp : np ≤ 24 := hR.2.2.2.2.2.1.2.2.1
  have c103 := m103 (N := zN) (d := 7) (I := I) (F := F) (b := 2) (by omega) x
  have c98 := m98 (N := zN) (d := 7) (I := I) (F := F) (b := 2) (n := ns) (by omega) y t1 t3
  have d202 : ∀ (J : IM) (G : FM), (∀ o k, J 1 o k = I 1 o k) → sem zN 8 202 [vR (some (1, 0)), vI x] (wI J 1 0 0 0) G = some (vI (bz (inb x 4 ∧ ¬ I 2 32 x.toNatClampNeg = -1)), wI J 1 0 0 0, G) := fun J G hJ => by
    rw [m202 (d := 6)]
    refine congrArg (fun v => some (vI v, wI J 1 0 0 0, G)) (bz_congr ?_)
    rw [w0_12, hJ]
    exact open_c hS q3 x
  have d201 : ∀ (J : IM) (G : FM), (∀ o k, J 1 o k = I 1 o k) → sem zN 8 201 [vR (some (1, 0)), vI y] (wI J 1 0 0 0) G = some (vI (bz (inb y ns)), wI J 1 0 0 0, G) := fun J G hJ => m201 (n := ns) y (by rw [w0_12, hJ, t2]) (by omega)
  have n10 : ((1 : Int32) = 0) = False := eq_false (by decide)
  have n30 : ((-3 : Int32) = 0) = False := eq_false (by decide)
  have n70 : ((-7 : Int32) = 0) = False := eq_false (by decide)
  by_cases hx : inb x 4 ∧ ¬ I 2 32 x.toNatClampNeg = -1
  · by_cases hy : inb y ns
    · obtain ⟨hx4, hxo⟩ := hx
      have hx : inb x 4 ∧ ¬ I 2 32 x.toNatClampNeg = -1 := ⟨hx4, hxo⟩
      obtain ⟨c, hc, hc2, rfl, ecl⟩ := inb_get hy
      have hy10 : inb (nI c) 10 := inb_mono t3 hy
      obtain ⟨s, hs, hs2, rfl, es⟩ := inb_get hx4
      have hxo2 : ¬ I 2 32 s = -1 := by rw [es] at hxo; exact hxo
      obtain ⟨k, hk, ek, e32⟩ : ∃ k, k < nk ∧ I 1 2 (371 + 4 * s) = nI k ∧ I 2 32 s = nI k := by
        rcases (hS.2 s hs).2.2 with ⟨-, y2, k, y3, y4⟩ | ⟨-, y2⟩
        · exact ⟨k, y3, y4, by rw [y2, y4]⟩
        · exact absurd y2 hxo2
      have e33 : I 2 33 s = I 1 2 (372 + 4 * s) := (hS.2 s hs).1
      have e34 : I 2 34 s = I 1 2 (373 + 4 * s) := (hS.2 s hs).2.1
      have e12 : I 2 12 k = I 1 2 (181 + 4 * k) := (q7 k hk).2.1
      obtain ⟨u28, u29, u30, ⟨kk, hkk, ekk⟩, hpol⟩ := t4 c hc
      obtain ⟨p, hp, hpe⟩ : ∃ p : Int32, (p = 0 ∨ p = -4 ∨ p = -5) ∧ ((p = 0 ∧ I 2 29 c = I 2 32 s) ∨ (p = -4 ∧ ¬ I 2 29 c = I 2 32 s)) := by
        by_cases h9 : I 2 29 c = I 2 32 s
        · exact ⟨0, Or.inl rfl, Or.inl ⟨rfl, h9⟩⟩
        · exact ⟨-4, Or.inr (Or.inl rfl), Or.inr ⟨rfl, h9⟩⟩
      obtain ⟨r, hr⟩ : ∃ r, hrd (F 2 1 5) p w (due 1 (nI c) (I 2 33 s) (I 2 12 k)) = r := ⟨_, rfl⟩
      obtain ⟨r2, hr2⟩ : ∃ r2 : Int32, (r = 0 ∧ r2 = 0 ∧ (I 2 30 c = -1 ∨ (inb (I 2 30 c) np ∧ ¬ tv (hF (I 1 2) (I 1 2 8) nl na) (I 2 30 c).toNatClampNeg = 0))) ∨ (r = 0 ∧ r2 = -7 ∧ ¬ (I 2 30 c = -1 ∨ (inb (I 2 30 c) np ∧ ¬ tv (hF (I 1 2) (I 1 2 8) nl na) (I 2 30 c).toNatClampNeg = 0))) ∨ (¬ r = 0 ∧ r2 = r) := by
        by_cases h0 : r = 0
        · by_cases hh : I 2 30 c = -1 ∨ (inb (I 2 30 c) np ∧ ¬ tv (hF (I 1 2) (I 1 2 8) nl na) (I 2 30 c).toNatClampNeg = 0)
          · exact ⟨0, Or.inl ⟨h0, rfl, hh⟩⟩
          · exact ⟨-7, Or.inr (Or.inl ⟨h0, rfl, hh⟩)⟩
        · exact ⟨r, Or.inr (Or.inr ⟨h0, rfl⟩)⟩
      have hstn := stn_ok (w := w) (dw := due 1 (nI c) (I 2 33 s) (I 2 12 k)) hp hfo
      rw [hr] at hstn
      have hr0 : (r2 = 0) ∨ rng r2 := by
        rcases hr2 with ⟨-, e, -⟩ | ⟨-, e, -⟩ | ⟨h0, e⟩
        · exact Or.inl e
        · exact Or.inr (by rw [e]; unfold rng; decide)
        · have := hrd_r (F 2 1 5) p w (due 1 (nI c) (I 2 33 s) (I 2 12 k)) hp
          rw [hr] at this
          rcases this with ⟨z, -⟩ | z
          · exact absurd z h0
          · exact Or.inr (by rw [e]; exact z)
      obtain ⟨JJ, hJ1, hJ2, hJ3⟩ : ∃ JJ : IM → IM, (∀ J o i, JJ J 2 o i = J 2 o i) ∧ (∀ J G FC, pC J G (JJ J) FC ↔ pC J G J FC) ∧ ((r = 0 ∧ ∀ J, JJ J = jdgI J (I 1 2) (I 1 2 8) nl np na) ∨ (¬ r = 0 ∧ ∀ J, JJ J = J)) := by
        by_cases h0 : r = 0
        · refine ⟨fun J => jdgI J (I 1 2) (I 1 2 8) nl np na, fun J o i => jdg_b (by omega), fun J G FC => ⟨fun z => ⟨fun b o k z1 z2 => rfl, z.2⟩, fun z => pC_jdg z⟩, Or.inl ⟨h0, fun J => rfl⟩⟩
        · exact ⟨fun J => J, fun J o i => rfl, fun J G FC => Iff.rfl, Or.inr ⟨h0, fun J => rfl⟩⟩
      have hJ4 : ∀ J, JJ J 0 0 6 = J 0 0 6 := fun J => by
        rcases hJ3 with ⟨-, e⟩ | ⟨-, e⟩
        · rw [e, jdg_1 (by omega)]
        · rw [e]
      have hcls : ∃ KC : IM → FM → Option Rs, sem zN 9 136 [vR (some (0, 0)), vI (nI s), vI (nI c), vI w] I F = bV (sem zN 8 28 [vR (some (0, 12)), vR (some (2, 0)), vI 19] I F) KC ∧ ∀ J G, agC I J F G → KC J G = if r2 = 0 then some (vI (I 2 28 c), wI (wI (wI (JJ J) 2 33 s (mixF (I 2 33 s) w)) 2 34 s (mixF (I 2 34 s) (mixF (mixF (mixF 17 1) (nI c)) r2))) 0 0 6 0, wF G 2 1 5 (stn r (F 2 1 5))) else bI (sem zN 8 170 [vR (some (0, 0)), vI r2] (wI (wI (JJ J) 2 33 s (mixF (I 2 33 s) w)) 2 34 s (mixF (I 2 34 s) (mixF (mixF (mixF 17 1) (nI c)) r2))) (wF G 2 1 5 (stn r (F 2 1 5)))) (fun r5 I5 F5 => some (vI r5, I5, F5)) := by
        apply Exists.intro
        apply And.intro
        · rw [s136]; unfold b136
          rw [c103, bI_v, ite_bzif, if_pos hx, c98, bI_v, ite_bzif, if_pos hy]
          try rfl
        · intro J G aC
          have m1 := m180 (N := zN) (d := 4) (I := J) (F := G) (s := s) (k := k) (nk := nk) 1 (nI c) p w hs hk (by rw [aC.1, e32]) (by rw [aC.1, q1]) q3 (p_6 hp) (by rw [aC.2.2.1, aC.1, aC.1, hr]; exact hstn.2)
          have m2 := fun (v : Int32) => m109 (N := zN) (d := 5) (I := JJ J) (F := wF G 2 1 5 (stn r (F 2 1 5))) (b := 2) (s := s) (by omega) hs (by rw [hJ1, aC.1]; exact hxo2) 1 (nI c) w v
          have m3 := m181 (N := zN) (d := 2) (I := J) (F := wF G 2 1 5 (stn r (F 2 1 5))) (a := I 1 2) (nl := nl) (np := np) (na := na) (nk := nk) (I 2 30 c) (by decide) (by rw [show J 2 = I 2 from funext (fun o => funext (fun i => aC.1 o i))]; exact hjk)
          simp only [aC.1, aC.2.2.1, hr] at m1
          simp only [hJ1, aC.1] at m2
          rw [aC.1 1 2, p1] at m3
          refine Eq.trans (b := sg (sem zN 8) 1 zc136 (19999 + 1) 105 [vR (some (0, 0)), vI (nI s), vI (nI c), vI w, vI (if (Op.cmpValue (FP.fcmp (F 2 1 5) (1077936128 : UInt32)) CmpOp.l) < 0 then p else -3)] J G) ?_ ?_
          · try dsimp only
            rw [m8 (by omega), bI_v, aC.2.2.1]
            by_cases hf : (Op.cmpValue (FP.fcmp (F 2 1 5) (1077936128 : UInt32)) CmpOp.l) < 0
            · simp only [hf, ↓reduceIte, eq_true hy10, eq_true hx4, ecl, es, aC.1]
              rcases hpe with ⟨rfl, h9⟩ | ⟨rfl, h9⟩
              · rw [if_pos h9]
                rfl
              · rw [if_neg h9]
                rfl
            · simp only [hf, n10, n30, ↓reduceIte]
              rfl
          · rw [u136_105]; unfold b136_105
            rw [m1, bI_v]
            have e28 : ∀ v, wI (wI (JJ J) 2 33 s (mixF (I 2 33 s) w)) 2 34 s v 2 28 c = I 2 28 c := fun v => by rw [wI_eq, if_neg (fun z => by omega), wI_eq, if_neg (fun z => by omega), hJ1, aC.1]
            rcases hr2 with ⟨h0, e2, hh⟩ | ⟨h0, e2, hh⟩ | ⟨h0, e2⟩
            · have eJ : JJ J = jdgI J (I 1 2) (I 1 2 8) nl np na := by
                rcases hJ3 with ⟨-, e⟩ | ⟨z, -⟩
                · exact e J
                · exact absurd h0 z
              have m2' := m2 r
              rw [eJ] at m2'
              rw [if_pos h0]
              simp only [eq_true hy10, ↓reduceIte, ecl, aC.1]
              rw [m3, bI_v, ite_bzif, if_pos hh, m2', bV_v, if_pos h0, if_pos e2, ← eJ]
              simp only [eq_true hy10, ↓reduceIte, ecl, e28, m168, bI_v]
              rw [h0, e2]
            · have eJ : JJ J = jdgI J (I 1 2) (I 1 2 8) nl np na := by
                rcases hJ3 with ⟨-, e⟩ | ⟨z, -⟩
                · exact e J
                · exact absurd h0 z
              have m2' := m2 (-7)
              rw [eJ] at m2'
              rw [if_pos h0]
              simp only [eq_true hy10, ↓reduceIte, ecl, aC.1]
              rw [m3, bI_v, ite_bzif, if_neg hh, m2', bV_v, if_neg (by decide), e2, if_neg (by decide), ← eJ]
            · have eJ : JJ J = J := by
                rcases hJ3 with ⟨z, -⟩ | ⟨-, e⟩
                · exact absurd z h0
                · exact e J
              have m2' := m2 r
              rw [eJ] at m2'
              rw [if_neg h0, m2', bV_v, if_neg h0, e2, if_neg h0, eJ]
      have a0 : (340 : Nat) + 3 * c < 406 := by omega
      have i1 : inb (nI (340 + 3 * c) + 1) 406 := by rw [nI_1]; exact inb_nI (by omega) (by decide)
      have i2 : inb (nI (340 + 3 * c) + 2) 406 := by rw [L2, nI_add]; exact inb_nI (by omega) (by decide)
      have i0 : inb (nI (340 + 3 * c)) 406 := inb_nI a0 (by decide)
      have k1 : (nI (340 + 3 * c) + 1).toNatClampNeg = 341 + 3 * c := by rw [nI_1, nI_clamp (by omega)]; omega
      have k2 : (nI (340 + 3 * c) + 2).toNatClampNeg = 342 + 3 * c := by rw [L2, nI_add, nI_clamp (by omega)]; omega
      have k0 : (nI (340 + 3 * c)).toNatClampNeg = 340 + 3 * c := nI_clamp (by omega)
      have hmod : ∃ KM : IM → FM → Option Rs, (∀ J G, (∀ o k, J 1 o k = I 1 o k) → (∀ o k, G 1 o k = F 1 o k) → sem zN 9 250 [vR (some (1, 0)), vI (nI s), vI (nI c), vI w] J G = bV (sem zN (5 + 2) 190 [vR (some (1, 0)), vI 19] (wI J 1 0 0 0) G) KM) ∧ ∀ R H, agM I R F H → KM R H = if r2 = 0 then some (vI (I 2 28 c), wI (wI (layI (wI R 1 2 (372 + 4 * s) (mixF (I 2 33 s) w)) nl np na) 1 2 (373 + 4 * s) (mixF (I 2 34 s) (mixF (mixF (mixF 17 1) (nI c)) r2))) 1 0 1 0, wF H 1 0 4 (stn r (F 2 1 5))) else bI (sem zN 8 187 [vR (some (1, 0)), vI r2] (wI (layI (wI R 1 2 (372 + 4 * s) (mixF (I 2 33 s) w)) nl np na) 1 2 (373 + 4 * s) (mixF (I 2 34 s) (mixF (mixF (mixF 17 1) (nI c)) r2))) (wF H 1 0 4 (stn r (F 2 1 5)))) (fun r5 I5 F5 => some (vI r5, I5, F5)) := by
        refine ⟨fun R H => bI (c247 (sem zN 7) (sg (sem zN 7) 1 zc247 zN) (nI s) 1 (nI c) p w R H) (t250 (sem zN 8) (sg (sem zN 8) 1 zc250 zN) (nI s) (nI c) (nI (340 + 3 * c))), ?_, ?_⟩
        · intro J G hJ hG
          have a341 : wI J 1 0 0 0 1 2 (341 + 3 * c) = I 2 29 c := by rw [w0_12, hJ, u29]
          have a371 : wI J 1 0 0 0 1 2 (371 + 4 * s) = I 2 32 s := by rw [w0_12, hJ, ek, e32]
          rw [s250]; unfold b250
          dsimp only
          rw [d202 J G hJ, bI_v, ite_bzif, if_pos hx, d201 J G hJ, bI_v, ite_bzif, if_pos hy, m197, bI_v, if_pos i1, m249 hs, bI_v]
          rcases hpe with ⟨rfl, h9⟩ | ⟨rfl, h9⟩
          · rw [if_pos (show wI J 1 0 0 0 1 2 (nI (340 + 3 * c) + 1).toNatClampNeg = wI J 1 0 0 0 1 2 (371 + 4 * s) by rw [k1, a341, a371]; exact h9), s247, b247_c, bI_bV]
            rfl
          · rw [if_neg (show ¬ wI J 1 0 0 0 1 2 (nI (340 + 3 * c) + 1).toNatClampNeg = wI J 1 0 0 0 1 2 (371 + 4 * s) by rw [k1, a341, a371]; exact h9), s247, b247_c, bI_bV]
            rfl
        · intro R H aM
          have l1 := l247 (N := zN) (d := 5) (I := R) (F := H) (s := s) (k := k) (by decide) 1 (nI c) p w hs (by omega) (by rw [aM.1, ek]) (by rw [aM.1, aM.1, aM.2, ← e33, ← e12, ← ff, hr]; exact hstn.2)
          simp only [aM.1, aM.2] at l1
          rw [← e33, ← e12, ← ff, hr] at l1
          have row : ∀ i, wI R 1 2 (372 + 4 * s) (mixF (I 2 33 s) w) 1 2 i = if i = 372 + 4 * s then mixF (I 2 33 s) w else I 1 2 i := fun i => by
            rw [wI_eq, aM.1]
            by_cases e : i = 372 + 4 * s
            · rw [if_pos ⟨rfl, rfl, e⟩, if_pos e]
            · rw [if_neg (fun z => e z.2.2), if_neg e]
          obtain ⟨l3, l4⟩ := rlay2 (J := wI R 1 2 (372 + 4 * s) (mixF (I 2 33 s) w)) (F := wF H 1 0 4 (stn r (F 2 1 5))) (N := zN) (d := 4) (a := I 1 2) (nl := nl) (np := np) (na := na) (nk := nk) (by decide) (fun i hi => by rw [row, if_neg (by omega)]) (by rw [row, if_neg (by omega)]) (by rw [row, if_neg (by omega)]) (by rw [row, if_neg (by omega)]) hok
          rw [row 8, if_neg (by omega)] at l4
          have l342 : layI (wI R 1 2 (372 + 4 * s) (mixF (I 2 33 s) w)) nl np na 1 2 (342 + 3 * c) = I 2 30 c := by rw [lay_2, row, if_neg (by omega), u30]
          have l340 : ∀ v, wI (layI (wI R 1 2 (372 + 4 * s) (mixF (I 2 33 s) w)) nl np na) 1 2 (373 + 4 * s) v 1 2 (340 + 3 * c) = I 2 28 c := fun v => by rw [wI_eq, if_neg (fun z => by omega), lay_2, row, if_neg (by omega), u28]
          have l2 := fun (v : Int32) => m248 (N := zN) (d := 6) (I := layI (wI R 1 2 (372 + 4 * s) (mixF (I 2 33 s) w)) nl np na) (F := wF H 1 0 4 (stn r (F 2 1 5))) (s := s) 1 (nI c) v hs
          rw [show layI (wI R 1 2 (372 + 4 * s) (mixF (I 2 33 s) w)) nl np na 1 2 (373 + 4 * s) = I 2 34 s by rw [lay_2, row, if_neg (by omega), e34]] at l2
          have u119 : ∀ (v : Int32) (X : IM) (H' : FM), sg (sem zN 8) 1 zc250 zN 119 [vR (some (1, 0)), vI (nI (340 + 3 * c)), vI v, vI (nI c), vI (1 : Int32), vI (nI s), vR (some (1, 0))] X H' = b250_119 (sem zN 8) (sg (sem zN 8) 1 zc250 19999) (nI (340 + 3 * c)) v (nI c) 1 (nI s) X H' := fun v X H' => u250_119 (sem zN 8) 19999 (nI (340 + 3 * c)) v (nI c) 1 (nI s) X H'
          try dsimp only
          rw [l1, bI_v]
          unfold t250
          try dsimp only
          rw [l3, bV_v]
          have fin0 : ∀ v : Int32, v = 0 → b250_119 (sem zN 8) (sg (sem zN 8) 1 zc250 19999) (nI (340 + 3 * c)) v (nI c) 1 (nI s) (layI (wI R 1 2 (372 + 4 * s) (mixF (I 2 33 s) w)) nl np na) (wF H 1 0 4 (stn r (F 2 1 5))) = some (vI (I 2 28 c), wI (wI (layI (wI R 1 2 (372 + 4 * s) (mixF (I 2 33 s) w)) nl np na) 1 2 (373 + 4 * s) (mixF (I 2 34 s) (mixF (mixF (mixF 17 1) (nI c)) v))) 1 0 1 0, wF H 1 0 4 (stn r (F 2 1 5))) := fun v hv => by
            unfold b250_119
            rw [l2, bI_v, if_pos (by rw [hv]; decide), if_pos i0, k0, l340, m185, bI_v]
          have fin1 : ∀ v : Int32, rng v → b250_119 (sem zN 8) (sg (sem zN 8) 1 zc250 19999) (nI (340 + 3 * c)) v (nI c) 1 (nI s) (layI (wI R 1 2 (372 + 4 * s) (mixF (I 2 33 s) w)) nl np na) (wF H 1 0 4 (stn r (F 2 1 5))) = bI (sem zN 8 187 [vR (some (1, 0)), vI v] (wI (layI (wI R 1 2 (372 + 4 * s) (mixF (I 2 33 s) w)) nl np na) 1 2 (373 + 4 * s) (mixF (I 2 34 s) (mixF (mixF (mixF 17 1) (nI c)) v))) (wF H 1 0 4 (stn r (F 2 1 5)))) (fun r5 I5 F5 => some (vI r5, I5, F5)) := fun v hv => by
            unfold b250_119
            rw [l2, bI_v, if_neg (rng_n hv).2]
          rcases hr2 with ⟨h0, e2, hh⟩ | ⟨h0, e2, hh⟩ | ⟨h0, e2⟩
          · have e2r : r2 = r := by rw [e2, h0]
            rw [if_pos h0, if_pos e2, e2r]
            simp only [eq_true i2, ↓reduceIte, k2, l342]
            by_cases hm : I 2 30 c = -1
            · rw [if_pos hm, u119]
              exact fin0 r h0
            · obtain ⟨hi, hh2⟩ := hh.resolve_left hm
              obtain ⟨q, hq, hq2, eq1, eq2⟩ := inb_get hi
              rw [if_neg hm]
              simp only [eq_true (inb_mono hnp hi), ↓reduceIte, eq2, l4 q hq]
              rw [if_neg (by rw [eq2] at hh2; exact hh2), u119]
              exact fin0 r h0
          · have hm : ¬ I 2 30 c = -1 := fun z => hh (Or.inl z)
            obtain ⟨q, hq, eq1⟩ : ∃ q, q < np ∧ I 2 30 c = nI q := by
              rcases hpol with z | ⟨q, hq, z⟩
              · exact absurd (by rw [u30, z]) hm
              · exact ⟨q, hq, by rw [u30, z]⟩
            have hi : inb (I 2 30 c) np := by rw [eq1]; exact inb_nI hq (by omega)
            have eq2 : (I 2 30 c).toNatClampNeg = q := by rw [eq1, nI_clamp (by omega)]
            have hz : tv (hF (I 1 2) (I 1 2 8) nl na) q = 0 := Decidable.not_not.mp (fun z => hh (Or.inr ⟨hi, by rw [eq2]; exact z⟩))
            rw [if_pos h0]
            simp only [eq_true i2, ↓reduceIte, k2, l342, eq_false hm, eq_true (inb_mono hnp hi), eq2, l4 q hq, eq_true hz]
            rw [u119, e2, if_neg (by decide)]
            exact fin1 (-7) (by unfold rng; decide)
          · have hrr : rng r := by
              rcases hr0 with z | z
              · rw [e2] at z; exact absurd z h0
              · rw [e2] at z; exact z
            rw [if_neg h0, u119, e2, if_neg h0]
            exact fin1 r hrr
      obtain ⟨KC, kc1, kc2⟩ := hcls
      obtain ⟨KM, km1, km2⟩ := hmod
      have hfk := hstn.1
      have hpJ : ∀ J G, pC J G (JJ J) G := fun J G => (hJ2 J G G).mpr pC_rfl
      have bB : ∀ (J : IM) (o i : Nat) (v : Int32), wI (wI (JJ J) 2 33 s (mixF (I 2 33 s) w)) 2 34 s v 2 o i = if o = 33 ∧ i = s then mixF (I 2 33 s) w else if o = 34 ∧ i = s then v else J 2 o i := fun J o i v => by rw [sayB, hJ1]
      have bA : ∀ (R : IM) (i : Nat) (v : Int32), wI (layI (wI R 1 2 (372 + 4 * s) (mixF (I 2 33 s) w)) nl np na) 1 2 (373 + 4 * s) v 1 2 i = if i = 373 + 4 * s then v else if i = 372 + 4 * s then mixF (I 2 33 s) w else R 1 2 i := fun R i v => by
        rw [wI_eq]
        by_cases e : i = 373 + 4 * s
        · rw [if_pos ⟨rfl, rfl, e⟩, if_pos e]
        · rw [if_neg (fun z => e z.2.2), if_neg e, lay_2, wI_eq]
          by_cases e2 : i = 372 + 4 * s
          · rw [if_pos ⟨rfl, rfl, e2⟩, if_pos e2]
          · rw [if_neg (fun z => e2 z.2.2), if_neg e2]
      have hcr : ∀ (J R : IM), (∀ o k, J 2 o k = I 2 o k) → (∀ k, R 1 2 k = I 1 2 k) → CRep (fun o i => if o = 33 ∧ i = s then mixF (I 2 33 s) w else if o = 34 ∧ i = s then (mixF (I 2 34 s) (mixF (mixF (mixF 17 1) (nI c)) r2)) else J 2 o i) (stn r (F 2 1 5)) (fun i => if i = 373 + 4 * s then (mixF (I 2 34 s) (mixF (mixF (mixF 17 1) (nI c)) r2)) else if i = 372 + 4 * s then mixF (I 2 33 s) w else R 1 2 i) (stn r (F 2 1 5)) nl nc nk nx np na ns := fun J R aC aM => by
        refine op_say hR (u := mixF (I 2 33 s) w) (v := mixF (I 2 34 s) (mixF (mixF (mixF 17 1) (nI c)) r2)) hs hfk ?_ ?_ ?_ ?_ ?_ ?_
        · rw [if_pos ⟨rfl, rfl⟩]
        · rw [if_neg (fun z => by omega), if_pos ⟨rfl, rfl⟩]
        · rw [if_neg (by omega), if_pos rfl]
        · rw [if_pos rfl]
        · intro o i z1 z2
          rw [if_neg (fun z => z2 ⟨Or.inl z.1, z.2⟩), if_neg (fun z => z2 ⟨Or.inr z.1, z.2⟩), aC]
        · intro i z1 z2
          rw [if_neg (fun z => z2 (Or.inr z)), if_neg (fun z => z2 (Or.inl z)), aM]
      rcases hr0 with hz0 | hrg
      · refine act_of (x := I 2 28 c) (KC := KC) (KM := KM) (e := 5) 19 (fun J => wI (wI (wI (JJ J) 2 33 s (mixF (I 2 33 s) w)) 2 34 s (mixF (I 2 34 s) (mixF (mixF (mixF 17 1) (nI c)) r2))) 0 0 6 0) (fun R => wI (wI (layI (wI R 1 2 (372 + 4 * s) (mixF (I 2 33 s) w)) nl np na) 1 2 (373 + 4 * s) (mixF (I 2 34 s) (mixF (mixF (mixF 17 1) (nI c)) r2))) 1 0 1 0) (fun J => wI J 1 0 0 0) (fun G => wF G 2 1 5 (stn r (F 2 1 5))) (fun H => wF H 1 0 4 (stn r (F 2 1 5))) hI kc1 km1 ex0 ?_ ?_ ?_
        · intro J G aC
          refine ⟨?_, okC_of (pC_wF (pC_w (pC_w (hpJ J G))))⟩
          rw [kc2 J G aC, if_pos hz0]
        · intro R H aM
          refine ⟨?_, okM_of (pM_wF (pM_w (pM_lay (pM_w pM_rfl))))⟩
          rw [km2 R H aM, if_pos hz0]
        · intro J R G H aC aM
          try dsimp only
          rw [wF_s, wF_s]
          refine ⟨_, _, _, _, _, _, _, CRep_congr (hcr J R aC.1 aM.1) rfl rfl (fun o i _ => ?_) (fun i _ => ?_)⟩
          · rw [wI_eq, if_neg (fun z => by omega), bB]
          · rw [wI_eq, if_neg (fun z => by omega), bA]
      · obtain ⟨g1, g2⟩ := rng_n hrg
        refine actr_of (x := r2) (y := 0) (j := jr r2) (KC := KC) (KM := KM) (e := 5) 19 (fun J => wI (wI (JJ J) 2 33 s (mixF (I 2 33 s) w)) 2 34 s (mixF (I 2 34 s) (mixF (mixF (mixF 17 1) (nI c)) r2))) (fun R => wI (layI (wI R 1 2 (372 + 4 * s) (mixF (I 2 33 s) w)) nl np na) 1 2 (373 + 4 * s) (mixF (I 2 34 s) (mixF (mixF (mixF 17 1) (nI c)) r2))) (fun J => wI J 1 0 0 0) (fun G => wF G 2 1 5 (stn r (F 2 1 5))) (fun H => wF H 1 0 4 (stn r (F 2 1 5))) hI (jr_lt r2) kc1 km1 ex0 ?_ ?_ ?_
        · intro J G aC
          refine ⟨?_, pC_wF (pC_w (pC_w (hpJ J G))), ?_⟩
          · rw [kc2 J G aC, if_neg g1, r170 hrg, bI_v]
          · rw [wI_eq, if_neg (fun z => by omega), wI_eq, if_neg (fun z => by omega), hJ4]
        · intro R H aM
          refine ⟨?_, pM_wF (pM_w (pM_lay (pM_w pM_rfl))), ?_⟩
          · rw [km2 R H aM, if_neg g1, r187 hrg, bI_v]
          · rw [wI_eq, if_neg (fun z => by omega), lay_1 (by omega), wI_eq, if_neg (fun z => by omega)]
        · intro J R G H aC aM
          try dsimp only
          rw [wF_s, wF_s]
          refine ⟨_, _, _, _, _, _, _, CRep_congr (hcr J R aC.1 aM.1) rfl rfl (fun o i _ => ?_) (fun i _ => ?_)⟩
          · rw [bB]
          · rw [bA]
    · refine rf_of (x := -2) (y := 0) (j := 1) hI (by omega) ?_ ?_
      · rw [s136]; unfold b136
        rw [c103, bI_v, ite_bzif, if_pos hx, c98, bI_v, ite_bzif, if_neg hy, r170_2, bI_v]
      · rw [s250]; unfold b250
        dsimp only
        rw [d202 _ _ rC_1, bI_v, ite_bzif, if_pos hx, d201 _ _ rC_1, bI_v, ite_bzif, if_neg hy, r187_2, bI_v]
  · refine rf_of (x := -2) (y := 0) (j := 1) hI (by omega) ?_ ?_
    · rw [s136]; unfold b136
      rw [c103, bI_v, ite_bzif, if_neg hx, r170_2, bI_v]
    · rw [s250]; unfold b250
      dsimp only
      rw [d202 _ _ rC_1, bI_v, ite_bzif, if_neg hx, r187_2, bI_v]
