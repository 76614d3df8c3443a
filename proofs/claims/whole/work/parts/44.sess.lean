/-! CLOSE, SEAL, OPEN -/
theorem open_s {B : Nat → Nat → Int32} {a : Nat → Int32} {nk s : Nat} (h : seR B a nk) (hk10 : nk ≤ 10) (hs : s < 4) : (¬ B 32 s = -1) ↔ a (370 + 4 * s) = 1 := by
  rcases (h.2 s hs).2.2 with ⟨z1, z2, k, z3, z4⟩ | ⟨z1, z2⟩
  · rw [z1, z2, z4]
    exact ⟨fun _ => rfl, fun _ y => nI_ne1 (by omega) y⟩
  · rw [z1, z2]
    exact ⟨fun y => absurd rfl y, fun y => absurd y (by decide)⟩
theorem open_c {B : Nat → Nat → Int32} {a : Nat → Int32} {nk : Nat} (h : seR B a nk) (hk10 : nk ≤ 10) (x : Int32) : (inb x 4 ∧ a (370 + 4 * x.toNatClampNeg) = 1) ↔ (inb x 4 ∧ ¬ B 32 x.toNatClampNeg = -1) := by
  by_cases hx : inb x 4
  · obtain ⟨s, hs, -, -, e⟩ := inb_get hx
    rw [e, open_s h hk10 hs]
  · exact ⟨fun y => absurd y.1 hx, fun y => absurd y.1 hx⟩
theorem op_close {B B' : Nat → Nat → Int32} {a a' : Nat → Int32} {f g : UInt32} {nl nc nk nx np na ns : Nat} (h : CRep B f a g nl nc nk nx np na ns) {s : Nat} (hs : s < 4) (e1 : B' 32 s = -1) (e2 : a' (370 + 4 * s) = 0) (hB : ∀ o k, cpd o k → ¬ (o = 32 ∧ k = s) → B' o k = B o k) (ha : ∀ k, k < 406 → ¬ k = 370 + 4 * s → a' k = a k) : CRep B' f a' g nl nc nk nx np na ns := by
  obtain ⟨h0, h1, h2, h3, h4, h5, h6, h7⟩ := h
  refine ⟨h0, bdR_congr h1 (fun o k z1 z2 => hB o k z2 (by omega)) (fun k z => ha k (by omega) (by omega)) (fun k z1 z2 => ha k (by omega) (by omega)), enR_congr h2 (fun o k z => hB o k (cpe4 z) (by omega)) (ha 11 (by omega) (by omega)) (fun k z1 z2 => ha k (by omega) (by omega)), enR_congr h3 (fun o k z => hB o k (cpe7 z) (by omega)) (ha 12 (by omega) (by omega)) (fun k z1 z2 => ha k (by omega) (by omega)), kyR_congr h4 (fun o k z1 z2 z => hB o k z (by omega)) (ha 10 (by omega) (by omega)) (ha 13 (by omega) (by omega)) (ha 14 (by omega) (by omega)) (fun k z1 z2 => ha k (by omega) (by omega)), plR_congr h5 (by omega) (fun o k z1 z2 z => hB o k z (by omega)) (ha 15 (by omega) (by omega)) (ha 18 (by omega) (by omega)) (fun k z1 z2 => ha k (by omega) (by omega)) (fun k z1 z2 => ha k (by omega) (by omega)), slR_congr h6 (by omega) (by omega) (fun o k z1 z2 z => hB o k z (by omega)) (ha 16 (by omega) (by omega)) (fun k z1 z2 => ha k (by omega) (by omega)), ⟨?_, fun t ht => ⟨?_, ?_, ?_⟩⟩⟩
  · rw [hB 31 3 (cp31 (by omega)) (by omega), ha 17 (by omega) (by omega), h7.1]
  · rw [hB 33 t (cp33 (by omega)) (by omega), ha (372 + 4 * t) (by omega) (by omega), (h7.2 t ht).1]
  · rw [hB 34 t (cp34 (by omega)) (by omega), ha (373 + 4 * t) (by omega) (by omega), (h7.2 t ht).2.1]
  · by_cases e : t = s
    · subst e
      exact Or.inr ⟨e2, e1⟩
    · rw [hB 32 t (cp32 (by omega)) (by omega), ha (370 + 4 * t) (by omega) (by omega), ha (371 + 4 * t) (by omega) (by omega)]
      exact (h7.2 t ht).2.2
theorem op_open {B B' : Nat → Nat → Int32} {a a' : Nat → Int32} {f g : UInt32} {nl nc nk nx np na ns : Nat} (h : CRep B f a g nl nc nk nx np na ns) {s k : Nat} {x : Int32} (hs : s < 4) (hk : k < nk) (e1 : B' 32 s = nI k) (e2 : B' 33 s = x) (e3 : B' 34 s = 0) (e4 : B' 31 3 = a 17 + 1) (d1 : a' (370 + 4 * s) = 1) (d2 : a' (371 + 4 * s) = nI k) (d3 : a' (372 + 4 * s) = x) (d4 : a' (373 + 4 * s) = 0) (d5 : a' 17 = a 17 + 1) (hB : ∀ o k, cpd o k → ¬ (((o = 32 ∨ o = 33 ∨ o = 34) ∧ k = s) ∨ (o = 31 ∧ k = 3)) → B' o k = B o k) (ha : ∀ k, k < 406 → ¬ ((370 + 4 * s ≤ k ∧ k ≤ 373 + 4 * s) ∨ k = 17) → a' k = a k) : CRep B' f a' g nl nc nk nx np na ns := by
  obtain ⟨h0, h1, h2, h3, h4, h5, h6, h7⟩ := h
  refine ⟨h0, bdR_congr h1 (fun o k z1 z2 => hB o k z2 (by omega)) (fun k z => ha k (by omega) (by omega)) (fun k z1 z2 => ha k (by omega) (by omega)), enR_congr h2 (fun o k z => hB o k (cpe4 z) (by omega)) (ha 11 (by omega) (by omega)) (fun k z1 z2 => ha k (by omega) (by omega)), enR_congr h3 (fun o k z => hB o k (cpe7 z) (by omega)) (ha 12 (by omega) (by omega)) (fun k z1 z2 => ha k (by omega) (by omega)), kyR_congr h4 (fun o k z1 z2 z => hB o k z (by omega)) (ha 10 (by omega) (by omega)) (ha 13 (by omega) (by omega)) (ha 14 (by omega) (by omega)) (fun k z1 z2 => ha k (by omega) (by omega)), plR_congr h5 (by omega) (fun o k z1 z2 z => hB o k z (by omega)) (ha 15 (by omega) (by omega)) (ha 18 (by omega) (by omega)) (fun k z1 z2 => ha k (by omega) (by omega)) (fun k z1 z2 => ha k (by omega) (by omega)), slR_congr h6 (by omega) (by omega) (fun o k z1 z2 z => hB o k z (by omega)) (ha 16 (by omega) (by omega)) (fun k z1 z2 => ha k (by omega) (by omega)), ⟨by rw [e4, d5], fun t ht => ?_⟩⟩
  by_cases e : t = s
  · subst e
    exact ⟨by rw [e2, d3], by rw [e3, d4], Or.inl ⟨d1, by rw [e1, d2], k, hk, d2⟩⟩
  · rw [hB 32 t (cp32 (by omega)) (by omega), hB 33 t (cp33 (by omega)) (by omega), hB 34 t (cp34 (by omega)) (by omega), ha (370 + 4 * t) (by omega) (by omega), ha (371 + 4 * t) (by omega) (by omega), ha (372 + 4 * t) (by omega) (by omega), ha (373 + 4 * t) (by omega) (by omega)]
    exact h7.2 t ht
theorem op_seal {B B' : Nat → Nat → Int32} {a a' : Nat → Int32} {f g : UInt32} {nl nc nk nx np na ns : Nat} (h : CRep B f a g nl nc nk nx np na ns) {k : Nat} {x y : Int32} (hn : ns < 10) (hk : k < nk) (hy : y = -1 ∨ ∃ p, p < np ∧ y = nI p) (e1 : B' 28 ns = x) (e2 : B' 29 ns = nI k) (e3 : B' 30 ns = y) (e4 : B' 27 3 = nI (ns + 1)) (d1 : a' (340 + 3 * ns) = x) (d2 : a' (341 + 3 * ns) = nI k) (d3 : a' (342 + 3 * ns) = y) (d4 : a' 16 = nI (ns + 1)) (hB : ∀ o k, cpd o k → ¬ (((o = 28 ∨ o = 29 ∨ o = 30) ∧ k = ns) ∨ (o = 27 ∧ k = 3)) → B' o k = B o k) (ha : ∀ k, k < 406 → ¬ ((340 + 3 * ns ≤ k ∧ k ≤ 342 + 3 * ns) ∨ k = 16) → a' k = a k) : CRep B' f a' g nl nc nk nx np na (ns + 1) := by
  obtain ⟨h0, h1, h2, h3, h4, h5, h6, h7⟩ := h
  obtain ⟨q1, q2, q3, q4⟩ := h6
  refine ⟨h0, bdR_congr h1 (fun o k z1 z2 => hB o k z2 (by omega)) (fun k z => ha k (by omega) (by omega)) (fun k z1 z2 => ha k (by omega) (by omega)), enR_congr h2 (fun o k z => hB o k (cpe4 z) (by omega)) (ha 11 (by omega) (by omega)) (fun k z1 z2 => ha k (by omega) (by omega)), enR_congr h3 (fun o k z => hB o k (cpe7 z) (by omega)) (ha 12 (by omega) (by omega)) (fun k z1 z2 => ha k (by omega) (by omega)), kyR_congr h4 (fun o k z1 z2 z => hB o k z (by omega)) (ha 10 (by omega) (by omega)) (ha 13 (by omega) (by omega)) (ha 14 (by omega) (by omega)) (fun k z1 z2 => ha k (by omega) (by omega)), plR_congr h5 (by omega) (fun o k z1 z2 z => hB o k z (by omega)) (ha 15 (by omega) (by omega)) (ha 18 (by omega) (by omega)) (fun k z1 z2 => ha k (by omega) (by omega)) (fun k z1 z2 => ha k (by omega) (by omega)), ⟨e4, d4, by omega, fun t ht => ?_⟩, seR_congr h7 (by omega) (fun o k z1 z2 z => hB o k z (by omega)) (ha 17 (by omega) (by omega)) (fun k z1 z2 => ha k (by omega) (by omega))⟩
  by_cases e : t = ns
  · subst e
    exact ⟨by rw [e1, d1], by rw [e2, d2], by rw [e3, d3], ⟨k, hk, d2⟩, by rw [d3]; exact hy⟩
  · rw [hB 28 t (cp28 (by omega)) (by omega), hB 29 t (cp29 (by omega)) (by omega), hB 30 t (cp30 (by omega)) (by omega), ha (340 + 3 * t) (by omega) (by omega), ha (341 + 3 * t) (by omega) (by omega), ha (342 + 3 * t) (by omega) (by omega)]
    exact q4 t (by omega)
theorem st135 : StpI InvC 135 244 1 := by
  intro as I F hl hI
  obtain ⟨x, rfl⟩ := len1 hl
  simp only [List.map_cons, List.map_nil]
  obtain ⟨nl, nc, nk, nx, np, na, ns, hR⟩ := hI.1
  have hS := hR.2.2.2.2.2.2.2
  have c103 := m103 (N := zN) (d := 7) (I := I) (F := F) (b := 2) (by omega) x
  have d202 : ∀ (J : IM) (G : FM), (∀ o k, J 1 o k = I 1 o k) → sem zN 8 202 [vR (some (1, 0)), vI x] (wI J 1 0 0 0) G = some (vI (bz (inb x 4 ∧ ¬ I 2 32 x.toNatClampNeg = -1)), wI J 1 0 0 0, G) := fun J G hJ => by
    rw [m202 (d := 6)]
    refine congrArg (fun v => some (vI v, wI J 1 0 0 0, G)) (bz_congr ?_)
    rw [w0_12, hJ]
    exact open_c hS hR.2.2.2.2.1.2.2.1 x
  by_cases hx : inb x 4 ∧ ¬ I 2 32 x.toNatClampNeg = -1
  · obtain ⟨hx4, hxo⟩ := hx
    obtain ⟨s, hs, hs2, rfl, es⟩ := inb_get hx4
    have i0 : inb (nI (370 + 4 * s)) 406 := inb_nI (by omega) (by decide)
    apply act_of (x := 0) 18 (fun J => wI (wI J 2 32 s (-1)) 0 0 6 0) (fun R => wI (wI R 1 2 (370 + 4 * s) 0) 1 0 1 0) (fun J => wI J 1 0 0 0) (fun G => G) (fun H => H) hI
    · rw [s135]; unfold b135
      rw [c103, bI_v, ite_bzif, if_pos ⟨hx4, hxo⟩]
      try rfl
    · intro J G hJ hG
      rw [s244]; unfold b244
      dsimp only
      rw [d202 J G hJ, bI_v, ite_bzif, if_pos ⟨hx4, hxo⟩]
      try rfl
    · exact ex0
    · intro J G aC
      refine ⟨?_, okC_of (pC_w pC_rfl)⟩
      try dsimp only
      rw [if_pos hx4, m168, bI_v, es]
    · intro R H aM
      refine ⟨?_, okM_of (pM_w pM_rfl)⟩
      try dsimp only
      rw [m198, bI_v, if_pos i0, m185, bI_v, nI_clamp (by omega)]
    · intro J R G H aC aM
      try dsimp only
      rw [aC.2.2.1, aM.2]
      exact ⟨_, _, _, _, _, _, _, op_close hR hs (by rw [wI_eq, if_neg (fun z => by omega), wI_s]) (by rw [wI_eq, if_neg (fun z => by omega), wI_s]) (fun o k z1 z2 => by rw [wI_eq, if_neg (fun z => by omega), wI_eq, if_neg (fun z => by omega), aC.1]) (fun k z1 z2 => by rw [wI_eq, if_neg (fun z => by omega), wI_eq, if_neg (fun z => by omega), aM.1])⟩
  · refine rf_of (x := -2) (y := -2) (j := 1) hI (by omega) ?_ ?_
    · rw [s135]; unfold b135
      rw [c103, bI_v, ite_bzif, if_neg hx, r169_2, bI_v]
    · rw [s244]; unfold b244
      dsimp only
      rw [d202 _ _ rC_1, bI_v, ite_bzif, if_neg hx, r186_2, bI_v]
theorem st133 : StpI InvC 133 242 3 := by
  intro as I F hl hI
  obtain ⟨x, y, z, rfl⟩ := len3 hl
  simp only [List.map_cons, List.map_nil]
  obtain ⟨nl, nc, nk, nx, np, na, ns, hR⟩ := hI.1
  have hK := hR.2.2.2.2.1
  obtain ⟨q1, q2, q3, q4, q5, q6, q7, q8, q9, q10, q11, q12⟩ := hR.2.2.2.2.1
  obtain ⟨v1, v2, v3, v4, v5, v6, v7, v8⟩ := hR.2.2.2.2.2.1
  obtain ⟨t1, t2, t3, t4⟩ := hR.2.2.2.2.2.2.1
  have c55 := m55 (N := zN) (d := 7) (I := I) (F := F) (b := 2) (by omega) x
  have c81 := m81 (N := zN) (d := 7) (I := I) (F := F) (b := 2) (n := np) (by omega) z v1 v3
  have d205 := fun (J : IM) (G : FM) (hJ : ∀ o k, J 1 o k = I 1 o k) => show sem zN 8 205 [vR (some (1, 0)), vI x] (wI J 1 0 0 0) G = some (vI (if inb x 3 then I 2 14 x.toNatClampNeg else -1), wI J 1 0 0 0, G) by
    rw [m205 (d := 6) (n := nk) (by decide) x (by rw [w0_12, hJ, q2]) q3, show wI J 1 0 0 0 1 2 = I 1 2 from funext (fun k => by rw [w0_12, hJ]), kIn_c hK]
  have d200 := fun (J : IM) (G : FM) (hJ : ∀ o k, J 1 o k = I 1 o k) => m200 (N := zN) (d := 6) (I := wI J 1 0 0 0) (F := G) (n := np) z (by rw [w0_12, hJ, v2]) (by omega)
  have d16 := fun (J : IM) (hJ : ∀ o k, J 1 o k = I 1 o k) => show wI J 1 0 0 0 1 2 16 = nI ns by rw [w0_12, hJ, t2]
  have e10 : (nI ns < (10 : Int32)) ↔ ns < 10 := by rw [L10, i_lt, i_nI (by omega), i_nI (by omega)]; omega
  have e10' : (nI ns = (10 : Int32)) ↔ ¬ ns < 10 := by rw [L10, nI_eq (by omega) (by omega)]; omega
  by_cases hp : (if inb x 3 then I 2 14 x.toNatClampNeg else -1) = -1
  · refine rf_of (x := -2) (y := -2) (j := 1) hI (by omega) ?_ ?_
    · rw [s133]; unfold b133
      rw [c55, bI_v, if_pos hp, r169_2, bI_v]
    · rw [s242]; unfold b242
      dsimp only
      rw [d205 _ _ rC_1, bI_v, if_pos hp, r186_2, bI_v]
  · have hx : inb x 3 := Decidable.not_not.mp (fun w => hp (if_neg w))
    obtain ⟨s, hs, hs2, rfl, es⟩ := inb_get hx
    obtain ⟨k, hk, ek⟩ : ∃ k, k < nk ∧ I 2 14 s = nI k := (q8 s hs).resolve_left (fun w => hp (by rw [if_pos hx, es, w]))
    have epk : (if inb (nI s) 3 then I 2 14 (nI s).toNatClampNeg else -1) = nI k := by rw [if_pos hx, es, ek]
    rw [epk] at hp c55
    have d205 : ∀ (J : IM) (G : FM), (∀ o k, J 1 o k = I 1 o k) → sem zN 8 205 [vR (some (1, 0)), vI (nI s)] (wI J 1 0 0 0) G = some (vI (nI k), wI J 1 0 0 0, G) := fun J G hJ => by
      rw [d205 J G hJ, epk]
    by_cases hz : z = -1 ∨ inb z np
    · by_cases hn : ns < 10
      · have hzz : z = -1 ∨ ∃ p, p < np ∧ z = nI p := by
          rcases hz with w | w
          · exact Or.inl w
          · obtain ⟨p, w1, -, w2, -⟩ := inb_get w
            exact Or.inr ⟨p, w1, w2⟩
        have i0 : inb (nI (340 + 3 * ns)) 406 := inb_nI (by omega) (by decide)
        have i1 : inb (nI (340 + 3 * ns + 1)) 406 := inb_nI (by omega) (by decide)
        have i2 : inb (nI (340 + 3 * ns + 2)) 406 := inb_nI (by omega) (by decide)
        apply act_of (x := nI ns) 16 (fun J => wI (wI (wI (wI (wI J 2 28 ns y) 2 29 ns (nI k)) 2 30 ns z) 2 27 3 (nI (ns + 1))) 0 0 6 0) (fun R => wI (wI (wI (wI (wI R 1 2 (340 + 3 * ns) y) 1 2 (340 + 3 * ns + 1) (nI k)) 1 2 (340 + 3 * ns + 2) z) 1 2 16 (nI (ns + 1))) 1 0 1 0) (fun J => wI J 1 0 0 0) (fun G => G) (fun H => H) hI (KC := fun J G => bI (sem zN 8 99 [vR (some (2, 27)), vI y, vI (nI k), vI z] J G) (fun r4 I4 F4 => bI (sem zN 8 168 [vR (some (0, 0)), vI r4] I4 F4) (fun r5 I5 F5 => some (vI r5, I5, F5))))
        · rw [s133]; unfold b133
          rw [c55, bI_v, if_neg hp]
          by_cases hz1 : z = -1
          · rw [if_pos hz1, t1, if_pos (e10.mpr hn)]
          · rw [if_neg hz1, c81, bI_v, ite_bzif, if_pos (hz.resolve_left hz1), t1, if_pos (e10.mpr hn)]
        · intro J G hJ hG
          rw [s242]; unfold b242
          dsimp only
          rw [d205 J G hJ, bI_v, if_neg hp]
          by_cases hz1 : z = -1
          · rw [if_pos hz1, d16 J hJ, if_neg (fun w => e10'.mp w hn)]
            try rfl
          · rw [if_neg hz1, d200 J G hJ, bI_v, ite_bzif, if_pos (hz.resolve_left hz1), d16 J hJ, if_neg (fun w => e10'.mp w hn)]
            try rfl
        · exact ex0
        · intro J G aC
          refine ⟨?_, okC_of (pC_w (pC_w (pC_w (pC_w pC_rfl))))⟩
          try dsimp only
          rw [m99 (n := ns) (by omega) y (nI k) z (by rw [aC.1, t1]) hn, bI_v, m168, bI_v]
        · intro R H aM
          refine ⟨?_, okM_of (pM_w (pM_w (pM_w (pM_w pM_rfl))))⟩
          try dsimp only
          simp only [m197, bI_v, L2, nI_add, nI_1, eq_true i0, eq_true i1, eq_true i2, ↓reduceIte, nI_clamp (show 340 + 3 * ns < 2 ^ 31 by omega), nI_clamp (show 340 + 3 * ns + 1 < 2 ^ 31 by omega), nI_clamp (show 340 + 3 * ns + 2 < 2 ^ 31 by omega)]
          rw [wI_eq, if_neg (fun z => by omega), wI_eq, if_neg (fun z => by omega), wI_eq, if_neg (fun z => by omega), aM.1, t2, nI_1, m185, bI_v]
        · intro J R G H aC aM
          try dsimp only
          rw [aC.2.2.1, aM.2]
          refine ⟨_, _, _, _, _, _, _, op_seal hR (x := y) (y := z) hn hk hzz ?_ ?_ ?_ ?_ ?_ ?_ ?_ ?_ ?_ ?_⟩
          · rw [wI_eq, if_neg (fun z => by omega), wI_eq, if_neg (fun z => by omega), wI_eq, if_neg (fun z => by omega), wI_eq, if_neg (fun z => by omega), wI_s]
          · rw [wI_eq, if_neg (fun z => by omega), wI_eq, if_neg (fun z => by omega), wI_eq, if_neg (fun z => by omega), wI_s]
          · rw [wI_eq, if_neg (fun z => by omega), wI_eq, if_neg (fun z => by omega), wI_s]
          · rw [wI_eq, if_neg (fun z => by omega), wI_s]
          · rw [wI_eq, if_neg (fun z => by omega), wI_eq, if_neg (fun z => by omega), wI_eq, if_neg (fun z => by omega), wI_eq, if_neg (fun z => by omega), wI_s]
          · rw [wI_eq, if_neg (fun z => by omega), wI_eq, if_neg (fun z => by omega), wI_eq, if_neg (fun z => by omega), show 341 + 3 * ns = 340 + 3 * ns + 1 by omega, wI_s]
          · rw [wI_eq, if_neg (fun z => by omega), wI_eq, if_neg (fun z => by omega), show 342 + 3 * ns = 340 + 3 * ns + 2 by omega, wI_s]
          · rw [wI_eq, if_neg (fun z => by omega), wI_s]
          · intro o k z1 z2
            rw [wI_eq, if_neg (fun z => by omega), wI_eq, if_neg (fun z => by omega), wI_eq, if_neg (fun z => by omega), wI_eq, if_neg (fun z => by omega), wI_eq, if_neg (fun z => by omega), aC.1]
          · intro k z1 z2
            rw [wI_eq, if_neg (fun z => by omega), wI_eq, if_neg (fun z => by omega), wI_eq, if_neg (fun z => by omega), wI_eq, if_neg (fun z => by omega), wI_eq, if_neg (fun z => by omega), aM.1]
      · refine rf_of (x := -5) (y := -5) (j := 4) hI (by omega) ?_ ?_
        · rw [s133]; unfold b133
          rw [c55, bI_v, if_neg hp]
          by_cases hz1 : z = -1
          · rw [if_pos hz1, t1, if_neg (fun w => hn (e10.mp w)), r169_5, bI_v]
          · rw [if_neg hz1, c81, bI_v, ite_bzif, if_pos (hz.resolve_left hz1), t1, if_neg (fun w => hn (e10.mp w)), r169_5, bI_v]
        · rw [s242]; unfold b242
          dsimp only
          rw [d205 _ _ rC_1, bI_v, if_neg hp]
          by_cases hz1 : z = -1
          · rw [if_pos hz1, d16 _ rC_1, if_pos (e10'.mpr hn), r186_5, bI_v]
          · rw [if_neg hz1, d200 _ _ rC_1, bI_v, ite_bzif, if_pos (hz.resolve_left hz1), d16 _ rC_1, if_pos (e10'.mpr hn), r186_5, bI_v]
    · have hz1 : ¬ z = -1 := fun w => hz (Or.inl w)
      have hz2 : ¬ inb z np := fun w => hz (Or.inr w)
      refine rf_of (x := -2) (y := -2) (j := 1) hI (by omega) ?_ ?_
      · rw [s133]; unfold b133
        rw [c55, bI_v, if_neg hp, if_neg hz1, c81, bI_v, ite_bzif, if_neg hz2, r169_2, bI_v]
      · rw [s242]; unfold b242
        dsimp only
        rw [d205 _ _ rC_1, bI_v, if_neg hp, if_neg hz1, d200 _ _ rC_1, bI_v, ite_bzif, if_neg hz2, r186_2, bI_v]
theorem st134 : StpI InvC 134 243 2 := by
  intro as I F hl hI
  obtain ⟨x, y, rfl⟩ := len2 hl
  simp only [List.map_cons, List.map_nil]
  obtain ⟨nl, nc, nk, nx, np, na, ns, hR⟩ := hI.1
  have hK := hR.2.2.2.2.1
  have hS := hR.2.2.2.2.2.2.2
  obtain ⟨q1, q2, q3, q4, q5, q6, q7, q8, q9, q10, q11, q12⟩ := hR.2.2.2.2.1
  have c55 := m55 (N := zN) (d := 7) (I := I) (F := F) (b := 2) (by omega) x
  have c104 := m104 (N := zN) (d := 7) (I := I) (F := F) (b := 2) (by omega) (by decide)
  have d205 := fun (J : IM) (G : FM) (hJ : ∀ o k, J 1 o k = I 1 o k) => show sem zN 8 205 [vR (some (1, 0)), vI x] (wI J 1 0 0 0) G = some (vI (if inb x 3 then I 2 14 x.toNatClampNeg else -1), wI J 1 0 0 0, G) by
    rw [m205 (d := 6) (n := nk) (by decide) x (by rw [w0_12, hJ, q2]) q3, show wI J 1 0 0 0 1 2 = I 1 2 from funext (fun k => by rw [w0_12, hJ]), kIn_c hK]
  have d202 : ∀ (J : IM) (G : FM), (∀ o k, J 1 o k = I 1 o k) → ∀ c, c < 4 → sem zN 8 202 [vR (some (1, 0)), vI (nI c)] (wI J 1 0 0 0) G = some (vI (bz (¬ I 2 32 c = -1)), wI J 1 0 0 0, G) := fun J G hJ c hc => by
    rw [m202 (d := 6)]
    refine congrArg (fun v => some (vI v, wI J 1 0 0 0, G)) (bz_congr ?_)
    rw [w0_12, hJ, nI_clamp (by omega), open_s hS q3 hc]
    exact ⟨fun w => w.2, fun w => ⟨inb_nI hc (by decide), w⟩⟩
  by_cases hp : (if inb x 3 then I 2 14 x.toNatClampNeg else -1) = -1
  · refine rf_of (x := -2) (y := -2) (j := 1) hI (by omega) ?_ ?_
    · rw [s134]; unfold b134
      rw [c55, bI_v, if_pos hp, r169_2, bI_v]
    · rw [s243]; unfold b243
      dsimp only
      rw [d205 _ _ rC_1, bI_v, if_pos hp, r186_2, bI_v]
  · have hx : inb x 3 := Decidable.not_not.mp (fun w => hp (if_neg w))
    obtain ⟨s, hs, hs2, rfl, es⟩ := inb_get hx
    obtain ⟨k, hk, ek⟩ : ∃ k, k < nk ∧ I 2 14 s = nI k := (q8 s hs).resolve_left (fun w => hp (by rw [if_pos hx, es, w]))
    have epk : (if inb (nI s) 3 then I 2 14 (nI s).toNatClampNeg else -1) = nI k := by rw [if_pos hx, es, ek]
    rw [epk] at hp c55
    have d205 : ∀ (J : IM) (G : FM), (∀ o k, J 1 o k = I 1 o k) → sem zN 8 205 [vR (some (1, 0)), vI (nI s)] (wI J 1 0 0 0) G = some (vI (nI k), wI J 1 0 0 0, G) := fun J G hJ => by
      rw [d205 J G hJ, epk]
    rcases c104 with ⟨i, hi, hic, hio, c104⟩ | ⟨hio, c104⟩
    · have ni1 : ¬ nI i = -1 := fun w => nI_ne1 (by omega) w
      have i0 : inb (nI (370 + 4 * i)) 406 := inb_nI (by omega) (by decide)
      have i1 : inb (nI (370 + 4 * i + 1)) 406 := inb_nI (by omega) (by decide)
      have i2 : inb (nI (370 + 4 * i + 2)) 406 := inb_nI (by omega) (by decide)
      have i3 : inb (nI (370 + 4 * i + 3)) 406 := inb_nI (by omega) (by decide)
      have k1 : inb (nI (180 + 4 * k + 1)) 406 := inb_nI (by omega) (by decide)
      have hkn : inb (nI k) nk := inb_nI hk (by omega)
      apply act_of (x := nI i) 17 (fun J => wI (wI (wI (wI (wI J 2 32 i (nI k)) 2 33 i (mixF (mixF (mixF 17 y) (J 2 31 3)) (J 2 12 k))) 2 34 i 0) 2 31 3 (J 2 31 3 + 1)) 0 0 6 0) (fun R => wI (wI (wI (wI (wI (wI R 1 2 (370 + 4 * i) 1) 1 2 (370 + 4 * i + 1) (nI k)) 1 2 (370 + 4 * i + 2) (mixF (mixF (mixF 17 y) (R 1 2 17)) (R 1 2 (180 + 4 * k + 1)))) 1 2 (370 + 4 * i + 3) 0) 1 2 17 (R 1 2 17 + 1)) 1 0 1 0) (fun J => wI J 1 0 0 0) (fun G => G) (fun H => H) hI
      · rw [s134]; unfold b134
        rw [c55, bI_v, if_neg hp, c104, bI_v, if_neg ni1]
        try rfl
      · intro J G hJ hG
        rw [s243]; unfold b243
        dsimp only
        rw [d205 J G hJ, bI_v, if_neg hp]
        refine lp (S := fun n c => sg (sem zN 8) 1 zc243 n 26 [vR (some (1, 0)), vI y, vI (nI k), vI (nI c)] (wI J 1 0 0 0) G) (m := i) ?_ ?_ i 0 zN (by omega) (by have : 20000 = zN := rfl; omega)
        · intro n c hc
          try dsimp only
          rw [u243_26]; unfold b243_26
          rw [if_neg (show ¬ (4 : Int32) ≤ nI c from nI_ge (show c < 4 by omega) (by decide)), d202 J G hJ c (by omega), bI_v, ite_bzif, if_pos (hio c hc), nI_1]
        · intro n
          try dsimp only
          rw [u243_26]; unfold b243_26
          rw [if_neg (show ¬ (4 : Int32) ≤ nI i from nI_ge hi (by decide)), d202 J G hJ i hi, bI_v, ite_bzif, if_neg (fun w => w hic), if_neg (show ¬ nI i = (4 : Int32) by rw [L4, nI_eq (by omega) (by omega)]; omega)]
          try rfl
      · exact ex0
      · intro J G aC
        refine ⟨?_, okC_of (pC_w (pC_w (pC_w (pC_w pC_rfl))))⟩
        try dsimp only
        rw [m51 (nk := nk) (by omega) (nI k) (by rw [aC.1, q1]) q3, bI_v, if_pos hkn, nI_clamp (by omega), m106 (by omega) hi, bV_v, m168, bI_v]
      · intro R H aM
        refine ⟨?_, okM_of (pM_w (pM_w (pM_w (pM_w (pM_w pM_rfl)))))⟩
        try dsimp only
        have r1 : wI (wI R 1 2 (370 + 4 * i) 1) 1 2 (370 + 4 * i + 1) (nI k) 1 2 17 = R 1 2 17 := by rw [wI_eq, if_neg (fun z => by omega), wI_eq, if_neg (fun z => by omega)]
        have r2 : wI (wI R 1 2 (370 + 4 * i) 1) 1 2 (370 + 4 * i + 1) (nI k) 1 2 (180 + 4 * k + 1) = R 1 2 (180 + 4 * k + 1) := by rw [wI_eq, if_neg (fun z => by omega), wI_eq, if_neg (fun z => by omega)]
        have r3 : ∀ v, wI (wI (wI (wI R 1 2 (370 + 4 * i) 1) 1 2 (370 + 4 * i + 1) (nI k)) 1 2 (370 + 4 * i + 2) v) 1 2 (370 + 4 * i + 3) 0 1 2 17 = R 1 2 17 := fun v => by rw [wI_eq, if_neg (fun z => by omega), wI_eq, if_neg (fun z => by omega), wI_eq, if_neg (fun z => by omega), wI_eq, if_neg (fun z => by omega)]
        simp only [m198, m194, m188, bI_v, L2, L3, nI_add, nI_1, eq_true i0, eq_true i1, eq_true i2, eq_true i3, eq_true k1, ↓reduceIte, nI_clamp (show 370 + 4 * i < 2 ^ 31 by omega), nI_clamp (show 370 + 4 * i + 1 < 2 ^ 31 by omega), nI_clamp (show 370 + 4 * i + 2 < 2 ^ 31 by omega), nI_clamp (show 370 + 4 * i + 3 < 2 ^ 31 by omega), nI_clamp (show 180 + 4 * k + 1 < 2 ^ 31 by omega), r1, r2, r3, m185]
      · intro J R G H aC aM
        try dsimp only
        rw [aC.2.2.1, aM.2]
        refine ⟨_, _, _, _, _, _, _, op_open hR (x := mixF (mixF (mixF 17 y) (I 1 2 17)) (I 1 2 (181 + 4 * k))) hi hk ?_ ?_ ?_ ?_ ?_ ?_ ?_ ?_ ?_ ?_ ?_⟩
        · rw [wI_eq, if_neg (fun z => by omega), wI_eq, if_neg (fun z => by omega), wI_eq, if_neg (fun z => by omega), wI_eq, if_neg (fun z => by omega), wI_s]
        · rw [wI_eq, if_neg (fun z => by omega), wI_eq, if_neg (fun z => by omega), wI_eq, if_neg (fun z => by omega), wI_s, aC.1, aC.1, hS.1, (q7 k hk).2.1]
        · rw [wI_eq, if_neg (fun z => by omega), wI_eq, if_neg (fun z => by omega), wI_s]
        · rw [wI_eq, if_neg (fun z => by omega), wI_s, aC.1, hS.1]
        · rw [wI_eq, if_neg (fun z => by omega), wI_eq, if_neg (fun z => by omega), wI_eq, if_neg (fun z => by omega), wI_eq, if_neg (fun z => by omega), wI_eq, if_neg (fun z => by omega), wI_s]
        · rw [wI_eq, if_neg (fun z => by omega), wI_eq, if_neg (fun z => by omega), wI_eq, if_neg (fun z => by omega), wI_eq, if_neg (fun z => by omega), show 371 + 4 * i = 370 + 4 * i + 1 by omega, wI_s]
        · rw [wI_eq, if_neg (fun z => by omega), wI_eq, if_neg (fun z => by omega), wI_eq, if_neg (fun z => by omega), show 372 + 4 * i = 370 + 4 * i + 2 by omega, wI_s, aM.1, aM.1, show 180 + 4 * k + 1 = 181 + 4 * k by omega]
        · rw [wI_eq, if_neg (fun z => by omega), wI_eq, if_neg (fun z => by omega), show 373 + 4 * i = 370 + 4 * i + 3 by omega, wI_s]
        · rw [wI_eq, if_neg (fun z => by omega), wI_s, aM.1]
        · intro o k z1 z2
          rw [wI_eq, if_neg (fun z => by omega), wI_eq, if_neg (fun z => by omega), wI_eq, if_neg (fun z => by omega), wI_eq, if_neg (fun z => by omega), wI_eq, if_neg (fun z => by omega), aC.1]
        · intro k z1 z2
          rw [wI_eq, if_neg (fun z => by omega), wI_eq, if_neg (fun z => by omega), wI_eq, if_neg (fun z => by omega), wI_eq, if_neg (fun z => by omega), wI_eq, if_neg (fun z => by omega), wI_eq, if_neg (fun z => by omega), aM.1]
    · refine rf_of (x := -5) (y := -5) (j := 4) hI (by omega) ?_ ?_
      · rw [s134]; unfold b134
        rw [c55, bI_v, if_neg hp, c104, bI_v, if_pos rfl, r169_5, bI_v]
      · rw [s243]; unfold b243
        dsimp only
        rw [d205 _ _ rC_1, bI_v, if_neg hp]
        refine lp (S := fun n c => sg (sem zN 8) 1 zc243 n 26 [vR (some (1, 0)), vI y, vI (nI k), vI (nI c)] (wI (rC I (-5) 4) 1 0 0 0) F) (m := 4) ?_ ?_ 4 0 zN (by omega) (by have : 20000 = zN := rfl; omega)
        · intro n c hc
          try dsimp only
          rw [u243_26]; unfold b243_26
          rw [if_neg (show ¬ (4 : Int32) ≤ nI c from nI_ge hc (by decide)), d202 _ _ rC_1 c hc, bI_v, ite_bzif, if_pos (hio c hc), nI_1]
        · intro n
          try dsimp only
          rw [u243_26]; unfold b243_26
          rw [if_pos (show (4 : Int32) ≤ nI 4 from nI_le (Nat.le_refl _) (by decide)), if_pos (show nI 4 = (4 : Int32) from rfl), r186_5, bI_v]
