/-! THE CALLS ON KEYS: key, load, flush, swapOut, swapIn, drop -/
theorem rz0 (x : Int32) : x + 0 = x := by rw [Int32.add_zero]
theorem st125 : StpI InvC 125 220 2 := by
  intro as I F hl hI
  obtain ⟨x, y, rfl⟩ := len2 hl
  simp only [List.map_cons, List.map_nil]
  obtain ⟨nl, nc, nk, nx, np, na, ns, hR⟩ := hI.1
  have hK := hR.2.2.2.2.1
  obtain ⟨q1, q2, q3, q4, q5, q6, q7, q8, q9, q10, q11, q12⟩ := hR.2.2.2.2.1
  have c55 := m55 (N := zN) (d := 7) (I := I) (F := F) (b := 2) (by omega) x
  have d205 := fun (J : IM) (G : FM) (hJ : ∀ o k, J 1 o k = I 1 o k) => show sem zN 8 205 [vR (some (1, 0)), vI x] (wI J 1 0 0 0) G = some (vI (if inb x 3 then I 2 14 x.toNatClampNeg else -1), wI J 1 0 0 0, G) by
    rw [m205 (d := 6) (n := nk) (by decide) x (by rw [w0_12, hJ, q2]) q3, show wI J 1 0 0 0 1 2 = I 1 2 from funext (fun k => by rw [w0_12, hJ]), kIn_c hK]
  have d13 := fun (J : IM) (hJ : ∀ o k, J 1 o k = I 1 o k) => show wI J 1 0 0 0 1 2 13 = nI nk by rw [w0_12, hJ, q2]
  have e10 : (nI nk < (10 : Int32)) ↔ nk < 10 := by rw [L10, i_lt, i_nI (by omega), i_nI (by omega)]; omega
  have e10' : (nI nk = (10 : Int32)) ↔ ¬ nk < 10 := by rw [L10, nI_eq (by omega) (by omega)]; omega
  have hp : ∀ p, p = (if inb x 3 then I 2 14 x.toNatClampNeg else -1) → (p = -1 ∨ ∃ q, q < nk ∧ p = nI q) := fun p e => by
    subst e
    by_cases hx : inb x 3
    · rw [if_pos hx]
      obtain ⟨s, hs, -, -, e⟩ := inb_get hx
      rw [e]
      exact q8 s hs
    · rw [if_neg hx]
      exact Or.inl rfl
  generalize hpp : (if inb x 3 then I 2 14 x.toNatClampNeg else -1) = p at c55 d205 hp
  have hp := hp p rfl
  have hxm : x = -1 → p = -1 := fun e => by
    rw [← hpp, if_neg (by rw [e]; exact inb_m1 3)]
  by_cases hg : x = -1 ∨ ¬ p = -1
  · by_cases hn : nk < 10
    · have i0 : inb (nI (180 + 4 * nk)) 406 := inb_nI (by omega) (by decide)
      have i1 : inb (nI (180 + 4 * nk + 1)) 406 := inb_nI (by omega) (by decide)
      have i2 : inb (nI (180 + 4 * nk + 2)) 406 := inb_nI (by omega) (by decide)
      have i3 : inb (nI (180 + 4 * nk + 3)) 406 := inb_nI (by omega) (by decide)
      apply act_of (x := nI nk) 9 (fun J => wI (wI (wI (wI (wI J 2 11 nk p) 2 12 nk y) 2 13 nk 0) 2 10 3 (nI (nk + 1))) 0 0 6 0) (fun R => wI (wI (wI (wI (wI (wI R 1 2 (180 + 4 * nk) p) 1 2 (180 + 4 * nk + 1) y) 1 2 (180 + 4 * nk + 2) (-1)) 1 2 (180 + 4 * nk + 3) (-1)) 1 2 13 (nI (nk + 1))) 1 0 1 0) (fun J => wI J 1 0 0 0) (fun G => G) (fun H => H) (KC := fun J G => bI (sem zN 8 50 [vR (some (2, 10)), vI p, vI y] J G) (fun r2 I2 F2 => bI (sem zN 8 168 [vR (some (0, 0)), vI r2] I2 F2) (fun r3 I3 F3 => some (vI r3, I3, F3)))) hI
      · rw [s125]; unfold b125
        by_cases hx : x = -1
        · rw [if_pos hx, if_pos hx, q1, if_pos (e10.mpr hn), hxm hx]
        · rw [if_neg hx, c55, bI_v, if_neg hx, if_neg (hg.resolve_left hx), q1, if_pos (e10.mpr hn)]
      · intro J G hJ hG
        rw [s220]; unfold b220
        dsimp only
        rw [d205 J G hJ, bI_v, d13 J hJ, if_neg (fun z => e10'.mp z hn)]
        by_cases hx : x = -1
        · rw [if_pos hx]
          try rfl
        · rw [if_neg hx, if_neg (hg.resolve_left hx)]
          try rfl
      · exact ex0
      · intro J G aC
        refine ⟨?_, okC_of (pC_w (pC_w (pC_w (pC_w pC_rfl))))⟩
        try dsimp only
        rw [m50 (nk := nk) (by omega) p y (by rw [aC.1, q1]) hn, bI_v, m168, bI_v]
      · intro R H aM
        refine ⟨?_, okM_of (pM_w (pM_w (pM_w (pM_w (pM_w pM_rfl)))))⟩
        try dsimp only
        rw [m194, bI_v]
        simp only [rz0, L2, L3, nI_add, nI_1, eq_true i0, eq_true i1, eq_true i2, eq_true i3, ↓reduceIte, nI_clamp (show 180 + 4 * nk < 2 ^ 31 by omega), nI_clamp (show 180 + 4 * nk + 1 < 2 ^ 31 by omega), nI_clamp (show 180 + 4 * nk + 2 < 2 ^ 31 by omega), nI_clamp (show 180 + 4 * nk + 3 < 2 ^ 31 by omega)]
        rw [wI_eq, if_neg (fun z => by omega), wI_eq, if_neg (fun z => by omega), wI_eq, if_neg (fun z => by omega), wI_eq, if_neg (fun z => by omega), aM.1, q2, nI_1, m185, bI_v]
      · intro J R G H aC aM
        try dsimp only
        rw [aC.2.2.1, aM.2]
        refine ⟨_, _, _, _, _, _, _, op_key hR (p := p) (y := y) hn hp ?_ ?_ ?_ ?_ ?_ ?_ ?_ ?_ ?_ ?_ ?_⟩
        · rw [wI_eq, if_neg (fun z => by omega), wI_eq, if_neg (fun z => by omega), wI_eq, if_neg (fun z => by omega), wI_eq, if_neg (fun z => by omega), wI_s]
        · rw [wI_eq, if_neg (fun z => by omega), wI_eq, if_neg (fun z => by omega), wI_eq, if_neg (fun z => by omega), wI_s]
        · rw [wI_eq, if_neg (fun z => by omega), wI_eq, if_neg (fun z => by omega), wI_s]
        · rw [wI_eq, if_neg (fun z => by omega), wI_s]
        · rw [wI_eq, if_neg (fun z => by omega), wI_eq, if_neg (fun z => by omega), wI_eq, if_neg (fun z => by omega), wI_eq, if_neg (fun z => by omega), wI_eq, if_neg (fun z => by omega), wI_s]
        · rw [wI_eq, if_neg (fun z => by omega), wI_eq, if_neg (fun z => by omega), wI_eq, if_neg (fun z => by omega), wI_eq, if_neg (fun z => by omega), show 181 + 4 * nk = 180 + 4 * nk + 1 by omega, wI_s]
        · rw [wI_eq, if_neg (fun z => by omega), wI_eq, if_neg (fun z => by omega), wI_eq, if_neg (fun z => by omega), show 182 + 4 * nk = 180 + 4 * nk + 2 by omega, wI_s]
        · rw [wI_eq, if_neg (fun z => by omega), wI_eq, if_neg (fun z => by omega), show 183 + 4 * nk = 180 + 4 * nk + 3 by omega, wI_s]
        · rw [wI_eq, if_neg (fun z => by omega), wI_s]
        · intro o k z1 z2
          rw [wI_eq, if_neg (fun z => by omega), wI_eq, if_neg (fun z => by omega), wI_eq, if_neg (fun z => by omega), wI_eq, if_neg (fun z => by omega), wI_eq, if_neg (fun z => by omega), aC.1]
        · intro k z1 z2
          rw [wI_eq, if_neg (fun z => by omega), wI_eq, if_neg (fun z => by omega), wI_eq, if_neg (fun z => by omega), wI_eq, if_neg (fun z => by omega), wI_eq, if_neg (fun z => by omega), wI_eq, if_neg (fun z => by omega), aM.1]
    · refine rf_of (x := -5) (y := -5) (j := 4) hI (by omega) ?_ ?_
      · rw [s125]; unfold b125
        by_cases hx : x = -1
        · rw [if_pos hx, if_pos hx, q1, if_neg (fun z => hn (e10.mp z)), r169_5, bI_v]
        · rw [if_neg hx, c55, bI_v, if_neg hx, if_neg (hg.resolve_left hx), q1, if_neg (fun z => hn (e10.mp z)), r169_5, bI_v]
      · rw [s220]; unfold b220
        dsimp only
        rw [d205 _ _ rC_1, bI_v, d13 _ rC_1, if_pos (e10'.mpr hn), r186_5, bI_v]
        by_cases hx : x = -1
        · rw [if_pos hx]
        · rw [if_neg hx, if_neg (hg.resolve_left hx)]
  · have hx : ¬ x = -1 := fun z => hg (Or.inl z)
    have hp1 : p = -1 := Decidable.not_not.mp (fun z => hg (Or.inr z))
    refine rf_of (x := -2) (y := -2) (j := 1) hI (by omega) ?_ ?_
    · rw [s125]; unfold b125
      rw [if_neg hx, c55, bI_v, if_neg hx, if_pos hp1, r169_2, bI_v]
    · rw [s220]; unfold b220
      dsimp only
      rw [d205 _ _ rC_1, bI_v, if_neg hx, if_pos hp1, r186_2, bI_v]
theorem st130 : StpI InvC 130 227 1 := by
  intro as I F hl hI
  obtain ⟨x, rfl⟩ := len1 hl
  simp only [List.map_cons, List.map_nil]
  obtain ⟨nl, nc, nk, nx, np, na, ns, hR⟩ := hI.1
  obtain ⟨q1, q2, q3, q4, q5, q6, q7, q8, q9, q10, q11, q12⟩ := hR.2.2.2.2.1
  have c48 := m48 (N := zN) (d := 7) (I := I) (F := F) (b := 2) (nk := nk) (by omega) x q1 q3
  have d199 := fun (J : IM) (G : FM) (hJ : ∀ o k, J 1 o k = I 1 o k) => m199 (N := zN) (d := 6) (I := wI J 1 0 0 0) (F := G) (n := nk) x (by rw [w0_12, hJ, q2]) (by omega)
  by_cases hx : inb x nk
  · obtain ⟨k, hk, hk2, rfl, -⟩ := inb_get hx
    have h10 : inb (nI k) 10 := inb_mono q3 hx
    have i3 : inb (nI (180 + 4 * k + 3)) 406 := inb_nI (by omega) (by decide)
    have e3 : 180 + 4 * k + 3 = 183 + 4 * k := by omega
    have d183 := fun (J : IM) (hJ : ∀ o k, J 1 o k = I 1 o k) => show wI J 1 0 0 0 1 2 (180 + 4 * k + 3) = I 1 2 (183 + 4 * k) by rw [w0_12, hJ, e3]
    have eg : (I 2 13 k = 0) ↔ (I 1 2 (183 + 4 * k) = -1) := by
      rcases q11 k hk with ⟨z1, z2⟩ | ⟨z1, z2, c, z3, z4, -⟩
      · exact ⟨fun _ => z2, fun _ => z1⟩
      · rw [z1, z4]
        exact ⟨fun y => absurd y (by decide), fun y => absurd y (fun w => nI_ne1 (by omega) w)⟩
    have ecl : (nI k).toNatClampNeg = k := nI_clamp hk2
    by_cases hg : I 2 13 k = 0
    · refine rf_of (x := -4) (y := -4) (j := 3) hI (by omega) ?_ ?_
      · rw [s130]; unfold b130
        rw [c48, bI_v, ite_bzif, if_pos hx, if_pos h10, if_pos (show I 2 13 (nI k).toNatClampNeg = 0 by rw [ecl]; exact hg), r169_4, bI_v]
      · rw [s227]; unfold b227
        dsimp only
        rw [d199 _ _ rC_1, bI_v, ite_bzif, if_pos hx, m194, bI_v, L3, nI_add, if_pos i3, nI_clamp (by omega), d183 _ rC_1, if_pos (eg.mp hg), r186_4, bI_v]
    · apply act_of (x := 0) 14 (fun J => wI (wI J 2 13 k 0) 0 0 6 0) (fun R => wI (wI R 1 2 (180 + 4 * k + 3) (-1)) 1 0 1 0) (fun J => wI J 1 0 0 0) (fun G => G) (fun H => H) hI
      · rw [s130]; unfold b130
        rw [c48, bI_v, ite_bzif, if_pos hx, if_pos h10, if_neg (show ¬ I 2 13 (nI k).toNatClampNeg = 0 by rw [ecl]; exact hg)]
        try rfl
      · intro J G hJ hG
        rw [s227]; unfold b227
        dsimp only
        rw [d199 J G hJ, bI_v, ite_bzif, if_pos hx, m194, bI_v, L3, nI_add, if_pos i3, nI_clamp (by omega), d183 J hJ, if_neg (fun z => hg (eg.mpr z))]
        try rfl
      · exact ex0
      · intro J G aC
        refine ⟨?_, okC_of (pC_w pC_rfl)⟩
        try dsimp only
        rw [if_pos h10, m168, bI_v, ecl]
      · intro R H aM
        refine ⟨?_, okM_of (pM_w pM_rfl)⟩
        try dsimp only
        rw [m194, bI_v]
        try rw [L3]
        rw [nI_add, if_pos i3, nI_clamp (by omega), m185, bI_v]
      · intro J R G H aC aM
        try dsimp only
        rw [aC.2.2.1, aM.2]
        exact ⟨_, _, _, _, _, _, _, op_drop hR hk (by rw [wI_eq, if_neg (fun z => by omega), wI_s]) (by rw [wI_eq, if_neg (fun z => by omega), e3, wI_s]) (fun o k z1 z2 => by rw [wI_eq, if_neg (fun z => by omega), wI_eq, if_neg (fun z => by omega), aC.1]) (fun k z1 z2 => by rw [wI_eq, if_neg (fun z => by omega), wI_eq, if_neg (fun z => by omega), aM.1])⟩
  · refine rf_of (x := -2) (y := -2) (j := 1) hI (by omega) ?_ ?_
    · rw [s130]; unfold b130
      rw [c48, bI_v, ite_bzif, if_neg hx, r169_2, bI_v]
    · rw [s227]; unfold b227
      dsimp only
      rw [d199 _ _ rC_1, bI_v, ite_bzif, if_neg hx, r186_2, bI_v]
theorem st127 : StpI InvC 127 222 1 := by
  intro as I F hl hI
  obtain ⟨x, rfl⟩ := len1 hl
  simp only [List.map_cons, List.map_nil]
  obtain ⟨nl, nc, nk, nx, np, na, ns, hR⟩ := hI.1
  have hK := hR.2.2.2.2.1
  obtain ⟨q1, q2, q3, q4, q5, q6, q7, q8, q9, q10, q11, q12⟩ := hR.2.2.2.2.1
  have c55 := m55 (N := zN) (d := 7) (I := I) (F := F) (b := 2) (by omega) x
  have d205 := fun (J : IM) (G : FM) (hJ : ∀ o k, J 1 o k = I 1 o k) => show sem zN 8 205 [vR (some (1, 0)), vI x] (wI J 1 0 0 0) G = some (vI (if inb x 3 then I 2 14 x.toNatClampNeg else -1), wI J 1 0 0 0, G) by
    rw [m205 (d := 6) (n := nk) (by decide) x (by rw [w0_12, hJ, q2]) q3, show wI J 1 0 0 0 1 2 = I 1 2 from funext (fun k => by rw [w0_12, hJ]), kIn_c hK]
  by_cases hp : (if inb x 3 then I 2 14 x.toNatClampNeg else -1) = -1
  · refine rf_of (x := -2) (y := -2) (j := 1) hI (by omega) ?_ ?_
    · rw [s127]; unfold b127
      rw [c55, bI_v, if_pos hp, r169_2, bI_v]
    · rw [s222]; unfold b222
      dsimp only
      rw [d205 _ _ rC_1, bI_v, if_pos hp, r186_2, bI_v]
  · have hx : inb x 3 := Decidable.not_not.mp (fun z => hp (if_neg z))
    rw [if_pos hx] at hp c55
    obtain ⟨s, hs, hs2, rfl, es⟩ := inb_get hx
    rw [es] at hp c55
    obtain ⟨k, hk, ek⟩ : ∃ k, k < nk ∧ I 2 14 s = nI k := (q8 s hs).resolve_left hp
    have d205 : ∀ (J : IM) (G : FM), (∀ o k, J 1 o k = I 1 o k) → sem zN 8 205 [vR (some (1, 0)), vI (nI s)] (wI J 1 0 0 0) G = some (vI (nI k), wI J 1 0 0 0, G) := fun J G hJ => by
      rw [d205 J G hJ, if_pos hx, es, ek]
    rw [ek] at c55 hp
    apply act_of (x := nI k) 11 (fun J => wI (fl (wI J 2 14 s (-1)) 2 32 4 (fun t => if J 2 32 t = nI k then -1 else J 2 32 t)) 0 0 6 0) (fun R => wI (sr R (ulc (R 1 2) k 4)) 1 0 1 0) (fun J => wI J 1 0 0 0) (fun G => G) (fun H => H) hI
    · rw [s127]; unfold b127
      rw [c55, bI_v, if_neg hp]
      try rfl
    · intro J G hJ hG
      rw [s222]; unfold b222
      dsimp only
      rw [d205 J G hJ, bI_v, if_neg hp]
      try rfl
    · exact ex0
    · intro J G aC
      refine ⟨?_, okC_of (pC_fl (pC_w pC_rfl))⟩
      try dsimp only
      rw [m114 (by omega) (by decide) hs, bV_v, m168, bI_v]
    · intro R H aM
      refine ⟨?_, okM_of (pM_sr pM_rfl)⟩
      try dsimp only
      rw [m207 (by decide) (by omega), bV_v, m185, bI_v]
    · intro J R G H aC aM
      try dsimp only
      rw [aC.2.2.1, aM.2]
      refine ⟨_, _, _, _, _, _, _, op_unl hR hk hs ek ?_ ?_ ?_ ?_⟩
      · rw [wI_eq, if_neg (fun z => by omega), fl_eq, if_neg (fun z => by omega), wI_s]
      · intro t ht
        rw [wI_eq, if_neg (fun z => by omega), fl_eq, if_pos ⟨rfl, rfl, ht⟩, aC.1]
      · intro i hi
        have eR : R 1 2 = I 1 2 := funext aM.1
        rw [wI_eq, if_neg (fun z => by omega), sr_row, eR]
      · intro o i z1 z2
        rw [wI_eq, if_neg (fun z => by omega), fl_eq, if_neg (fun z => by omega), wI_eq, if_neg (fun z => by omega), aC.1]
theorem st126 : StpI InvC 126 221 2 := by
  intro as I F hl hI
  obtain ⟨x, y, rfl⟩ := len2 hl
  simp only [List.map_cons, List.map_nil]
  obtain ⟨nl, nc, nk, nx, np, na, ns, hR⟩ := hI.1
  have hK := hR.2.2.2.2.1
  obtain ⟨q1, q2, q3, q4, q5, q6, q7, q8, q9, q10, q11, q12⟩ := hR.2.2.2.2.1
  obtain ⟨t1, t2, t3, t4⟩ := hR.2.2.2.2.2.2.1
  have c48 := m48 (N := zN) (d := 7) (I := I) (F := F) (b := 2) (nk := nk) (by omega) y q1 q3
  have c98 := m98 (N := zN) (d := 7) (I := I) (F := F) (b := 2) (n := ns) (by omega) y t1 t3
  have d199 := fun (J : IM) (G : FM) (hJ : ∀ o k, J 1 o k = I 1 o k) => m199 (N := zN) (d := 6) (I := wI J 1 0 0 0) (F := G) (n := nk) y (by rw [w0_12, hJ, q2]) (by omega)
  have d201 := fun (J : IM) (G : FM) (hJ : ∀ o k, J 1 o k = I 1 o k) => m201 (N := zN) (d := 6) (I := wI J 1 0 0 0) (F := G) (n := ns) y (by rw [w0_12, hJ, t2]) (by omega)
  have d184 := fun (J : IM) (G : FM) => m184 (h := 1) (n := 2) zN 7 (x := x) (by decide) J G
  have n10 : ¬ ((1 : Int32) = 0) := by decide
  have n01 : ¬ ((0 : Int32) = 1) := by decide
  by_cases hx0 : x = 0
  · subst hx0
    by_cases hy : inb y nk
    · obtain ⟨k, hk, hk2, rfl, ey⟩ := inb_get hy
      have c62 := m62 (N := zN) (d := 4) (I := I) (F := F) (b := 2) (nk := nk) (by omega) (by decide) (nI k) q1 q3
      have c57 := m57 (N := zN) (d := 7) (I := I) (F := F) (b := 2) (by omega) (by decide)
      rw [if_pos hy] at c62
      simp only [ey] at c62
      rw [slOf_c hK hk, (q7 k hk).1] at c62
      have e0 : ∀ J : IM, (∀ o k, J 1 o k = I 1 o k) → wI J 1 0 0 0 1 2 (180 + 4 * k) = I 1 2 (180 + 4 * k) := fun J hJ => by rw [w0_12, hJ]
      have e2 : ∀ J : IM, (∀ o k, J 1 o k = I 1 o k) → wI J 1 0 0 0 1 2 (nI (180 + 4 * k + 2)).toNatClampNeg = I 1 2 (182 + 4 * k) := fun J hJ => by rw [w0_12, hJ, nI_clamp (by omega), show 180 + 4 * k + 2 = 182 + 4 * k by omega]
      have e3 : ∀ J : IM, (∀ o k, J 1 o k = I 1 o k) → wI J 1 0 0 0 1 2 (nI (180 + 4 * k + 3)).toNatClampNeg = I 1 2 (183 + 4 * k) := fun J hJ => by rw [w0_12, hJ, nI_clamp (by omega), show 180 + 4 * k + 3 = 183 + 4 * k by omega]
      have i0 : inb (nI (180 + 4 * k)) 406 := inb_nI (by omega) (by decide)
      have i2 : inb (nI (180 + 4 * k + 2)) 406 := inb_nI (by omega) (by decide)
      have i3 : inb (nI (180 + 4 * k + 3)) 406 := inb_nI (by omega) (by decide)
      have eg : (I 2 13 k = 0) ↔ (I 1 2 (183 + 4 * k) = -1) := by
        rcases q11 k hk with ⟨z1, z2⟩ | ⟨z1, z2, c, z3, z4, -⟩
        · exact ⟨fun _ => z2, fun _ => z1⟩
        · rw [z1, z4]
          exact ⟨fun y => absurd y (by decide), fun y => absurd y (fun w => nI_ne1 (by omega) w)⟩
      -- the parent stands in a slot, or there is none
      have hpar : ∃ v : Int32, (v = 0 ∨ v = 1) ∧ (v = 1 ↔ (I 1 2 (180 + 4 * k) = -1 ∨ ¬ slOf (I 2 14) (I 1 2 (180 + 4 * k)) = -1)) ∧ ∀ (J : IM) (G : FM), (∀ o k, J 1 o k = I 1 o k) → sem zN 9 221 [vR (some (1, 0)), vI 0, vI (nI k)] J G = sg (sem zN 8) 1 zc221 zN 107 [vR (some (1, 0)), vI (nI (180 + 4 * k)), vI v] (wI J 1 0 0 0) G := by
        by_cases hp : I 1 2 (180 + 4 * k) = -1
        · refine ⟨1, Or.inr rfl, ⟨fun _ => Or.inl hp, fun _ => rfl⟩, fun J G hJ => ?_⟩
          rw [s221]; unfold b221
          dsimp only
          rw [d184, bI_v, ite_bzif, if_pos (by decide), if_pos rfl, d199 J G hJ, bI_v, ite_bzif, if_pos hy, if_neg n01, m194, bI_v, rz0, if_pos i0, if_pos i0, nI_clamp (by omega), e0 J hJ, if_pos hp]
        · obtain ⟨p, hpk, ep⟩ := (q7 k hk).2.2.resolve_left hp
          have i5 : inb (nI (180 + 4 * p + 2)) 406 := inb_nI (by omega) (by decide)
          have e5 : ∀ J : IM, (∀ o k, J 1 o k = I 1 o k) → wI J 1 0 0 0 1 2 (180 + 4 * p + 2) = slOf (I 2 14) (I 1 2 (180 + 4 * k)) := fun J hJ => by rw [w0_12, hJ, show 180 + 4 * p + 2 = 182 + 4 * p by omega, ep, slOf_c hK (by omega)]
          by_cases hsl : slOf (I 2 14) (I 1 2 (180 + 4 * k)) = -1
          · refine ⟨0, Or.inl rfl, ⟨fun z => absurd z n01, fun z => absurd hsl (z.resolve_left hp)⟩, fun J G hJ => ?_⟩
            rw [s221]; unfold b221
            dsimp only
            rw [d184, bI_v, ite_bzif, if_pos (by decide), if_pos rfl, d199 J G hJ, bI_v, ite_bzif, if_pos hy, if_neg n01, m194, bI_v, rz0, if_pos i0, if_pos i0, nI_clamp (by omega), e0 J hJ, if_neg hp, ep, m194, bI_v, L2, nI_add, if_pos i5, nI_clamp (by omega), e5 J hJ, if_pos hsl]
          · refine ⟨1, Or.inr rfl, ⟨fun _ => Or.inr hsl, fun _ => rfl⟩, fun J G hJ => ?_⟩
            rw [s221]; unfold b221
            dsimp only
            rw [d184, bI_v, ite_bzif, if_pos (by decide), if_pos rfl, d199 J G hJ, bI_v, ite_bzif, if_pos hy, if_neg n01, m194, bI_v, rz0, if_pos i0, if_pos i0, nI_clamp (by omega), e0 J hJ, if_neg hp, ep, m194, bI_v, L2, nI_add, if_pos i5, nI_clamp (by omega), e5 J hJ, if_neg hsl]
      obtain ⟨v, hv, hv1, h221⟩ := hpar
      have c126 : ∀ (R : Option Rs), sg (sem zN 8) 1 zc126 zN 44 [vR (some (0, 0)), vI 0, vI (nI k), vI (bz (inb (nI k) nk))] I F = R → sem zN 9 126 [vR (some (0, 0)), vI 0, vI (nI k)] I F = R := fun R e => by
        rw [s126]; unfold b126
        rw [if_pos rfl, if_pos rfl, c48, bI_v]
        exact e
      rw [bz_t hy] at c126
      have u126 : sg (sem zN 8) 1 zc126 zN 44 [vR (some (0, 0)), vI 0, vI (nI k), vI 1] I F = b126_44 (sem zN 8) (sg (sem zN 8) 1 zc126 19999) 0 (nI k) 1 I F := u126_44 (sem zN 8) 19999 0 (nI k) 1 I F
      have u221 : ∀ (J : IM) (G : FM), sg (sem zN 8) 1 zc221 zN 107 [vR (some (1, 0)), vI (nI (180 + 4 * k)), vI v] J G = b221_107 (sem zN 8) (sg (sem zN 8) 1 zc221 19999) (nI (180 + 4 * k)) v J G := fun J G => u221_107 (sem zN 8) 19999 (nI (180 + 4 * k)) v J G
      by_cases hg : I 1 2 (182 + 4 * k) = -1 ∧ ¬ (inb (nI k) nk ∧ ¬ I 2 13 k = 0) ∧ (I 1 2 (180 + 4 * k) = -1 ∨ ¬ slOf (I 2 14) (I 1 2 (180 + 4 * k)) = -1)
      · obtain ⟨g1, g2, g3⟩ := hg
        have g4 : I 1 2 (183 + 4 * k) = -1 := eg.mp (Decidable.not_not.mp (fun z => g2 ⟨hy, z⟩))
        have gv : ¬ v = 0 := by rw [hv1.mpr g3]; exact n10
        have d206 : ∀ (J : IM) (G : FM), (∀ o k, J 1 o k = I 1 o k) → sem zN 8 206 [vR (some (1, 0))] (wI J 1 0 0 0) G = some (vI (frS (I 2 14)), wI J 1 0 0 0, G) := fun J G hJ => by
          rw [m206 (d := 5) (n := nk) (by decide) (by rw [w0_12, hJ, q2]) q3, show wI J 1 0 0 0 1 2 = I 1 2 from funext (fun k => by rw [w0_12, hJ]), frM_c hK]
        rcases frS_c (s := I 2 14) with hf | ⟨s, hs, hf, hfs⟩
        · rw [hf] at d206 c57
          refine rf_of (x := -5) (y := -5) (j := 4) hI (by omega) ?_ ?_
          · refine c126 _ ?_
            rw [u126]; unfold b126_44
            rw [if_neg n10, if_neg n01, c62, bI_v, ite_bzif, if_pos ⟨g1, g2, g3⟩, c57, bI_v, if_pos rfl, r169_5, bI_v]
          · rw [h221 _ _ rC_1, u221]; unfold b221_107
            rw [L2, L3, nI_add, nI_add, if_pos i2, e2 _ rC_1, if_pos g1, if_pos i3, e3 _ rC_1, if_pos g4, if_neg gv, d206 _ _ rC_1, bI_v, if_pos rfl, r186_5, bI_v]
        · rw [hf] at d206 c57
          have ns1 : ¬ nI s = -1 := fun z => nI_ne1 (by omega) z
          apply act_of (x := nI s) 10 (fun J => wI (wI J 2 14 s (nI k)) 0 0 6 0) (fun R => wI (wI R 1 2 (180 + 4 * k + 2) (nI s)) 1 0 1 0) (fun J => wI J 1 0 0 0) (fun G => G) (fun H => H) hI
          · refine c126 _ ?_
            rw [u126]; unfold b126_44
            rw [if_neg n10, if_neg n01, c62, bI_v, ite_bzif, if_pos ⟨g1, g2, g3⟩, c57, bI_v, if_neg ns1]
            try rfl
          · intro J G hJ hG
            rw [h221 J G hJ, u221]; unfold b221_107
            rw [L2, L3, nI_add, nI_add, if_pos i2, e2 J hJ, if_pos g1, if_pos i3, e3 J hJ, if_pos g4, if_neg gv, d206 J G hJ, bI_v, if_neg ns1]
            try rfl
          · exact ex0
          · intro J G aC
            refine ⟨?_, okC_of (pC_w pC_rfl)⟩
            try dsimp only
            rw [m60 (by omega) hs, bV_v, m168, bI_v]
          · intro R H aM
            refine ⟨?_, okM_of (pM_w pM_rfl)⟩
            try dsimp only
            rw [if_pos i2, m185, bI_v, nI_clamp (by omega)]
          · intro J R G H aC aM
            try dsimp only
            rw [aC.2.2.1, aM.2]
            refine ⟨_, _, _, _, _, _, _, op_load hR hk hs hfs g1 ?_ ?_ ?_ ?_ ?_ ?_⟩
            · rw [wI_eq, if_neg (fun z => by omega), wI_s]
            · rw [wI_eq, if_neg (fun z => by omega), wI_eq, if_neg (fun z => by omega), aC.1]
              exact eg.mpr g4
            · rw [wI_eq, if_neg (fun z => by omega), show 182 + 4 * k = 180 + 4 * k + 2 by omega, wI_s]
            · rw [wI_eq, if_neg (fun z => by omega), wI_eq, if_neg (fun z => by omega), aM.1, g4]
            · intro o i z1 z2
              rw [wI_eq, if_neg (fun z => by omega), wI_eq, if_neg (fun z => by omega), aC.1]
            · intro i z1 z2
              rw [wI_eq, if_neg (fun z => by omega), wI_eq, if_neg (fun z => by omega), aM.1]
      · refine rf_of (x := -4) (y := -4) (j := 3) hI (by omega) ?_ ?_
        · refine c126 _ ?_
          rw [u126]; unfold b126_44
          rw [if_neg n10, if_neg n01, c62, bI_v, ite_bzif, if_neg hg, r169_4, bI_v]
        · rw [h221 _ _ rC_1, u221]; unfold b221_107
          rw [L2, L3, nI_add, nI_add, if_pos i2, e2 _ rC_1]
          by_cases g1 : I 1 2 (182 + 4 * k) = -1
          · rw [if_pos g1, if_pos i3, e3 _ rC_1]
            by_cases g4 : I 1 2 (183 + 4 * k) = -1
            · rw [if_pos g4]
              have gv : v = 0 := hv.resolve_right (fun z => hg ⟨g1, fun w => w.2 (eg.mpr g4), hv1.mp z⟩)
              rw [if_pos gv, r186_4, bI_v]
            · rw [if_neg g4, r186_4, bI_v]
          · rw [if_neg g1, r186_4, bI_v]
    · refine rf_of (x := -2) (y := -2) (j := 1) hI (by omega) ?_ ?_
      · rw [s126]; unfold b126
        rw [if_pos rfl, if_pos rfl, c48, bI_v, bz_f hy]
        show sg (sem zN 8) 1 zc126 (19999 + 1) 44 [vR (some (0, 0)), vI 0, vI y, vI 0] I F = _
        rw [u126_44]; unfold b126_44
        rw [if_pos rfl, r169_2, bI_v]
      · rw [s221]; unfold b221
        dsimp only
        rw [d184, bI_v, ite_bzif, if_pos (by decide), if_pos rfl, d199 _ _ rC_1, bI_v, ite_bzif, if_neg hy, r186_2, bI_v]
  · by_cases hx1 : x = 1
    · subst hx1
      by_cases hy : inb y ns
      · refine rf_of (x := -4) (y := -4) (j := 3) hI (by omega) ?_ ?_
        · rw [s126]; unfold b126
          rw [if_neg n10, if_pos rfl, if_neg n10, c98, bI_v, bz_t hy]
          show sg (sem zN 8) 1 zc126 (19999 + 1) 44 [vR (some (0, 0)), vI 1, vI y, vI 1] I F = _
          rw [u126_44]; unfold b126_44
          rw [if_neg n10, if_pos rfl, r169_4, bI_v]
        · rw [s221]; unfold b221
          dsimp only
          rw [d184, bI_v, ite_bzif, if_pos (by decide), if_neg n10, d201 _ _ rC_1, bI_v, ite_bzif, if_pos hy, if_pos rfl, r186_4, bI_v]
      · refine rf_of (x := -2) (y := -2) (j := 1) hI (by omega) ?_ ?_
        · rw [s126]; unfold b126
          rw [if_neg n10, if_pos rfl, if_neg n10, c98, bI_v, bz_f hy]
          show sg (sem zN 8) 1 zc126 (19999 + 1) 44 [vR (some (0, 0)), vI 1, vI y, vI 0] I F = _
          rw [u126_44]; unfold b126_44
          rw [if_pos rfl, r169_2, bI_v]
        · rw [s221]; unfold b221
          dsimp only
          rw [d184, bI_v, ite_bzif, if_pos (by decide), if_neg n10, d201 _ _ rC_1, bI_v, ite_bzif, if_neg hy, r186_2, bI_v]
    · have hn : ¬ inb x 2 := fun z => by
        rw [inb_iff] at z
        rw [i_eq, i_0] at hx0
        rw [i_eq, show (1 : Int32).toInt = 1 by decide] at hx1
        omega
      refine rf_of (x := -1) (y := -1) (j := 0) hI (by omega) ?_ ?_
      · rw [s126]; unfold b126
        rw [if_neg hx0, if_neg hx1, r169_1, bI_v]
      · rw [s221]; unfold b221
        dsimp only
        rw [d184, bI_v, ite_bzif, if_neg hn, r186_1, bI_v]
theorem st128 : StpI InvC 128 223 1 := by
  intro as I F hl hI
  obtain ⟨x, rfl⟩ := len1 hl
  simp only [List.map_cons, List.map_nil]
  obtain ⟨nl, nc, nk, nx, np, na, ns, hR⟩ := hI.1
  have hK := hR.2.2.2.2.1
  have p3 := hR.2.1.2.2.1
  obtain ⟨q1, q2, q3, q4, q5, q6, q7, q8, q9, q10, q11, q12⟩ := hR.2.2.2.2.1
  have c55 := m55 (N := zN) (d := 7) (I := I) (F := F) (b := 2) (by omega) x
  have d205 := fun (J : IM) (G : FM) (hJ : ∀ o k, J 1 o k = I 1 o k) => show sem zN 8 205 [vR (some (1, 0)), vI x] (wI J 1 0 0 0) G = some (vI (if inb x 3 then I 2 14 x.toNatClampNeg else -1), wI J 1 0 0 0, G) by
    rw [m205 (d := 6) (n := nk) (by decide) x (by rw [w0_12, hJ, q2]) q3, show wI J 1 0 0 0 1 2 = I 1 2 from funext (fun k => by rw [w0_12, hJ]), kIn_c hK]
  by_cases hp : (if inb x 3 then I 2 14 x.toNatClampNeg else -1) = -1
  · refine rf_of (x := -2) (y := -2) (j := 1) hI (by omega) ?_ ?_
    · rw [s128]; unfold b128
      rw [c55, bI_v, if_pos hp, r169_2, bI_v]
    · rw [s223]; unfold b223
      dsimp only
      rw [d205 _ _ rC_1, bI_v, if_pos hp, r186_2, bI_v]
  · have hx : inb x 3 := Decidable.not_not.mp (fun z => hp (if_neg z))
    rw [if_pos hx] at hp c55
    obtain ⟨s, hs, hs2, rfl, es⟩ := inb_get hx
    rw [es] at hp c55
    obtain ⟨k, hk, ek⟩ : ∃ k, k < nk ∧ I 2 14 s = nI k := (q8 s hs).resolve_left hp
    have d205 : ∀ (J : IM) (G : FM), (∀ o k, J 1 o k = I 1 o k) → sem zN 8 205 [vR (some (1, 0)), vI (nI s)] (wI J 1 0 0 0) G = some (vI (nI k), wI J 1 0 0 0, G) := fun J G hJ => by
      rw [d205 J G hJ, if_pos hx, es, ek]
    rw [ek] at c55 hp
    have d14 := fun (J : IM) (hJ : ∀ o k, J 1 o k = I 1 o k) => show wI J 1 0 0 0 1 2 14 = nI nx by rw [w0_12, hJ, q5]
    have e12 : (nI nx < (12 : Int32)) ↔ nx < 12 := by rw [L12, i_lt, i_nI (by omega), i_nI (by omega)]; omega
    have e12' : (nI nx = (12 : Int32)) ↔ ¬ nx < 12 := by rw [L12, nI_eq (by omega) (by omega)]; omega
    by_cases hn : nx < 12
    · have i0 : inb (nI (220 + 4 * nx)) 406 := inb_nI (by omega) (by decide)
      have i1 : inb (nI (220 + 4 * nx + 1)) 406 := inb_nI (by omega) (by decide)
      have i2 : inb (nI (220 + 4 * nx + 2)) 406 := inb_nI (by omega) (by decide)
      have i3 : inb (nI (180 + 4 * k + 3)) 406 := inb_nI (by omega) (by decide)
      apply act_of (x := nI nx) 12 (fun J => wI (wI (wI (wI (wI (wI (wI (fl (wI J 2 14 s (-1)) 2 32 4 (fun t => if J 2 32 t = nI k then -1 else J 2 32 t)) 2 15 nx (J 2 1 4)) 2 16 nx (nI k)) 2 17 nx (nI s)) 2 18 nx 0) 2 13 k 1) 2 10 9 (nI (nx + 1))) 0 0 6 0) (fun R => wI (wI (sr R (ulc (updR (updR (updR (updR (R 1 2) (220 + 4 * nx) (R 1 2 10)) (220 + 4 * nx + 1) (nI k)) (220 + 4 * nx + 2) (nI s)) 14 (nI (nx + 1))) k 4)) 1 2 (180 + 4 * k + 3) (nI nx)) 1 0 1 0) (fun J => wI J 1 0 0 0) (fun G => G) (fun H => H) hI
      · rw [s128]; unfold b128
        rw [c55, bI_v, if_neg hp, q4, if_pos (e12.mpr hn)]
        try rfl
      · intro J G hJ hG
        rw [s223]; unfold b223
        dsimp only
        rw [d205 J G hJ, bI_v, if_neg hp, d14 J hJ, if_neg (fun z => e12'.mp z hn)]
        try rfl
      · exact ex0
      · intro J G aC
        refine ⟨?_, okC_of (pC_w (pC_w (pC_w (pC_w (pC_w (pC_w (pC_fl (pC_w pC_rfl))))))))⟩
        try dsimp only
        have a1 : fl (wI J 2 14 s (-1)) 2 32 4 (fun t => if J 2 32 t = nI k then -1 else J 2 32 t) 2 1 4 = J 2 1 4 := by rw [fl_eq, if_neg (fun z => by omega), wI_eq, if_neg (fun z => by omega)]
        rw [m114 (by omega) (by decide) hs, bV_v, a1, m64 (nx := nx) (nk := nk) (by omega) (J 2 1 4) (nI s) (by rw [fl_eq, if_neg (fun z => by omega), wI_eq, if_neg (fun z => by omega), aC.1, q4]) hn hk (by rw [fl_eq, if_neg (fun z => by omega), wI_eq, if_neg (fun z => by omega), aC.1, q1]) q3, bI_v, m168, bI_v]
      · intro R H aM
        refine ⟨?_, okM_of (pM_w (pM_sr pM_rfl))⟩
        try dsimp only
        rw [m195, bI_v]
        simp only [L2, nI_add, nI_1, eq_true i0, eq_true i1, eq_true i2, ↓reduceIte, nI_clamp (show 220 + 4 * nx < 2 ^ 31 by omega), nI_clamp (show 220 + 4 * nx + 1 < 2 ^ 31 by omega), nI_clamp (show 220 + 4 * nx + 2 < 2 ^ 31 by omega)]
        rw [show wI (wI (wI R 1 2 (220 + 4 * nx) (R 1 2 10)) 1 2 (220 + 4 * nx + 1) (nI k)) 1 2 (220 + 4 * nx + 2) (nI s) 1 2 14 = nI nx by rw [wI_eq, if_neg (fun z => by omega), wI_eq, if_neg (fun z => by omega), wI_eq, if_neg (fun z => by omega), aM.1, q5], nI_1, w_sr R (220 + 4 * nx) (R 1 2 10), sr_w, sr_w, sr_w, m207 (by decide) (by omega), bV_v, sr_row, sr_sr, m194, bI_v, L3, nI_add, if_pos i3, nI_clamp (by omega), m185, bI_v]
      · intro J R G H aC aM
        try dsimp only
        rw [aC.2.2.1, aM.2]
        have hl : I 1 2 (182 + 4 * k) = nI s := (q10 k s hk hs).mpr ek
        -- the key goes, then its context comes
        have h1 : CRep (fun o i => if o = 14 ∧ i = s then -1 else if o = 32 then (if I 2 32 i = nI k then -1 else I 2 32 i) else I 2 o i) (F 2 1 5) (ulc (I 1 2) k 4) (F 1 0 4) nl nc nk nx np na ns := by
          refine op_unl hR hk hs ek ?_ ?_ (fun i _ => rfl) ?_
          · rw [if_pos ⟨rfl, rfl⟩]
          · intro t ht
            rw [if_neg (fun z => by omega), if_pos rfl]
          · intro o i z1 z2
            rw [if_neg (fun z => z2 (Or.inl z)), if_neg (fun z => z2 (Or.inr z))]
        refine ⟨_, _, _, _, _, _, _, op_ctx h1 hk hs hn ?_ ?_ ?_ ?_ ?_ ?_ ?_ ?_ ?_ ?_ ?_ ?_ ?_⟩
        · unfold ulc
          rw [if_pos rfl]
        · rw [wI_eq, if_neg (fun z => by omega), wI_eq, if_neg (fun z => by omega), wI_eq, if_neg (fun z => by omega), wI_eq, if_neg (fun z => by omega), wI_eq, if_neg (fun z => by omega), wI_eq, if_neg (fun z => by omega), wI_s, aC.1, p3]
          unfold ulc
          rw [if_neg (fun z => by omega), if_neg (fun z => by omega)]
        · rw [wI_eq, if_neg (fun z => by omega), wI_eq, if_neg (fun z => by omega), wI_eq, if_neg (fun z => by omega), wI_eq, if_neg (fun z => by omega), wI_eq, if_neg (fun z => by omega), wI_s]
        · rw [wI_eq, if_neg (fun z => by omega), wI_eq, if_neg (fun z => by omega), wI_eq, if_neg (fun z => by omega), wI_eq, if_neg (fun z => by omega), wI_s]
        · rw [wI_eq, if_neg (fun z => by omega), wI_eq, if_neg (fun z => by omega), wI_eq, if_neg (fun z => by omega), wI_s]
        · rw [wI_eq, if_neg (fun z => by omega), wI_eq, if_neg (fun z => by omega), wI_s]
        · rw [wI_eq, if_neg (fun z => by omega), wI_s]
        · rw [wI_eq, if_neg (fun z => by omega), wI_eq, if_neg (fun z => by omega), sr_row]
          unfold ulc updR
          rw [if_neg (fun z => by omega), if_neg (fun z => by omega), if_neg (fun z => by omega), if_neg (fun z => by omega), if_pos (by omega)]
        · rw [wI_eq, if_neg (fun z => by omega), wI_eq, if_neg (fun z => by omega), sr_row]
          unfold ulc updR
          rw [if_neg (fun z => by omega), if_neg (fun z => by omega), if_neg (fun z => by omega), if_pos (by omega)]
        · rw [wI_eq, if_neg (fun z => by omega), wI_eq, if_neg (fun z => by omega), sr_row]
          unfold ulc updR
          rw [if_neg (fun z => by omega), if_neg (fun z => by omega), if_pos (by omega)]
        · rw [wI_eq, if_neg (fun z => by omega), show 183 + 4 * k = 180 + 4 * k + 3 by omega, wI_s]
        · intro o i z1 z2
          rw [wI_eq, if_neg (fun z => by omega), wI_eq, if_neg (fun z => by omega), wI_eq, if_neg (fun z => by omega), wI_eq, if_neg (fun z => by omega), wI_eq, if_neg (fun z => by omega), wI_eq, if_neg (fun z => by omega), wI_eq, if_neg (fun z => by omega), fl_eq]
          by_cases w : o = 32
          · subst w
            have hi4 : i < 4 := by unfold cpd at z1; omega
            rw [if_pos ⟨rfl, rfl, hi4⟩, aC.1]
            show _ = (if 32 = 14 ∧ i = s then (-1 : Int32) else if 32 = 32 then (if I 2 32 i = nI k then -1 else I 2 32 i) else I 2 32 i)
            rw [if_neg (c := 32 = 14 ∧ i = s) (fun z => by omega), if_pos (c := 32 = 32) rfl]
          · rw [if_neg (fun z => w z.2.1), wI_eq]
            show (if 2 = 2 ∧ o = 14 ∧ i = s then (-1 : Int32) else J 2 o i) = (if o = 14 ∧ i = s then (-1 : Int32) else if o = 32 then (if I 2 32 i = nI k then -1 else I 2 32 i) else I 2 o i)
            rw [if_neg (c := o = 32) w, aC.1]
            by_cases v : o = 14 ∧ i = s
            · rw [if_pos ⟨rfl, v⟩, if_pos v]
            · rw [if_neg (fun z => v z.2), if_neg v]
        · intro i z1 z2
          rw [wI_eq, if_neg (fun z => by omega), wI_eq, if_neg (fun z => by omega), sr_row]
          have er : ∀ j, ¬ ((220 + 4 * nx ≤ j ∧ j ≤ 222 + 4 * nx) ∨ j = 14) → updR (updR (updR (updR (R 1 2) (220 + 4 * nx) (R 1 2 10)) (220 + 4 * nx + 1) (nI k)) (220 + 4 * nx + 2) (nI s)) 14 (nI (nx + 1)) j = I 1 2 j := fun j zj => by
            unfold updR
            rw [if_neg (fun z => zj (by omega)), if_neg (fun z => zj (by omega)), if_neg (fun z => zj (by omega)), if_neg (fun z => zj (by omega)), aM.1]
          unfold ulc
          by_cases w1 : i = 182 + 4 * k
          · rw [if_pos w1, if_pos w1]
          · rw [if_neg w1, if_neg w1]
            by_cases w2 : 370 ≤ i ∧ i < 370 + 4 * 4 ∧ (i - 370) % 4 = 0
            · rw [er (i + 1) (by omega), er i (by omega)]
            · rw [if_neg (fun z => w2 ⟨z.1, z.2.1, z.2.2.1⟩), if_neg (fun z => w2 ⟨z.1, z.2.1, z.2.2.1⟩), er i (by omega)]
    · refine rf_of (x := -5) (y := -5) (j := 4) hI (by omega) ?_ ?_
      · rw [s128]; unfold b128
        rw [c55, bI_v, if_neg hp, q4, if_neg (fun z => hn (e12.mp z)), r169_5, bI_v]
      · rw [s223]; unfold b223
        dsimp only
        rw [d205 _ _ rC_1, bI_v, if_neg hp, d14 _ rC_1, if_pos (e12'.mpr hn), r186_5, bI_v]
theorem st129 : StpI InvC 129 226 1 := by
  intro as I F hl hI
  obtain ⟨x, rfl⟩ := len1 hl
  simp only [List.map_cons, List.map_nil]
  obtain ⟨nl, nc, nk, nx, np, na, ns, hR⟩ := hI.1
  have hK := hR.2.2.2.2.1
  have p3 := hR.2.1.2.2.1
  obtain ⟨q1, q2, q3, q4, q5, q6, q7, q8, q9, q10, q11, q12⟩ := hR.2.2.2.2.1
  have c49 := m49 (N := zN) (d := 7) (I := I) (F := F) (b := 2) (nx := nx) (by omega) x q4 q6
  have d224 := fun (J : IM) (G : FM) (hJ : ∀ o k, J 1 o k = I 1 o k) => m224 (N := zN) (d := 6) (I := wI J 1 0 0 0) (F := G) (n := nx) x (by rw [w0_12, hJ, q5]) (by omega)
  by_cases hx : inb x nx
  · obtain ⟨c, hc, hc2, rfl, ec⟩ := inb_get hx
    obtain ⟨z1, z2, ⟨k, hk, ek⟩, s, hs, es⟩ := q12 c hc
    have ek2 : I 2 16 c = nI k := by rw [z1, ek]
    have es2 : I 2 17 c = nI s := by rw [z2, es]
    have c67 := m67 (N := zN) (d := 5) (I := I) (F := F) (b := 2) (nx := nx) (nk := nk) (by omega) (by decide) (I 2 1 4) hc q4 q6 ek2 hk q1 q3
    rw [p3] at c67
    have hgd := good_c hK hc hk ek2
    have h12 : inb (nI c) 12 := inb_mono q6 hx
    have i1 : inb (nI (220 + 4 * c + 1)) 406 := inb_nI (by omega) (by decide)
    have i2 : inb (nI (220 + 4 * c + 2)) 406 := inb_nI (by omega) (by decide)
    have k2 : inb (nI (180 + 4 * k + 2)) 406 := inb_nI (by omega) (by decide)
    have k3 : inb (nI (180 + 4 * k + 3)) 406 := inb_nI (by omega) (by decide)
    have cl1 : (nI (220 + 4 * c + 1)).toNatClampNeg = 220 + 4 * c + 1 := nI_clamp (by omega)
    have cl2 : (nI (220 + 4 * c + 2)).toNatClampNeg = 220 + 4 * c + 2 := nI_clamp (by omega)
    have kl2 : (nI (180 + 4 * k + 2)).toNatClampNeg = 180 + 4 * k + 2 := nI_clamp (by omega)
    have kl3 : (nI (180 + 4 * k + 3)).toNatClampNeg = 180 + 4 * k + 3 := nI_clamp (by omega)
    have ek3 : I 1 2 (220 + 4 * c + 1) = nI k := by rw [show 220 + 4 * c + 1 = 221 + 4 * c by omega, ek]
    have es3 : I 1 2 (220 + 4 * c + 2) = nI s := by rw [show 220 + 4 * c + 2 = 222 + 4 * c by omega, es]
    have d225 : ∀ (J : IM) (G : FM), (∀ o k, J 1 o k = I 1 o k) → sem zN 8 225 [vR (some (1, 0)), vI (nI c)] (wI J 1 0 0 0) G = some (vI (bz (I 1 2 (183 + 4 * k) = nI c)), wI J 1 0 0 0, G) := fun J G hJ => by
      rw [s225]; unfold b225
      rw [m195, bI_v, nI_1, if_pos i1, cl1, w0_12, hJ, ek3, m194, bI_v, L3, nI_add, if_pos k3, kl3, w0_12, hJ, show 180 + 4 * k + 3 = 183 + 4 * k by omega, ite_bz]
    by_cases hg : I 1 2 (183 + 4 * k) = nI c
    · have d205 : ∀ (J : IM) (G : FM), (∀ o k, J 1 o k = I 1 o k) → sem zN 8 205 [vR (some (1, 0)), vI (nI s)] (wI J 1 0 0 0) G = some (vI (I 2 14 s), wI J 1 0 0 0, G) := fun J G hJ => by
        rw [m205 (d := 6) (n := nk) (by decide) (nI s) (by rw [w0_12, hJ, q2]) q3, show wI J 1 0 0 0 1 2 = I 1 2 from funext (fun k => by rw [w0_12, hJ]), kIn_c hK, if_pos (inb_nI hs (by decide)), nI_clamp (by omega)]
      have c55 : sem zN 8 55 [vR (some (2, 10)), vI (nI s)] I F = some (vI (I 2 14 s), I, F) := by
        rw [m55 (by omega), if_pos (inb_nI hs (by decide)), nI_clamp (by omega)]
      have er17 : I 2 17 (nI c).toNatClampNeg = nI s := by rw [ec, es2]
      by_cases hf : I 2 14 s = -1
      · have hun : I 1 2 (182 + 4 * k) = -1 := by
          rcases q11 k hk with ⟨y1, y2⟩ | ⟨y1, y2, -⟩
          · rw [y2] at hg
            exact absurd hg.symm (fun w => nI_ne1 (by omega) w)
          · exact y2
        apply act_of (x := nI s) 13 (fun J => wI (wI (wI (wI J 2 14 s (nI k)) 2 13 k 0) 2 18 c 1) 0 0 6 0) (fun R => wI (wI (wI R 1 2 (180 + 4 * k + 2) (nI s)) 1 2 (180 + 4 * k + 3) (-1)) 1 0 1 0) (fun J => wI J 1 0 0 0) (fun G => G) (fun H => H) (KC := fun J G => bV (sem zN 8 68 [vR (some (2, 10)), vI (nI c)] J G) (fun I7 F7 => bI (sem zN 8 168 [vR (some (0, 0)), vI (nI s)] I7 F7) (fun r8 I8 F8 => some (vI r8, I8, F8)))) hI
        · rw [s129]; unfold b129
          rw [c49, bI_v, ite_bzif, if_pos hx, p3, c67, bI_v, ite_bzif, if_pos (hgd.mpr hg), if_pos h12, er17, c55, bI_v, if_pos hf]
        · intro J G hJ hG
          rw [s226]; unfold b226
          dsimp only
          rw [d224 J G hJ, bI_v, ite_bzif, if_pos hx, d225 J G hJ, bI_v, ite_bzif, if_pos hg, m195, bI_v, L2, nI_add, if_pos i2, show wI J 1 0 0 0 1 2 (nI (220 + 4 * c + 2)).toNatClampNeg = nI s by rw [cl2, w0_12, hJ, es3], d205 J G hJ, bI_v, if_pos hf]
          try rfl
        · exact ex0
        · intro J G aC
          refine ⟨?_, okC_of (pC_w (pC_w (pC_w pC_rfl)))⟩
          try dsimp only
          rw [m68 (nx := nx) (nk := nk) (by omega) hc (by rw [aC.1, q4]) q6 (by rw [aC.1, ek2]) hk (by rw [aC.1, q1]) q3 (by rw [aC.1, es2]) hs, bV_v, m168, bI_v]
        · intro R H aM
          refine ⟨?_, okM_of (pM_w (pM_w pM_rfl))⟩
          try dsimp only
          have r1 : R 1 2 (220 + 4 * c + 1) = nI k := by rw [aM.1, ek3]
          have r2 : R 1 2 (220 + 4 * c + 2) = nI s := by rw [aM.1, es3]
          have r3 : wI R 1 2 (180 + 4 * k + 2) (nI s) 1 2 (220 + 4 * c + 1) = nI k := by rw [wI_eq, if_neg (fun z => by omega), r1]
          have r4 : wI (wI R 1 2 (180 + 4 * k + 2) (nI s)) 1 2 (180 + 4 * k + 3) (-1) 1 2 (220 + 4 * c + 2) = nI s := by rw [wI_eq, if_neg (fun z => by omega), wI_eq, if_neg (fun z => by omega), r2]
          simp only [nI_1, eq_true i1, eq_true i2, ↓reduceIte, cl1, cl2, r1, r2, m194, bI_v, L2, L3, nI_add, eq_true k2, eq_true k3, kl2, kl3, r3, r4, m185]
        · intro J R G H aC aM
          try dsimp only
          rw [aC.2.2.1, aM.2]
          refine ⟨_, _, _, _, _, _, _, op_load hR hk hs hf hun ?_ ?_ ?_ ?_ ?_ ?_⟩
          · rw [wI_eq, if_neg (fun z => by omega), wI_eq, if_neg (fun z => by omega), wI_eq, if_neg (fun z => by omega), wI_s]
          · rw [wI_eq, if_neg (fun z => by omega), wI_eq, if_neg (fun z => by omega), wI_s]
          · rw [wI_eq, if_neg (fun z => by omega), wI_eq, if_neg (fun z => by omega), show 182 + 4 * k = 180 + 4 * k + 2 by omega, wI_s]
          · rw [wI_eq, if_neg (fun z => by omega), show 183 + 4 * k = 180 + 4 * k + 3 by omega, wI_s]
          · intro o i z1 z2
            rw [wI_eq, if_neg (fun z => by omega), wI_eq, if_neg (fun z => z2 (Or.inr (Or.inr ⟨z.2.1, by rw [z.2.2, ek2]⟩))), wI_eq, if_neg (fun z => z2 (Or.inr (Or.inl z.2))), wI_eq, if_neg (fun z => z2 (Or.inl z.2)), aC.1]
          · intro i z1 z2
            rw [wI_eq, if_neg (fun z => by omega), wI_eq, if_neg (fun z => by omega), wI_eq, if_neg (fun z => by omega), aM.1]
      · refine rf_of (x := -5) (y := -5) (j := 4) hI (by omega) ?_ ?_
        · rw [s129]; unfold b129
          rw [c49, bI_v, ite_bzif, if_pos hx, p3, c67, bI_v, ite_bzif, if_pos (hgd.mpr hg), if_pos h12, er17, c55, bI_v, if_neg hf, r169_5, bI_v]
        · rw [s226]; unfold b226
          dsimp only
          rw [d224 _ _ rC_1, bI_v, ite_bzif, if_pos hx, d225 _ _ rC_1, bI_v, ite_bzif, if_pos hg, m195, bI_v, L2, nI_add, if_pos i2, show wI (rC I (-5) 4) 1 0 0 0 1 2 (nI (220 + 4 * c + 2)).toNatClampNeg = nI s by rw [cl2, w0_12, rC_1, es3], d205 _ _ rC_1, bI_v, if_neg hf, r186_5, bI_v]
    · refine rf_of (x := -4) (y := -4) (j := 3) hI (by omega) ?_ ?_
      · rw [s129]; unfold b129
        rw [c49, bI_v, ite_bzif, if_pos hx, p3, c67, bI_v, ite_bzif, if_neg (fun z => hg (hgd.mp z)), r169_4, bI_v]
      · rw [s226]; unfold b226
        dsimp only
        rw [d224 _ _ rC_1, bI_v, ite_bzif, if_pos hx, d225 _ _ rC_1, bI_v, ite_bzif, if_neg hg, r186_4, bI_v]
  · refine rf_of (x := -2) (y := -2) (j := 1) hI (by omega) ?_ ?_
    · rw [s129]; unfold b129
      rw [c49, bI_v, ite_bzif, if_neg hx, r169_2, bI_v]
    · rw [s226]; unfold b226
      dsimp only
      rw [d224 _ _ rC_1, bI_v, ite_bzif, if_neg hx, r186_2, bI_v]
