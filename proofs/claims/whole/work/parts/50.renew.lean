/-! RENEW, APPROVE -/
theorem st139 : StpI InvC 139 255 3 := by
  intro as I F hl hI
  obtain ⟨x, y, w, rfl⟩ := len3 hl
  simp only [List.map_cons, List.map_nil]
  obtain ⟨nl, nc, nk, nx, np, na, ns, hR⟩ := hI.1
  have hK := hR.2.2.2.2.1
  have hS := hR.2.2.2.2.2.2.2
  obtain ⟨q1, q2, q3, -, -, -, q7, -⟩ := hR.2.2.2.2.1
  obtain ⟨ff, hfo⟩ := hR.1
  have c103 := m103 (N := zN) (d := 7) (I := I) (F := F) (b := 2) (by omega) x
  have d202 : ∀ (J : IM) (G : FM), (∀ o k, J 1 o k = I 1 o k) → sem zN 8 202 [vR (some (1, 0)), vI x] (wI J 1 0 0 0) G = some (vI (bz (inb x 4 ∧ ¬ I 2 32 x.toNatClampNeg = -1)), wI J 1 0 0 0, G) := fun J G hJ => by
    rw [m202 (d := 6)]
    refine congrArg (fun v => some (vI v, wI J 1 0 0 0, G)) (bz_congr ?_)
    rw [w0_12, hJ]
    exact open_c hS q3 x
  have n10 : ((1 : Int32) = 0) = False := eq_false (by decide)
  have n30 : ((-3 : Int32) = 0) = False := eq_false (by decide)
  by_cases hx : inb x 4 ∧ ¬ I 2 32 x.toNatClampNeg = -1
  · obtain ⟨hx4, hxo⟩ := hx
    have hx : inb x 4 ∧ ¬ I 2 32 x.toNatClampNeg = -1 := ⟨hx4, hxo⟩
    obtain ⟨s, hs, hs2, rfl, es⟩ := inb_get hx4
    have hxo2 : ¬ I 2 32 s = -1 := by rw [es] at hxo; exact hxo
    obtain ⟨k, hk, ek, e32⟩ : ∃ k, k < nk ∧ I 1 2 (371 + 4 * s) = nI k ∧ I 2 32 s = nI k := by
      rcases (hS.2 s hs).2.2 with ⟨-, y2, k, y3, y4⟩ | ⟨-, y2⟩
      · exact ⟨k, y3, y4, by rw [y2, y4]⟩
      · exact absurd y2 hxo2
    have e33 : I 2 33 s = I 1 2 (372 + 4 * s) := (hS.2 s hs).1
    have e34 : I 2 34 s = I 1 2 (373 + 4 * s) := (hS.2 s hs).2.1
    have e12 : I 2 12 k = I 1 2 (181 + 4 * k) := (q7 k hk).2.1
    obtain ⟨p, hp, hp0⟩ : ∃ p : Int32, (p = 0 ∨ p = -4 ∨ p = -5) ∧ p = 0 := ⟨0, Or.inl rfl, rfl⟩
    have hcls : ∃ KC : IM → FM → Option Rs, sem zN 9 139 [vR (some (0, 0)), vI (nI s), vI y, vI w] I F = bV (sem zN 8 28 [vR (some (0, 12)), vR (some (2, 0)), vI 22] I F) KC ∧ ∀ J G, agC I J F G → KC J G = if (hrd (F 2 1 5) p w (due 4 y (I 2 33 s) (I 2 12 k))) = 0 then some (vI 0, wI (wI (wI (wI J 2 33 s (mixF (I 2 33 s) w)) 2 34 s (mixF (I 2 34 s) (mixF (mixF (mixF 17 4) y) (hrd (F 2 1 5) p w (due 4 y (I 2 33 s) (I 2 12 k)))))) 2 12 k y) 0 0 6 0, (wF G 2 1 5 (stn (hrd (F 2 1 5) p w (due 4 y (I 2 33 s) (I 2 12 k))) (F 2 1 5)))) else bI (sem zN 8 169 [vR (some (0, 0)), vI (hrd (F 2 1 5) p w (due 4 y (I 2 33 s) (I 2 12 k)))] (wI (wI J 2 33 s (mixF (I 2 33 s) w)) 2 34 s (mixF (I 2 34 s) (mixF (mixF (mixF 17 4) y) (hrd (F 2 1 5) p w (due 4 y (I 2 33 s) (I 2 12 k)))))) (wF G 2 1 5 (stn (hrd (F 2 1 5) p w (due 4 y (I 2 33 s) (I 2 12 k))) (F 2 1 5)))) (fun r5 I5 F5 => some (vI r5, I5, F5)) := by
      apply Exists.intro
      apply And.intro
      · rw [s139]; unfold b139
        rw [c103, bI_v, ite_bzif, if_pos hx]
        try rfl
      · intro J G aC
        have m1 := m180 (N := zN) (d := 4) (I := J) (F := G) (s := s) (k := k) (nk := nk) 4 y p w hs hk (by rw [aC.1, e32]) (by rw [aC.1, q1]) q3 (p_6 hp) (by rw [aC.2.2.1, aC.1, aC.1]; exact (stn_ok hp hfo).2)
        have m2 := m109 (N := zN) (d := 5) (I := J) (F := wF G 2 1 5 (stn (hrd (F 2 1 5) p w (due 4 y (I 2 33 s) (I 2 12 k))) (F 2 1 5))) (b := 2) (s := s) (by omega) hs (by rw [aC.1]; exact hxo2) 4 y w (hrd (F 2 1 5) p w (due 4 y (I 2 33 s) (I 2 12 k)))
        simp only [aC.1, aC.2.2.1] at m1 m2
        have m3 := m52 (N := zN) (d := 6) (I := (wI (wI J 2 33 s (mixF (I 2 33 s) w)) 2 34 s (mixF (I 2 34 s) (mixF (mixF (mixF 17 4) y) (hrd (F 2 1 5) p w (due 4 y (I 2 33 s) (I 2 12 k))))))) (F := (wF G 2 1 5 (stn (hrd (F 2 1 5) p w (due 4 y (I 2 33 s) (I 2 12 k))) (F 2 1 5)))) (b := 2) (nk := nk) (k := k) (by omega) y hk (by rw [sayB, if_neg (fun z => by omega), if_neg (fun z => by omega), aC.1, q1]) q3
        have m4 : (wI (wI J 2 33 s (mixF (I 2 33 s) w)) 2 34 s (mixF (I 2 34 s) (mixF (mixF (mixF 17 4) y) (hrd (F 2 1 5) p w (due 4 y (I 2 33 s) (I 2 12 k)))))) 2 32 (nI s).toNatClampNeg = nI k := by rw [es, sayB, if_neg (fun z => by omega), if_neg (fun z => by omega), aC.1, e32]
        subst hp0
        try dsimp only
        rw [m8 (by omega), bI_v, aC.2.2.1]
        by_cases hf : (Op.cmpValue (FP.fcmp (F 2 1 5) (1077936128 : UInt32)) CmpOp.l) < 0
        · simp only [hf, ↓reduceIte] at m1 ⊢
          rw [m1, bI_v, m2, bV_v]
          generalize hrd (F 2 1 5) 0 w (due 4 y (I 2 33 s) (I 2 12 k)) = r at *
          by_cases h0 : r = 0
          · rw [if_pos h0, if_pos h0, if_pos hx4, m4, m3, bV_v, m168, bI_v]
          · rw [if_neg h0, if_neg h0]
        · simp only [hf, n10, ↓reduceIte] at m1 ⊢
          rw [m1, bI_v, m2, bV_v]
          generalize hrd (F 2 1 5) 0 w (due 4 y (I 2 33 s) (I 2 12 k)) = r at *
          by_cases h0 : r = 0
          · rw [if_pos h0, if_pos h0, if_pos hx4, m4, m3, bV_v, m168, bI_v]
          · rw [if_neg h0, if_neg h0]
    have hmod : ∃ KM : IM → FM → Option Rs, (∀ J G, (∀ o k, J 1 o k = I 1 o k) → (∀ o k, G 1 o k = F 1 o k) → sem zN 9 255 [vR (some (1, 0)), vI (nI s), vI y, vI w] J G = bV (sem zN (5 + 2) 190 [vR (some (1, 0)), vI 22] (wI J 1 0 0 0) G) KM) ∧ ∀ R H, agM I R F H → KM R H = if (hrd (F 2 1 5) p w (due 4 y (I 2 33 s) (I 2 12 k))) = 0 then some (vI 0, wI (wI (wI (wI R 1 2 (372 + 4 * s) (mixF (I 2 33 s) w)) 1 2 (373 + 4 * s) (mixF (I 2 34 s) (mixF (mixF (mixF 17 4) y) (hrd (F 2 1 5) p w (due 4 y (I 2 33 s) (I 2 12 k)))))) 1 2 (180 + 4 * k + 1) y) 1 0 1 0, (wF H 1 0 4 (stn (hrd (F 2 1 5) p w (due 4 y (I 2 33 s) (I 2 12 k))) (F 2 1 5)))) else bI (sem zN 8 186 [vR (some (1, 0)), vI (hrd (F 2 1 5) p w (due 4 y (I 2 33 s) (I 2 12 k)))] (wI (wI R 1 2 (372 + 4 * s) (mixF (I 2 33 s) w)) 1 2 (373 + 4 * s) (mixF (I 2 34 s) (mixF (mixF (mixF 17 4) y) (hrd (F 2 1 5) p w (due 4 y (I 2 33 s) (I 2 12 k)))))) (wF H 1 0 4 (stn (hrd (F 2 1 5) p w (due 4 y (I 2 33 s) (I 2 12 k))) (F 2 1 5)))) (fun r5 I5 F5 => some (vI r5, I5, F5)) := by
      refine ⟨fun R H => bI (c247 (sem zN 7) (sg (sem zN 7) 1 zc247 zN) (nI s) 4 y p w R H) (t255 (sem zN 8) (nI s) y), ?_, ?_⟩
      · intro J G hJ hG
        subst hp0
        rw [s255]; unfold b255
        dsimp only
        rw [d202 J G hJ, bI_v, ite_bzif, if_pos hx, s247, b247_c, bI_bV]
        rfl
      · intro R H aM
        have l1 := l247 (N := zN) (d := 5) (I := R) (F := H) (s := s) (k := k) (by decide) 4 y p w hs (by omega) (by rw [aM.1, ek]) (by rw [aM.1, aM.1, aM.2, ← e33, ← e12, ← ff]; exact (stn_ok hp hfo).2)
        simp only [aM.1, aM.2] at l1
        rw [← e33, ← e12, ← ff] at l1
        have l2 := m248 (N := zN) (d := 6) (I := wI R 1 2 (372 + 4 * s) (mixF (I 2 33 s) w)) (F := wF H 1 0 4 (stn (hrd (F 2 1 5) p w (due 4 y (I 2 33 s) (I 2 12 k))) (F 2 1 5))) (s := s) 4 y (hrd (F 2 1 5) p w (due 4 y (I 2 33 s) (I 2 12 k))) hs
        rw [show wI R 1 2 (372 + 4 * s) (mixF (I 2 33 s) w) 1 2 (373 + 4 * s) = I 2 34 s by rw [wI_eq, if_neg (fun z => by omega), aM.1, e34]] at l2
        have k1 : inb (nI (180 + 4 * k + 1)) 406 := inb_nI (by omega) (by decide)
        try dsimp only
        rw [l1, bI_v]
        unfold t255
        try dsimp only
        rw [l2, bI_v]
        rcases hrd_r (F 2 1 5) p w (due 4 y (I 2 33 s) (I 2 12 k)) hp with ⟨h0, -⟩ | hr
        · rw [h0, if_pos rfl, if_pos (by decide), m249 hs, bI_v, sayA, if_neg (fun z => by omega), if_neg (fun z => by omega), aM.1, ek, m194, bI_v, nI_1, if_pos k1, m185, bI_v, nI_clamp (by omega)]
        · obtain ⟨g1, g2⟩ := rng_n hr
          rw [if_neg g1, if_neg g2]
    obtain ⟨KC, kc1, kc2⟩ := hcls
    obtain ⟨KM, km1, km2⟩ := hmod
    have hfk := (stn_ok (w := w) (dw := due 4 y (I 2 33 s) (I 2 12 k)) hp hfo).1
    rcases hrd_r (F 2 1 5) p w (due 4 y (I 2 33 s) (I 2 12 k)) hp with ⟨h0, hp0⟩ | hr
    · generalize hrd (F 2 1 5) p w (due 4 y (I 2 33 s) (I 2 12 k)) = r at *
      refine act_of (x := 0) (KC := KC) (KM := KM) (e := 5) 22 (fun J => wI (wI (wI (wI J 2 33 s (mixF (I 2 33 s) w)) 2 34 s (mixF (I 2 34 s) (mixF (mixF (mixF 17 4) y) r))) 2 12 k y) 0 0 6 0) (fun R => wI (wI (wI (wI R 1 2 (372 + 4 * s) (mixF (I 2 33 s) w)) 1 2 (373 + 4 * s) (mixF (I 2 34 s) (mixF (mixF (mixF 17 4) y) r))) 1 2 (180 + 4 * k + 1) y) 1 0 1 0) (fun J => wI J 1 0 0 0) (fun G => wF G 2 1 5 (stn r (F 2 1 5))) (fun H => wF H 1 0 4 (stn r (F 2 1 5))) hI kc1 km1 ex0 ?_ ?_ ?_
      · intro J G aC
        refine ⟨?_, okC_of (pC_wF (pC_w (pC_w (pC_w pC_rfl))))⟩
        rw [kc2 J G aC, if_pos h0]
      · intro R H aM
        refine ⟨?_, okM_of (pM_wF (pM_w (pM_w (pM_w pM_rfl))))⟩
        rw [km2 R H aM, if_pos h0]
      · intro J R G H aC aM
        try dsimp only
        rw [wF_s, wF_s]
        have hs1 := say_R hR hs (mixF (I 2 33 s) w) (mixF (I 2 34 s) (mixF (mixF (mixF 17 4) y) r)) hfk
        refine ⟨_, _, _, _, _, _, _, op_sec hs1 (x := y) hk ?_ ?_ ?_ ?_⟩
        · rw [wI_eq, if_neg (fun z => by omega), wI_s]
        · rw [wI_eq, if_neg (fun z => by omega), show 181 + 4 * k = 180 + 4 * k + 1 by omega, wI_s]
        · intro o i z1 z2
          rw [wI_eq, if_neg (fun z => by omega), wI_eq, if_neg (fun z => by omega), sayB, aC.1]
        · intro i z1 z2
          rw [wI_eq, if_neg (fun z => by omega), wI_eq, if_neg (fun z => by omega), sayA, aM.1]
    · generalize hrd (F 2 1 5) p w (due 4 y (I 2 33 s) (I 2 12 k)) = r at *
      obtain ⟨g1, g2⟩ := rng_n hr
      refine actr_of (x := r) (y := r) (j := jr r) (KC := KC) (KM := KM) (e := 5) 22 (fun J => (wI (wI J 2 33 s (mixF (I 2 33 s) w)) 2 34 s (mixF (I 2 34 s) (mixF (mixF (mixF 17 4) y) r)))) (fun R => (wI (wI R 1 2 (372 + 4 * s) (mixF (I 2 33 s) w)) 1 2 (373 + 4 * s) (mixF (I 2 34 s) (mixF (mixF (mixF 17 4) y) r)))) (fun J => wI J 1 0 0 0) (fun G => wF G 2 1 5 (stn r (F 2 1 5))) (fun H => wF H 1 0 4 (stn r (F 2 1 5))) hI (jr_lt r) kc1 km1 ex0 ?_ ?_ ?_
      · intro J G aC
        refine ⟨?_, pC_wF (pC_w (pC_w pC_rfl)), ?_⟩
        · rw [kc2 J G aC, if_neg g1, r169 hr, bI_v]
        · rw [wI_eq, if_neg (fun z => by omega), wI_eq, if_neg (fun z => by omega)]
      · intro R H aM
        refine ⟨?_, pM_wF (pM_w (pM_w pM_rfl)), ?_⟩
        · rw [km2 R H aM, if_neg g1, r186 hr, bI_v]
        · rw [wI_eq, if_neg (fun z => by omega), wI_eq, if_neg (fun z => by omega)]
      · intro J R G H aC aM
        try dsimp only
        rw [wF_s, wF_s]
        refine ⟨_, _, _, _, _, _, _, op_say hR (u := mixF (I 2 33 s) w) (v := mixF (I 2 34 s) (mixF (mixF (mixF 17 4) y) r)) hs hfk ?_ ?_ ?_ ?_ ?_ ?_⟩
        · rw [wI_eq, if_neg (fun z => by omega), wI_s]
        · rw [wI_s]
        · rw [wI_eq, if_neg (fun z => by omega), wI_s]
        · rw [wI_s]
        · intro o i z1 z2
          rw [wI_eq, if_neg (fun z => by omega), wI_eq, if_neg (fun z => by omega), aC.1]
        · intro i z1 z2
          rw [wI_eq, if_neg (fun z => by omega), wI_eq, if_neg (fun z => by omega), aM.1]
  · refine rf_of (x := -2) (y := -2) (j := 1) hI (by omega) ?_ ?_
    · rw [s139]; unfold b139
      rw [c103, bI_v, ite_bzif, if_neg hx, r169_2, bI_v]
    · rw [s255]; unfold b255
      dsimp only
      rw [d202 _ _ rC_1, bI_v, ite_bzif, if_neg hx, r186_2, bI_v]
section AP
variable {N d n : Nat} {I : IM} {F : FM}
theorem m251 (hN : 20 ≤ N) (x y : Int32) (hs : I 1 2 18 = nI n) (hn : n ≤ 8) : sem N (d + 1) 251 [vR (some (1, 0)), vI x, vI y] I F = some (vI (bz (∃ i, i < n ∧ I 1 2 (390 + 2 * i) = x ∧ I 1 2 (391 + 2 * i) = y)), I, F) := by
  rw [s251]; unfold b251
  have h := lp (S := fun m c => sg (sem N d) 6 zc251 m 5 [vR (some (1, 0)), vI x, vI y, vI (bz (∃ i, i < c ∧ I 1 2 (390 + 2 * i) = x ∧ I 1 2 (391 + 2 * i) = y)), vI (nI c)] I F) (T := some (vI (bz (∃ i, i < n ∧ I 1 2 (390 + 2 * i) = x ∧ I 1 2 (391 + 2 * i) = y)), I, F)) (m := n) ?_ ?_ n 0 N (by omega) (by omega)
  · try dsimp only at h
    rw [bz_f (fun ⟨i, z, _⟩ => Nat.not_lt_zero i z)] at h
    exact h
  · intro m c hc
    try dsimp only
    rw [u251_5]; unfold b251_5
    have e0 : (390 : Int32) + 2 * nI c = nI (390 + 2 * c) := by rw [L390, L2, nI_mul, nI_add]
    have i0 : inb (nI (390 + 2 * c)) 406 := inb_nI (by omega) (by decide)
    have i1 : inb (nI (390 + 2 * c + 1)) 406 := inb_nI (by omega) (by decide)
    have c0 : (nI (390 + 2 * c)).toNatClampNeg = 390 + 2 * c := nI_clamp (by omega)
    have c1 : (nI (390 + 2 * c + 1)).toNatClampNeg = 391 + 2 * c := by rw [nI_clamp (by omega)]; omega
    rw [hs, if_neg (nI_ge hc (by omega))]
    by_cases hE : ∃ i, i < c ∧ I 1 2 (390 + 2 * i) = x ∧ I 1 2 (391 + 2 * i) = y
    · rw [bz_t hE, if_neg (by decide), nI_1, bz_t (by obtain ⟨i, z1, z2⟩ := hE; exact ⟨i, by omega, z2⟩)]
    · rw [bz_f hE, if_pos rfl]
      simp only [e0, eq_true i0, ↓reduceIte, c0, nI_1, eq_true i1, c1]
      by_cases h1 : I 1 2 (390 + 2 * c) = x
      · rw [if_pos h1]
        by_cases h2 : I 1 2 (391 + 2 * c) = y
        · rw [if_pos h2, bz_t ⟨c, by omega, h1, h2⟩]
        · rw [if_neg h2, bz_f (fun ⟨i, z1, z2, z3⟩ => by
            by_cases e : i = c
            · subst e; exact h2 z3
            · exact hE ⟨i, by omega, z2, z3⟩)]
      · rw [if_neg h1, bz_f (fun ⟨i, z1, z2, z3⟩ => by
          by_cases e : i = c
          · subst e; exact h1 z2
          · exact hE ⟨i, by omega, z2, z3⟩)]
  · intro m
    try dsimp only
    rw [u251_5]; unfold b251_5
    rw [hs, if_pos (nI_le (Nat.le_refl _) (by omega)), if_pos bz_01]
theorem m252 (hN : 20 ≤ N) (x : Int32) (hs : I 1 2 18 = nI n) (hn : n ≤ 8) : sem N (d + 1) 252 [vR (some (1, 0)), vI x] I F = some (vI (nI (cnt (fun i => I 1 2 (390 + 2 * i) = x) n)), I, F) := by
  rw [s252]; unfold b252
  refine lp (S := fun m c => sg (sem N d) 1 zc252 m 4 [vR (some (1, 0)), vI x, vI (nI (cnt (fun i => I 1 2 (390 + 2 * i) = x) c)), vI (nI c)] I F) (m := n) ?_ ?_ n 0 N (by omega) (by omega)
  · intro m c hc
    try dsimp only
    rw [u252_4]; unfold b252_4
    have e0 : (390 : Int32) + 2 * nI c = nI (390 + 2 * c) := by rw [L390, L2, nI_mul, nI_add]
    have i0 : inb (nI (390 + 2 * c)) 406 := inb_nI (by omega) (by decide)
    have c0 : (nI (390 + 2 * c)).toNatClampNeg = 390 + 2 * c := nI_clamp (by omega)
    rw [hs, if_neg (nI_ge hc (by omega))]
    simp only [e0, eq_true i0, ↓reduceIte, c0, nI_1, rz0]
    by_cases h1 : I 1 2 (390 + 2 * c) = x
    · rw [if_pos h1, show cnt (fun i => I 1 2 (390 + 2 * i) = x) (c + 1) = cnt (fun i => I 1 2 (390 + 2 * i) = x) c + 1 from if_pos h1]
    · rw [if_neg h1, show cnt (fun i => I 1 2 (390 + 2 * i) = x) (c + 1) = cnt (fun i => I 1 2 (390 + 2 * i) = x) c from if_neg h1]
  · intro m
    try dsimp only
    rw [u252_4]; unfold b252_4
    rw [hs, if_pos (nI_le (Nat.le_refl _) (by omega))]
end AP
theorem st137 : StpI InvC 137 253 3 := by
  intro as I F hl hI
  obtain ⟨x, y, w, rfl⟩ := len3 hl
  simp only [List.map_cons, List.map_nil]
  obtain ⟨nl, nc, nk, nx, np, na, ns, hR⟩ := hI.1
  have hK := hR.2.2.2.2.1
  have hS := hR.2.2.2.2.2.2.2
  obtain ⟨q1, q2, q3, -, -, -, q7, -⟩ := hR.2.2.2.2.1
  obtain ⟨ff, hfo⟩ := hR.1
  have c103 := m103 (N := zN) (d := 7) (I := I) (F := F) (b := 2) (by omega) x
  have d202 : ∀ (J : IM) (G : FM), (∀ o k, J 1 o k = I 1 o k) → sem zN 8 202 [vR (some (1, 0)), vI x] (wI J 1 0 0 0) G = some (vI (bz (inb x 4 ∧ ¬ I 2 32 x.toNatClampNeg = -1)), wI J 1 0 0 0, G) := fun J G hJ => by
    rw [m202 (d := 6)]
    refine congrArg (fun v => some (vI v, wI J 1 0 0 0, G)) (bz_congr ?_)
    rw [w0_12, hJ]
    exact open_c hS q3 x
  have n10 : ((1 : Int32) = 0) = False := eq_false (by decide)
  have n30 : ((-3 : Int32) = 0) = False := eq_false (by decide)
  obtain ⟨v1, v2, v3, v4, v5, v6, v7, v8⟩ := hR.2.2.2.2.2.1
  have c81 := m81 (N := zN) (d := 7) (I := I) (F := F) (b := 2) (n := np) (by omega) y v1 v3
  have d200 := fun (J : IM) (G : FM) (hJ : ∀ o k, J 1 o k = I 1 o k) => m200 (N := zN) (d := 6) (I := wI J 1 0 0 0) (F := G) (n := np) y (by rw [w0_12, hJ, v2]) (by omega)
  by_cases hx : inb x 4 ∧ ¬ I 2 32 x.toNatClampNeg = -1
  · by_cases hy : inb y np
    · obtain ⟨hx4, hxo⟩ := hx
      have hx : inb x 4 ∧ ¬ I 2 32 x.toNatClampNeg = -1 := ⟨hx4, hxo⟩
      obtain ⟨s, hs, hs2, rfl, es⟩ := inb_get hx4
      have hxo2 : ¬ I 2 32 s = -1 := by rw [es] at hxo; exact hxo
      obtain ⟨k, hk, ek, e32⟩ : ∃ k, k < nk ∧ I 1 2 (371 + 4 * s) = nI k ∧ I 2 32 s = nI k := by
        rcases (hS.2 s hs).2.2 with ⟨-, y2, k, y3, y4⟩ | ⟨-, y2⟩
        · exact ⟨k, y3, y4, by rw [y2, y4]⟩
        · exact absurd y2 hxo2
      have e33 : I 2 33 s = I 1 2 (372 + 4 * s) := (hS.2 s hs).1
      have e34 : I 2 34 s = I 1 2 (373 + 4 * s) := (hS.2 s hs).2.1
      have e12 : I 2 12 k = I 1 2 (181 + 4 * k) := (q7 k hk).2.1
      obtain ⟨q, hq, hq2, rfl, ecq⟩ := inb_get hy
      have n40 : ((-4 : Int32) = 0) = False := eq_false (by decide)
      have e8 : (nI na < (8 : Int32)) ↔ na < 8 := by rw [L8, i_lt, i_nI (by omega), i_nI (by omega)]; omega
      have e8' : (nI na = (8 : Int32)) ↔ ¬ na < 8 := by rw [L8, nI_eq (by omega) (by omega)]; omega
      have eA : (∃ i, i < na ∧ I 1 2 (390 + 2 * i) = nI k ∧ I 1 2 (391 + 2 * i) = nI q) ↔ (∃ i, i < na ∧ I 2 25 i = nI k ∧ I 2 26 i = nI q) := by
        constructor
        · rintro ⟨i, z1, z2, z3⟩
          obtain ⟨w1, w2, -, -⟩ := v8 i z1
          exact ⟨i, z1, by rw [w1, z2], by rw [w2, z3]⟩
        · rintro ⟨i, z1, z2, z3⟩
          obtain ⟨w1, w2, -, -⟩ := v8 i z1
          exact ⟨i, z1, by rw [← w1, z2], by rw [← w2, z3]⟩
      obtain ⟨p, hp, hp9⟩ : ∃ p : Int32, (p = 0 ∨ p = -4 ∨ p = -5) ∧ ((p = -4 ∧ ∃ i, i < na ∧ I 2 25 i = nI k ∧ I 2 26 i = nI q) ∨ (p = 0 ∧ na < 8 ∧ ¬ ∃ i, i < na ∧ I 2 25 i = nI k ∧ I 2 26 i = nI q) ∨ (p = -5 ∧ ¬ na < 8 ∧ ¬ ∃ i, i < na ∧ I 2 25 i = nI k ∧ I 2 26 i = nI q)) := by
        by_cases h4 : ∃ i, i < na ∧ I 2 25 i = nI k ∧ I 2 26 i = nI q
        · exact ⟨-4, Or.inr (Or.inl rfl), Or.inl ⟨rfl, h4⟩⟩
        · by_cases h9 : na < 8
          · exact ⟨0, Or.inl rfl, Or.inr (Or.inl ⟨rfl, h9, h4⟩)⟩
          · exact ⟨-5, Or.inr (Or.inr rfl), Or.inr (Or.inr ⟨rfl, h9, h4⟩)⟩
      have hcls : ∃ KC : IM → FM → Option Rs, sem zN 9 137 [vR (some (0, 0)), vI (nI s), vI (nI q), vI w] I F = bV (sem zN 8 28 [vR (some (0, 12)), vR (some (2, 0)), vI 20] I F) KC ∧ ∀ J G, agC I J F G → KC J G = if (hrd (F 2 1 5) p w (due 2 (nI q) (I 2 33 s) (I 2 12 k))) = 0 then some (vI (nI (cnt (fun i => (if i = na then nI k else I 2 25 i) = nI k) (na + 1))), wI (wI (wI (wI (wI (wI J 2 33 s (mixF (I 2 33 s) w)) 2 34 s (mixF (I 2 34 s) (mixF (mixF (mixF 17 2) (nI q)) (hrd (F 2 1 5) p w (due 2 (nI q) (I 2 33 s) (I 2 12 k)))))) 2 25 na (nI k)) 2 26 na (nI q)) 2 19 8 (nI (na + 1))) 0 0 6 0, (wF G 2 1 5 (stn (hrd (F 2 1 5) p w (due 2 (nI q) (I 2 33 s) (I 2 12 k))) (F 2 1 5)))) else bI (sem zN 8 169 [vR (some (0, 0)), vI (hrd (F 2 1 5) p w (due 2 (nI q) (I 2 33 s) (I 2 12 k)))] (wI (wI J 2 33 s (mixF (I 2 33 s) w)) 2 34 s (mixF (I 2 34 s) (mixF (mixF (mixF 17 2) (nI q)) (hrd (F 2 1 5) p w (due 2 (nI q) (I 2 33 s) (I 2 12 k)))))) (wF G 2 1 5 (stn (hrd (F 2 1 5) p w (due 2 (nI q) (I 2 33 s) (I 2 12 k))) (F 2 1 5)))) (fun r5 I5 F5 => some (vI r5, I5, F5)) := by
        apply Exists.intro
        apply And.intro
        · rw [s137]; unfold b137
          rw [c103, bI_v, ite_bzif, if_pos hx, c81, bI_v, ite_bzif, if_pos hy]
          try rfl
        · intro J G aC
          have m1 := m180 (N := zN) (d := 4) (I := J) (F := G) (s := s) (k := k) (nk := nk) 2 (nI q) p w hs hk (by rw [aC.1, e32]) (by rw [aC.1, q1]) q3 (p_6 hp) (by rw [aC.2.2.1, aC.1, aC.1]; exact (stn_ok hp hfo).2)
          have m2 := m109 (N := zN) (d := 5) (I := J) (F := wF G 2 1 5 (stn (hrd (F 2 1 5) p w (due 2 (nI q) (I 2 33 s) (I 2 12 k))) (F 2 1 5))) (b := 2) (s := s) (by omega) hs (by rw [aC.1]; exact hxo2) 2 (nI q) w (hrd (F 2 1 5) p w (due 2 (nI q) (I 2 33 s) (I 2 12 k)))
          simp only [aC.1, aC.2.2.1] at m1 m2
          have c87 := m87 (N := zN) (d := 7) (I := J) (F := G) (b := 2) (n := na) (by omega) (by decide) (nI k) (nI q) (by rw [aC.1, v5]) v7
          simp only [aC.1] at c87
          refine Eq.trans (b := sg (sem zN 8) 1 zc137 (19999 + 1) 132 [vR (some (0, 0)), vI (nI s), vI (nI q), vI w, vI (nI k), vI (if (Op.cmpValue (FP.fcmp (F 2 1 5) (1077936128 : UInt32)) CmpOp.l) < 0 then p else -3)] J G) ?_ ?_
          · try dsimp only
            rw [if_pos hx4, m8 (by omega), bI_v, aC.2.2.1]
            simp only [es, aC.1, e32]
            by_cases hf : (Op.cmpValue (FP.fcmp (F 2 1 5) (1077936128 : UInt32)) CmpOp.l) < 0
            · simp only [hf, ↓reduceIte, c87, bI_v, ite_bzif, v5, aC.1]
              rcases hp9 with ⟨rfl, h4⟩ | ⟨rfl, h9, h4⟩ | ⟨rfl, h9, h4⟩
              · simp only [eq_true h4, n40, ↓reduceIte]
                rfl
              · simp only [eq_false h4, eq_true (e8.mpr h9), ↓reduceIte]
                rfl
              · simp only [eq_false h4, eq_false (fun z => h9 (e8.mp z)), ↓reduceIte]
                rfl
            · simp only [hf, n10, n30, ↓reduceIte]
              rfl
          · rw [u137_132]; unfold b137_132
            rw [m1, bI_v, m2, bV_v]
            rcases hrd_r (F 2 1 5) p w (due 2 (nI q) (I 2 33 s) (I 2 12 k)) hp with ⟨h0, hp0⟩ | hr
            · have hn8 : na < 8 := by
                rcases hp9 with ⟨h, -⟩ | ⟨-, h, -⟩ | ⟨h, -⟩
                · rw [hp0] at h; exact absurd h (by decide)
                · exact h
                · rw [hp0] at h; exact absurd h (by decide)
              rw [h0, if_pos rfl, if_pos rfl]
              rw [m89 (n := na) (by omega) (nI k) (nI q) (by rw [sayB, if_neg (fun z => by omega), if_neg (fun z => by omega), aC.1, v5]) hn8, bV_v, m88 (n := na + 1) (by omega) (by decide) (nI k) (wI_s _ _ _ _ _) (by omega), bI_v, m168, bI_v]
              congr 2
              refine congrArg (fun v => vI (nI v)) (cnt_congr (fun i hi => ?_))
              rw [wI_eq, if_neg (fun z => by omega), wI_eq, if_neg (fun z => by omega), wI_eq]
              by_cases e : i = na
              · rw [if_pos ⟨rfl, rfl, e⟩, if_pos e]
              · rw [if_neg (fun z => e z.2.2), if_neg e, sayB, if_neg (fun z => by omega), if_neg (fun z => by omega), aC.1]
            · obtain ⟨g1, g2⟩ := rng_n hr
              rw [if_neg g1, if_neg g1]
      have hmod : ∃ KM : IM → FM → Option Rs, (∀ J G, (∀ o k, J 1 o k = I 1 o k) → (∀ o k, G 1 o k = F 1 o k) → sem zN 9 253 [vR (some (1, 0)), vI (nI s), vI (nI q), vI w] J G = bV (sem zN (5 + 2) 190 [vR (some (1, 0)), vI 20] (wI J 1 0 0 0) G) KM) ∧ ∀ R H, agM I R F H → KM R H = if (hrd (F 2 1 5) p w (due 2 (nI q) (I 2 33 s) (I 2 12 k))) = 0 then some (vI (nI (cnt (fun i => (if i = na then nI k else I 2 25 i) = nI k) (na + 1))), wI (wI (wI (wI (wI (wI R 1 2 (372 + 4 * s) (mixF (I 2 33 s) w)) 1 2 (373 + 4 * s) (mixF (I 2 34 s) (mixF (mixF (mixF 17 2) (nI q)) (hrd (F 2 1 5) p w (due 2 (nI q) (I 2 33 s) (I 2 12 k)))))) 1 2 (390 + 2 * na) (nI k)) 1 2 (390 + 2 * na + 1) (nI q)) 1 2 18 (nI (na + 1))) 1 0 1 0, (wF H 1 0 4 (stn (hrd (F 2 1 5) p w (due 2 (nI q) (I 2 33 s) (I 2 12 k))) (F 2 1 5)))) else bI (sem zN 8 186 [vR (some (1, 0)), vI (hrd (F 2 1 5) p w (due 2 (nI q) (I 2 33 s) (I 2 12 k)))] (wI (wI R 1 2 (372 + 4 * s) (mixF (I 2 33 s) w)) 1 2 (373 + 4 * s) (mixF (I 2 34 s) (mixF (mixF (mixF 17 2) (nI q)) (hrd (F 2 1 5) p w (due 2 (nI q) (I 2 33 s) (I 2 12 k)))))) (wF H 1 0 4 (stn (hrd (F 2 1 5) p w (due 2 (nI q) (I 2 33 s) (I 2 12 k))) (F 2 1 5)))) (fun r5 I5 F5 => some (vI r5, I5, F5)) := by
        refine ⟨fun R H => bI (c247 (sem zN 7) (sg (sem zN 7) 1 zc247 zN) (nI s) 2 (nI q) p w R H) (t253 (sem zN 8) (nI s) (nI q) (nI k)), ?_, ?_⟩
        · intro J G hJ hG
          have a18 : wI J 1 0 0 0 1 2 18 = nI na := by rw [w0_12, hJ, v6]
          have d251 := m251 (N := zN) (d := 7) (I := wI J 1 0 0 0) (F := G) (n := na) (by decide) (nI k) (nI q) a18 v7
          simp only [w0_12, hJ] at d251
          rw [s253]; unfold b253
          dsimp only
          rw [d202 J G hJ, bI_v, ite_bzif, if_pos hx, d200 J G hJ, bI_v, ite_bzif, if_pos hy, m249 hs, bI_v, w0_12, hJ, ek, d251, bI_v, ite_bzif]
          rcases hp9 with ⟨rfl, h4⟩ | ⟨rfl, h9, h4⟩ | ⟨rfl, h9, h4⟩
          · rw [if_pos (eA.mpr h4), s247, b247_c, bI_bV]
            rfl
          · rw [if_neg (fun z => h4 (eA.mp z)), a18, if_neg (fun z => e8'.mp z h9), s247, b247_c, bI_bV]
            rfl
          · rw [if_neg (fun z => h4 (eA.mp z)), a18, if_pos (e8'.mpr h9), s247, b247_c, bI_bV]
            rfl
        · intro R H aM
          have l1 := l247 (N := zN) (d := 5) (I := R) (F := H) (s := s) (k := k) (by decide) 2 (nI q) p w hs (by omega) (by rw [aM.1, ek]) (by rw [aM.1, aM.1, aM.2, ← e33, ← e12, ← ff]; exact (stn_ok hp hfo).2)
          simp only [aM.1, aM.2] at l1
          rw [← e33, ← e12, ← ff] at l1
          have l2 := m248 (N := zN) (d := 6) (I := wI R 1 2 (372 + 4 * s) (mixF (I 2 33 s) w)) (F := wF H 1 0 4 (stn (hrd (F 2 1 5) p w (due 2 (nI q) (I 2 33 s) (I 2 12 k))) (F 2 1 5))) (s := s) 2 (nI q) (hrd (F 2 1 5) p w (due 2 (nI q) (I 2 33 s) (I 2 12 k))) hs
          rw [show wI R 1 2 (372 + 4 * s) (mixF (I 2 33 s) w) 1 2 (373 + 4 * s) = I 2 34 s by rw [wI_eq, if_neg (fun z => by omega), aM.1, e34]] at l2
          try dsimp only
          rw [l1, bI_v]
          unfold t253
          try dsimp only
          rw [l2, bI_v]
          rcases hrd_r (F 2 1 5) p w (due 2 (nI q) (I 2 33 s) (I 2 12 k)) hp with ⟨h0, hp0⟩ | hr
          · have hn8 : na < 8 := by
              rcases hp9 with ⟨h, -⟩ | ⟨-, h, -⟩ | ⟨h, -⟩
              · rw [hp0] at h; exact absurd h (by decide)
              · exact h
              · rw [hp0] at h; exact absurd h (by decide)
            rw [h0, if_pos rfl, if_pos (by decide)]
            rw [m213c (n := na) hn8 (by rw [sayA, if_neg (fun z => by omega), if_neg (fun z => by omega), aM.1, v6]), bI_v, m252 (n := na + 1) (by decide) (nI k) (wI_s _ _ _ _ _) (by omega), bI_v, m185, bI_v]
            congr 2
            refine congrArg (fun v => vI (nI v)) (cnt_congr (fun i hi => ?_))
            by_cases e : i = na
            · subst e
              rw [wI_eq, if_neg (fun z => by omega), wI_eq, if_neg (fun z => by omega), wI_s, if_pos rfl]
            · rw [wI_eq, if_neg (fun z => by omega), wI_eq, if_neg (fun z => by omega), wI_eq, if_neg (fun z => by omega), if_neg e, sayA, if_neg (fun z => by omega), if_neg (fun z => by omega), aM.1, (v8 i (by omega)).1]
          · obtain ⟨g1, g2⟩ := rng_n hr
            rw [if_neg g1, if_neg g2]
      obtain ⟨KC, kc1, kc2⟩ := hcls
      obtain ⟨KM, km1, km2⟩ := hmod
      have hfk := (stn_ok (w := w) (dw := due 2 (nI q) (I 2 33 s) (I 2 12 k)) hp hfo).1
      rcases hrd_r (F 2 1 5) p w (due 2 (nI q) (I 2 33 s) (I 2 12 k)) hp with ⟨h0, hp0⟩ | hr
      · generalize hrd (F 2 1 5) p w (due 2 (nI q) (I 2 33 s) (I 2 12 k)) = r at *
        have hn8 : na < 8 := by
          rcases hp9 with ⟨h, -⟩ | ⟨-, h, -⟩ | ⟨h, -⟩
          · rw [hp0] at h; exact absurd h (by decide)
          · exact h
          · rw [hp0] at h; exact absurd h (by decide)
        refine act_of (x := nI (cnt (fun i => (if i = na then nI k else I 2 25 i) = nI k) (na + 1))) (KC := KC) (KM := KM) (e := 5) 20 (fun J => wI (wI (wI (wI (wI (wI J 2 33 s (mixF (I 2 33 s) w)) 2 34 s (mixF (I 2 34 s) (mixF (mixF (mixF 17 2) (nI q)) r))) 2 25 na (nI k)) 2 26 na (nI q)) 2 19 8 (nI (na + 1))) 0 0 6 0) (fun R => wI (wI (wI (wI (wI (wI R 1 2 (372 + 4 * s) (mixF (I 2 33 s) w)) 1 2 (373 + 4 * s) (mixF (I 2 34 s) (mixF (mixF (mixF 17 2) (nI q)) r))) 1 2 (390 + 2 * na) (nI k)) 1 2 (390 + 2 * na + 1) (nI q)) 1 2 18 (nI (na + 1))) 1 0 1 0) (fun J => wI J 1 0 0 0) (fun G => wF G 2 1 5 (stn r (F 2 1 5))) (fun H => wF H 1 0 4 (stn r (F 2 1 5))) hI kc1 km1 ex0 ?_ ?_ ?_
        · intro J G aC
          refine ⟨?_, okC_of (pC_wF (pC_w (pC_w (pC_w (pC_w (pC_w pC_rfl))))))⟩
          rw [kc2 J G aC, if_pos h0]
        · intro R H aM
          refine ⟨?_, okM_of (pM_wF (pM_w (pM_w (pM_w (pM_w (pM_w pM_rfl))))))⟩
          rw [km2 R H aM, if_pos h0]
        · intro J R G H aC aM
          try dsimp only
          rw [wF_s, wF_s]
          have hs1 := say_R hR hs (mixF (I 2 33 s) w) (mixF (I 2 34 s) (mixF (mixF (mixF 17 2) (nI q)) r)) hfk
          refine ⟨_, _, _, _, _, _, _, op_appr hs1 hn8 hk hq ?_ ?_ ?_ ?_ ?_ ?_ ?_ ?_⟩
          · rw [wI_eq, if_neg (fun z => by omega), wI_eq, if_neg (fun z => by omega), wI_eq, if_neg (fun z => by omega), wI_s]
          · rw [wI_eq, if_neg (fun z => by omega), wI_eq, if_neg (fun z => by omega), wI_s]
          · rw [wI_eq, if_neg (fun z => by omega), wI_s]
          · rw [wI_eq, if_neg (fun z => by omega), wI_eq, if_neg (fun z => by omega), wI_eq, if_neg (fun z => by omega), wI_s]
          · rw [wI_eq, if_neg (fun z => by omega), wI_eq, if_neg (fun z => by omega), wI_s]
          · rw [wI_eq, if_neg (fun z => by omega), wI_s]
          · intro o i z1 z2
            rw [wI_eq, if_neg (fun z => by omega), wI_eq, if_neg (fun z => by omega), wI_eq, if_neg (fun z => by omega), wI_eq, if_neg (fun z => by omega), sayB, aC.1]
          · intro i z1 z2
            rw [wI_eq, if_neg (fun z => by omega), wI_eq, if_neg (fun z => by omega), wI_eq, if_neg (fun z => by omega), wI_eq, if_neg (fun z => by omega), sayA, aM.1]
      · generalize hrd (F 2 1 5) p w (due 2 (nI q) (I 2 33 s) (I 2 12 k)) = r at *
        obtain ⟨g1, g2⟩ := rng_n hr
        refine actr_of (x := r) (y := r) (j := jr r) (KC := KC) (KM := KM) (e := 5) 20 (fun J => (wI (wI J 2 33 s (mixF (I 2 33 s) w)) 2 34 s (mixF (I 2 34 s) (mixF (mixF (mixF 17 2) (nI q)) r)))) (fun R => (wI (wI R 1 2 (372 + 4 * s) (mixF (I 2 33 s) w)) 1 2 (373 + 4 * s) (mixF (I 2 34 s) (mixF (mixF (mixF 17 2) (nI q)) r)))) (fun J => wI J 1 0 0 0) (fun G => wF G 2 1 5 (stn r (F 2 1 5))) (fun H => wF H 1 0 4 (stn r (F 2 1 5))) hI (jr_lt r) kc1 km1 ex0 ?_ ?_ ?_
        · intro J G aC
          refine ⟨?_, pC_wF (pC_w (pC_w pC_rfl)), ?_⟩
          · rw [kc2 J G aC, if_neg g1, r169 hr, bI_v]
          · rw [wI_eq, if_neg (fun z => by omega), wI_eq, if_neg (fun z => by omega)]
        · intro R H aM
          refine ⟨?_, pM_wF (pM_w (pM_w pM_rfl)), ?_⟩
          · rw [km2 R H aM, if_neg g1, r186 hr, bI_v]
          · rw [wI_eq, if_neg (fun z => by omega), wI_eq, if_neg (fun z => by omega)]
        · intro J R G H aC aM
          try dsimp only
          rw [wF_s, wF_s]
          refine ⟨_, _, _, _, _, _, _, op_say hR (u := mixF (I 2 33 s) w) (v := mixF (I 2 34 s) (mixF (mixF (mixF 17 2) (nI q)) r)) hs hfk ?_ ?_ ?_ ?_ ?_ ?_⟩
          · rw [wI_eq, if_neg (fun z => by omega), wI_s]
          · rw [wI_s]
          · rw [wI_eq, if_neg (fun z => by omega), wI_s]
          · rw [wI_s]
          · intro o i z1 z2
            rw [wI_eq, if_neg (fun z => by omega), wI_eq, if_neg (fun z => by omega), aC.1]
          · intro i z1 z2
            rw [wI_eq, if_neg (fun z => by omega), wI_eq, if_neg (fun z => by omega), aM.1]
    · refine rf_of (x := -2) (y := -2) (j := 1) hI (by omega) ?_ ?_
      · rw [s137]; unfold b137
        rw [c103, bI_v, ite_bzif, if_pos hx, c81, bI_v, ite_bzif, if_neg hy, r169_2, bI_v]
      · rw [s253]; unfold b253
        dsimp only
        rw [d202 _ _ rC_1, bI_v, ite_bzif, if_pos hx, d200 _ _ rC_1, bI_v, ite_bzif, if_neg hy, r186_2, bI_v]
  · refine rf_of (x := -2) (y := -2) (j := 1) hI (by omega) ?_ ?_
    · rw [s137]; unfold b137
      rw [c103, bI_v, ite_bzif, if_neg hx, r169_2, bI_v]
    · rw [s253]; unfold b253
      dsimp only
      rw [d202 _ _ rC_1, bI_v, ite_bzif, if_neg hx, r186_2, bI_v]
