/-! COUNT, RENEW, APPROVE: the calls -/
theorem st138 : StpI InvC 138 254 3 := by
  intro as I F hl hI
  obtain ⟨x, y, w, rfl⟩ := len3 hl
  simp only [List.map_cons, List.map_nil]
  obtain ⟨nl, nc, nk, nx, np, na, ns, hR⟩ := hI.1
  have hK := hR.2.2.2.2.1
  have hS := hR.2.2.2.2.2.2.2
  obtain ⟨q1, q2, q3, -, -, -, q7, -⟩ := hR.2.2.2.2.1
  obtain ⟨ff, hfo⟩ := hR.1
  have c103 := m103 (N := zN) (d := 7) (I := I) (F := F) (b := 2) (by omega) x
  have d202 : ∀ (J : IM) (G : FM), (∀ o k, J 1 o k = I 1 o k) → sem zN 8 202 [vR (some (1, 0)), vI x] (wI J 1 0 0 0) G = some (vI (bz (inb x 4 ∧ ¬ I 2 32 x.toNatClampNeg = -1)), wI J 1 0 0 0, G) := fun J G hJ => by
    rw [m202 (d := 6)]
    refine congrArg (fun v => some (vI v, wI J 1 0 0 0, G)) (bz_congr ?_)
    rw [w0_12, hJ]
    exact open_c hS q3 x
  have n10 : ((1 : Int32) = 0) = False := eq_false (by decide)
  have n30 : ((-3 : Int32) = 0) = False := eq_false (by decide)
  have d184 := fun (J : IM) (G : FM) => m184 (h := 3) (n := 4) zN 7 (x := y) (by decide) J G
  by_cases hy : inb y 4
  · obtain ⟨c, hc, hc2, rfl, ecl⟩ := inb_get hy
    obtain ⟨ec3, n, hn, en⟩ := hR.2.1.2.2.2.2.1 c hc
    have ec4 : I 2 3 c = nI n := by rw [ec3, en]
    have y0 : ¬ nI c < 0 := nI_pos hc2
    have y4 : nI c < (4 : Int32) := nI_lt hc (by decide)
    have e386 : (386 : Int32) + nI c = nI (386 + c) := by rw [L386, nI_add]
    have i386 : inb ((386 : Int32) + nI c) 406 := by rw [e386]; exact inb_nI (by omega) (by decide)
    have k386 : ((386 : Int32) + nI c).toNatClampNeg = 386 + c := by rw [e386, nI_clamp (by omega)]
    have e9 : (nI n < (9999 : Int32)) ↔ n < 9999 := by rw [show (9999 : Int32) = nI 9999 from rfl, i_lt, i_nI (by omega), i_nI (by omega)]; omega
    have e9' : (nI n = (9999 : Int32)) ↔ ¬ n < 9999 := by rw [show (9999 : Int32) = nI 9999 from rfl, nI_eq (by omega) (by omega)]; omega
    by_cases hx : inb x 4 ∧ ¬ I 2 32 x.toNatClampNeg = -1
    · obtain ⟨hx4, hxo⟩ := hx
      have hx : inb x 4 ∧ ¬ I 2 32 x.toNatClampNeg = -1 := ⟨hx4, hxo⟩
      obtain ⟨s, hs, hs2, rfl, es⟩ := inb_get hx4
      have hxo2 : ¬ I 2 32 s = -1 := by rw [es] at hxo; exact hxo
      obtain ⟨k, hk, ek, e32⟩ : ∃ k, k < nk ∧ I 1 2 (371 + 4 * s) = nI k ∧ I 2 32 s = nI k := by
        rcases (hS.2 s hs).2.2 with ⟨-, y2, k, y3, y4⟩ | ⟨-, y2⟩
        · exact ⟨k, y3, y4, by rw [y2, y4]⟩
        · exact absurd y2 hxo2
      have e33 : I 2 33 s = I 1 2 (372 + 4 * s) := (hS.2 s hs).1
      have e34 : I 2 34 s = I 1 2 (373 + 4 * s) := (hS.2 s hs).2.1
      have e12 : I 2 12 k = I 1 2 (181 + 4 * k) := (q7 k hk).2.1
      obtain ⟨p, hp, hp9⟩ : ∃ p : Int32, (p = 0 ∨ p = -4 ∨ p = -5) ∧ ((p = 0 ∧ n < 9999) ∨ (p = -5 ∧ ¬ n < 9999)) := by
        by_cases h9 : n < 9999
        · exact ⟨0, Or.inl rfl, Or.inl ⟨rfl, h9⟩⟩
        · exact ⟨-5, Or.inr (Or.inr rfl), Or.inr ⟨rfl, h9⟩⟩
      have hcls : ∃ KC : IM → FM → Option Rs, sem zN 9 138 [vR (some (0, 0)), vI (nI s), vI (nI c), vI w] I F = bV (sem zN 8 28 [vR (some (0, 12)), vR (some (2, 0)), vI 21] I F) KC ∧ ∀ J G, agC I J F G → KC J G = if hrd (F 2 1 5) p w (due 3 (nI c) (I 2 33 s) (I 2 12 k)) = 0 then some (vI (nI (n + 1)), wI (wI (wI (wI J 2 33 s (mixF (I 2 33 s) w)) 2 34 s (mixF (I 2 34 s) (mixF (mixF (mixF 17 3) (nI c)) (hrd (F 2 1 5) p w (due 3 (nI c) (I 2 33 s) (I 2 12 k)))))) 2 3 c (nI (n + 1))) 0 0 6 0, wF G 2 1 5 (stn (hrd (F 2 1 5) p w (due 3 (nI c) (I 2 33 s) (I 2 12 k))) (F 2 1 5))) else bI (sem zN 8 169 [vR (some (0, 0)), vI (hrd (F 2 1 5) p w (due 3 (nI c) (I 2 33 s) (I 2 12 k)))] (wI (wI J 2 33 s (mixF (I 2 33 s) w)) 2 34 s (mixF (I 2 34 s) (mixF (mixF (mixF 17 3) (nI c)) (hrd (F 2 1 5) p w (due 3 (nI c) (I 2 33 s) (I 2 12 k)))))) (wF G 2 1 5 (stn (hrd (F 2 1 5) p w (due 3 (nI c) (I 2 33 s) (I 2 12 k))) (F 2 1 5)))) (fun r5 I5 F5 => some (vI r5, I5, F5)) := by
        apply Exists.intro
        apply And.intro
        · rw [s138]; unfold b138
          rw [if_neg y0, if_pos y4, c103, bI_v, ite_bzif, if_pos hx]
          try rfl
        · intro J G aC
          have m1 := m180 (N := zN) (d := 4) (I := J) (F := G) (s := s) (k := k) (nk := nk) 3 (nI c) p w hs hk (by rw [aC.1, e32]) (by rw [aC.1, q1]) q3 (p_6 hp) (by rw [aC.2.2.1, aC.1, aC.1]; exact (stn_ok hp hfo).2)
          have m2 := m109 (N := zN) (d := 5) (I := J) (F := wF G 2 1 5 (stn (hrd (F 2 1 5) p w (due 3 (nI c) (I 2 33 s) (I 2 12 k))) (F 2 1 5))) (b := 2) (s := s) (by omega) hs (by rw [aC.1]; exact hxo2) 3 (nI c) w (hrd (F 2 1 5) p w (due 3 (nI c) (I 2 33 s) (I 2 12 k)))
          simp only [aC.1, aC.2.2.1] at m1 m2
          refine Eq.trans (b := sg (sem zN 8) 1 zc138 (19999 + 1) 97 [vR (some (0, 0)), vI (nI s), vI (nI c), vI w, vI (if (Op.cmpValue (FP.fcmp (F 2 1 5) (1077936128 : UInt32)) CmpOp.l) < 0 then p else -3)] J G) ?_ ?_
          · try dsimp only
            rw [m8 (by omega), bI_v, aC.2.2.1]
            by_cases hf : (Op.cmpValue (FP.fcmp (F 2 1 5) (1077936128 : UInt32)) CmpOp.l) < 0
            · simp only [hf, ↓reduceIte, eq_true hy, ecl, aC.1, ec4]
              rcases hp9 with ⟨rfl, h9⟩ | ⟨rfl, h9⟩
              · simp only [eq_true (e9.mpr h9), ↓reduceIte]
                rfl
              · simp only [eq_false (fun z => h9 (e9.mp z)), ↓reduceIte]
                rfl
            · simp only [hf, n10, n30, ↓reduceIte]
              rfl
          · rw [u138_97]; unfold b138_97
            rw [m1, bI_v, m2, bV_v]
            generalize hrd (F 2 1 5) p w (due 3 (nI c) (I 2 33 s) (I 2 12 k)) = r
            by_cases h0 : r = 0
            · rw [if_pos h0, if_pos h0]
              simp only [eq_true hy, ↓reduceIte, ecl, sayB, Nat.reduceEqDiff, false_and, aC.1, ec4, nI_1, m168, bI_v, wI_s]
            · rw [if_neg h0, if_neg h0]
      have hmod : ∃ KM : IM → FM → Option Rs, (∀ J G, (∀ o k, J 1 o k = I 1 o k) → (∀ o k, G 1 o k = F 1 o k) → sem zN 9 254 [vR (some (1, 0)), vI (nI s), vI (nI c), vI w] J G = bV (sem zN (5 + 2) 190 [vR (some (1, 0)), vI 21] (wI J 1 0 0 0) G) KM) ∧ ∀ R H, agM I R F H → KM R H = if hrd (F 2 1 5) p w (due 3 (nI c) (I 2 33 s) (I 2 12 k)) = 0 then some (vI (nI (n + 1)), wI (wI (wI (wI R 1 2 (372 + 4 * s) (mixF (I 2 33 s) w)) 1 2 (373 + 4 * s) (mixF (I 2 34 s) (mixF (mixF (mixF 17 3) (nI c)) (hrd (F 2 1 5) p w (due 3 (nI c) (I 2 33 s) (I 2 12 k)))))) 1 2 (386 + c) (nI (n + 1))) 1 0 1 0, wF H 1 0 4 (stn (hrd (F 2 1 5) p w (due 3 (nI c) (I 2 33 s) (I 2 12 k))) (F 2 1 5))) else bI (sem zN 8 186 [vR (some (1, 0)), vI (hrd (F 2 1 5) p w (due 3 (nI c) (I 2 33 s) (I 2 12 k)))] (wI (wI R 1 2 (372 + 4 * s) (mixF (I 2 33 s) w)) 1 2 (373 + 4 * s) (mixF (I 2 34 s) (mixF (mixF (mixF 17 3) (nI c)) (hrd (F 2 1 5) p w (due 3 (nI c) (I 2 33 s) (I 2 12 k)))))) (wF H 1 0 4 (stn (hrd (F 2 1 5) p w (due 3 (nI c) (I 2 33 s) (I 2 12 k))) (F 2 1 5)))) (fun r5 I5 F5 => some (vI r5, I5, F5)) := by
        refine ⟨fun R H => bI (c247 (sem zN 7) (sg (sem zN 7) 1 zc247 zN) (nI s) 3 (nI c) p w R H) (t254 (sem zN 8) (nI s) (nI c)), ?_, ?_⟩
        · intro J G hJ hG
          have a386 : wI J 1 0 0 0 1 2 ((386 : Int32) + nI c).toNatClampNeg = nI n := by rw [k386, w0_12, hJ, en]
          rw [s254]; unfold b254
          dsimp only
          rw [d184, bI_v, ite_bzif, if_pos hy, d202 J G hJ, bI_v, ite_bzif, if_pos hx, if_pos i386]
          rcases hp9 with ⟨rfl, h9⟩ | ⟨rfl, h9⟩
          · rw [if_neg (fun z => by rw [a386] at z; exact e9'.mp z h9), s247, b247_c, bI_bV]
            rfl
          · rw [if_pos (show wI J 1 0 0 0 1 2 ((386 : Int32) + nI c).toNatClampNeg = 9999 by rw [a386]; exact e9'.mpr h9), s247, b247_c, bI_bV]
            rfl
        · intro R H aM
          have l1 := l247 (N := zN) (d := 5) (I := R) (F := H) (s := s) (k := k) (by decide) 3 (nI c) p w hs (by omega) (by rw [aM.1, ek]) (by rw [aM.1, aM.1, aM.2, ← e33, ← e12, ← ff]; exact (stn_ok hp hfo).2)
          simp only [aM.1, aM.2] at l1
          rw [← e33, ← e12, ← ff] at l1
          have l2 := m248 (N := zN) (d := 6) (I := wI R 1 2 (372 + 4 * s) (mixF (I 2 33 s) w)) (F := wF H 1 0 4 (stn (hrd (F 2 1 5) p w (due 3 (nI c) (I 2 33 s) (I 2 12 k))) (F 2 1 5))) (s := s) 3 (nI c) (hrd (F 2 1 5) p w (due 3 (nI c) (I 2 33 s) (I 2 12 k))) hs
          rw [show wI R 1 2 (372 + 4 * s) (mixF (I 2 33 s) w) 1 2 (373 + 4 * s) = I 2 34 s by rw [wI_eq, if_neg (fun z => by omega), aM.1, e34]] at l2
          try dsimp only
          rw [l1, bI_v]
          unfold t254
          try dsimp only
          rw [l2, bI_v]
          rcases hrd_r (F 2 1 5) p w (due 3 (nI c) (I 2 33 s) (I 2 12 k)) hp with ⟨h0, -⟩ | hr
          · rw [h0, if_pos rfl, if_pos (by decide)]
            simp only [eq_true i386, ↓reduceIte, k386]
            rw [show wI (wI R 1 2 (372 + 4 * s) (mixF (I 2 33 s) w)) 1 2 (373 + 4 * s) (mixF (I 2 34 s) (mixF (mixF (mixF 17 3) (nI c)) 0)) 1 2 (386 + c) = nI n by rw [wI_eq, if_neg (fun z => by omega), wI_eq, if_neg (fun z => by omega), aM.1, en], nI_1, m185, bI_v, wI_s]
          · obtain ⟨g1, g2⟩ := rng_n hr
            rw [if_neg g1, if_neg g2]
      obtain ⟨KC, kc1, kc2⟩ := hcls
      obtain ⟨KM, km1, km2⟩ := hmod
      have hfk := (stn_ok (w := w) (dw := due 3 (nI c) (I 2 33 s) (I 2 12 k)) hp hfo).1
      rcases hrd_r (F 2 1 5) p w (due 3 (nI c) (I 2 33 s) (I 2 12 k)) hp with ⟨h0, hp0⟩ | hr
      · generalize hrd (F 2 1 5) p w (due 3 (nI c) (I 2 33 s) (I 2 12 k)) = r at *
        have hn9 : n < 9999 := by
          rcases hp9 with ⟨-, h9⟩ | ⟨h9, -⟩
          · exact h9
          · rw [hp0] at h9; exact absurd h9 (by decide)
        refine act_of (x := nI (n + 1)) (KC := KC) (KM := KM) (e := 5) 21 (fun J => wI (wI (wI (wI J 2 33 s (mixF (I 2 33 s) w)) 2 34 s (mixF (I 2 34 s) (mixF (mixF (mixF 17 3) (nI c)) r))) 2 3 c (nI (n + 1))) 0 0 6 0) (fun R => wI (wI (wI (wI R 1 2 (372 + 4 * s) (mixF (I 2 33 s) w)) 1 2 (373 + 4 * s) (mixF (I 2 34 s) (mixF (mixF (mixF 17 3) (nI c)) r))) 1 2 (386 + c) (nI (n + 1))) 1 0 1 0) (fun J => wI J 1 0 0 0) (fun G => wF G 2 1 5 (stn r (F 2 1 5))) (fun H => wF H 1 0 4 (stn r (F 2 1 5))) hI kc1 km1 ex0 ?_ ?_ ?_
        · intro J G aC
          refine ⟨?_, okC_of (pC_wF (pC_w (pC_w (pC_w pC_rfl))))⟩
          rw [kc2 J G aC, if_pos h0]
        · intro R H aM
          refine ⟨?_, okM_of (pM_wF (pM_w (pM_w (pM_w pM_rfl))))⟩
          rw [km2 R H aM, if_pos h0]
        · intro J R G H aC aM
          try dsimp only
          rw [wF_s, wF_s]
          refine ⟨_, _, _, _, _, _, _, op_cnt (say_R hR hs (mixF (I 2 33 s) w) (mixF (I 2 34 s) (mixF (mixF (mixF 17 3) (nI c)) r)) hfk) (n := n + 1) hc (by omega) ?_ ?_ ?_ ?_⟩
          · rw [wI_eq, if_neg (fun z => by omega), wI_s]
          · rw [wI_eq, if_neg (fun z => by omega), wI_s]
          · intro o i z1 z2
            rw [wI_eq, if_neg (fun z => by omega), wI_eq, if_neg (fun z => by omega), sayB, aC.1]
          · intro i z1 z2
            rw [wI_eq, if_neg (fun z => by omega), wI_eq, if_neg (fun z => by omega), sayA, aM.1]
      · generalize hrd (F 2 1 5) p w (due 3 (nI c) (I 2 33 s) (I 2 12 k)) = r at *
        obtain ⟨g1, g2⟩ := rng_n hr
        refine actr_of (x := r) (y := r) (j := jr r) (KC := KC) (KM := KM) (e := 5) 21 (fun J => wI (wI J 2 33 s (mixF (I 2 33 s) w)) 2 34 s (mixF (I 2 34 s) (mixF (mixF (mixF 17 3) (nI c)) r))) (fun R => wI (wI R 1 2 (372 + 4 * s) (mixF (I 2 33 s) w)) 1 2 (373 + 4 * s) (mixF (I 2 34 s) (mixF (mixF (mixF 17 3) (nI c)) r))) (fun J => wI J 1 0 0 0) (fun G => wF G 2 1 5 (stn r (F 2 1 5))) (fun H => wF H 1 0 4 (stn r (F 2 1 5))) hI (jr_lt r) kc1 km1 ex0 ?_ ?_ ?_
        · intro J G aC
          refine ⟨?_, pC_wF (pC_w (pC_w pC_rfl)), ?_⟩
          · rw [kc2 J G aC, if_neg g1, r169 hr, bI_v]
          · rw [wI_eq, if_neg (fun z => by omega), wI_eq, if_neg (fun z => by omega)]
        · intro R H aM
          refine ⟨?_, pM_wF (pM_w (pM_w pM_rfl)), ?_⟩
          · rw [km2 R H aM, if_neg g1, r186 hr, bI_v]
          · rw [wI_eq, if_neg (fun z => by omega), wI_eq, if_neg (fun z => by omega)]
        · intro J R G H aC aM
          try dsimp only
          rw [wF_s, wF_s]
          refine ⟨_, _, _, _, _, _, _, op_say hR (u := mixF (I 2 33 s) w) (v := mixF (I 2 34 s) (mixF (mixF (mixF 17 3) (nI c)) r)) hs hfk ?_ ?_ ?_ ?_ ?_ ?_⟩
          · rw [wI_eq, if_neg (fun z => by omega), wI_s]
          · rw [wI_s]
          · rw [wI_eq, if_neg (fun z => by omega), wI_s]
          · rw [wI_s]
          · intro o i z1 z2
            rw [wI_eq, if_neg (fun z => by omega), wI_eq, if_neg (fun z => by omega), aC.1]
          · intro i z1 z2
            rw [wI_eq, if_neg (fun z => by omega), wI_eq, if_neg (fun z => by omega), aM.1]
    · refine rf_of (x := -2) (y := -2) (j := 1) hI (by omega) ?_ ?_
      · rw [s138]; unfold b138
        rw [if_neg y0, if_pos y4, c103, bI_v, ite_bzif, if_neg hx, r169_2, bI_v]
      · rw [s254]; unfold b254
        dsimp only
        rw [d184, bI_v, ite_bzif, if_pos hy, d202 _ _ rC_1, bI_v, ite_bzif, if_neg hx, r186_2, bI_v]
  · refine rf_of (x := -1) (y := -1) (j := 0) hI (by omega) ?_ ?_
    · rw [s138]; unfold b138
      by_cases h0 : y < 0
      · rw [if_pos h0, r169_1, bI_v]
      · rw [if_neg h0, if_neg (fun z => hy (by rw [i_lt, show (4 : Int32).toInt = 4 by decide] at z; rw [i_lt, i_0] at h0; rw [inb_iff]; omega)), r169_1, bI_v]
    · rw [s254]; unfold b254
      dsimp only
      rw [d184, bI_v, ite_bzif, if_neg hy, r186_1, bI_v]
