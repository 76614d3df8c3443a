/-! QUESTIONS: of, orphans -/
theorem st165 : StpI InvC 165 293 2 := by
  intro as I F hl hI
  obtain ⟨x, y, rfl⟩ := len2 hl
  simp only [List.map_cons, List.map_nil]
  obtain ⟨nl, nc, nk, nx, np, na, ns, hR⟩ := hI.1
  have p3 := hR.2.1.2.2.1
  have hK := hR.2.2.2.2.1
  obtain ⟨q1, q2, q3, q4, q5, q6, q7, q8, q9, q10, q11, q12⟩ := hR.2.2.2.2.1
  obtain ⟨v1, v2, v3, v4, v5, v6, v7, v8⟩ := hR.2.2.2.2.2.1
  obtain ⟨w1, w2, w3, w4⟩ := hR.2.2.2.2.2.2.1
  have hS := hR.2.2.2.2.2.2.2
  have c103 := m103 (N := zN) (d := 7) (I := I) (F := F) (b := 2) (by omega) x
  have d202 : sem zN 8 202 [vR (some (1, 0)), vI x] (wI I 1 0 0 0) F = some (vI (bz (inb x 4 ∧ ¬ I 2 32 x.toNatClampNeg = -1)), wI I 1 0 0 0, F) := by
    rw [m202 (d := 6)]
    refine congrArg (fun v => some (vI v, wI I 1 0 0 0, F)) (bz_congr ?_)
    rw [w0_12]
    exact open_c hS q3 x
  have c98 := m98 (N := zN) (d := 7) (I := I) (F := F) (b := 2) (n := ns) (by omega) x w1 w3
  have d201 := m201 (N := zN) (d := 6) (I := wI I 1 0 0 0) (F := F) (n := ns) x (by rw [w0_12, w2]) (by omega)
  have c81 := m81 (N := zN) (d := 7) (I := I) (F := F) (b := 2) (n := np) (by omega) x v1 v3
  have d200 := m200 (N := zN) (d := 6) (I := wI I 1 0 0 0) (F := F) (n := np) x (by rw [w0_12, v2]) (by omega)
  have c49 := m49 (N := zN) (d := 7) (I := I) (F := F) (b := 2) (nx := nx) (by omega) x q4 q6
  have d224 := m224 (N := zN) (d := 6) (I := wI I 1 0 0 0) (F := F) (n := nx) x (by rw [w0_12, q5]) (by omega)
  by_cases hy : inb y 8
  · obtain ⟨c, hc, hc2, rfl, -⟩ := inb_get hy
    have hcs : c = 0 ∨ c = 1 ∨ c = 2 ∨ c = 3 ∨ c = 4 ∨ c = 5 ∨ c = 6 ∨ c = 7 := by omega
    rcases hcs with rfl | rfl | rfl | rfl | rfl | rfl | rfl | rfl
    · by_cases hx : inb x 4 ∧ ¬ I 2 32 x.toNatClampNeg = -1
      · have hxn : inb x 4 := hx.1
        obtain ⟨s, hs, hs2, rfl, es⟩ := inb_get hxn
        have hxb : inb (nI s) 4 := hxn
        refine qs_0 (x := I 2 32 s) hI ?_ ?_
        · rw [s165]; unfold b165
          rw [if_pos (show nI 0 = (0 : Int32) by decide), c103, bI_v, ite_bzif, if_pos hx, if_pos hxb, es]
        · rw [s293]; unfold b293
          dsimp only
          have e32 : I 2 32 s = I 1 2 (371 + 4 * s) := by
            rcases (hS.2 s hs).2.2 with ⟨-, y2, -⟩ | ⟨-, y2⟩
            · exact y2
            · have h2 := hx.2
              rw [es] at h2
              exact absurd y2 h2
          rw [if_pos (show nI 0 = (0 : Int32) by decide), d202, bI_v, ite_bzif, if_pos hx, m249 hs, bI_v, w0_12, e32]
      · refine qs_0 (x := -1) hI ?_ ?_
        · rw [s165]; unfold b165
          rw [if_pos (show nI 0 = (0 : Int32) by decide), c103, bI_v, ite_bzif, if_neg hx]
        · rw [s293]; unfold b293
          dsimp only
          rw [if_pos (show nI 0 = (0 : Int32) by decide), d202, bI_v, ite_bzif, if_neg hx]
    · by_cases hx : inb x ns
      · have hxn : inb x ns := hx
        obtain ⟨s, hs, hs2, rfl, es⟩ := inb_get hxn
        have hxb : inb (nI s) 10 := inb_mono w3 hxn
        refine qs_0 (x := I 2 29 s) hI ?_ ?_
        · rw [s165]; unfold b165
          rw [if_neg (show ¬ nI 1 = (0 : Int32) by decide), if_pos (show nI 1 = (1 : Int32) by decide), c98, bI_v, ite_bzif, if_pos hx, if_pos hxb, es]
        · rw [s293]; unfold b293
          dsimp only
          have e0 : nI (340 + 3 * s) + nI 1 = nI (340 + 3 * s + 1) := by rw [nI_add]
          rw [if_neg (show ¬ nI 1 = (0 : Int32) by decide), if_pos (show nI 1 = (1 : Int32) by decide), d201, bI_v, ite_bzif, if_pos hx, m197, bI_v, e0, if_pos (show inb (nI (340 + 3 * s + 1)) 406 from inb_nI (by omega) (by decide)), nI_clamp (by omega), w0_12, (w4 s hs).2.1, show 340 + 3 * s + 1 = 341 + 3 * s by omega]
      · refine qs_0 (x := -1) hI ?_ ?_
        · rw [s165]; unfold b165
          rw [if_neg (show ¬ nI 1 = (0 : Int32) by decide), if_pos (show nI 1 = (1 : Int32) by decide), c98, bI_v, ite_bzif, if_neg hx]
        · rw [s293]; unfold b293
          dsimp only
          rw [if_neg (show ¬ nI 1 = (0 : Int32) by decide), if_pos (show nI 1 = (1 : Int32) by decide), d201, bI_v, ite_bzif, if_neg hx]
    · by_cases hx : inb x ns
      · have hxn : inb x ns := hx
        obtain ⟨s, hs, hs2, rfl, es⟩ := inb_get hxn
        have hxb : inb (nI s) 10 := inb_mono w3 hxn
        refine qs_0 (x := I 2 30 s) hI ?_ ?_
        · rw [s165]; unfold b165
          rw [if_neg (show ¬ nI 2 = (0 : Int32) by decide), if_neg (show ¬ nI 2 = (1 : Int32) by decide), if_pos (show nI 2 = (2 : Int32) by decide), c98, bI_v, ite_bzif, if_pos hx, if_pos hxb, es]
        · rw [s293]; unfold b293
          dsimp only
          have e0 : nI (340 + 3 * s) + nI 2 = nI (340 + 3 * s + 2) := by rw [nI_add]
          rw [if_neg (show ¬ nI 2 = (0 : Int32) by decide), if_neg (show ¬ nI 2 = (1 : Int32) by decide), if_pos (show nI 2 = (2 : Int32) by decide), d201, bI_v, ite_bzif, if_pos hx, m197, bI_v, e0, if_pos (show inb (nI (340 + 3 * s + 2)) 406 from inb_nI (by omega) (by decide)), nI_clamp (by omega), w0_12, (w4 s hs).2.2.1, show 340 + 3 * s + 2 = 342 + 3 * s by omega]
      · refine qs_0 (x := -1) hI ?_ ?_
        · rw [s165]; unfold b165
          rw [if_neg (show ¬ nI 2 = (0 : Int32) by decide), if_neg (show ¬ nI 2 = (1 : Int32) by decide), if_pos (show nI 2 = (2 : Int32) by decide), c98, bI_v, ite_bzif, if_neg hx]
        · rw [s293]; unfold b293
          dsimp only
          rw [if_neg (show ¬ nI 2 = (0 : Int32) by decide), if_neg (show ¬ nI 2 = (1 : Int32) by decide), if_pos (show nI 2 = (2 : Int32) by decide), d201, bI_v, ite_bzif, if_neg hx]
    · by_cases hx : inb x np
      · have hxn : inb x np := hx
        obtain ⟨s, hs, hs2, rfl, es⟩ := inb_get hxn
        have hxb : inb (nI s) 24 := inb_mono v3 hxn
        refine qs_0 (x := I 2 20 s) hI ?_ ?_
        · rw [s165]; unfold b165
          rw [if_neg (show ¬ nI 3 = (0 : Int32) by decide), if_neg (show ¬ nI 3 = (1 : Int32) by decide), if_neg (show ¬ nI 3 = (2 : Int32) by decide), if_pos (show nI 3 = (3 : Int32) by decide), c81, bI_v, ite_bzif, if_pos hx, if_pos hxb, es]
        · rw [s293]; unfold b293
          dsimp only
          have e0 : nI (268 + 3 * s) + nI 3 - (3 : Int32) = nI (268 + 3 * s) := by rw [nI_add, show 268 + 3 * s + 3 = 268 + 3 * s + 3 by omega, show (3 : Int32) = nI 3 from rfl, ← nI_add, Int32.add_sub_cancel]
          rw [if_neg (show ¬ nI 3 = (0 : Int32) by decide), if_neg (show ¬ nI 3 = (1 : Int32) by decide), if_neg (show ¬ nI 3 = (2 : Int32) by decide), if_pos (show nI 3 = (3 : Int32) by decide), d200, bI_v, ite_bzif, if_pos hx, m196, bI_v, e0, if_pos (show inb (nI (268 + 3 * s)) 406 from inb_nI (by omega) (by decide)), nI_clamp (by omega), w0_12, (v4 s hs).1]
      · refine qs_0 (x := -1) hI ?_ ?_
        · rw [s165]; unfold b165
          rw [if_neg (show ¬ nI 3 = (0 : Int32) by decide), if_neg (show ¬ nI 3 = (1 : Int32) by decide), if_neg (show ¬ nI 3 = (2 : Int32) by decide), if_pos (show nI 3 = (3 : Int32) by decide), c81, bI_v, ite_bzif, if_neg hx]
        · rw [s293]; unfold b293
          dsimp only
          rw [if_neg (show ¬ nI 3 = (0 : Int32) by decide), if_neg (show ¬ nI 3 = (1 : Int32) by decide), if_neg (show ¬ nI 3 = (2 : Int32) by decide), if_pos (show nI 3 = (3 : Int32) by decide), d200, bI_v, ite_bzif, if_neg hx]
    · by_cases hx : inb x np
      · have hxn : inb x np := hx
        obtain ⟨s, hs, hs2, rfl, es⟩ := inb_get hxn
        have hxb : inb (nI s) 24 := inb_mono v3 hxn
        refine qs_0 (x := I 2 21 s) hI ?_ ?_
        · rw [s165]; unfold b165
          rw [if_neg (show ¬ nI 4 = (0 : Int32) by decide), if_neg (show ¬ nI 4 = (1 : Int32) by decide), if_neg (show ¬ nI 4 = (2 : Int32) by decide), if_neg (show ¬ nI 4 = (3 : Int32) by decide), if_pos (show nI 4 = (4 : Int32) by decide), c81, bI_v, ite_bzif, if_pos hx, if_pos hxb, es]
        · rw [s293]; unfold b293
          dsimp only
          have e0 : nI (268 + 3 * s) + nI 4 - (3 : Int32) = nI (269 + 3 * s) := by rw [nI_add, show 268 + 3 * s + 4 = 269 + 3 * s + 3 by omega, show (3 : Int32) = nI 3 from rfl, ← nI_add, Int32.add_sub_cancel]
          rw [if_neg (show ¬ nI 4 = (0 : Int32) by decide), if_neg (show ¬ nI 4 = (1 : Int32) by decide), if_neg (show ¬ nI 4 = (2 : Int32) by decide), if_neg (show ¬ nI 4 = (3 : Int32) by decide), if_pos (show nI 4 = (4 : Int32) by decide), d200, bI_v, ite_bzif, if_pos hx, m196, bI_v, e0, if_pos (show inb (nI (269 + 3 * s)) 406 from inb_nI (by omega) (by decide)), nI_clamp (by omega), w0_12, (v4 s hs).2.1]
      · refine qs_0 (x := -1) hI ?_ ?_
        · rw [s165]; unfold b165
          rw [if_neg (show ¬ nI 4 = (0 : Int32) by decide), if_neg (show ¬ nI 4 = (1 : Int32) by decide), if_neg (show ¬ nI 4 = (2 : Int32) by decide), if_neg (show ¬ nI 4 = (3 : Int32) by decide), if_pos (show nI 4 = (4 : Int32) by decide), c81, bI_v, ite_bzif, if_neg hx]
        · rw [s293]; unfold b293
          dsimp only
          rw [if_neg (show ¬ nI 4 = (0 : Int32) by decide), if_neg (show ¬ nI 4 = (1 : Int32) by decide), if_neg (show ¬ nI 4 = (2 : Int32) by decide), if_neg (show ¬ nI 4 = (3 : Int32) by decide), if_pos (show nI 4 = (4 : Int32) by decide), d200, bI_v, ite_bzif, if_neg hx]
    · by_cases hx : inb x nx
      · have hxn : inb x nx := hx
        obtain ⟨s, hs, hs2, rfl, es⟩ := inb_get hxn
        have hxb : inb (nI s) 12 := inb_mono q6 hxn
        refine qs_0 (x := I 2 16 s) hI ?_ ?_
        · rw [s165]; unfold b165
          rw [if_neg (show ¬ nI 5 = (0 : Int32) by decide), if_neg (show ¬ nI 5 = (1 : Int32) by decide), if_neg (show ¬ nI 5 = (2 : Int32) by decide), if_neg (show ¬ nI 5 = (3 : Int32) by decide), if_neg (show ¬ nI 5 = (4 : Int32) by decide), if_pos (show nI 5 = (5 : Int32) by decide), c49, bI_v, ite_bzif, if_pos hx, if_pos hxb, es]
        · rw [s293]; unfold b293
          dsimp only
          have e0 : nI (220 + 4 * s) + nI 5 - (4 : Int32) = nI (221 + 4 * s) := by rw [nI_add, show 220 + 4 * s + 5 = 221 + 4 * s + 4 by omega, show (4 : Int32) = nI 4 from rfl, ← nI_add, Int32.add_sub_cancel]
          rw [if_neg (show ¬ nI 5 = (0 : Int32) by decide), if_neg (show ¬ nI 5 = (1 : Int32) by decide), if_neg (show ¬ nI 5 = (2 : Int32) by decide), if_neg (show ¬ nI 5 = (3 : Int32) by decide), if_neg (show ¬ nI 5 = (4 : Int32) by decide), m184g _ _ (l := 5) (h := 7) 5 7 (by decide) (by decide), bI_v, ite_bzif, if_pos (show 5 ≤ (nI 5).toInt ∧ (nI 5).toInt ≤ 7 by decide), d224, bI_v, ite_bzif, if_pos hx, if_neg (show ¬ nI 5 = (7 : Int32) by decide), m195, bI_v, e0, if_pos (show inb (nI (221 + 4 * s)) 406 from inb_nI (by omega) (by decide)), nI_clamp (by omega), w0_12, (q12 s hs).1]
      · refine qs_0 (x := -1) hI ?_ ?_
        · rw [s165]; unfold b165
          rw [if_neg (show ¬ nI 5 = (0 : Int32) by decide), if_neg (show ¬ nI 5 = (1 : Int32) by decide), if_neg (show ¬ nI 5 = (2 : Int32) by decide), if_neg (show ¬ nI 5 = (3 : Int32) by decide), if_neg (show ¬ nI 5 = (4 : Int32) by decide), if_pos (show nI 5 = (5 : Int32) by decide), c49, bI_v, ite_bzif, if_neg hx]
        · rw [s293]; unfold b293
          dsimp only
          rw [if_neg (show ¬ nI 5 = (0 : Int32) by decide), if_neg (show ¬ nI 5 = (1 : Int32) by decide), if_neg (show ¬ nI 5 = (2 : Int32) by decide), if_neg (show ¬ nI 5 = (3 : Int32) by decide), if_neg (show ¬ nI 5 = (4 : Int32) by decide), m184g _ _ (l := 5) (h := 7) 5 7 (by decide) (by decide), bI_v, ite_bzif, if_pos (show 5 ≤ (nI 5).toInt ∧ (nI 5).toInt ≤ 7 by decide), d224, bI_v, ite_bzif, if_neg hx]
    · by_cases hx : inb x nx
      · have hxn : inb x nx := hx
        obtain ⟨s, hs, hs2, rfl, es⟩ := inb_get hxn
        have hxb : inb (nI s) 12 := inb_mono q6 hxn
        refine qs_0 (x := I 2 17 s) hI ?_ ?_
        · rw [s165]; unfold b165
          rw [if_neg (show ¬ nI 6 = (0 : Int32) by decide), if_neg (show ¬ nI 6 = (1 : Int32) by decide), if_neg (show ¬ nI 6 = (2 : Int32) by decide), if_neg (show ¬ nI 6 = (3 : Int32) by decide), if_neg (show ¬ nI 6 = (4 : Int32) by decide), if_neg (show ¬ nI 6 = (5 : Int32) by decide), if_pos (show nI 6 = (6 : Int32) by decide), c49, bI_v, ite_bzif, if_pos hx, if_pos hxb, es]
        · rw [s293]; unfold b293
          dsimp only
          have e0 : nI (220 + 4 * s) + nI 6 - (4 : Int32) = nI (222 + 4 * s) := by rw [nI_add, show 220 + 4 * s + 6 = 222 + 4 * s + 4 by omega, show (4 : Int32) = nI 4 from rfl, ← nI_add, Int32.add_sub_cancel]
          rw [if_neg (show ¬ nI 6 = (0 : Int32) by decide), if_neg (show ¬ nI 6 = (1 : Int32) by decide), if_neg (show ¬ nI 6 = (2 : Int32) by decide), if_neg (show ¬ nI 6 = (3 : Int32) by decide), if_neg (show ¬ nI 6 = (4 : Int32) by decide), m184g _ _ (l := 5) (h := 7) 5 7 (by decide) (by decide), bI_v, ite_bzif, if_pos (show 5 ≤ (nI 6).toInt ∧ (nI 6).toInt ≤ 7 by decide), d224, bI_v, ite_bzif, if_pos hx, if_neg (show ¬ nI 6 = (7 : Int32) by decide), m195, bI_v, e0, if_pos (show inb (nI (222 + 4 * s)) 406 from inb_nI (by omega) (by decide)), nI_clamp (by omega), w0_12, (q12 s hs).2.1]
      · refine qs_0 (x := -1) hI ?_ ?_
        · rw [s165]; unfold b165
          rw [if_neg (show ¬ nI 6 = (0 : Int32) by decide), if_neg (show ¬ nI 6 = (1 : Int32) by decide), if_neg (show ¬ nI 6 = (2 : Int32) by decide), if_neg (show ¬ nI 6 = (3 : Int32) by decide), if_neg (show ¬ nI 6 = (4 : Int32) by decide), if_neg (show ¬ nI 6 = (5 : Int32) by decide), if_pos (show nI 6 = (6 : Int32) by decide), c49, bI_v, ite_bzif, if_neg hx]
        · rw [s293]; unfold b293
          dsimp only
          rw [if_neg (show ¬ nI 6 = (0 : Int32) by decide), if_neg (show ¬ nI 6 = (1 : Int32) by decide), if_neg (show ¬ nI 6 = (2 : Int32) by decide), if_neg (show ¬ nI 6 = (3 : Int32) by decide), if_neg (show ¬ nI 6 = (4 : Int32) by decide), m184g _ _ (l := 5) (h := 7) 5 7 (by decide) (by decide), bI_v, ite_bzif, if_pos (show 5 ≤ (nI 6).toInt ∧ (nI 6).toInt ≤ 7 by decide), d224, bI_v, ite_bzif, if_neg hx]
    · by_cases hx : inb x nx
      · have hxn : inb x nx := hx
        obtain ⟨s, hs, hs2, rfl, es⟩ := inb_get hxn
        have hxb : inb (nI s) 12 := inb_mono q6 hxn
        obtain ⟨z1, z2, ⟨k, hk, ek⟩, -⟩ := q12 s hs
        have ek2 : I 2 16 s = nI k := by rw [z1, ek]
        have c67 := m67 (N := zN) (d := 5) (I := I) (F := F) (b := 2) (nx := nx) (nk := nk) (by omega) (by decide) (I 2 1 4) hs q4 q6 ek2 hk q1 q3
        rw [p3] at c67
        have hgd := good_c hK hs hk ek2
        have i1 : inb (nI (220 + 4 * s + 1)) 406 := inb_nI (by omega) (by decide)
        have k3 : inb (nI (180 + 4 * k + 3)) 406 := inb_nI (by omega) (by decide)
        have d225 : sem zN 8 225 [vR (some (1, 0)), vI (nI s)] (wI I 1 0 0 0) F = some (vI (bz (I 1 2 (183 + 4 * k) = nI s)), wI I 1 0 0 0, F) := by
          rw [s225]; unfold b225
          rw [m195, bI_v, nI_1, if_pos i1, nI_clamp (by omega), w0_12, show 220 + 4 * s + 1 = 221 + 4 * s by omega, ek, m194, bI_v, L3, nI_add, if_pos k3, nI_clamp (by omega), w0_12, show 180 + 4 * k + 3 = 183 + 4 * k by omega, ite_bz]
        refine qs_0 (x := bz (I 1 2 (183 + 4 * k) = nI s)) hI ?_ ?_
        · rw [s165]; unfold b165
          rw [if_neg (show ¬ nI 7 = (0 : Int32) by decide), if_neg (show ¬ nI 7 = (1 : Int32) by decide), if_neg (show ¬ nI 7 = (2 : Int32) by decide), if_neg (show ¬ nI 7 = (3 : Int32) by decide), if_neg (show ¬ nI 7 = (4 : Int32) by decide), if_neg (show ¬ nI 7 = (5 : Int32) by decide), if_neg (show ¬ nI 7 = (6 : Int32) by decide), if_pos (show nI 7 = (7 : Int32) by decide), c49, bI_v, ite_bzif, if_pos hx, p3, c67, bI_v, ite_bzif, bz_congr hgd.symm]
          by_cases hg : I 2 18 s = 0 ∧ I 2 15 s = I 1 2 10 ∧ ¬ I 2 13 k = 0 ∧ ltc (I 2 16) (nI k) nx = nI s
          · rw [if_pos hg, bz_t hg]
          · rw [if_neg hg, bz_f hg]
        · rw [s293]; unfold b293
          dsimp only
          rw [if_neg (show ¬ nI 7 = (0 : Int32) by decide), if_neg (show ¬ nI 7 = (1 : Int32) by decide), if_neg (show ¬ nI 7 = (2 : Int32) by decide), if_neg (show ¬ nI 7 = (3 : Int32) by decide), if_neg (show ¬ nI 7 = (4 : Int32) by decide), m184g _ _ (l := 5) (h := 7) 5 7 (by decide) (by decide), bI_v, ite_bzif, if_pos (show 5 ≤ (nI 7).toInt ∧ (nI 7).toInt ≤ 7 by decide), d224, bI_v, ite_bzif, if_pos hx, if_pos (show nI 7 = (7 : Int32) by decide), d225, bI_v, ite_bzif]
          by_cases hg : I 1 2 (183 + 4 * k) = nI s
          · rw [if_pos hg, bz_t hg]
          · rw [if_neg hg, bz_f hg]
      · refine qs_0 (x := -1) hI ?_ ?_
        · rw [s165]; unfold b165
          rw [if_neg (show ¬ nI 7 = (0 : Int32) by decide), if_neg (show ¬ nI 7 = (1 : Int32) by decide), if_neg (show ¬ nI 7 = (2 : Int32) by decide), if_neg (show ¬ nI 7 = (3 : Int32) by decide), if_neg (show ¬ nI 7 = (4 : Int32) by decide), if_neg (show ¬ nI 7 = (5 : Int32) by decide), if_neg (show ¬ nI 7 = (6 : Int32) by decide), if_pos (show nI 7 = (7 : Int32) by decide), c49, bI_v, ite_bzif, if_neg hx]
        · rw [s293]; unfold b293
          dsimp only
          rw [if_neg (show ¬ nI 7 = (0 : Int32) by decide), if_neg (show ¬ nI 7 = (1 : Int32) by decide), if_neg (show ¬ nI 7 = (2 : Int32) by decide), if_neg (show ¬ nI 7 = (3 : Int32) by decide), if_neg (show ¬ nI 7 = (4 : Int32) by decide), m184g _ _ (l := 5) (h := 7) 5 7 (by decide) (by decide), bI_v, ite_bzif, if_pos (show 5 ≤ (nI 7).toInt ∧ (nI 7).toInt ≤ 7 by decide), d224, bI_v, ite_bzif, if_neg hx]
  · have hne : ∀ k : Nat, k < 8 → ¬ y.toInt = (k : Int) := fun k hk z => hy (by rw [inb_iff]; omega)
    refine qs_0 (x := -1) hI ?_ ?_
    · rw [s165]; unfold b165
      rw [if_neg (lit_ne (y := (0 : Int32)) (k := 0) rfl (by decide) (hne 0 (by omega))), if_neg (lit_ne (y := (1 : Int32)) (k := 1) rfl (by decide) (hne 1 (by omega))), if_neg (lit_ne (y := (2 : Int32)) (k := 2) rfl (by decide) (hne 2 (by omega))), if_neg (lit_ne (y := (3 : Int32)) (k := 3) rfl (by decide) (hne 3 (by omega))), if_neg (lit_ne (y := (4 : Int32)) (k := 4) rfl (by decide) (hne 4 (by omega))), if_neg (lit_ne (y := (5 : Int32)) (k := 5) rfl (by decide) (hne 5 (by omega))), if_neg (lit_ne (y := (6 : Int32)) (k := 6) rfl (by decide) (hne 6 (by omega))), if_neg (lit_ne (y := (7 : Int32)) (k := 7) rfl (by decide) (hne 7 (by omega)))]
    · rw [s293]; unfold b293
      dsimp only
      rw [inb_iff] at hy
      rw [if_neg (lit_ne (y := (0 : Int32)) (k := 0) rfl (by decide) (hne 0 (by omega))), if_neg (lit_ne (y := (1 : Int32)) (k := 1) rfl (by decide) (hne 1 (by omega))), if_neg (lit_ne (y := (2 : Int32)) (k := 2) rfl (by decide) (hne 2 (by omega))), if_neg (lit_ne (y := (3 : Int32)) (k := 3) rfl (by decide) (hne 3 (by omega))), if_neg (lit_ne (y := (4 : Int32)) (k := 4) rfl (by decide) (hne 4 (by omega))), m184g _ _ (l := 5) (h := 7) 5 7 (by decide) (by decide), bI_v, ite_bzif, if_neg (fun z => by omega)]
/-- a key without its parent -/
def orp (B : Nat → Nat → Int32) (k : Nat) : Prop := ¬ (B 11 k = -1 ∨ ¬ slOf (B 14) (B 11 k) = -1)
theorem st163 : StpI InvC 163 289 0 := by
  intro as I F hl hI
  obtain rfl := len0 hl
  simp only [List.map_nil]
  obtain ⟨nl, nc, nk, nx, np, na, ns, hR⟩ := hI.1
  have hK := hR.2.2.2.2.1
  obtain ⟨q1, q2, q3, q4, q5, q6, q7, q8, q9, q10, q11, q12⟩ := hR.2.2.2.2.1
  refine qs_0 (x := orb (fun k => ¬ I 1 2 (182 + 4 * k) = -1 ∧ ¬ I 1 2 (180 + 4 * k) = -1 ∧ slOf (I 2 14) (I 1 2 (180 + 4 * k)) = -1) nk) hI ?_ ?_
  · rw [s163]; unfold b163
    have h := lp (S := fun m c => sg (sem zN 8) 1 zc163 m 4 [vR (some (0, 0)), vI (orb (fun k => exb (fun t => I 2 14 t = nI k ∧ ¬ I 2 11 k = -1 ∧ slOf (I 2 14) (I 2 11 k) = -1) c = true) nk), vI (nI c)] I F) (T := some (vI (orb (fun k => exb (fun t => I 2 14 t = nI k ∧ ¬ I 2 11 k = -1 ∧ slOf (I 2 14) (I 2 11 k) = -1) 3 = true) nk), I, F)) (m := 3) ?_ ?_ 3 0 zN rfl (by decide)
    · try dsimp only at h
      have e0 : ∀ m, orb (fun k => exb (fun t => I 2 14 t = nI k ∧ ¬ I 2 11 k = -1 ∧ slOf (I 2 14) (I 2 11 k) = -1) 0 = true) m = 0 := by
        intro m
        induction m with
        | zero => rfl
        | succ m ih =>
          refine Eq.trans (if_neg ?_) ih
          exact Bool.false_ne_true
      rw [e0] at h
      refine Eq.trans h ?_
      refine congrArg (fun v => some (vI v, I, F)) (orb_congr (fun k hk => ?_))
      rw [← (q7 k hk).1, exb_iff]
      constructor
      · rintro ⟨t, z1, z2, z3, z4⟩
        refine ⟨fun w => ?_, z3, z4⟩
        rw [(q10 k t hk z1).mpr z2] at w
        exact nI_ne1 (by omega) w
      · rintro ⟨z1, z2, z3⟩
        obtain ⟨t, ht, et⟩ := (q9 k hk).resolve_left z1
        exact ⟨t, ht, (q10 k t hk ht).mp et, z2, z3⟩
    · intro m c hc
      try dsimp only
      rw [u163_4]; unfold b163_4
      rw [if_neg (show ¬ (3 : Int32) ≤ nI c from nI_ge hc (by decide)), m55 (by omega), bI_v, if_pos (inb_nI hc (by decide)), nI_clamp (by omega), nI_1]
      rcases q8 c hc with z | ⟨k, hk, ek⟩
      · rw [if_pos z]
        congr 3
        refine congrArg vI (orb_congr (fun k hk => ?_))
        rw [exb_iff, exb_iff]
        constructor
        · rintro ⟨t, z1, z2⟩
          exact ⟨t, by omega, z2⟩
        · rintro ⟨t, z1, z2, z3⟩
          by_cases e : t = c
          · subst e
            rw [z] at z2
            exact absurd z2.symm (fun w => nI_ne1 (by omega) w)
          · exact ⟨t, by omega, z2, z3⟩
      · have hkn : inb (nI k) nk := inb_nI hk (by omega)
        have c61 := m61 (N := zN) (d := 5) (I := I) (F := F) (b := 2) (nk := nk) (by omega) (by decide) (nI k) q1 q3
        rw [if_pos hkn] at c61
        simp only [nI_clamp (show k < 2 ^ 31 by omega)] at c61
        rw [ek, if_neg (fun w => nI_ne1 (by omega) w), c61, bI_v, ite_bzif]
        by_cases hp : I 2 11 k = -1 ∨ ¬ slOf (I 2 14) (I 2 11 k) = -1
        · rw [if_pos hp]
          congr 3
          refine congrArg vI (orb_congr (fun j hj => ?_))
          rw [exb_iff, exb_iff]
          constructor
          · rintro ⟨t, z1, z2⟩
            exact ⟨t, by omega, z2⟩
          · rintro ⟨t, z1, z2, z3, z4⟩
            by_cases e : t = c
            · subst e
              rw [ek] at z2
              have := nI_inj (by omega) (by omega) z2
              subst this
              exact absurd z4 (hp.resolve_left z3)
            · exact ⟨t, by omega, z2, z3, z4⟩
        · have h1 : ¬ I 2 11 k = -1 := fun w => hp (Or.inl w)
          have h2 : slOf (I 2 14) (I 2 11 k) = -1 := Decidable.not_not.mp (fun w => hp (Or.inr w))
          rw [if_neg hp, orb_ins hk]
          congr 3
          refine congrArg vI (orb_congr (fun j hj => ?_))
          rw [exb_iff, exb_iff]
          constructor
          · rintro (⟨t, z1, z2⟩ | rfl)
            · exact ⟨t, by omega, z2⟩
            · exact ⟨c, by omega, ek, h1, h2⟩
          · rintro ⟨t, z1, z2, z3, z4⟩
            by_cases e : t = c
            · subst e
              rw [ek] at z2
              exact Or.inr (nI_inj (by omega) (by omega) z2).symm
            · exact Or.inl ⟨t, by omega, z2, z3, z4⟩
    · intro m
      try dsimp only
      rw [u163_4]; unfold b163_4
      rw [if_pos (show (3 : Int32) ≤ nI 3 from nI_le (Nat.le_refl _) (by decide))]
  · rw [s289]; unfold b289
    dsimp only
    refine lp (S := fun m c => sg (sem zN 8) 1 zc289 m 9 [vR (some (1, 0)), vI (orb (fun k => ¬ I 1 2 (182 + 4 * k) = -1 ∧ ¬ I 1 2 (180 + 4 * k) = -1 ∧ slOf (I 2 14) (I 1 2 (180 + 4 * k)) = -1) c), vI (nI c)] (wI I 1 0 0 0) F) (m := nk) ?_ ?_ nk 0 zN (by omega) (by have : 20000 = zN := rfl; omega)
    · intro m c hc
      try dsimp only
      rw [u289_9]; unfold b289_9
      have i0 : inb (nI (180 + 4 * c)) 406 := inb_nI (by omega) (by decide)
      have i2 : inb (nI (180 + 4 * c + 2)) 406 := inb_nI (by omega) (by decide)
      have c0 : (nI (180 + 4 * c)).toNatClampNeg = 180 + 4 * c := nI_clamp (by omega)
      have c2 : (nI (180 + 4 * c + 2)).toNatClampNeg = 182 + 4 * c := by rw [nI_clamp (by omega)]; omega
      rw [w0_12, q2, if_neg (nI_ge hc (by omega))]
      simp only [m194, bI_v, rz0, eq_true i0, ↓reduceIte, L2, nI_add, eq_true i2, c0, c2, w0_12, or0, nI_1]
      by_cases h1 : I 1 2 (182 + 4 * c) = -1
      · rw [if_pos h1, show ∀ P : Nat → Prop, [DecidablePred P] → (¬ P c → orb P (c + 1) = orb P c) from fun P _ h => if_neg h]
        exact fun z => z.1 h1
      · rw [if_neg h1]
        by_cases h2 : I 1 2 (180 + 4 * c) = -1
        · rw [if_pos h2, show ∀ P : Nat → Prop, [DecidablePred P] → (¬ P c → orb P (c + 1) = orb P c) from fun P _ h => if_neg h]
          exact fun z => z.2.1 h2
        · rw [if_neg h2]
          obtain ⟨p, hp, ep⟩ := (q7 c hc).2.2.resolve_left h2
          have j2 : inb (nI (180 + 4 * p + 2)) 406 := inb_nI (by omega) (by decide)
          have d2 : (nI (180 + 4 * p + 2)).toNatClampNeg = 182 + 4 * p := by rw [nI_clamp (by omega)]; omega
          have esl : slOf (I 2 14) (I 1 2 (180 + 4 * c)) = I 1 2 (182 + 4 * p) := by rw [ep, slOf_c hK (by omega)]
          rw [ep]
          simp only [m194, bI_v, nI_add, eq_true j2, ↓reduceIte, d2, w0_12]
          by_cases h3 : I 1 2 (182 + 4 * p) = -1
          · rw [if_pos h3, show ∀ P : Nat → Prop, [DecidablePred P] → (P c → orb P (c + 1) = orb P c ||| sh1 c) from fun P _ h => if_pos h]
            exact ⟨h1, h2, by rw [esl]; exact h3⟩
          · rw [if_neg h3, show ∀ P : Nat → Prop, [DecidablePred P] → (¬ P c → orb P (c + 1) = orb P c) from fun P _ h => if_neg h]
            exact fun z => h3 (by rw [← esl]; exact z.2.2)
    · intro m
      try dsimp only
      rw [u289_9]; unfold b289_9
      rw [w0_12, q2, if_pos (nI_le (Nat.le_refl _) (by omega))]
