/-! QUESTIONS: counts, of, ofKey, orphans: the calls -/
theorem lit_ne {x : Int32} {k : Nat} {y : Int32} (e : y = nI k) (hk : k < 2 ^ 31) (h : ¬ x.toInt = (k : Int)) : ¬ x = y := fun z => h (by rw [z, e, i_nI hk])
theorem st166 : StpI InvC 166 301 1 := by
  intro as I F hl hI
  obtain ⟨x, rfl⟩ := len1 hl
  simp only [List.map_cons, List.map_nil]
  have hI' := hI
  obtain ⟨⟨nl, nc, nk, nx, np, na, ns, hR⟩, ⟨hn, hq, hn8, hq8, hh1, hh2, hh3, -⟩, -, hst, hrf⟩ := hI'
  obtain ⟨p1, p2, p3, p4, p5, -⟩ := hR.2.1
  obtain ⟨g1, g2, g3, g4⟩ := hR.2.2.1
  obtain ⟨t1, t2, t3, t4⟩ := hR.2.2.2.1
  have hK := hR.2.2.2.2.1
  obtain ⟨q1, q2, q3, q4, q5, q6, q7, q8, q9, q10, q11, q12⟩ := hR.2.2.2.2.1
  obtain ⟨v1, v2, v3, v4, v5, v6, v7, v8⟩ := hR.2.2.2.2.2.1
  obtain ⟨w1, w2, w3, w4⟩ := hR.2.2.2.2.2.2.1
  have hS := hR.2.2.2.2.2.2.2
  have n30 : ∀ a b : Int32, ¬ a = b → (a = b) = False := fun a b h => eq_false h
  by_cases hx : inb x 25
  · obtain ⟨c, hc, hc2, rfl, -⟩ := inb_get hx
    have hcs : c = 0 ∨ c = 1 ∨ c = 2 ∨ c = 3 ∨ c = 4 ∨ c = 5 ∨ c = 6 ∨ c = 7 ∨ c = 8 ∨ c = 9 ∨ c = 10 ∨ c = 11 ∨ c = 12 ∨ c = 13 ∨ c = 14 ∨ c = 15 ∨ c = 16 ∨ c = 17 ∨ c = 18 ∨ c = 19 ∨ c = 20 ∨ c = 21 ∨ c = 22 ∨ c = 23 ∨ c = 24 := by omega
    rcases hcs with rfl | rfl | rfl | rfl | rfl | rfl | rfl | rfl | rfl | rfl | rfl | rfl | rfl | rfl | rfl | rfl | rfl | rfl | rfl | rfl | rfl | rfl | rfl | rfl | rfl
    · refine qs_0 (x := I 2 1 2) hI ?_ ?_
      · rw [s166]; unfold b166
        rw [if_pos (show nI 0 < (12 : Int32) by decide), if_pos (show nI 0 < (18 : Int32) by decide)]
        show sg (sem zN 8) 1 zc166 (19999 + 1) 50 [vR (some (0, 0)), vI (nI 0)] I F = _
        rw [u166_50]; unfold b166_50
        rw [if_pos (show nI 0 = (0 : Int32) by decide)]
      · rw [s301]; unfold b301
        dsimp only
        rw [if_neg (show ¬ nI 0 = (6 : Int32) by decide), if_neg (show ¬ nI 0 = (7 : Int32) by decide), if_neg (show ¬ nI 0 = (8 : Int32) by decide), if_neg (show ¬ nI 0 = (9 : Int32) by decide), if_neg (show ¬ nI 0 = (10 : Int32) by decide), if_neg (show ¬ nI 0 = (11 : Int32) by decide), if_neg (show ¬ nI 0 = (12 : Int32) by decide), if_neg (show ¬ nI 0 = (13 : Int32) by decide), if_neg (show ¬ nI 0 = (14 : Int32) by decide), if_neg (show ¬ nI 0 = (15 : Int32) by decide), if_neg (show ¬ nI 0 = (16 : Int32) by decide), if_neg (show ¬ nI 0 = (17 : Int32) by decide)]
        show sg (sem zN 8) 1 zc301 (19999 + 1) 123 [vR (some (1, 0)), vI (nI 0)] (wI I 1 0 0 0) F = _
        rw [u301_123]; unfold b301_123
        rw [m184g _ _ (l := 0) (h := 5) 0 5 (by decide) (by decide), bI_v, ite_bzif, if_pos (show 0 ≤ (nI 0).toInt ∧ (nI 0).toInt ≤ 5 by decide), if_pos (show inb ((8 : Int32) + nI 0) 406 by decide)]
        show some (vI (wI I 1 0 0 0 1 2 8), wI I 1 0 0 0, F) = _
        rw [w0_12, p1]
    · refine qs_0 (x := I 2 1 3) hI ?_ ?_
      · rw [s166]; unfold b166
        rw [if_pos (show nI 1 < (12 : Int32) by decide), if_pos (show nI 1 < (18 : Int32) by decide)]
        show sg (sem zN 8) 1 zc166 (19999 + 1) 50 [vR (some (0, 0)), vI (nI 1)] I F = _
        rw [u166_50]; unfold b166_50
        rw [if_neg (show ¬ nI 1 = (0 : Int32) by decide), if_pos (show nI 1 = (1 : Int32) by decide)]
      · rw [s301]; unfold b301
        dsimp only
        rw [if_neg (show ¬ nI 1 = (6 : Int32) by decide), if_neg (show ¬ nI 1 = (7 : Int32) by decide), if_neg (show ¬ nI 1 = (8 : Int32) by decide), if_neg (show ¬ nI 1 = (9 : Int32) by decide), if_neg (show ¬ nI 1 = (10 : Int32) by decide), if_neg (show ¬ nI 1 = (11 : Int32) by decide), if_neg (show ¬ nI 1 = (12 : Int32) by decide), if_neg (show ¬ nI 1 = (13 : Int32) by decide), if_neg (show ¬ nI 1 = (14 : Int32) by decide), if_neg (show ¬ nI 1 = (15 : Int32) by decide), if_neg (show ¬ nI 1 = (16 : Int32) by decide), if_neg (show ¬ nI 1 = (17 : Int32) by decide)]
        show sg (sem zN 8) 1 zc301 (19999 + 1) 123 [vR (some (1, 0)), vI (nI 1)] (wI I 1 0 0 0) F = _
        rw [u301_123]; unfold b301_123
        rw [m184g _ _ (l := 0) (h := 5) 0 5 (by decide) (by decide), bI_v, ite_bzif, if_pos (show 0 ≤ (nI 1).toInt ∧ (nI 1).toInt ≤ 5 by decide), if_pos (show inb ((8 : Int32) + nI 1) 406 by decide)]
        show some (vI (wI I 1 0 0 0 1 2 9), wI I 1 0 0 0, F) = _
        rw [w0_12, p2]
    · refine qs_0 (x := I 2 1 4) hI ?_ ?_
      · rw [s166]; unfold b166
        rw [if_pos (show nI 2 < (12 : Int32) by decide), if_pos (show nI 2 < (18 : Int32) by decide)]
        show sg (sem zN 8) 1 zc166 (19999 + 1) 50 [vR (some (0, 0)), vI (nI 2)] I F = _
        rw [u166_50]; unfold b166_50
        rw [if_neg (show ¬ nI 2 = (0 : Int32) by decide), if_neg (show ¬ nI 2 = (1 : Int32) by decide), if_pos (show nI 2 = (2 : Int32) by decide)]
      · rw [s301]; unfold b301
        dsimp only
        rw [if_neg (show ¬ nI 2 = (6 : Int32) by decide), if_neg (show ¬ nI 2 = (7 : Int32) by decide), if_neg (show ¬ nI 2 = (8 : Int32) by decide), if_neg (show ¬ nI 2 = (9 : Int32) by decide), if_neg (show ¬ nI 2 = (10 : Int32) by decide), if_neg (show ¬ nI 2 = (11 : Int32) by decide), if_neg (show ¬ nI 2 = (12 : Int32) by decide), if_neg (show ¬ nI 2 = (13 : Int32) by decide), if_neg (show ¬ nI 2 = (14 : Int32) by decide), if_neg (show ¬ nI 2 = (15 : Int32) by decide), if_neg (show ¬ nI 2 = (16 : Int32) by decide), if_neg (show ¬ nI 2 = (17 : Int32) by decide)]
        show sg (sem zN 8) 1 zc301 (19999 + 1) 123 [vR (some (1, 0)), vI (nI 2)] (wI I 1 0 0 0) F = _
        rw [u301_123]; unfold b301_123
        rw [m184g _ _ (l := 0) (h := 5) 0 5 (by decide) (by decide), bI_v, ite_bzif, if_pos (show 0 ≤ (nI 2).toInt ∧ (nI 2).toInt ≤ 5 by decide), if_pos (show inb ((8 : Int32) + nI 2) 406 by decide)]
        show some (vI (wI I 1 0 0 0 1 2 10), wI I 1 0 0 0, F) = _
        rw [w0_12, p3]
    · refine qs_0 (x := I 2 4 2) hI ?_ ?_
      · rw [s166]; unfold b166
        rw [if_pos (show nI 3 < (12 : Int32) by decide), if_pos (show nI 3 < (18 : Int32) by decide)]
        show sg (sem zN 8) 1 zc166 (19999 + 1) 50 [vR (some (0, 0)), vI (nI 3)] I F = _
        rw [u166_50]; unfold b166_50
        rw [if_neg (show ¬ nI 3 = (0 : Int32) by decide), if_neg (show ¬ nI 3 = (1 : Int32) by decide), if_neg (show ¬ nI 3 = (2 : Int32) by decide), if_pos (show nI 3 = (3 : Int32) by decide)]
      · rw [s301]; unfold b301
        dsimp only
        rw [if_neg (show ¬ nI 3 = (6 : Int32) by decide), if_neg (show ¬ nI 3 = (7 : Int32) by decide), if_neg (show ¬ nI 3 = (8 : Int32) by decide), if_neg (show ¬ nI 3 = (9 : Int32) by decide), if_neg (show ¬ nI 3 = (10 : Int32) by decide), if_neg (show ¬ nI 3 = (11 : Int32) by decide), if_neg (show ¬ nI 3 = (12 : Int32) by decide), if_neg (show ¬ nI 3 = (13 : Int32) by decide), if_neg (show ¬ nI 3 = (14 : Int32) by decide), if_neg (show ¬ nI 3 = (15 : Int32) by decide), if_neg (show ¬ nI 3 = (16 : Int32) by decide), if_neg (show ¬ nI 3 = (17 : Int32) by decide)]
        show sg (sem zN 8) 1 zc301 (19999 + 1) 123 [vR (some (1, 0)), vI (nI 3)] (wI I 1 0 0 0) F = _
        rw [u301_123]; unfold b301_123
        rw [m184g _ _ (l := 0) (h := 5) 0 5 (by decide) (by decide), bI_v, ite_bzif, if_pos (show 0 ≤ (nI 3).toInt ∧ (nI 3).toInt ≤ 5 by decide), if_pos (show inb ((8 : Int32) + nI 3) 406 by decide)]
        show some (vI (wI I 1 0 0 0 1 2 11), wI I 1 0 0 0, F) = _
        rw [w0_12, g2, g1]
    · refine qs_0 (x := I 2 7 2) hI ?_ ?_
      · rw [s166]; unfold b166
        rw [if_pos (show nI 4 < (12 : Int32) by decide), if_pos (show nI 4 < (18 : Int32) by decide)]
        show sg (sem zN 8) 1 zc166 (19999 + 1) 50 [vR (some (0, 0)), vI (nI 4)] I F = _
        rw [u166_50]; unfold b166_50
        rw [if_neg (show ¬ nI 4 = (0 : Int32) by decide), if_neg (show ¬ nI 4 = (1 : Int32) by decide), if_neg (show ¬ nI 4 = (2 : Int32) by decide), if_neg (show ¬ nI 4 = (3 : Int32) by decide), if_pos (show nI 4 = (4 : Int32) by decide)]
      · rw [s301]; unfold b301
        dsimp only
        rw [if_neg (show ¬ nI 4 = (6 : Int32) by decide), if_neg (show ¬ nI 4 = (7 : Int32) by decide), if_neg (show ¬ nI 4 = (8 : Int32) by decide), if_neg (show ¬ nI 4 = (9 : Int32) by decide), if_neg (show ¬ nI 4 = (10 : Int32) by decide), if_neg (show ¬ nI 4 = (11 : Int32) by decide), if_neg (show ¬ nI 4 = (12 : Int32) by decide), if_neg (show ¬ nI 4 = (13 : Int32) by decide), if_neg (show ¬ nI 4 = (14 : Int32) by decide), if_neg (show ¬ nI 4 = (15 : Int32) by decide), if_neg (show ¬ nI 4 = (16 : Int32) by decide), if_neg (show ¬ nI 4 = (17 : Int32) by decide)]
        show sg (sem zN 8) 1 zc301 (19999 + 1) 123 [vR (some (1, 0)), vI (nI 4)] (wI I 1 0 0 0) F = _
        rw [u301_123]; unfold b301_123
        rw [m184g _ _ (l := 0) (h := 5) 0 5 (by decide) (by decide), bI_v, ite_bzif, if_pos (show 0 ≤ (nI 4).toInt ∧ (nI 4).toInt ≤ 5 by decide), if_pos (show inb ((8 : Int32) + nI 4) 406 by decide)]
        show some (vI (wI I 1 0 0 0 1 2 12), wI I 1 0 0 0, F) = _
        rw [w0_12, t2, t1]
    · refine qs_0 (x := I 2 10 3) hI ?_ ?_
      · rw [s166]; unfold b166
        rw [if_pos (show nI 5 < (12 : Int32) by decide), if_pos (show nI 5 < (18 : Int32) by decide)]
        show sg (sem zN 8) 1 zc166 (19999 + 1) 50 [vR (some (0, 0)), vI (nI 5)] I F = _
        rw [u166_50]; unfold b166_50
        rw [if_neg (show ¬ nI 5 = (0 : Int32) by decide), if_neg (show ¬ nI 5 = (1 : Int32) by decide), if_neg (show ¬ nI 5 = (2 : Int32) by decide), if_neg (show ¬ nI 5 = (3 : Int32) by decide), if_neg (show ¬ nI 5 = (4 : Int32) by decide), if_pos (show nI 5 = (5 : Int32) by decide)]
      · rw [s301]; unfold b301
        dsimp only
        rw [if_neg (show ¬ nI 5 = (6 : Int32) by decide), if_neg (show ¬ nI 5 = (7 : Int32) by decide), if_neg (show ¬ nI 5 = (8 : Int32) by decide), if_neg (show ¬ nI 5 = (9 : Int32) by decide), if_neg (show ¬ nI 5 = (10 : Int32) by decide), if_neg (show ¬ nI 5 = (11 : Int32) by decide), if_neg (show ¬ nI 5 = (12 : Int32) by decide), if_neg (show ¬ nI 5 = (13 : Int32) by decide), if_neg (show ¬ nI 5 = (14 : Int32) by decide), if_neg (show ¬ nI 5 = (15 : Int32) by decide), if_neg (show ¬ nI 5 = (16 : Int32) by decide), if_neg (show ¬ nI 5 = (17 : Int32) by decide)]
        show sg (sem zN 8) 1 zc301 (19999 + 1) 123 [vR (some (1, 0)), vI (nI 5)] (wI I 1 0 0 0) F = _
        rw [u301_123]; unfold b301_123
        rw [m184g _ _ (l := 0) (h := 5) 0 5 (by decide) (by decide), bI_v, ite_bzif, if_pos (show 0 ≤ (nI 5).toInt ∧ (nI 5).toInt ≤ 5 by decide), if_pos (show inb ((8 : Int32) + nI 5) 406 by decide)]
        show some (vI (wI I 1 0 0 0 1 2 13), wI I 1 0 0 0, F) = _
        rw [w0_12, q2, q1]
    · refine qs_0 (x := orb (fun k => ¬ I 2 14 k = -1) 3) hI ?_ ?_
      · rw [s166]; unfold b166
        rw [if_pos (show nI 6 < (12 : Int32) by decide), if_pos (show nI 6 < (18 : Int32) by decide)]
        show sg (sem zN 8) 1 zc166 (19999 + 1) 50 [vR (some (0, 0)), vI (nI 6)] I F = _
        rw [u166_50]; unfold b166_50
        rw [if_neg (show ¬ nI 6 = (0 : Int32) by decide), if_neg (show ¬ nI 6 = (1 : Int32) by decide), if_neg (show ¬ nI 6 = (2 : Int32) by decide), if_neg (show ¬ nI 6 = (3 : Int32) by decide), if_neg (show ¬ nI 6 = (4 : Int32) by decide), if_neg (show ¬ nI 6 = (5 : Int32) by decide), if_pos (show nI 6 = (6 : Int32) by decide), m59 (by omega) (by decide), bI_v]
      · rw [s301]; unfold b301
        dsimp only
        rw [if_pos (show nI 6 = (6 : Int32) by decide), m299 (d := 5) (n := nk) (by decide) (by rw [w0_12, q2]) q3, bI_v, show wI I 1 0 0 0 1 2 = I 1 2 from funext (fun k => by rw [w0_12])]
        refine congrArg (fun v => some (vI v, wI I 1 0 0 0, F)) (orb_congr (fun i hi => ?_))
        rw [kIn_c hK, if_pos (inb_nI hi (by decide)), nI_clamp (by omega)]
    · refine qs_0 (x := I 2 10 9) hI ?_ ?_
      · rw [s166]; unfold b166
        rw [if_pos (show nI 7 < (12 : Int32) by decide), if_pos (show nI 7 < (18 : Int32) by decide)]
        show sg (sem zN 8) 1 zc166 (19999 + 1) 50 [vR (some (0, 0)), vI (nI 7)] I F = _
        rw [u166_50]; unfold b166_50
        rw [if_neg (show ¬ nI 7 = (0 : Int32) by decide), if_neg (show ¬ nI 7 = (1 : Int32) by decide), if_neg (show ¬ nI 7 = (2 : Int32) by decide), if_neg (show ¬ nI 7 = (3 : Int32) by decide), if_neg (show ¬ nI 7 = (4 : Int32) by decide), if_neg (show ¬ nI 7 = (5 : Int32) by decide), if_neg (show ¬ nI 7 = (6 : Int32) by decide), if_pos (show nI 7 = (7 : Int32) by decide)]
      · rw [s301]; unfold b301
        dsimp only
        rw [if_neg (show ¬ nI 7 = (6 : Int32) by decide), if_pos (show nI 7 = (7 : Int32) by decide), w0_12, q5, q4]
    · refine qs_0 (x := I 2 19 5) hI ?_ ?_
      · rw [s166]; unfold b166
        rw [if_pos (show nI 8 < (12 : Int32) by decide), if_pos (show nI 8 < (18 : Int32) by decide)]
        show sg (sem zN 8) 1 zc166 (19999 + 1) 50 [vR (some (0, 0)), vI (nI 8)] I F = _
        rw [u166_50]; unfold b166_50
        rw [if_neg (show ¬ nI 8 = (0 : Int32) by decide), if_neg (show ¬ nI 8 = (1 : Int32) by decide), if_neg (show ¬ nI 8 = (2 : Int32) by decide), if_neg (show ¬ nI 8 = (3 : Int32) by decide), if_neg (show ¬ nI 8 = (4 : Int32) by decide), if_neg (show ¬ nI 8 = (5 : Int32) by decide), if_neg (show ¬ nI 8 = (6 : Int32) by decide), if_neg (show ¬ nI 8 = (7 : Int32) by decide), if_pos (show nI 8 = (8 : Int32) by decide)]
      · rw [s301]; unfold b301
        dsimp only
        rw [if_neg (show ¬ nI 8 = (6 : Int32) by decide), if_neg (show ¬ nI 8 = (7 : Int32) by decide), if_pos (show nI 8 = (8 : Int32) by decide), w0_12, v2, v1]
    · refine qs_0 (x := I 2 27 3) hI ?_ ?_
      · rw [s166]; unfold b166
        rw [if_pos (show nI 9 < (12 : Int32) by decide), if_pos (show nI 9 < (18 : Int32) by decide)]
        show sg (sem zN 8) 1 zc166 (19999 + 1) 50 [vR (some (0, 0)), vI (nI 9)] I F = _
        rw [u166_50]; unfold b166_50
        rw [if_neg (show ¬ nI 9 = (0 : Int32) by decide), if_neg (show ¬ nI 9 = (1 : Int32) by decide), if_neg (show ¬ nI 9 = (2 : Int32) by decide), if_neg (show ¬ nI 9 = (3 : Int32) by decide), if_neg (show ¬ nI 9 = (4 : Int32) by decide), if_neg (show ¬ nI 9 = (5 : Int32) by decide), if_neg (show ¬ nI 9 = (6 : Int32) by decide), if_neg (show ¬ nI 9 = (7 : Int32) by decide), if_neg (show ¬ nI 9 = (8 : Int32) by decide), if_pos (show nI 9 = (9 : Int32) by decide)]
      · rw [s301]; unfold b301
        dsimp only
        rw [if_neg (show ¬ nI 9 = (6 : Int32) by decide), if_neg (show ¬ nI 9 = (7 : Int32) by decide), if_neg (show ¬ nI 9 = (8 : Int32) by decide), if_pos (show nI 9 = (9 : Int32) by decide), w0_12, w2, w1]
    · refine qs_0 (x := orb (fun i => ¬ I 2 32 i = -1) 4) hI ?_ ?_
      · rw [s166]; unfold b166
        rw [if_pos (show nI 10 < (12 : Int32) by decide), if_pos (show nI 10 < (18 : Int32) by decide)]
        show sg (sem zN 8) 1 zc166 (19999 + 1) 50 [vR (some (0, 0)), vI (nI 10)] I F = _
        rw [u166_50]; unfold b166_50
        rw [if_neg (show ¬ nI 10 = (0 : Int32) by decide), if_neg (show ¬ nI 10 = (1 : Int32) by decide), if_neg (show ¬ nI 10 = (2 : Int32) by decide), if_neg (show ¬ nI 10 = (3 : Int32) by decide), if_neg (show ¬ nI 10 = (4 : Int32) by decide), if_neg (show ¬ nI 10 = (5 : Int32) by decide), if_neg (show ¬ nI 10 = (6 : Int32) by decide), if_neg (show ¬ nI 10 = (7 : Int32) by decide), if_neg (show ¬ nI 10 = (8 : Int32) by decide), if_neg (show ¬ nI 10 = (9 : Int32) by decide), if_pos (show nI 10 = (10 : Int32) by decide), m105 (by omega) (by decide), bI_v]
      · rw [s301]; unfold b301
        dsimp only
        rw [if_neg (show ¬ nI 10 = (6 : Int32) by decide), if_neg (show ¬ nI 10 = (7 : Int32) by decide), if_neg (show ¬ nI 10 = (8 : Int32) by decide), if_neg (show ¬ nI 10 = (9 : Int32) by decide), if_pos (show nI 10 = (10 : Int32) by decide), m300 (d := 5) (by decide), bI_v]
        refine congrArg (fun v => some (vI v, wI I 1 0 0 0, F)) (orb_congr (fun i hi => ?_))
        rw [w0_12, open_s hS q3 hi]
    · refine qs_0 (x := I 2 31 3) hI ?_ ?_
      · rw [s166]; unfold b166
        rw [if_pos (show nI 11 < (12 : Int32) by decide), if_pos (show nI 11 < (18 : Int32) by decide)]
        show sg (sem zN 8) 1 zc166 (19999 + 1) 50 [vR (some (0, 0)), vI (nI 11)] I F = _
        rw [u166_50]; unfold b166_50
        rw [if_neg (show ¬ nI 11 = (0 : Int32) by decide), if_neg (show ¬ nI 11 = (1 : Int32) by decide), if_neg (show ¬ nI 11 = (2 : Int32) by decide), if_neg (show ¬ nI 11 = (3 : Int32) by decide), if_neg (show ¬ nI 11 = (4 : Int32) by decide), if_neg (show ¬ nI 11 = (5 : Int32) by decide), if_neg (show ¬ nI 11 = (6 : Int32) by decide), if_neg (show ¬ nI 11 = (7 : Int32) by decide), if_neg (show ¬ nI 11 = (8 : Int32) by decide), if_neg (show ¬ nI 11 = (9 : Int32) by decide), if_neg (show ¬ nI 11 = (10 : Int32) by decide), if_pos (show nI 11 = (11 : Int32) by decide)]
      · rw [s301]; unfold b301
        dsimp only
        rw [if_neg (show ¬ nI 11 = (6 : Int32) by decide), if_neg (show ¬ nI 11 = (7 : Int32) by decide), if_neg (show ¬ nI 11 = (8 : Int32) by decide), if_neg (show ¬ nI 11 = (9 : Int32) by decide), if_neg (show ¬ nI 11 = (10 : Int32) by decide), if_pos (show nI 11 = (11 : Int32) by decide), w0_12, hS.1]
    · refine qs_0 (x := I 2 3 0) hI ?_ ?_
      · rw [s166]; unfold b166
        rw [if_neg (show ¬ nI 12 < (12 : Int32) by decide), if_neg (show ¬ (16 : Int32) ≤ nI 12 by decide), if_pos (show inb (nI 12 - (12 : Int32)) 4 by decide)]
        rfl
      · rw [s301]; unfold b301
        dsimp only
        rw [if_neg (show ¬ nI 12 = (6 : Int32) by decide), if_neg (show ¬ nI 12 = (7 : Int32) by decide), if_neg (show ¬ nI 12 = (8 : Int32) by decide), if_neg (show ¬ nI 12 = (9 : Int32) by decide), if_neg (show ¬ nI 12 = (10 : Int32) by decide), if_neg (show ¬ nI 12 = (11 : Int32) by decide), if_pos (show nI 12 = (12 : Int32) by decide)]
        show sg (sem zN 8) 1 zc301 (19999 + 1) 123 [vR (some (1, 0)), vI (nI 12)] (wI I 1 0 0 0) F = _
        rw [u301_123]; unfold b301_123
        rw [m184g _ _ (l := 0) (h := 5) 0 5 (by decide) (by decide), bI_v, ite_bzif, if_neg (show ¬ (0 ≤ (nI 12).toInt ∧ (nI 12).toInt ≤ 5) by decide), m184g _ _ (l := 12) (h := 15) 12 15 (by decide) (by decide), bI_v, ite_bzif, if_pos (show 12 ≤ (nI 12).toInt ∧ (nI 12).toInt ≤ 15 by decide), if_pos (show inb (((386 : Int32) + nI 12) - (12 : Int32)) 406 by decide)]
        show some (vI (wI I 1 0 0 0 1 2 386), wI I 1 0 0 0, F) = _
        rw [w0_12, (p5 0 (by omega)).1]
    · refine qs_0 (x := I 2 3 1) hI ?_ ?_
      · rw [s166]; unfold b166
        rw [if_neg (show ¬ nI 13 < (12 : Int32) by decide), if_neg (show ¬ (16 : Int32) ≤ nI 13 by decide), if_pos (show inb (nI 13 - (12 : Int32)) 4 by decide)]
        rfl
      · rw [s301]; unfold b301
        dsimp only
        rw [if_neg (show ¬ nI 13 = (6 : Int32) by decide), if_neg (show ¬ nI 13 = (7 : Int32) by decide), if_neg (show ¬ nI 13 = (8 : Int32) by decide), if_neg (show ¬ nI 13 = (9 : Int32) by decide), if_neg (show ¬ nI 13 = (10 : Int32) by decide), if_neg (show ¬ nI 13 = (11 : Int32) by decide), if_neg (show ¬ nI 13 = (12 : Int32) by decide), if_pos (show nI 13 = (13 : Int32) by decide)]
        show sg (sem zN 8) 1 zc301 (19999 + 1) 123 [vR (some (1, 0)), vI (nI 13)] (wI I 1 0 0 0) F = _
        rw [u301_123]; unfold b301_123
        rw [m184g _ _ (l := 0) (h := 5) 0 5 (by decide) (by decide), bI_v, ite_bzif, if_neg (show ¬ (0 ≤ (nI 13).toInt ∧ (nI 13).toInt ≤ 5) by decide), m184g _ _ (l := 12) (h := 15) 12 15 (by decide) (by decide), bI_v, ite_bzif, if_pos (show 12 ≤ (nI 13).toInt ∧ (nI 13).toInt ≤ 15 by decide), if_pos (show inb (((386 : Int32) + nI 13) - (12 : Int32)) 406 by decide)]
        show some (vI (wI I 1 0 0 0 1 2 387), wI I 1 0 0 0, F) = _
        rw [w0_12, (p5 1 (by omega)).1]
    · refine qs_0 (x := I 2 3 2) hI ?_ ?_
      · rw [s166]; unfold b166
        rw [if_neg (show ¬ nI 14 < (12 : Int32) by decide), if_neg (show ¬ (16 : Int32) ≤ nI 14 by decide), if_pos (show inb (nI 14 - (12 : Int32)) 4 by decide)]
        rfl
      · rw [s301]; unfold b301
        dsimp only
        rw [if_neg (show ¬ nI 14 = (6 : Int32) by decide), if_neg (show ¬ nI 14 = (7 : Int32) by decide), if_neg (show ¬ nI 14 = (8 : Int32) by decide), if_neg (show ¬ nI 14 = (9 : Int32) by decide), if_neg (show ¬ nI 14 = (10 : Int32) by decide), if_neg (show ¬ nI 14 = (11 : Int32) by decide), if_neg (show ¬ nI 14 = (12 : Int32) by decide), if_neg (show ¬ nI 14 = (13 : Int32) by decide), if_pos (show nI 14 = (14 : Int32) by decide)]
        show sg (sem zN 8) 1 zc301 (19999 + 1) 123 [vR (some (1, 0)), vI (nI 14)] (wI I 1 0 0 0) F = _
        rw [u301_123]; unfold b301_123
        rw [m184g _ _ (l := 0) (h := 5) 0 5 (by decide) (by decide), bI_v, ite_bzif, if_neg (show ¬ (0 ≤ (nI 14).toInt ∧ (nI 14).toInt ≤ 5) by decide), m184g _ _ (l := 12) (h := 15) 12 15 (by decide) (by decide), bI_v, ite_bzif, if_pos (show 12 ≤ (nI 14).toInt ∧ (nI 14).toInt ≤ 15 by decide), if_pos (show inb (((386 : Int32) + nI 14) - (12 : Int32)) 406 by decide)]
        show some (vI (wI I 1 0 0 0 1 2 388), wI I 1 0 0 0, F) = _
        rw [w0_12, (p5 2 (by omega)).1]
    · refine qs_0 (x := I 2 3 3) hI ?_ ?_
      · rw [s166]; unfold b166
        rw [if_neg (show ¬ nI 15 < (12 : Int32) by decide), if_neg (show ¬ (16 : Int32) ≤ nI 15 by decide), if_pos (show inb (nI 15 - (12 : Int32)) 4 by decide)]
        rfl
      · rw [s301]; unfold b301
        dsimp only
        rw [if_neg (show ¬ nI 15 = (6 : Int32) by decide), if_neg (show ¬ nI 15 = (7 : Int32) by decide), if_neg (show ¬ nI 15 = (8 : Int32) by decide), if_neg (show ¬ nI 15 = (9 : Int32) by decide), if_neg (show ¬ nI 15 = (10 : Int32) by decide), if_neg (show ¬ nI 15 = (11 : Int32) by decide), if_neg (show ¬ nI 15 = (12 : Int32) by decide), if_neg (show ¬ nI 15 = (13 : Int32) by decide), if_neg (show ¬ nI 15 = (14 : Int32) by decide), if_pos (show nI 15 = (15 : Int32) by decide)]
        show sg (sem zN 8) 1 zc301 (19999 + 1) 123 [vR (some (1, 0)), vI (nI 15)] (wI I 1 0 0 0) F = _
        rw [u301_123]; unfold b301_123
        rw [m184g _ _ (l := 0) (h := 5) 0 5 (by decide) (by decide), bI_v, ite_bzif, if_neg (show ¬ (0 ≤ (nI 15).toInt ∧ (nI 15).toInt ≤ 5) by decide), m184g _ _ (l := 12) (h := 15) 12 15 (by decide) (by decide), bI_v, ite_bzif, if_pos (show 12 ≤ (nI 15).toInt ∧ (nI 15).toInt ≤ 15 by decide), if_pos (show inb (((386 : Int32) + nI 15) - (12 : Int32)) 406 by decide)]
        show some (vI (wI I 1 0 0 0 1 2 389), wI I 1 0 0 0, F) = _
        rw [w0_12, (p5 3 (by omega)).1]
    · refine qs_0 (x := I 2 19 8) hI ?_ ?_
      · rw [s166]; unfold b166
        rw [if_neg (show ¬ nI 16 < (12 : Int32) by decide), if_pos (show (16 : Int32) ≤ nI 16 by decide), if_pos (show nI 16 < (18 : Int32) by decide)]
        show sg (sem zN 8) 1 zc166 (19999 + 1) 50 [vR (some (0, 0)), vI (nI 16)] I F = _
        rw [u166_50]; unfold b166_50
        rw [if_neg (show ¬ nI 16 = (0 : Int32) by decide), if_neg (show ¬ nI 16 = (1 : Int32) by decide), if_neg (show ¬ nI 16 = (2 : Int32) by decide), if_neg (show ¬ nI 16 = (3 : Int32) by decide), if_neg (show ¬ nI 16 = (4 : Int32) by decide), if_neg (show ¬ nI 16 = (5 : Int32) by decide), if_neg (show ¬ nI 16 = (6 : Int32) by decide), if_neg (show ¬ nI 16 = (7 : Int32) by decide), if_neg (show ¬ nI 16 = (8 : Int32) by decide), if_neg (show ¬ nI 16 = (9 : Int32) by decide), if_neg (show ¬ nI 16 = (10 : Int32) by decide), if_neg (show ¬ nI 16 = (11 : Int32) by decide), if_neg (show ¬ nI 16 = (12 : Int32) by decide), if_neg (show ¬ nI 16 = (13 : Int32) by decide), if_neg (show ¬ nI 16 = (14 : Int32) by decide), if_neg (show ¬ nI 16 = (15 : Int32) by decide), if_pos (show nI 16 = (16 : Int32) by decide)]
      · rw [s301]; unfold b301
        dsimp only
        rw [if_neg (show ¬ nI 16 = (6 : Int32) by decide), if_neg (show ¬ nI 16 = (7 : Int32) by decide), if_neg (show ¬ nI 16 = (8 : Int32) by decide), if_neg (show ¬ nI 16 = (9 : Int32) by decide), if_neg (show ¬ nI 16 = (10 : Int32) by decide), if_neg (show ¬ nI 16 = (11 : Int32) by decide), if_neg (show ¬ nI 16 = (12 : Int32) by decide), if_neg (show ¬ nI 16 = (13 : Int32) by decide), if_neg (show ¬ nI 16 = (14 : Int32) by decide), if_neg (show ¬ nI 16 = (15 : Int32) by decide), if_pos (show nI 16 = (16 : Int32) by decide), w0_12, v6, v5]
    · refine qs_0 (x := I 0 12 3) hI ?_ ?_
      · rw [s166]; unfold b166
        rw [if_neg (show ¬ nI 17 < (12 : Int32) by decide), if_pos (show (16 : Int32) ≤ nI 17 by decide), if_pos (show nI 17 < (18 : Int32) by decide)]
        show sg (sem zN 8) 1 zc166 (19999 + 1) 50 [vR (some (0, 0)), vI (nI 17)] I F = _
        rw [u166_50]; unfold b166_50
        rw [if_neg (show ¬ nI 17 = (0 : Int32) by decide), if_neg (show ¬ nI 17 = (1 : Int32) by decide), if_neg (show ¬ nI 17 = (2 : Int32) by decide), if_neg (show ¬ nI 17 = (3 : Int32) by decide), if_neg (show ¬ nI 17 = (4 : Int32) by decide), if_neg (show ¬ nI 17 = (5 : Int32) by decide), if_neg (show ¬ nI 17 = (6 : Int32) by decide), if_neg (show ¬ nI 17 = (7 : Int32) by decide), if_neg (show ¬ nI 17 = (8 : Int32) by decide), if_neg (show ¬ nI 17 = (9 : Int32) by decide), if_neg (show ¬ nI 17 = (10 : Int32) by decide), if_neg (show ¬ nI 17 = (11 : Int32) by decide), if_neg (show ¬ nI 17 = (12 : Int32) by decide), if_neg (show ¬ nI 17 = (13 : Int32) by decide), if_neg (show ¬ nI 17 = (14 : Int32) by decide), if_neg (show ¬ nI 17 = (15 : Int32) by decide), if_neg (show ¬ nI 17 = (16 : Int32) by decide), if_pos (show nI 17 = (17 : Int32) by decide)]
      · rw [s301]; unfold b301
        dsimp only
        rw [if_neg (show ¬ nI 17 = (6 : Int32) by decide), if_neg (show ¬ nI 17 = (7 : Int32) by decide), if_neg (show ¬ nI 17 = (8 : Int32) by decide), if_neg (show ¬ nI 17 = (9 : Int32) by decide), if_neg (show ¬ nI 17 = (10 : Int32) by decide), if_neg (show ¬ nI 17 = (11 : Int32) by decide), if_neg (show ¬ nI 17 = (12 : Int32) by decide), if_neg (show ¬ nI 17 = (13 : Int32) by decide), if_neg (show ¬ nI 17 = (14 : Int32) by decide), if_neg (show ¬ nI 17 = (15 : Int32) by decide), if_neg (show ¬ nI 17 = (16 : Int32) by decide), if_pos (show nI 17 = (17 : Int32) by decide), wI_eq, if_neg (fun z => by omega), hh1, hh2]
    · refine qs_0 (x := I 0 17 0) hI ?_ ?_
      · rw [s166]; unfold b166
        rw [if_neg (show ¬ nI 18 < (12 : Int32) by decide), if_pos (show (16 : Int32) ≤ nI 18 by decide), if_neg (show ¬ nI 18 < (18 : Int32) by decide), if_neg (show ¬ (25 : Int32) ≤ nI 18 by decide), if_pos (show inb (nI 18 - (18 : Int32)) 7 by decide)]
        rfl
      · rw [s301]; unfold b301
        dsimp only
        rw [if_neg (show ¬ nI 18 = (6 : Int32) by decide), if_neg (show ¬ nI 18 = (7 : Int32) by decide), if_neg (show ¬ nI 18 = (8 : Int32) by decide), if_neg (show ¬ nI 18 = (9 : Int32) by decide), if_neg (show ¬ nI 18 = (10 : Int32) by decide), if_neg (show ¬ nI 18 = (11 : Int32) by decide), if_neg (show ¬ nI 18 = (12 : Int32) by decide), if_neg (show ¬ nI 18 = (13 : Int32) by decide), if_neg (show ¬ nI 18 = (14 : Int32) by decide), if_neg (show ¬ nI 18 = (15 : Int32) by decide), if_neg (show ¬ nI 18 = (16 : Int32) by decide), if_neg (show ¬ nI 18 = (17 : Int32) by decide)]
        show sg (sem zN 8) 1 zc301 (19999 + 1) 123 [vR (some (1, 0)), vI (nI 18)] (wI I 1 0 0 0) F = _
        rw [u301_123]; unfold b301_123
        rw [m184g _ _ (l := 0) (h := 5) 0 5 (by decide) (by decide), bI_v, ite_bzif, if_neg (show ¬ (0 ≤ (nI 18).toInt ∧ (nI 18).toInt ≤ 5) by decide), m184g _ _ (l := 12) (h := 15) 12 15 (by decide) (by decide), bI_v, ite_bzif, if_neg (show ¬ (12 ≤ (nI 18).toInt ∧ (nI 18).toInt ≤ 15) by decide), m184g _ _ (l := 18) (h := 24) 18 24 (by decide) (by decide), bI_v, ite_bzif, if_pos (show 18 ≤ (nI 18).toInt ∧ (nI 18).toInt ≤ 24 by decide), if_pos (show inb (nI 18 - (17 : Int32)) 8 by decide)]
        show some (vI (wI I 1 0 0 0 1 1 1), wI I 1 0 0 0, F) = _
        rw [wI_eq, if_neg (fun z => by omega), hrf 0 (by omega)]
    · refine qs_0 (x := I 0 17 1) hI ?_ ?_
      · rw [s166]; unfold b166
        rw [if_neg (show ¬ nI 19 < (12 : Int32) by decide), if_pos (show (16 : Int32) ≤ nI 19 by decide), if_neg (show ¬ nI 19 < (18 : Int32) by decide), if_neg (show ¬ (25 : Int32) ≤ nI 19 by decide), if_pos (show inb (nI 19 - (18 : Int32)) 7 by decide)]
        rfl
      · rw [s301]; unfold b301
        dsimp only
        rw [if_neg (show ¬ nI 19 = (6 : Int32) by decide), if_neg (show ¬ nI 19 = (7 : Int32) by decide), if_neg (show ¬ nI 19 = (8 : Int32) by decide), if_neg (show ¬ nI 19 = (9 : Int32) by decide), if_neg (show ¬ nI 19 = (10 : Int32) by decide), if_neg (show ¬ nI 19 = (11 : Int32) by decide), if_neg (show ¬ nI 19 = (12 : Int32) by decide), if_neg (show ¬ nI 19 = (13 : Int32) by decide), if_neg (show ¬ nI 19 = (14 : Int32) by decide), if_neg (show ¬ nI 19 = (15 : Int32) by decide), if_neg (show ¬ nI 19 = (16 : Int32) by decide), if_neg (show ¬ nI 19 = (17 : Int32) by decide)]
        show sg (sem zN 8) 1 zc301 (19999 + 1) 123 [vR (some (1, 0)), vI (nI 19)] (wI I 1 0 0 0) F = _
        rw [u301_123]; unfold b301_123
        rw [m184g _ _ (l := 0) (h := 5) 0 5 (by decide) (by decide), bI_v, ite_bzif, if_neg (show ¬ (0 ≤ (nI 19).toInt ∧ (nI 19).toInt ≤ 5) by decide), m184g _ _ (l := 12) (h := 15) 12 15 (by decide) (by decide), bI_v, ite_bzif, if_neg (show ¬ (12 ≤ (nI 19).toInt ∧ (nI 19).toInt ≤ 15) by decide), m184g _ _ (l := 18) (h := 24) 18 24 (by decide) (by decide), bI_v, ite_bzif, if_pos (show 18 ≤ (nI 19).toInt ∧ (nI 19).toInt ≤ 24 by decide), if_pos (show inb (nI 19 - (17 : Int32)) 8 by decide)]
        show some (vI (wI I 1 0 0 0 1 1 2), wI I 1 0 0 0, F) = _
        rw [wI_eq, if_neg (fun z => by omega), hrf 1 (by omega)]
    · refine qs_0 (x := I 0 17 2) hI ?_ ?_
      · rw [s166]; unfold b166
        rw [if_neg (show ¬ nI 20 < (12 : Int32) by decide), if_pos (show (16 : Int32) ≤ nI 20 by decide), if_neg (show ¬ nI 20 < (18 : Int32) by decide), if_neg (show ¬ (25 : Int32) ≤ nI 20 by decide), if_pos (show inb (nI 20 - (18 : Int32)) 7 by decide)]
        rfl
      · rw [s301]; unfold b301
        dsimp only
        rw [if_neg (show ¬ nI 20 = (6 : Int32) by decide), if_neg (show ¬ nI 20 = (7 : Int32) by decide), if_neg (show ¬ nI 20 = (8 : Int32) by decide), if_neg (show ¬ nI 20 = (9 : Int32) by decide), if_neg (show ¬ nI 20 = (10 : Int32) by decide), if_neg (show ¬ nI 20 = (11 : Int32) by decide), if_neg (show ¬ nI 20 = (12 : Int32) by decide), if_neg (show ¬ nI 20 = (13 : Int32) by decide), if_neg (show ¬ nI 20 = (14 : Int32) by decide), if_neg (show ¬ nI 20 = (15 : Int32) by decide), if_neg (show ¬ nI 20 = (16 : Int32) by decide), if_neg (show ¬ nI 20 = (17 : Int32) by decide)]
        show sg (sem zN 8) 1 zc301 (19999 + 1) 123 [vR (some (1, 0)), vI (nI 20)] (wI I 1 0 0 0) F = _
        rw [u301_123]; unfold b301_123
        rw [m184g _ _ (l := 0) (h := 5) 0 5 (by decide) (by decide), bI_v, ite_bzif, if_neg (show ¬ (0 ≤ (nI 20).toInt ∧ (nI 20).toInt ≤ 5) by decide), m184g _ _ (l := 12) (h := 15) 12 15 (by decide) (by decide), bI_v, ite_bzif, if_neg (show ¬ (12 ≤ (nI 20).toInt ∧ (nI 20).toInt ≤ 15) by decide), m184g _ _ (l := 18) (h := 24) 18 24 (by decide) (by decide), bI_v, ite_bzif, if_pos (show 18 ≤ (nI 20).toInt ∧ (nI 20).toInt ≤ 24 by decide), if_pos (show inb (nI 20 - (17 : Int32)) 8 by decide)]
        show some (vI (wI I 1 0 0 0 1 1 3), wI I 1 0 0 0, F) = _
        rw [wI_eq, if_neg (fun z => by omega), hrf 2 (by omega)]
    · refine qs_0 (x := I 0 17 3) hI ?_ ?_
      · rw [s166]; unfold b166
        rw [if_neg (show ¬ nI 21 < (12 : Int32) by decide), if_pos (show (16 : Int32) ≤ nI 21 by decide), if_neg (show ¬ nI 21 < (18 : Int32) by decide), if_neg (show ¬ (25 : Int32) ≤ nI 21 by decide), if_pos (show inb (nI 21 - (18 : Int32)) 7 by decide)]
        rfl
      · rw [s301]; unfold b301
        dsimp only
        rw [if_neg (show ¬ nI 21 = (6 : Int32) by decide), if_neg (show ¬ nI 21 = (7 : Int32) by decide), if_neg (show ¬ nI 21 = (8 : Int32) by decide), if_neg (show ¬ nI 21 = (9 : Int32) by decide), if_neg (show ¬ nI 21 = (10 : Int32) by decide), if_neg (show ¬ nI 21 = (11 : Int32) by decide), if_neg (show ¬ nI 21 = (12 : Int32) by decide), if_neg (show ¬ nI 21 = (13 : Int32) by decide), if_neg (show ¬ nI 21 = (14 : Int32) by decide), if_neg (show ¬ nI 21 = (15 : Int32) by decide), if_neg (show ¬ nI 21 = (16 : Int32) by decide), if_neg (show ¬ nI 21 = (17 : Int32) by decide)]
        show sg (sem zN 8) 1 zc301 (19999 + 1) 123 [vR (some (1, 0)), vI (nI 21)] (wI I 1 0 0 0) F = _
        rw [u301_123]; unfold b301_123
        rw [m184g _ _ (l := 0) (h := 5) 0 5 (by decide) (by decide), bI_v, ite_bzif, if_neg (show ¬ (0 ≤ (nI 21).toInt ∧ (nI 21).toInt ≤ 5) by decide), m184g _ _ (l := 12) (h := 15) 12 15 (by decide) (by decide), bI_v, ite_bzif, if_neg (show ¬ (12 ≤ (nI 21).toInt ∧ (nI 21).toInt ≤ 15) by decide), m184g _ _ (l := 18) (h := 24) 18 24 (by decide) (by decide), bI_v, ite_bzif, if_pos (show 18 ≤ (nI 21).toInt ∧ (nI 21).toInt ≤ 24 by decide), if_pos (show inb (nI 21 - (17 : Int32)) 8 by decide)]
        show some (vI (wI I 1 0 0 0 1 1 4), wI I 1 0 0 0, F) = _
        rw [wI_eq, if_neg (fun z => by omega), hrf 3 (by omega)]
    · refine qs_0 (x := I 0 17 4) hI ?_ ?_
      · rw [s166]; unfold b166
        rw [if_neg (show ¬ nI 22 < (12 : Int32) by decide), if_pos (show (16 : Int32) ≤ nI 22 by decide), if_neg (show ¬ nI 22 < (18 : Int32) by decide), if_neg (show ¬ (25 : Int32) ≤ nI 22 by decide), if_pos (show inb (nI 22 - (18 : Int32)) 7 by decide)]
        rfl
      · rw [s301]; unfold b301
        dsimp only
        rw [if_neg (show ¬ nI 22 = (6 : Int32) by decide), if_neg (show ¬ nI 22 = (7 : Int32) by decide), if_neg (show ¬ nI 22 = (8 : Int32) by decide), if_neg (show ¬ nI 22 = (9 : Int32) by decide), if_neg (show ¬ nI 22 = (10 : Int32) by decide), if_neg (show ¬ nI 22 = (11 : Int32) by decide), if_neg (show ¬ nI 22 = (12 : Int32) by decide), if_neg (show ¬ nI 22 = (13 : Int32) by decide), if_neg (show ¬ nI 22 = (14 : Int32) by decide), if_neg (show ¬ nI 22 = (15 : Int32) by decide), if_neg (show ¬ nI 22 = (16 : Int32) by decide), if_neg (show ¬ nI 22 = (17 : Int32) by decide)]
        show sg (sem zN 8) 1 zc301 (19999 + 1) 123 [vR (some (1, 0)), vI (nI 22)] (wI I 1 0 0 0) F = _
        rw [u301_123]; unfold b301_123
        rw [m184g _ _ (l := 0) (h := 5) 0 5 (by decide) (by decide), bI_v, ite_bzif, if_neg (show ¬ (0 ≤ (nI 22).toInt ∧ (nI 22).toInt ≤ 5) by decide), m184g _ _ (l := 12) (h := 15) 12 15 (by decide) (by decide), bI_v, ite_bzif, if_neg (show ¬ (12 ≤ (nI 22).toInt ∧ (nI 22).toInt ≤ 15) by decide), m184g _ _ (l := 18) (h := 24) 18 24 (by decide) (by decide), bI_v, ite_bzif, if_pos (show 18 ≤ (nI 22).toInt ∧ (nI 22).toInt ≤ 24 by decide), if_pos (show inb (nI 22 - (17 : Int32)) 8 by decide)]
        show some (vI (wI I 1 0 0 0 1 1 5), wI I 1 0 0 0, F) = _
        rw [wI_eq, if_neg (fun z => by omega), hrf 4 (by omega)]
    · refine qs_0 (x := I 0 17 5) hI ?_ ?_
      · rw [s166]; unfold b166
        rw [if_neg (show ¬ nI 23 < (12 : Int32) by decide), if_pos (show (16 : Int32) ≤ nI 23 by decide), if_neg (show ¬ nI 23 < (18 : Int32) by decide), if_neg (show ¬ (25 : Int32) ≤ nI 23 by decide), if_pos (show inb (nI 23 - (18 : Int32)) 7 by decide)]
        rfl
      · rw [s301]; unfold b301
        dsimp only
        rw [if_neg (show ¬ nI 23 = (6 : Int32) by decide), if_neg (show ¬ nI 23 = (7 : Int32) by decide), if_neg (show ¬ nI 23 = (8 : Int32) by decide), if_neg (show ¬ nI 23 = (9 : Int32) by decide), if_neg (show ¬ nI 23 = (10 : Int32) by decide), if_neg (show ¬ nI 23 = (11 : Int32) by decide), if_neg (show ¬ nI 23 = (12 : Int32) by decide), if_neg (show ¬ nI 23 = (13 : Int32) by decide), if_neg (show ¬ nI 23 = (14 : Int32) by decide), if_neg (show ¬ nI 23 = (15 : Int32) by decide), if_neg (show ¬ nI 23 = (16 : Int32) by decide), if_neg (show ¬ nI 23 = (17 : Int32) by decide)]
        show sg (sem zN 8) 1 zc301 (19999 + 1) 123 [vR (some (1, 0)), vI (nI 23)] (wI I 1 0 0 0) F = _
        rw [u301_123]; unfold b301_123
        rw [m184g _ _ (l := 0) (h := 5) 0 5 (by decide) (by decide), bI_v, ite_bzif, if_neg (show ¬ (0 ≤ (nI 23).toInt ∧ (nI 23).toInt ≤ 5) by decide), m184g _ _ (l := 12) (h := 15) 12 15 (by decide) (by decide), bI_v, ite_bzif, if_neg (show ¬ (12 ≤ (nI 23).toInt ∧ (nI 23).toInt ≤ 15) by decide), m184g _ _ (l := 18) (h := 24) 18 24 (by decide) (by decide), bI_v, ite_bzif, if_pos (show 18 ≤ (nI 23).toInt ∧ (nI 23).toInt ≤ 24 by decide), if_pos (show inb (nI 23 - (17 : Int32)) 8 by decide)]
        show some (vI (wI I 1 0 0 0 1 1 6), wI I 1 0 0 0, F) = _
        rw [wI_eq, if_neg (fun z => by omega), hrf 5 (by omega)]
    · refine qs_0 (x := I 0 17 6) hI ?_ ?_
      · rw [s166]; unfold b166
        rw [if_neg (show ¬ nI 24 < (12 : Int32) by decide), if_pos (show (16 : Int32) ≤ nI 24 by decide), if_neg (show ¬ nI 24 < (18 : Int32) by decide), if_neg (show ¬ (25 : Int32) ≤ nI 24 by decide), if_pos (show inb (nI 24 - (18 : Int32)) 7 by decide)]
        rfl
      · rw [s301]; unfold b301
        dsimp only
        rw [if_neg (show ¬ nI 24 = (6 : Int32) by decide), if_neg (show ¬ nI 24 = (7 : Int32) by decide), if_neg (show ¬ nI 24 = (8 : Int32) by decide), if_neg (show ¬ nI 24 = (9 : Int32) by decide), if_neg (show ¬ nI 24 = (10 : Int32) by decide), if_neg (show ¬ nI 24 = (11 : Int32) by decide), if_neg (show ¬ nI 24 = (12 : Int32) by decide), if_neg (show ¬ nI 24 = (13 : Int32) by decide), if_neg (show ¬ nI 24 = (14 : Int32) by decide), if_neg (show ¬ nI 24 = (15 : Int32) by decide), if_neg (show ¬ nI 24 = (16 : Int32) by decide), if_neg (show ¬ nI 24 = (17 : Int32) by decide)]
        show sg (sem zN 8) 1 zc301 (19999 + 1) 123 [vR (some (1, 0)), vI (nI 24)] (wI I 1 0 0 0) F = _
        rw [u301_123]; unfold b301_123
        rw [m184g _ _ (l := 0) (h := 5) 0 5 (by decide) (by decide), bI_v, ite_bzif, if_neg (show ¬ (0 ≤ (nI 24).toInt ∧ (nI 24).toInt ≤ 5) by decide), m184g _ _ (l := 12) (h := 15) 12 15 (by decide) (by decide), bI_v, ite_bzif, if_neg (show ¬ (12 ≤ (nI 24).toInt ∧ (nI 24).toInt ≤ 15) by decide), m184g _ _ (l := 18) (h := 24) 18 24 (by decide) (by decide), bI_v, ite_bzif, if_pos (show 18 ≤ (nI 24).toInt ∧ (nI 24).toInt ≤ 24 by decide), if_pos (show inb (nI 24 - (17 : Int32)) 8 by decide)]
        show some (vI (wI I 1 0 0 0 1 1 7), wI I 1 0 0 0, F) = _
        rw [wI_eq, if_neg (fun z => by omega), hrf 6 (by omega)]
  · have hne : ∀ k : Nat, k < 25 → ¬ x.toInt = (k : Int) := fun k hk z => hx (by rw [inb_iff]; omega)
    refine qs_0 (x := -1) hI ?_ ?_
    · have h50 : sg (sem zN 8) 1 zc166 (19999 + 1) 50 [vR (some (0, 0)), vI x] I F = some (vI (-1), I, F) := by
        rw [u166_50]; unfold b166_50
        rw [if_neg (lit_ne (y := (0 : Int32)) (k := 0) rfl (by decide) (hne 0 (by omega))), if_neg (lit_ne (y := (1 : Int32)) (k := 1) rfl (by decide) (hne 1 (by omega))), if_neg (lit_ne (y := (2 : Int32)) (k := 2) rfl (by decide) (hne 2 (by omega))), if_neg (lit_ne (y := (3 : Int32)) (k := 3) rfl (by decide) (hne 3 (by omega))), if_neg (lit_ne (y := (4 : Int32)) (k := 4) rfl (by decide) (hne 4 (by omega))), if_neg (lit_ne (y := (5 : Int32)) (k := 5) rfl (by decide) (hne 5 (by omega))), if_neg (lit_ne (y := (6 : Int32)) (k := 6) rfl (by decide) (hne 6 (by omega))), if_neg (lit_ne (y := (7 : Int32)) (k := 7) rfl (by decide) (hne 7 (by omega))), if_neg (lit_ne (y := (8 : Int32)) (k := 8) rfl (by decide) (hne 8 (by omega))), if_neg (lit_ne (y := (9 : Int32)) (k := 9) rfl (by decide) (hne 9 (by omega))), if_neg (lit_ne (y := (10 : Int32)) (k := 10) rfl (by decide) (hne 10 (by omega))), if_neg (lit_ne (y := (11 : Int32)) (k := 11) rfl (by decide) (hne 11 (by omega))), if_neg (lit_ne (y := (12 : Int32)) (k := 12) rfl (by decide) (hne 12 (by omega))), if_neg (lit_ne (y := (13 : Int32)) (k := 13) rfl (by decide) (hne 13 (by omega))), if_neg (lit_ne (y := (14 : Int32)) (k := 14) rfl (by decide) (hne 14 (by omega))), if_neg (lit_ne (y := (15 : Int32)) (k := 15) rfl (by decide) (hne 15 (by omega))), if_neg (lit_ne (y := (16 : Int32)) (k := 16) rfl (by decide) (hne 16 (by omega))), if_neg (lit_ne (y := (17 : Int32)) (k := 17) rfl (by decide) (hne 17 (by omega)))]
      rw [s166]; unfold b166
      have hx2 : x.toInt < 0 ∨ 25 ≤ x.toInt := by rw [inb_iff] at hx; omega
      rcases hx2 with h | h
      · rw [if_pos (show x < (12 : Int32) by rw [i_lt, show (12 : Int32).toInt = 12 by decide]; omega), if_pos (show x < (18 : Int32) by rw [i_lt, show (18 : Int32).toInt = 18 by decide]; omega)]
        exact h50
      · rw [if_neg (show ¬ x < (12 : Int32) by rw [i_lt, show (12 : Int32).toInt = 12 by decide]; omega), if_pos (show (16 : Int32) ≤ x by rw [i_le, show (16 : Int32).toInt = 16 by decide]; omega), if_neg (show ¬ x < (18 : Int32) by rw [i_lt, show (18 : Int32).toInt = 18 by decide]; omega), if_pos (show (25 : Int32) ≤ x by rw [i_le, show (25 : Int32).toInt = 25 by decide]; omega)]
        exact h50
    · rw [s301]; unfold b301
      dsimp only
      rw [if_neg (lit_ne (y := (6 : Int32)) (k := 6) rfl (by decide) (hne 6 (by omega))), if_neg (lit_ne (y := (7 : Int32)) (k := 7) rfl (by decide) (hne 7 (by omega))), if_neg (lit_ne (y := (8 : Int32)) (k := 8) rfl (by decide) (hne 8 (by omega))), if_neg (lit_ne (y := (9 : Int32)) (k := 9) rfl (by decide) (hne 9 (by omega))), if_neg (lit_ne (y := (10 : Int32)) (k := 10) rfl (by decide) (hne 10 (by omega))), if_neg (lit_ne (y := (11 : Int32)) (k := 11) rfl (by decide) (hne 11 (by omega))), if_neg (lit_ne (y := (12 : Int32)) (k := 12) rfl (by decide) (hne 12 (by omega))), if_neg (lit_ne (y := (13 : Int32)) (k := 13) rfl (by decide) (hne 13 (by omega))), if_neg (lit_ne (y := (14 : Int32)) (k := 14) rfl (by decide) (hne 14 (by omega))), if_neg (lit_ne (y := (15 : Int32)) (k := 15) rfl (by decide) (hne 15 (by omega))), if_neg (lit_ne (y := (16 : Int32)) (k := 16) rfl (by decide) (hne 16 (by omega))), if_neg (lit_ne (y := (17 : Int32)) (k := 17) rfl (by decide) (hne 17 (by omega)))]
      show sg (sem zN 8) 1 zc301 (19999 + 1) 123 [vR (some (1, 0)), vI x] (wI I 1 0 0 0) F = _
      rw [u301_123]; unfold b301_123
      rw [inb_iff] at hx
      rw [m184g _ _ (l := 0) (h := 5) 0 5 (by decide) (by decide), bI_v, ite_bzif, if_neg (fun z => by omega), m184g _ _ (l := 12) (h := 15) 12 15 (by decide) (by decide), bI_v, ite_bzif, if_neg (fun z => by omega), m184g _ _ (l := 18) (h := 24) 18 24 (by decide) (by decide), bI_v, ite_bzif, if_neg (fun z => by omega)]
theorem st164 : StpI InvC 164 292 2 := by
  intro as I F hl hI
  obtain ⟨x, y, rfl⟩ := len2 hl
  simp only [List.map_cons, List.map_nil]
  have hI' := hI
  obtain ⟨⟨nl, nc, nk, nx, np, na, ns, hR⟩, ⟨hn, hq, hn8, hq8, hh1, hh2, hh3, -⟩, -, hst, hrf⟩ := hI'
  obtain ⟨p1, p2, p3, p4, p5, -⟩ := hR.2.1
  obtain ⟨g1, g2, g3, g4⟩ := hR.2.2.1
  obtain ⟨t1, t2, t3, t4⟩ := hR.2.2.2.1
  have hK := hR.2.2.2.2.1
  obtain ⟨q1, q2, q3, q4, q5, q6, q7, q8, q9, q10, q11, q12⟩ := hR.2.2.2.2.1
  obtain ⟨v1, v2, v3, v4, v5, v6, v7, v8⟩ := hR.2.2.2.2.2.1
  obtain ⟨w1, w2, w3, w4⟩ := hR.2.2.2.2.2.2.1
  have hS := hR.2.2.2.2.2.2.2
  have c48 := m48 (N := zN) (d := 7) (I := I) (F := F) (b := 2) (nk := nk) (by omega) x q1 q3
  have d199 := m199 (N := zN) (d := 6) (I := wI I 1 0 0 0) (F := F) (n := nk) x (by rw [w0_12, q2]) (by omega)
  by_cases hx : inb x nk
  · obtain ⟨k, hk, hk2, rfl, ek⟩ := inb_get hx
    have h10 : inb (nI k) 10 := inb_mono q3 hx
    have i0 : inb (nI (180 + 4 * k)) 406 := inb_nI (by omega) (by decide)
    have i2 : inb (nI (180 + 4 * k + 2)) 406 := inb_nI (by omega) (by decide)
    have i3 : inb (nI (180 + 4 * k + 3)) 406 := inb_nI (by omega) (by decide)
    by_cases hy : inb y 6
    · obtain ⟨c, hc, hc2, rfl, -⟩ := inb_get hy
      have hcs : c = 0 ∨ c = 1 ∨ c = 2 ∨ c = 3 ∨ c = 4 ∨ c = 5 := by omega
      rcases hcs with rfl | rfl | rfl | rfl | rfl | rfl
      · refine qs_0 (x := I 2 11 k) hI ?_ ?_
        · rw [s164]; unfold b164
          rw [c48, bI_v, ite_bzif, if_pos hx, if_pos (show nI 0 = (0 : Int32) by decide), if_pos h10, ek]
        · rw [s292]; unfold b292
          dsimp only
          rw [d199, bI_v, ite_bzif, if_pos hx, m194, bI_v, if_pos (show nI 0 = (0 : Int32) by decide), rz0, if_pos i0, nI_clamp (by omega), w0_12, (q7 k hk).1]
      · refine qs_0 (x := slOf (I 2 14) (nI k)) hI ?_ ?_
        · rw [s164]; unfold b164
          rw [c48, bI_v, ite_bzif, if_pos hx, if_neg (show ¬ nI 1 = (0 : Int32) by decide), if_pos (show nI 1 = (1 : Int32) by decide), m56 (by omega) (by decide), bI_v]
        · rw [s292]; unfold b292
          dsimp only
          rw [d199, bI_v, ite_bzif, if_pos hx, m194, bI_v, if_neg (show ¬ nI 1 = (0 : Int32) by decide), if_pos (show nI 1 = (1 : Int32) by decide), L2, nI_add, if_pos i2, nI_clamp (by omega), w0_12, slOf_c hK hk, show 180 + 4 * k + 2 = 182 + 4 * k by omega]
      · refine qs_0 (x := I 2 13 k) hI ?_ ?_
        · rw [s164]; unfold b164
          rw [c48, bI_v, ite_bzif, if_pos hx, if_neg (show ¬ nI 2 = (0 : Int32) by decide), if_neg (show ¬ nI 2 = (1 : Int32) by decide), if_pos (show nI 2 = (2 : Int32) by decide), if_pos h10, ek]
        · rw [s292]; unfold b292
          dsimp only
          rw [d199, bI_v, ite_bzif, if_pos hx, m194, bI_v, if_neg (show ¬ nI 2 = (0 : Int32) by decide), if_neg (show ¬ nI 2 = (1 : Int32) by decide), if_pos (show nI 2 = (2 : Int32) by decide), L3, nI_add, if_pos i3, nI_clamp (by omega), w0_12, show 180 + 4 * k + 3 = 183 + 4 * k by omega]
          rcases q11 k hk with ⟨z1, z2⟩ | ⟨z1, z2, c, z3, z4, -⟩
          · rw [if_pos z2, z1]
          · rw [if_neg (fun w => by rw [z4] at w; exact nI_ne1 (by omega) w), z1]
      · refine qs_0 (x := nI (cnt (fun i => I 2 25 i = nI k) na)) hI ?_ ?_
        · rw [s164]; unfold b164
          rw [c48, bI_v, ite_bzif, if_pos hx, if_neg (show ¬ nI 3 = (0 : Int32) by decide), if_neg (show ¬ nI 3 = (1 : Int32) by decide), if_neg (show ¬ nI 3 = (2 : Int32) by decide), if_pos (show nI 3 = (3 : Int32) by decide), m88 (n := na) (by omega) (by decide) (nI k) v5 v7, bI_v]
        · rw [s292]; unfold b292
          dsimp only
          rw [d199, bI_v, ite_bzif, if_pos hx, m194, bI_v, if_neg (show ¬ nI 3 = (0 : Int32) by decide), if_neg (show ¬ nI 3 = (1 : Int32) by decide), if_neg (show ¬ nI 3 = (2 : Int32) by decide), if_pos (show nI 3 = (3 : Int32) by decide), m252 (n := na) (by decide) (nI k) (by rw [w0_12, v6]) v7, bI_v]
          refine congrArg (fun v => some (vI (nI v), wI I 1 0 0 0, F)) (cnt_congr (fun i hi => ?_))
          rw [w0_12, (v8 i hi).1]
      · refine qs_0 (x := nI (0 + hv (I 2 11) 10 (I 2 11 k))) hI ?_ ?_
        · have h54 := m54 (N := zN) (d := 5) (I := I) (F := F) (b := 2) (nk := nk) (by omega) (nI k) q1 q3
          rw [if_pos hx, ek] at h54
          have l := l63 (N := zN) (d := 5) (I := I) (F := F) (b := 2) (nk := nk) (by omega) q1 q3 (fun p hp => by rw [(q7 p hp).1]; exact (q7 p hp).2.2) 10 0 zN (I 2 11 k) (by
            rw [(q7 k hk).1]
            rcases (q7 k hk).2.2 with z | ⟨p, z1, z2⟩
            · exact Or.inl z
            · exact Or.inr ⟨p, by omega, by omega, z2⟩) (by omega) (by decide)
          have hs := s63 zN 7 0 (nI k) I F
          simp only [Nat.zero_add] at hs
          rw [s164]; unfold b164
          rw [c48, bI_v, ite_bzif, if_pos hx, if_neg (show ¬ nI 4 = (0 : Int32) by decide), if_neg (show ¬ nI 4 = (1 : Int32) by decide), if_neg (show ¬ nI 4 = (2 : Int32) by decide), if_neg (show ¬ nI 4 = (3 : Int32) by decide), if_pos (show nI 4 = (4 : Int32) by decide), hs]
          unfold b63
          rw [h54, bI_v]
          rw [show sg (sem zN 7) 1 zc63 zN 8 [vR (some (2, 10)), vI 0, vI (I 2 11 k)] I F = some (vI (nI (0 + hv (I 2 11) 10 (I 2 11 k))), I, F) from l, bI_v]
        · have l := l290 (N := zN) (d := 6) (I := wI I 1 0 0 0) (F := F) (nk := nk) q3 (fun p hp => by rw [w0_12]; exact (q7 p hp).2.2) 10 0 zN (I 2 11 k) (by
            rw [(q7 k hk).1]
            rcases (q7 k hk).2.2 with z | ⟨p, z1, z2⟩
            · exact Or.inl z
            · exact Or.inr ⟨p, by omega, by omega, z2⟩) (by decide)
          rw [s292]; unfold b292
          dsimp only
          rw [d199, bI_v, ite_bzif, if_pos hx, m194, bI_v, if_neg (show ¬ nI 4 = (0 : Int32) by decide), if_neg (show ¬ nI 4 = (1 : Int32) by decide), if_neg (show ¬ nI 4 = (2 : Int32) by decide), if_neg (show ¬ nI 4 = (3 : Int32) by decide), if_pos (show nI 4 = (4 : Int32) by decide), s290]
          unfold b290
          rw [m194, bI_v, rz0, if_pos i0, nI_clamp (by omega), w0_12, ← (q7 k hk).1]
          rw [show sg (sem zN 7) 1 zc290 zN 14 [vR (some (1, 0)), vI 0, vI (I 2 11 k)] (wI I 1 0 0 0) F = _ from l, bI_v]
          rw [hv_c (nk := nk) (g := I 2 11) (fun p hp => by rw [w0_12, (q7 p hp).1]) (fun p hp => by rw [w0_12]; exact (q7 p hp).2.2) q3]
          rw [(q7 k hk).1]
          rcases (q7 k hk).2.2 with z | ⟨p, z1, z2⟩
          · exact Or.inl z
          · exact Or.inr ⟨p, by omega, z2⟩
      · refine qs_0 (x := orb (fun i => I 2 29 i = nI k) ns) hI ?_ ?_
        · rw [s164]; unfold b164
          rw [c48, bI_v, ite_bzif, if_pos hx, if_neg (show ¬ nI 5 = (0 : Int32) by decide), if_neg (show ¬ nI 5 = (1 : Int32) by decide), if_neg (show ¬ nI 5 = (2 : Int32) by decide), if_neg (show ¬ nI 5 = (3 : Int32) by decide), if_neg (show ¬ nI 5 = (4 : Int32) by decide), if_pos (show nI 5 = (5 : Int32) by decide), m100 (n := ns) (by omega) (by decide) (nI k) w1 w3, bI_v]
        · rw [s292]; unfold b292
          dsimp only
          rw [d199, bI_v, ite_bzif, if_pos hx, m194, bI_v, if_neg (show ¬ nI 5 = (0 : Int32) by decide), if_neg (show ¬ nI 5 = (1 : Int32) by decide), if_neg (show ¬ nI 5 = (2 : Int32) by decide), if_neg (show ¬ nI 5 = (3 : Int32) by decide), if_neg (show ¬ nI 5 = (4 : Int32) by decide), if_pos (show nI 5 = (5 : Int32) by decide), m291 (n := ns) (by decide) (nI k) (by rw [w0_12, w2]) w3, bI_v]
          refine congrArg (fun v => some (vI v, wI I 1 0 0 0, F)) (orb_congr (fun i hi => ?_))
          rw [w0_12, (w4 i hi).2.1]
    · have hne : ∀ k : Nat, k < 6 → ¬ y.toInt = (k : Int) := fun k hk z => hy (by rw [inb_iff]; omega)
      refine qs_0 (x := -1) hI ?_ ?_
      · rw [s164]; unfold b164
        rw [c48, bI_v, ite_bzif, if_pos hx, if_neg (lit_ne (y := (0 : Int32)) (k := 0) rfl (by decide) (hne 0 (by omega))), if_neg (lit_ne (y := (1 : Int32)) (k := 1) rfl (by decide) (hne 1 (by omega))), if_neg (lit_ne (y := (2 : Int32)) (k := 2) rfl (by decide) (hne 2 (by omega))), if_neg (lit_ne (y := (3 : Int32)) (k := 3) rfl (by decide) (hne 3 (by omega))), if_neg (lit_ne (y := (4 : Int32)) (k := 4) rfl (by decide) (hne 4 (by omega))), if_neg (lit_ne (y := (5 : Int32)) (k := 5) rfl (by decide) (hne 5 (by omega)))]
      · rw [s292]; unfold b292
        dsimp only
        rw [d199, bI_v, ite_bzif, if_pos hx, m194, bI_v, if_neg (lit_ne (y := (0 : Int32)) (k := 0) rfl (by decide) (hne 0 (by omega))), if_neg (lit_ne (y := (1 : Int32)) (k := 1) rfl (by decide) (hne 1 (by omega))), if_neg (lit_ne (y := (2 : Int32)) (k := 2) rfl (by decide) (hne 2 (by omega))), if_neg (lit_ne (y := (3 : Int32)) (k := 3) rfl (by decide) (hne 3 (by omega))), if_neg (lit_ne (y := (4 : Int32)) (k := 4) rfl (by decide) (hne 4 (by omega))), if_neg (lit_ne (y := (5 : Int32)) (k := 5) rfl (by decide) (hne 5 (by omega)))]
  · refine qs_0 (x := -1) hI ?_ ?_
    · rw [s164]; unfold b164
      rw [c48, bI_v, ite_bzif, if_neg hx]
    · rw [s292]; unfold b292
      dsimp only
      rw [d199, bI_v, ite_bzif, if_neg hx]
