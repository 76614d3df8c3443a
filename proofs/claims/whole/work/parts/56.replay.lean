/-! QUESTIONS ON LOGS: replay, wrong -/
theorem l_same {n : Nat} (h : n < 2 ^ 31) : ((nI n).toInt64).toInt = ((n + 1 : Nat) : Int) - 1 := by
  rw [Int32.toInt_toInt64, i_nI h]
  omega
theorem e236 {N d p n : Nat} {I : IM} {F : FM} (hN : 200 ≤ N) {m : Nat} (hm : 9 ≤ m) : sg (sem N (d + 2)) 1 zc236 m 32 [vR (some (1, 0)), vI 0, vI 0] (fl I 1 19 8 (rpT I p n)) F = some (vI (orb (fun r => ¬ rpT I p n r = I 1 2 r) 8), fl I 1 19 8 (rpT I p n), F) := by
  refine lp (S := fun m c => sg (sem N (d + 2)) 1 zc236 m 32 [vR (some (1, 0)), vI (orb (fun r => ¬ rpT I p n r = I 1 2 r) c), vI (nI c)] (fl I 1 19 8 (rpT I p n)) F) (m := 8) ?_ ?_ 8 0 m rfl (by omega)
  · intro m c hc
    try dsimp only
    rw [u236_32]; unfold b236_32
    have a19 : fl I 1 19 8 (rpT I p n) 1 19 c = rpT I p n c := by rw [fl_eq, if_pos ⟨rfl, rfl, hc⟩]
    have a2 : fl I 1 19 8 (rpT I p n) 1 2 c = I 1 2 c := by rw [fl_eq, if_neg (fun z => by omega)]
    rw [if_neg (show ¬ (8 : Int32) ≤ nI c from nI_ge hc (by decide)), if_pos (inb_nI hc (by decide)), if_pos (inb_nI (by omega) (by decide)), nI_clamp (by omega), or0, nI_1, a19, a2]
    by_cases h : rpT I p n c = I 1 2 c
    · rw [if_pos h, show orb (fun r => ¬ rpT I p n r = I 1 2 r) (c + 1) = orb (fun r => ¬ rpT I p n r = I 1 2 r) c from if_neg (fun z => z h)]
    · rw [if_neg h, show orb (fun r => ¬ rpT I p n r = I 1 2 r) (c + 1) = orb (fun r => ¬ rpT I p n r = I 1 2 r) c ||| sh1 c from if_pos h]
  · intro m
    try dsimp only
    rw [u236_32]; unfold b236_32
    rw [if_pos (show (8 : Int32) ≤ nI 8 from nI_le (Nat.le_refl _) (by decide))]
theorem m236a {N d n : Nat} {I : IM} {F : FM} (hN : 200 ≤ N) (hs : I 1 2 11 = nI n) (hn : n ≤ 40) (hr : ∀ i, i < n → ∃ r, r < 8 ∧ I 1 2 (20 + 2 * i) = nI r) : sem N (d + 3) 236 [vR (some (1, 0)), vI 0] I F = some (vI (orb (fun r => ¬ rpT I 20 n r = I 1 2 r) 8), fl I 1 19 8 (rpT I 20 n), F) := by
  have d258 : sem N (d + 2) 258 [vR (some (1, 0)), vI 20, vI (nI n), vI (-1), vI (-1), vI (-1), vI 0] I F = some (vI 0, fl I 1 19 8 (rpT I 20 n), F) := m258 (p := 20) hN hn (by omega) hr
  rw [s236]; unfold b236
  rw [if_pos rfl, if_pos (show inb ((11 : Int32) + 0) 406 by decide), show I 1 2 ((11 : Int32) + 0).toNatClampNeg = nI n from hs, d258, bV_v]
  exact e236 hN (by omega)
theorem m236b {N d n : Nat} {I : IM} {F : FM} (hN : 200 ≤ N) (hs : I 1 2 12 = nI n) (hn : n ≤ 40) (hr : ∀ i, i < n → ∃ r, r < 8 ∧ I 1 2 (100 + 2 * i) = nI r) : sem N (d + 3) 236 [vR (some (1, 0)), vI 1] I F = some (vI (orb (fun r => ¬ rpT I 100 n r = I 1 2 r) 8), fl I 1 19 8 (rpT I 100 n), F) := by
  have d258 : sem N (d + 2) 258 [vR (some (1, 0)), vI 100, vI (nI n), vI (-1), vI (-1), vI (-1), vI 0] I F = some (vI 0, fl I 1 19 8 (rpT I 100 n), F) := m258 (p := 100) hN hn (by omega) hr
  rw [s236]; unfold b236
  rw [if_neg (show ¬ (1 : Int32) = 0 by decide), if_pos (show inb ((11 : Int32) + 1) 406 by decide), show I 1 2 ((11 : Int32) + 1).toNatClampNeg = nI n from hs, d258, bV_v]
  exact e236 hN (by omega)
theorem sm19 {I : IM} {F : FM} (f : Nat → Int32) : smI I (fl (wI I 1 0 0 0) 1 19 8 f) F F := sm_fl f (sm_0 sm_rfl) (fun k => by unfold kpl; omega) (by omega) (by omega)
theorem st147 : StpI InvC 147 263 1 := by
  intro as I F hl hI
  obtain ⟨x, rfl⟩ := len1 hl
  simp only [List.map_cons, List.map_nil]
  obtain ⟨nl, nc, nk, nx, np, na, ns, hR⟩ := hI.1
  have p4 := hR.2.1.2.2.2.1
  have d184 := m184 (h := 1) (n := 2) zN 7 (x := x) (by decide) (wI I 1 0 0 0) F
  have n10 : ¬ ((1 : Int32) = 0) := by decide
  by_cases h0 : x = 0
  · subst h0
    obtain ⟨g1, g2, g3, g4⟩ := hR.2.2.1
    have hr : ∀ i, i < nl → ∃ r, r < 8 ∧ wI I 1 0 0 0 1 2 (20 + 2 * i) = nI r := fun i hi => by
      rw [w0_12]
      exact (g4 i hi).2.2
    refine qs_of (x := orb (fun r => ¬ rtl (I 2 5) (I 2 6) (nI r) (-1) (-1) nl = I 2 2 r) 8) hI (I1 := I) (F1 := F) ?_ (I2 := fl (wI I 1 0 0 0) 1 19 8 (rpT (wI I 1 0 0 0) 20 nl)) (F2 := F) ?_ sm_rfl (sm19 _)
    · rw [c147, if_pos rfl, u147a, m18 (n := nl) (by omega) (by omega) (Or.inl rfl) (by decide) g1 g3, bI_v]
    · rw [s263]; unfold b263
      dsimp only
      rw [d184, bI_v, ite_bzif, if_pos (by decide), m236a (n := nl) (by decide) (by rw [w0_12, g2]) g3 hr, bI_v]
      refine congrArg (fun v => some (vI v, fl (wI I 1 0 0 0) 1 19 8 (rpT (wI I 1 0 0 0) 20 nl), F)) (orb_congr (fun r hr8 => ?_))
      unfold rpT
      rw [rtl_c (rg' := I 2 5) (nm' := I 2 6) (fun i hi => ⟨by rw [w0_12, (g4 i hi).1], by rw [w0_12, (g4 i hi).2.1]⟩), w0_12, p4 r hr8]
  · by_cases h1 : x = 1
    · subst h1
      obtain ⟨g1, g2, g3, g4⟩ := hR.2.2.2.1
      have hr : ∀ i, i < nc → ∃ r, r < 8 ∧ wI I 1 0 0 0 1 2 (100 + 2 * i) = nI r := fun i hi => by
        rw [w0_12]
        exact (g4 i hi).2.2
      refine qs_of (x := orb (fun r => ¬ rtl (I 2 8) (I 2 9) (nI r) (-1) (-1) nc = I 2 2 r) 8) hI (I1 := I) (F1 := F) ?_ (I2 := fl (wI I 1 0 0 0) 1 19 8 (rpT (wI I 1 0 0 0) 100 nc)) (F2 := F) ?_ sm_rfl (sm19 _)
      · rw [c147, if_neg n10, if_pos rfl, u147b, m18 (n := nc) (by omega) (by omega) (Or.inr rfl) (by decide) g1 g3, bI_v]
      · rw [s263]; unfold b263
        dsimp only
        rw [d184, bI_v, ite_bzif, if_pos (by decide), m236b (n := nc) (by decide) (by rw [w0_12, g2]) g3 hr, bI_v]
        refine congrArg (fun v => some (vI v, fl (wI I 1 0 0 0) 1 19 8 (rpT (wI I 1 0 0 0) 100 nc), F)) (orb_congr (fun r hr8 => ?_))
        unfold rpT
        rw [rtl_c (rg' := I 2 8) (nm' := I 2 9) (fun i hi => ⟨by rw [w0_12, (g4 i hi).1], by rw [w0_12, (g4 i hi).2.1]⟩), w0_12, p4 r hr8]
    · refine qs_0 (x := -1) hI ?_ ?_
      · rw [c147, if_neg h0, if_neg h1, u147n]
      · rw [s263]; unfold b263
        dsimp only
        rw [d184, bI_v, ite_bzif, if_neg (nin2 h0 h1)]
theorem st145 : StpI InvC 145 261 3 := by
  intro as I F hl hI
  obtain ⟨x, y, z, rfl⟩ := len3 hl
  simp only [List.map_cons, List.map_nil]
  obtain ⟨nl, nc, nk, nx, np, na, ns, hR⟩ := hI.1
  have d184 := m184 (h := 1) (n := 2) zN 7 (x := x) (by decide) (wI I 1 0 0 0) F
  have n10 : ¬ ((1 : Int32) = 0) := by decide
  by_cases h0 : x = 0
  · subst h0
    obtain ⟨g1, g2, g3, g4⟩ := hR.2.2.1
    have d11 : wI I 1 0 0 0 1 2 ((11 : Int32) + 0).toNatClampNeg = nI nl := by
      show wI I 1 0 0 0 1 2 11 = nI nl
      rw [w0_12, g2]
    have d184y := m184 (n := nl + 1) zN 7 (x := y) (l_same (n := nl) (by omega)) (wI I 1 0 0 0) F
    by_cases hy : inb y (nl + 1)
    · by_cases hz : inb z 8
      · obtain ⟨c, hc, hc2, rfl, -⟩ := inb_get hy
        obtain ⟨r, hr8, hr2, rfl, er⟩ := inb_get hz
        have hr : ∀ i, i < c → ∃ r, r < 8 ∧ wI I 1 0 0 0 1 2 (20 + 2 * i) = nI r := fun i hi => by
          rw [w0_12]
          exact (g4 i (by omega)).2.2
        have d258 : sem zN 8 258 [vR (some (1, 0)), vI 20, vI (nI c), vI (-1), vI (-1), vI (-1), vI 0] (wI I 1 0 0 0) F = some (vI 0, fl (wI I 1 0 0 0) 1 19 8 (rpT (wI I 1 0 0 0) 20 c), F) := m258 (p := 20) (d := 6) (by decide) (by omega) (by omega) hr
        refine qs_of (x := rtl (I 2 5) (I 2 6) (nI r) (-1) (-1) c) hI (I1 := I) (F1 := F) ?_ (I2 := fl (wI I 1 0 0 0) 1 19 8 (rpT (wI I 1 0 0 0) 20 c)) (F2 := F) ?_ sm_rfl (sm19 _)
        · rw [c145, if_pos rfl, u145a, if_neg (nI_pos hc2), g1, if_neg (nI_nlt (by omega) (by omega)), m171, bI_v, ite_bzif, if_pos hz, m16 (n := c) (by omega) (Or.inl rfl) (by decide) (nI r) (-1) (-1) (by omega), bI_v]
        · rw [s261]; unfold b261
          dsimp only
          rw [d184, bI_v, ite_bzif, if_pos (by decide), if_pos (by decide), d11, d184y, bI_v, ite_bzif, if_pos hy, m203, bI_v, ite_bzif, if_pos hz, if_pos rfl, d258, bV_v, if_pos hz, er, fl_eq, if_pos ⟨rfl, rfl, hr8⟩]
          unfold rpT
          rw [rtl_c (rg' := I 2 5) (nm' := I 2 6) (fun i hi => ⟨by rw [w0_12, (g4 i (by omega)).1], by rw [w0_12, (g4 i (by omega)).2.1]⟩)]
      · refine qs_0 (x := 0) hI ?_ ?_
        · obtain ⟨c, hc, hc2, rfl, -⟩ := inb_get hy
          rw [c145, if_pos rfl, u145a, if_neg (nI_pos hc2), g1, if_neg (nI_nlt (by omega) (by omega)), m171, bI_v, ite_bzif, if_neg hz]
        · rw [s261]; unfold b261
          dsimp only
          rw [d184, bI_v, ite_bzif, if_pos (by decide), if_pos (by decide), d11, d184y, bI_v, ite_bzif, if_pos hy, m203, bI_v, ite_bzif, if_neg hz]
    · refine qs_0 (x := 0) hI ?_ ?_
      · rw [c145, if_pos rfl, u145a, g1]
        by_cases hn : y < 0
        · rw [if_pos hn]
        · rw [if_neg hn, if_pos ?_]
          rw [i_lt, i_nI (by omega)]
          rw [i_lt, i_0] at hn
          rw [inb_iff] at hy
          omega
      · rw [s261]; unfold b261
        dsimp only
        rw [d184, bI_v, ite_bzif, if_pos (by decide), if_pos (by decide), d11, d184y, bI_v, ite_bzif, if_neg hy]
  · by_cases h1 : x = 1
    · subst h1
      obtain ⟨g1, g2, g3, g4⟩ := hR.2.2.2.1
      have d11 : wI I 1 0 0 0 1 2 ((11 : Int32) + 1).toNatClampNeg = nI nc := by
        show wI I 1 0 0 0 1 2 12 = nI nc
        rw [w0_12, g2]
      have d184y := m184 (n := nc + 1) zN 7 (x := y) (l_same (n := nc) (by omega)) (wI I 1 0 0 0) F
      by_cases hy : inb y (nc + 1)
      · by_cases hz : inb z 8
        · obtain ⟨c, hc, hc2, rfl, -⟩ := inb_get hy
          obtain ⟨r, hr8, hr2, rfl, er⟩ := inb_get hz
          have hr : ∀ i, i < c → ∃ r, r < 8 ∧ wI I 1 0 0 0 1 2 (100 + 2 * i) = nI r := fun i hi => by
            rw [w0_12]
            exact (g4 i (by omega)).2.2
          have d258 : sem zN 8 258 [vR (some (1, 0)), vI 100, vI (nI c), vI (-1), vI (-1), vI (-1), vI 0] (wI I 1 0 0 0) F = some (vI 0, fl (wI I 1 0 0 0) 1 19 8 (rpT (wI I 1 0 0 0) 100 c), F) := m258 (p := 100) (d := 6) (by decide) (by omega) (by omega) hr
          refine qs_of (x := rtl (I 2 8) (I 2 9) (nI r) (-1) (-1) c) hI (I1 := I) (F1 := F) ?_ (I2 := fl (wI I 1 0 0 0) 1 19 8 (rpT (wI I 1 0 0 0) 100 c)) (F2 := F) ?_ sm_rfl (sm19 _)
          · rw [c145, if_neg n10, if_pos rfl, u145b, if_neg (nI_pos hc2), g1, if_neg (nI_nlt (by omega) (by omega)), m171, bI_v, ite_bzif, if_pos hz, m16 (n := c) (by omega) (Or.inr rfl) (by decide) (nI r) (-1) (-1) (by omega), bI_v]
          · rw [s261]; unfold b261
            dsimp only
            rw [d184, bI_v, ite_bzif, if_pos (by decide), if_pos (by decide), d11, d184y, bI_v, ite_bzif, if_pos hy, m203, bI_v, ite_bzif, if_pos hz, if_neg n10, d258, bV_v, if_pos hz, er, fl_eq, if_pos ⟨rfl, rfl, hr8⟩]
            unfold rpT
            rw [rtl_c (rg' := I 2 8) (nm' := I 2 9) (fun i hi => ⟨by rw [w0_12, (g4 i (by omega)).1], by rw [w0_12, (g4 i (by omega)).2.1]⟩)]
        · refine qs_0 (x := 0) hI ?_ ?_
          · obtain ⟨c, hc, hc2, rfl, -⟩ := inb_get hy
            rw [c145, if_neg n10, if_pos rfl, u145b, if_neg (nI_pos hc2), g1, if_neg (nI_nlt (by omega) (by omega)), m171, bI_v, ite_bzif, if_neg hz]
          · rw [s261]; unfold b261
            dsimp only
            rw [d184, bI_v, ite_bzif, if_pos (by decide), if_pos (by decide), d11, d184y, bI_v, ite_bzif, if_pos hy, m203, bI_v, ite_bzif, if_neg hz]
      · refine qs_0 (x := 0) hI ?_ ?_
        · rw [c145, if_neg n10, if_pos rfl, u145b, g1]
          by_cases hn : y < 0
          · rw [if_pos hn]
          · rw [if_neg hn, if_pos ?_]
            rw [i_lt, i_nI (by omega)]
            rw [i_lt, i_0] at hn
            rw [inb_iff] at hy
            omega
        · rw [s261]; unfold b261
          dsimp only
          rw [d184, bI_v, ite_bzif, if_pos (by decide), if_pos (by decide), d11, d184y, bI_v, ite_bzif, if_neg hy]
    · refine qs_0 (x := 0) hI ?_ ?_
      · rw [c145, if_neg h0, if_neg h1, u145n]
      · rw [s261]; unfold b261
        dsimp only
        rw [d184, bI_v, ite_bzif, if_neg (nin2 h0 h1)]
