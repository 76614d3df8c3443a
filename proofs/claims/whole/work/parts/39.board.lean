/-! BOARD AND LOGS: locality, measure, extend, reset, claim, claimAs, forge -/
def pC (J : IM) (G : FM) (C : IM) (FC : FM) : Prop := (∀ b o k, b ≠ 2 → ¬ scC b o → C b o k = J b o k) ∧ ∀ b o k, b ≠ 2 → b ≠ 3 → FC b o k = G b o k
theorem pC_rfl {J : IM} {G : FM} : pC J G J G := ⟨fun _ _ _ _ _ => rfl, fun _ _ _ _ _ => rfl⟩
theorem pC_w {J C : IM} {G FC : FM} {o k : Nat} {x : Int32} (h : pC J G C FC) : pC J G (wI C 2 o k x) FC := ⟨fun b o' k' z1 z2 => by rw [wI_eq, if_neg (fun z => z1 z.1), h.1 b o' k' z1 z2], h.2⟩
theorem pC_fl {J C : IM} {G FC : FM} {o n : Nat} {f : Nat → Int32} (h : pC J G C FC) : pC J G (fl C 2 o n f) FC := ⟨fun b o' k' z1 z2 => by rw [fl_eq, if_neg (fun z => z1 z.1), h.1 b o' k' z1 z2], h.2⟩
theorem pC_cI {J C : IM} {G FC : FM} {o so n : Nat} (h : pC J G C FC) : pC J G (cI C 2 o 2 so 0 0 n) FC := ⟨fun b o' k' z1 z2 => by rw [cI_eq, if_neg (fun z => z1 z.1), h.1 b o' k' z1 z2], h.2⟩
theorem pC_wF {J C : IM} {G FC : FM} {o k : Nat} {x : UInt32} (h : pC J G C FC) : pC J G C (wF FC 2 o k x) := ⟨h.1, fun b o' k' z1 z2 => by rw [wF_eq, if_neg (fun z => z1 z.1), h.2 b o' k' z1 z2]⟩
theorem okC_of {J C : IM} {G FC : FM} (h : pC J G C FC) : okC J G (wI C 0 0 6 0) FC := ⟨fun b o k z1 z2 => by rw [wI_eq, if_neg (fun z => z2 (by unfold scC; omega)), h.1 b o k z1 z2], h.2, wI_s _ _ _ _ _⟩
def pM (R : IM) (H : FM) (M : IM) (FX : FM) : Prop := (∀ b o k, ¬ (b = 1 ∧ o = 2) → ¬ scM b o k → ¬ (b = 1 ∧ o = 0 ∧ k = 1) → M b o k = R b o k) ∧ ∀ b o k, ¬ (b = 1 ∧ o = 0) → FX b o k = H b o k
theorem pM_rfl {R : IM} {H : FM} : pM R H R H := ⟨fun _ _ _ _ _ _ => rfl, fun _ _ _ _ => rfl⟩
theorem pM_w {R M : IM} {H FX : FM} {k : Nat} {x : Int32} (h : pM R H M FX) : pM R H (wI M 1 2 k x) FX := ⟨fun b o k' z1 z2 z3 => by rw [wI_eq, if_neg (fun z => z1 ⟨z.1, z.2.1⟩), h.1 b o k' z1 z2 z3], h.2⟩
theorem pM_sr {R M : IM} {H FX : FM} {f : Nat → Int32} (h : pM R H M FX) : pM R H (sr M f) FX := ⟨fun b o k' z1 z2 z3 => by rw [sr_eq, if_neg z1, h.1 b o k' z1 z2 z3], h.2⟩
theorem pM_wF {R M : IM} {H FX : FM} {x : UInt32} (h : pM R H M FX) : pM R H M (wF FX 1 0 4 x) := ⟨h.1, fun b o k z1 => by rw [wF_eq, if_neg (fun z => z1 ⟨z.1, z.2.1⟩), h.2 b o k z1]⟩
theorem okM_of {R M : IM} {H FX : FM} (h : pM R H M FX) : okMm R H (wI M 1 0 1 0) FX := ⟨fun b o k z1 z2 z3 => by rw [wI_eq, if_neg z3, h.1 b o k z1 z2 z3], h.2, wI_s _ _ _ _ _⟩
theorem ex0 {I : IM} : ∀ J : IM, (∀ o k, J 1 o k = I 1 o k) → ∀ b o k, ¬ scM b o k → wI J 1 0 0 0 b o k = J b o k := fun J _ b o k z => by rw [wI_eq, if_neg (fun y => z (by unfold scM; omega))]
section BD
variable {N d b l : Nat} {I : IM} {F : FM}
theorem m4l (hb : 2 ≤ b) (x : Int32) (hs : I b 1 2 = nI l) (hl : l < 4) : sem N (d + 1) 4 [vR (some (b, 1)), vI x] I F = some (vI (bz (x < 6 ∨ 0 < l)), I, F) := by
  rw [m4 hb x]
  refine congrArg (fun v => some (vI v, I, F)) (bz_congr ?_)
  rw [hs, i_lt (x := nI l), i_nI (by omega), show (1 : Int32).toInt = 1 by decide]
  exact ⟨fun y => y.elim Or.inl (fun z => Or.inr (by omega)), fun y => y.elim Or.inl (fun z => Or.inr (by omega))⟩
theorem m212l (x : Int32) (hs : I 1 2 8 = nI l) (hl : l < 4) : sem N (d + 1) 212 [vR (some (1, 0)), vI x] I F = some (vI (bz (x < 6 ∨ 0 < l)), I, F) := by
  rw [s212]; unfold b212
  have e : nI l ≤ 0 ↔ ¬ 0 < l := by rw [i_le, i_nI (by omega), i_0]; omega
  by_cases h : x < 6
  · rw [if_pos h, bz_t (Or.inl h)]
  · rw [if_neg h, hs]
    by_cases h2 : 0 < l
    · rw [if_neg (fun z => e.mp z h2), bz_t (Or.inr h2)]
    · rw [if_pos (e.mpr h2), bz_f (fun y => y.elim h h2)]
theorem m213 {m p n : Nat} (hm : m < p) (hp : p + 2 * n + 1 < 406) (hs : I 1 2 m = nI n) (u v : Int32) : sem N (d + 1) 213 [vR (some (1, 0)), vI (nI m), vI (nI p), vI u, vI v] I F = some (vI (nI (n + 1)), wI (wI (wI I 1 2 (p + 2 * n) u) 1 2 (p + 2 * n + 1) v) 1 2 m (nI (n + 1)), F) := by
  rw [s213]; unfold b213
  have i0 : inb (nI m) 406 := inb_nI (by omega) (by decide)
  have c0 : (nI m).toNatClampNeg = m := nI_clamp (by omega)
  have i1 : inb (nI (p + 2 * n)) 406 := inb_nI (by omega) (by decide)
  have c1 : (nI (p + 2 * n)).toNatClampNeg = p + 2 * n := nI_clamp (by omega)
  have i2 : inb (nI (p + 2 * n + 1)) 406 := inb_nI (by omega) (by decide)
  have c2 : (nI (p + 2 * n + 1)).toNatClampNeg = p + 2 * n + 1 := nI_clamp (by omega)
  have r1 : wI I 1 2 (p + 2 * n) u 1 2 m = nI n := by rw [wI_eq, if_neg (fun z => by omega), hs]
  have r2 : wI (wI I 1 2 (p + 2 * n) u) 1 2 (p + 2 * n + 1) v 1 2 m = nI n := by rw [wI_eq, if_neg (fun z => by omega), wI_eq, if_neg (fun z => by omega), hs]
  simp only [eq_true i0, c0, hs, L2, nI_mul, nI_add, eq_true i1, c1, r1, nI_1, eq_true i2, c2, r2, wI_s, ↓reduceIte]
theorem m213a {n : Nat} (hp : n < 40) (hs : I 1 2 11 = nI n) (u v : Int32) : sem N (d + 1) 213 [vR (some (1, 0)), vI 11, vI 20, vI u, vI v] I F = some (vI (nI (n + 1)), wI (wI (wI I 1 2 (20 + 2 * n) u) 1 2 (20 + 2 * n + 1) v) 1 2 11 (nI (n + 1)), F) := m213 (m := 11) (p := 20) (by omega) (by omega) hs u v
theorem m213b {n : Nat} (hp : n < 40) (hs : I 1 2 12 = nI n) (u v : Int32) : sem N (d + 1) 213 [vR (some (1, 0)), vI 12, vI 100, vI u, vI v] I F = some (vI (nI (n + 1)), wI (wI (wI I 1 2 (100 + 2 * n) u) 1 2 (100 + 2 * n + 1) v) 1 2 12 (nI (n + 1)), F) := m213 (m := 12) (p := 100) (by omega) (by omega) hs u v
theorem m213c {n : Nat} (hp : n < 8) (hs : I 1 2 18 = nI n) (u v : Int32) : sem N (d + 1) 213 [vR (some (1, 0)), vI 18, vI 390, vI u, vI v] I F = some (vI (nI (n + 1)), wI (wI (wI I 1 2 (390 + 2 * n) u) 1 2 (390 + 2 * n + 1) v) 1 2 18 (nI (n + 1)), F) := m213 (m := 18) (p := 390) (by omega) (by omega) hs u v
end BD
theorem st117 : StpI InvC 117 210 1 := by
  intro as I F hl hI
  obtain ⟨x, rfl⟩ := len1 hl
  simp only [List.map_cons, List.map_nil]
  by_cases hx : inb x 4
  · obtain ⟨nl, nc, nk, nx, np, na, ns, hR⟩ := hI.1
    have p1 := hR.2.1.1
    obtain ⟨l, hl4, -, rfl, -⟩ := inb_get hx
    apply act_of (x := I 2 1 2) 1 (fun J => wI (wI J 2 1 2 (nI l)) 0 0 6 0) (fun R => wI (wI R 1 2 8 (nI l)) 1 0 1 0) (fun J => wI J 1 0 0 0) (fun G => G) (fun H => H) hI
    · rw [s117]; unfold b117
      rw [m173, bI_v, ite_bzif, if_pos hx]
      try rfl
    · intro J G hJ hG
      rw [s210]; unfold b210
      dsimp only
      rw [m184 (h := 3) (n := 4) _ _ (by decide), bI_v, ite_bzif, if_pos hx]
      try rfl
    · exact ex0
    · intro J G aC
      refine ⟨?_, okC_of (pC_w pC_rfl)⟩
      try dsimp only
      rw [m168, bI_v, aC.1]
    · intro R H aM
      refine ⟨?_, okM_of (pM_w pM_rfl)⟩
      try dsimp only
      rw [m185, bI_v, aM.1, p1]
    · intro J R G H aC aM
      try dsimp only
      rw [aC.2.2.1, aM.2]
      exact ⟨_, _, _, _, _, _, _, op_loc hR hl4 (by rw [wI_eq, if_neg (fun z => by omega), wI_s]) (by rw [wI_eq, if_neg (fun z => by omega), wI_s]) (fun o k z1 z2 => by rw [wI_eq, if_neg (fun z => by omega), wI_eq, if_neg (fun z => by omega), aC.1]) (fun k z1 z2 => by rw [wI_eq, if_neg (fun z => by omega), wI_eq, if_neg (fun z => by omega), aM.1])⟩
  · refine rf_of (x := -1) (y := -1) (j := 0) hI (by omega) ?_ ?_
    · rw [s117]; unfold b117
      rw [m173, bI_v, ite_bzif, if_neg hx, r169_1, bI_v]
    · rw [s210]; unfold b210
      dsimp only
      rw [m184 (h := 3) (n := 4) _ _ (by decide), bI_v, ite_bzif, if_neg hx, r186_1, bI_v]
theorem st119 : StpI InvC 119 214 2 := by
  intro as I F hl hI
  obtain ⟨x, y, rfl⟩ := len2 hl
  simp only [List.map_cons, List.map_nil]
  obtain ⟨nl, nc, nk, nx, np, na, ns, hR⟩ := hI.1
  obtain ⟨p1, p2, p3, p4, p5, l, hl4, pl⟩ := hR.2.1
  obtain ⟨g1, g2, g3, g4⟩ := hR.2.2.1
  have c4 := m4l (N := zN) (d := 7) (I := I) (F := F) (b := 2) (by omega) x (by rw [p1, pl]) hl4
  have c13 := m13 (N := zN) (d := 7) (I := I) (F := F) (b := 2) (o := 4) (n := nl) (by omega) (Or.inl rfl) g1 g3
  have d212 := fun (J : IM) (G : FM) (hJ : ∀ o k, J 1 o k = I 1 o k) => m212l (N := zN) (d := 7) (I := wI J 1 0 0 0) (F := G) x (by rw [w0_12, hJ, pl]) hl4
  have d11 := fun (J : IM) (hJ : ∀ o k, J 1 o k = I 1 o k) => show wI J 1 0 0 0 1 2 11 = nI nl by rw [w0_12, hJ, g2]
  by_cases hx : inb x 8
  · by_cases hg : x < 6 ∨ 0 < l
    · by_cases hn : nl < 40
      · obtain ⟨r, hr, hr2, rfl, -⟩ := inb_get hx
        have hi : inb (nI r) 406 := inb_mono (by omega) hx
        apply act_of (x := nI (nl + 1)) 3 (fun J => wI (wI (wI (wI (wI J 2 2 r (mixF (J 2 2 r) y)) 2 5 nl (nI r)) 2 6 nl y) 2 4 2 (nI (nl + 1))) 0 0 6 0) (fun R => wI (wI (wI (wI (wI R 1 2 r (mixF (R 1 2 r) y)) 1 2 (20 + 2 * nl) (nI r)) 1 2 (20 + 2 * nl + 1) y) 1 2 11 (nI (nl + 1))) 1 0 1 0) (fun J => wI J 1 0 0 0) (fun G => G) (fun H => H) hI
        · rw [s119]; unfold b119
          rw [m171, bI_v, ite_bzif, if_pos hx, c4, bI_v, ite_bzif, if_pos hg, c13, bI_v, ite_bzif, if_neg (fun z => z hn)]
          try rfl
        · intro J G hJ hG
          rw [s214]; unfold b214
          dsimp only
          rw [m203, bI_v, ite_bzif, if_pos hx, d212 J G hJ, bI_v, ite_bzif, if_pos hg, d11 J hJ, L40, if_neg (fun z => by rw [nI_eq (by omega) (by omega)] at z; omega)]
          try rfl
        · exact ex0
        · intro J G aC
          refine ⟨?_, okC_of (pC_w (pC_w (pC_w (pC_w pC_rfl))))⟩
          try dsimp only
          rw [m113 (n := nl) (by omega) hr y (by rw [aC.1, g1]) hn, bV_v, m168, bI_v, wI_s]
        · intro R H aM
          refine ⟨?_, okM_of (pM_w (pM_w (pM_w (pM_w pM_rfl))))⟩
          try dsimp only
          rw [if_pos hi, m188, bI_v, if_pos hi, nI_clamp hr2, m213a (n := nl) hn (by rw [wI_eq, if_neg (fun z => by omega), aM.1, g2]), bI_v, m185, bI_v]
        · intro J R G H aC aM
          try dsimp only
          rw [aC.2.2.1, aM.2]
          refine ⟨_, _, _, _, _, _, _, op_meas hR (x := mixF (I 2 2 r) y) (y := y) hr hn ?_ ?_ ?_ ?_ ?_ ?_ ?_ ?_ ?_ ?_⟩
          · rw [wI_eq, if_neg (fun z => by omega), wI_eq, if_neg (fun z => by omega), wI_eq, if_neg (fun z => by omega), wI_eq, if_neg (fun z => by omega), wI_s, aC.1]
          · rw [wI_eq, if_neg (fun z => by omega), wI_eq, if_neg (fun z => by omega), wI_eq, if_neg (fun z => by omega), wI_eq, if_neg (fun z => by omega), wI_s, aM.1, p4 r hr]
          · rw [wI_eq, if_neg (fun z => by omega), wI_s]
          · rw [wI_eq, if_neg (fun z => by omega), wI_eq, if_neg (fun z => by omega), wI_eq, if_neg (fun z => by omega), wI_s]
          · rw [wI_eq, if_neg (fun z => by omega), wI_eq, if_neg (fun z => by omega), wI_s]
          · rw [wI_eq, if_neg (fun z => by omega), wI_s]
          · rw [wI_eq, if_neg (fun z => by omega), wI_eq, if_neg (fun z => by omega), wI_eq, if_neg (fun z => by omega), wI_s]
          · rw [wI_eq, if_neg (fun z => by omega), wI_eq, if_neg (fun z => by omega), wI_s]
          · intro o k z1 z2 z3 z4 z5
            rw [wI_eq, if_neg (fun z => by omega), wI_eq, if_neg (fun z => by omega), wI_eq, if_neg (fun z => by omega), wI_eq, if_neg (fun z => by omega), wI_eq, if_neg (fun z => by omega), aC.1]
          · intro k z1 z2 z3 z4 z5
            rw [wI_eq, if_neg (fun z => by omega), wI_eq, if_neg (fun z => by omega), wI_eq, if_neg (fun z => by omega), wI_eq, if_neg (fun z => by omega), wI_eq, if_neg (fun z => by omega), aM.1]
      · refine rf_of (x := -5) (y := -5) (j := 4) hI (by omega) ?_ ?_
        · rw [s119]; unfold b119
          rw [m171, bI_v, ite_bzif, if_pos hx, c4, bI_v, ite_bzif, if_pos hg, c13, bI_v, ite_bzif, if_pos hn, r169_5, bI_v]
        · rw [s214]; unfold b214
          dsimp only
          rw [m203, bI_v, ite_bzif, if_pos hx, d212 _ _ rC_1, bI_v, ite_bzif, if_pos hg, d11 _ rC_1, L40, if_pos (by rw [nI_eq (by omega) (by omega)]; omega), r186_5, bI_v]
    · refine rf_of (x := -4) (y := -4) (j := 3) hI (by omega) ?_ ?_
      · rw [s119]; unfold b119
        rw [m171, bI_v, ite_bzif, if_pos hx, c4, bI_v, ite_bzif, if_neg hg, r169_4, bI_v]
      · rw [s214]; unfold b214
        dsimp only
        rw [m203, bI_v, ite_bzif, if_pos hx, d212 _ _ rC_1, bI_v, ite_bzif, if_neg hg, r186_4, bI_v]
  · refine rf_of (x := -1) (y := -1) (j := 0) hI (by omega) ?_ ?_
    · rw [s119]; unfold b119
      rw [m171, bI_v, ite_bzif, if_neg hx, r169_1, bI_v]
    · rw [s214]; unfold b214
      dsimp only
      rw [m203, bI_v, ite_bzif, if_neg hx, r186_1, bI_v]
theorem pM_flo {R M : IM} {H FX : FM} {p n : Nat} {f : Nat → Int32} (h : pM R H M FX) : pM R H (flo M 1 2 p n f) FX := ⟨fun b o k' z1 z2 z3 => by rw [flo_eq, if_neg (fun z => z1 ⟨z.1, z.2.1⟩), h.1 b o k' z1 z2 z3], h.2⟩
theorem m184g (N d : Nat) {x : Int32} {l h : Int64} (lo hi : Int) (hl : l.toInt = lo) (hh : h.toInt = hi) (I : IM) (F : FM) : sem N (d + 1) 184 [vL x.toInt64, vL l, vL h] I F = some (vI (bz (lo ≤ x.toInt ∧ x.toInt ≤ hi)), I, F) := by
  rw [s184]
  unfold b184
  have e1 : (lg_cmp x.toInt64 l < 0) ↔ x.toInt < lo := by rw [lg_cmp_lt, Int64.lt_iff_toInt_lt, Int32.toInt_toInt64, hl]
  have e2 : (0 < lg_cmp x.toInt64 h) ↔ hi < x.toInt := by rw [lg_cmp_gt, Int64.lt_iff_toInt_lt, Int32.toInt_toInt64, hh]
  by_cases h0 : x.toInt < lo
  · rw [if_pos (e1.mpr h0), bz_f (fun z => by omega)]
  · rw [if_neg (fun z => h0 (e1.mp z))]
    by_cases h1 : hi < x.toInt
    · rw [if_pos (e2.mpr h1), bz_f (fun z => by omega)]
    · rw [if_neg (fun z => h1 (e2.mp z)), bz_t ⟨by omega, by omega⟩]
theorem st120 : StpI InvC 120 215 2 := by
  intro as I F hl hI
  obtain ⟨x, y, rfl⟩ := len2 hl
  simp only [List.map_cons, List.map_nil]
  obtain ⟨nl, nc, nk, nx, np, na, ns, hR⟩ := hI.1
  obtain ⟨p1, p2, p3, p4, p5, l, hl4, pl⟩ := hR.2.1
  have c4 := m4l (N := zN) (d := 7) (I := I) (F := F) (b := 2) (by omega) x (by rw [p1, pl]) hl4
  have d212 := fun (J : IM) (G : FM) (hJ : ∀ o k, J 1 o k = I 1 o k) => m212l (N := zN) (d := 7) (I := wI J 1 0 0 0) (F := G) x (by rw [w0_12, hJ, pl]) hl4
  by_cases hx : inb x 8
  · by_cases hg : x < 6 ∨ 0 < l
    · obtain ⟨r, hr, hr2, rfl, -⟩ := inb_get hx
      have hi : inb (nI r) 406 := inb_mono (by omega) hx
      apply act_of (x := mixF (I 2 2 r) y) 4 (fun J => wI (wI J 2 2 r (mixF (J 2 2 r) y)) 0 0 6 0) (fun R => wI (wI R 1 2 r (mixF (R 1 2 r) y)) 1 0 1 0) (fun J => wI J 1 0 0 0) (fun G => G) (fun H => H) hI
      · rw [s120]; unfold b120
        rw [m171, bI_v, ite_bzif, if_pos hx, c4, bI_v, ite_bzif, if_pos hg]
        try rfl
      · intro J G hJ hG
        rw [s215]; unfold b215
        dsimp only
        rw [m203, bI_v, ite_bzif, if_pos hx, d212 J G hJ, bI_v, ite_bzif, if_pos hg]
        try rfl
      · exact ex0
      · intro J G aC
        refine ⟨?_, okC_of (pC_w pC_rfl)⟩
        try dsimp only
        rw [m5 (by omega) hr y, bV_v, if_pos hx, m168, bI_v, nI_clamp hr2, wI_s, aC.1]
      · intro R H aM
        refine ⟨?_, okM_of (pM_w pM_rfl)⟩
        try dsimp only
        rw [if_pos hi, m188, bI_v, if_pos hi, if_pos hi, m185, bI_v, nI_clamp hr2, wI_s, aM.1, p4 r hr]
      · intro J R G H aC aM
        try dsimp only
        rw [aC.2.2.1, aM.2]
        exact ⟨_, _, _, _, _, _, _, op_reg hR (x := mixF (I 2 2 r) y) hr (by rw [wI_eq, if_neg (fun z => by omega), wI_s, aC.1]) (by rw [wI_eq, if_neg (fun z => by omega), wI_s, aM.1, p4 r hr]) (fun o k z1 z2 => by rw [wI_eq, if_neg (fun z => by omega), wI_eq, if_neg (fun z => by omega), aC.1]) (fun k z1 z2 => by rw [wI_eq, if_neg (fun z => by omega), wI_eq, if_neg (fun z => by omega), aM.1])⟩
    · refine rf_of (x := -4) (y := 0) (j := 3) hI (by omega) ?_ ?_
      · rw [s120]; unfold b120
        rw [m171, bI_v, ite_bzif, if_pos hx, c4, bI_v, ite_bzif, if_neg hg, r170_4, bI_v]
      · rw [s215]; unfold b215
        dsimp only
        rw [m203, bI_v, ite_bzif, if_pos hx, d212 _ _ rC_1, bI_v, ite_bzif, if_neg hg, r187_4, bI_v]
  · refine rf_of (x := -1) (y := 0) (j := 0) hI (by omega) ?_ ?_
    · rw [s120]; unfold b120
      rw [m171, bI_v, ite_bzif, if_neg hx, r170_1, bI_v]
    · rw [s215]; unfold b215
      dsimp only
      rw [m203, bI_v, ite_bzif, if_neg hx, r187_1, bI_v]
theorem st121 : StpI InvC 121 216 1 := by
  intro as I F hl hI
  obtain ⟨x, rfl⟩ := len1 hl
  simp only [List.map_cons, List.map_nil]
  obtain ⟨nl, nc, nk, nx, np, na, ns, hR⟩ := hI.1
  obtain ⟨p1, p2, p3, p4, p5, l, hl4, pl⟩ := hR.2.1
  have cl : I 2 1 2 = nI l := by rw [p1, pl]
  have d8 := fun (J : IM) (hJ : ∀ o k, J 1 o k = I 1 o k) => show wI J 1 0 0 0 1 2 8 = nI l by rw [w0_12, hJ, pl]
  have e2 : (2 : Int32) ≤ nI l ↔ 2 ≤ l := by rw [L2, i_le, i_nI (by omega), i_nI (by omega)]; omega
  have d184 := fun (J : IM) (G : FM) => m184g zN 7 (x := x) (l := 6) (h := 7) 6 7 (by decide) (by decide) J G
  have e6 : (6 ≤ x.toInt ∧ x.toInt ≤ 7) ↔ (inb x 8 ∧ (6 : Int32) ≤ x) := by rw [inb_iff, i_le, show (6 : Int32).toInt = 6 by decide]; omega
  by_cases hx : inb x 8
  · by_cases h6 : (6 : Int32) ≤ x
    · by_cases h2 : 2 ≤ l
      · obtain ⟨r, hr, hr2, rfl, -⟩ := inb_get hx
        have hi : inb (nI r) 406 := inb_mono (by omega) hx
        apply act_of (x := I 2 2 r) 5 (fun J => wI (wI J 2 2 r 0) 0 0 6 0) (fun R => wI (wI R 1 2 r 0) 1 0 1 0) (fun J => wI J 1 0 0 0) (fun G => G) (fun H => H) hI
        · rw [s121]; unfold b121
          rw [m171, bI_v, ite_bzif, if_pos hx, if_pos h6, cl, if_pos (e2.mpr h2)]
          try rfl
        · intro J G hJ hG
          rw [s216]; unfold b216
          dsimp only
          rw [d184, bI_v, ite_bzif, if_pos (e6.mpr ⟨hx, h6⟩), d8 J hJ, if_pos (e2.mpr h2)]
          try rfl
        · exact ex0
        · intro J G aC
          refine ⟨?_, okC_of (pC_w pC_rfl)⟩
          try dsimp only
          rw [if_pos hx, if_pos hx, m168, bI_v, nI_clamp hr2, aC.1]
        · intro R H aM
          refine ⟨?_, okM_of (pM_w pM_rfl)⟩
          try dsimp only
          rw [if_pos hi, if_pos hi, m185, bI_v, nI_clamp hr2, aM.1, p4 r hr]
        · intro J R G H aC aM
          try dsimp only
          rw [aC.2.2.1, aM.2]
          exact ⟨_, _, _, _, _, _, _, op_reg hR (x := 0) hr (by rw [wI_eq, if_neg (fun z => by omega), wI_s]) (by rw [wI_eq, if_neg (fun z => by omega), wI_s]) (fun o k z1 z2 => by rw [wI_eq, if_neg (fun z => by omega), wI_eq, if_neg (fun z => by omega), aC.1]) (fun k z1 z2 => by rw [wI_eq, if_neg (fun z => by omega), wI_eq, if_neg (fun z => by omega), aM.1])⟩
      · refine rf_of (x := -4) (y := 0) (j := 3) hI (by omega) ?_ ?_
        · rw [s121]; unfold b121
          rw [m171, bI_v, ite_bzif, if_pos hx, if_pos h6, cl, if_neg (fun z => h2 (e2.mp z)), r170_4, bI_v]
        · rw [s216]; unfold b216
          dsimp only
          rw [d184, bI_v, ite_bzif, if_pos (e6.mpr ⟨hx, h6⟩), d8 _ rC_1, if_neg (fun z => h2 (e2.mp z)), r187_4, bI_v]
    · refine rf_of (x := -1) (y := 0) (j := 0) hI (by omega) ?_ ?_
      · rw [s121]; unfold b121
        rw [m171, bI_v, ite_bzif, if_pos hx, if_neg h6, r170_1, bI_v]
      · rw [s216]; unfold b216
        dsimp only
        rw [d184, bI_v, ite_bzif, if_neg (fun z => h6 (e6.mp z).2), r187_1, bI_v]
  · refine rf_of (x := -1) (y := 0) (j := 0) hI (by omega) ?_ ?_
    · rw [s121]; unfold b121
      rw [m171, bI_v, ite_bzif, if_neg hx, r170_1, bI_v]
    · rw [s216]; unfold b216
      dsimp only
      rw [d184, bI_v, ite_bzif, if_neg (fun z => hx (e6.mp z).1), r187_1, bI_v]
theorem st122 : StpI InvC 122 217 2 := by
  intro as I F hl hI
  obtain ⟨x, y, rfl⟩ := len2 hl
  simp only [List.map_cons, List.map_nil]
  obtain ⟨nl, nc, nk, nx, np, na, ns, hR⟩ := hI.1
  obtain ⟨g1, g2, g3, g4⟩ := hR.2.2.2.1
  have c13 := m13 (N := zN) (d := 7) (I := I) (F := F) (b := 2) (o := 7) (n := nc) (by omega) (Or.inr rfl) g1 g3
  have d12 := fun (J : IM) (hJ : ∀ o k, J 1 o k = I 1 o k) => show wI J 1 0 0 0 1 2 12 = nI nc by rw [w0_12, hJ, g2]
  by_cases hx : inb x 8
  · by_cases hn : nc < 40
    · obtain ⟨r, hr, hr2, rfl, -⟩ := inb_get hx
      apply act_of (x := nI (nc + 1)) 6 (fun J => wI (wI (wI (wI J 2 8 nc (nI r)) 2 9 nc y) 2 7 2 (nI (nc + 1))) 0 0 6 0) (fun R => wI (wI (wI (wI R 1 2 (100 + 2 * nc) (nI r)) 1 2 (100 + 2 * nc + 1) y) 1 2 12 (nI (nc + 1))) 1 0 1 0) (fun J => wI J 1 0 0 0) (fun G => G) (fun H => H) hI
      · rw [s122]; unfold b122
        rw [m171, bI_v, ite_bzif, if_pos hx, c13, bI_v, ite_bzif, if_neg (fun z => z hn)]
        try rfl
      · intro J G hJ hG
        rw [s217]; unfold b217
        dsimp only
        rw [m203, bI_v, ite_bzif, if_pos hx, d12 J hJ, L40, if_neg (fun z => by rw [nI_eq (by omega) (by omega)] at z; omega)]
        try rfl
      · exact ex0
      · intro J G aC
        refine ⟨?_, okC_of (pC_w (pC_w (pC_w pC_rfl)))⟩
        try dsimp only
        rw [m14 (n := nc) (by omega) (Or.inr rfl) (nI r) y (by rw [aC.1, g1]) hn, bV_v, m168, bI_v, wI_s]
      · intro R H aM
        refine ⟨?_, okM_of (pM_w (pM_w (pM_w pM_rfl)))⟩
        try dsimp only
        rw [m213b (n := nc) hn (by rw [aM.1, g2]), bI_v, m185, bI_v]
      · intro J R G H aC aM
        try dsimp only
        rw [aC.2.2.1, aM.2]
        refine ⟨_, _, _, _, _, _, _, op_claim hR (y := y) hr hn ?_ ?_ ?_ ?_ ?_ ?_ ?_ ?_⟩
        · rw [wI_eq, if_neg (fun z => by omega), wI_s]
        · rw [wI_eq, if_neg (fun z => by omega), wI_eq, if_neg (fun z => by omega), wI_eq, if_neg (fun z => by omega), wI_s]
        · rw [wI_eq, if_neg (fun z => by omega), wI_eq, if_neg (fun z => by omega), wI_s]
        · rw [wI_eq, if_neg (fun z => by omega), wI_s]
        · rw [wI_eq, if_neg (fun z => by omega), wI_eq, if_neg (fun z => by omega), wI_eq, if_neg (fun z => by omega), wI_s]
        · rw [wI_eq, if_neg (fun z => by omega), wI_eq, if_neg (fun z => by omega), wI_s]
        · intro o k z1 z2 z3 z4
          rw [wI_eq, if_neg (fun z => by omega), wI_eq, if_neg (fun z => by omega), wI_eq, if_neg (fun z => by omega), wI_eq, if_neg (fun z => by omega), aC.1]
        · intro k z1 z2 z3 z4
          rw [wI_eq, if_neg (fun z => by omega), wI_eq, if_neg (fun z => by omega), wI_eq, if_neg (fun z => by omega), wI_eq, if_neg (fun z => by omega), aM.1]
    · refine rf_of (x := -5) (y := -5) (j := 4) hI (by omega) ?_ ?_
      · rw [s122]; unfold b122
        rw [m171, bI_v, ite_bzif, if_pos hx, c13, bI_v, ite_bzif, if_pos hn, r169_5, bI_v]
      · rw [s217]; unfold b217
        dsimp only
        rw [m203, bI_v, ite_bzif, if_pos hx, d12 _ rC_1, L40, if_pos (by rw [nI_eq (by omega) (by omega)]; omega), r186_5, bI_v]
  · refine rf_of (x := -1) (y := -1) (j := 0) hI (by omega) ?_ ?_
    · rw [s122]; unfold b122
      rw [m171, bI_v, ite_bzif, if_neg hx, r169_1, bI_v]
    · rw [s217]; unfold b217
      dsimp only
      rw [m203, bI_v, ite_bzif, if_neg hx, r186_1, bI_v]
theorem st124 : StpI InvC 124 219 2 := by
  intro as I F hl hI
  obtain ⟨x, y, rfl⟩ := len2 hl
  simp only [List.map_cons, List.map_nil]
  obtain ⟨nl, nc, nk, nx, np, na, ns, hR⟩ := hI.1
  obtain ⟨g1, g2, g3, g4⟩ := hR.2.2.2.1
  have c12 := m12 (N := zN) (d := 7) (I := I) (F := F) (b := 2) (o := 7) (n := nc) (by omega) (Or.inr rfl) x g1 g3
  have d12 := fun (J : IM) (hJ : ∀ o k, J 1 o k = I 1 o k) => show wI J 1 0 0 0 1 2 12 = nI nc by rw [w0_12, hJ, g2]
  have d184 := fun (J : IM) (G : FM) => m184 (n := nc) zN 7 (x := x) (l_pred (n := nc) (by omega)) J G
  by_cases hx : inb x nc
  · obtain ⟨i, hi, hi2, rfl, -⟩ := inb_get hx
    have h40 : inb (nI i) 40 := inb_mono g3 hx
    have e0 : (100 : Int32) + 2 * nI i + 1 = nI (100 + 2 * i + 1) := by rw [L100, L2, nI_mul, nI_add, nI_1]
    have h406 : inb (nI (100 + 2 * i + 1)) 406 := inb_nI (by omega) (by decide)
    apply act_of (x := I 2 9 i) 8 (fun J => wI (wI J 2 9 i y) 0 0 6 0) (fun R => wI (wI R 1 2 (100 + 2 * i + 1) y) 1 0 1 0) (fun J => wI J 1 0 0 0) (fun G => G) (fun H => H) hI
    · rw [s124]; unfold b124
      rw [c12, bI_v, ite_bzif, if_pos hx]
      try rfl
    · intro J G hJ hG
      rw [s219]; unfold b219
      dsimp only
      rw [d12 J hJ, d184, bI_v, ite_bzif, if_pos hx]
      try rfl
    · exact ex0
    · intro J G aC
      refine ⟨?_, okC_of (pC_w pC_rfl)⟩
      try dsimp only
      rw [if_pos h40, if_pos h40, m168, bI_v, nI_clamp hi2, aC.1]
    · intro R H aM
      refine ⟨?_, okM_of (pM_w pM_rfl)⟩
      try dsimp only
      rw [e0, if_pos h406, if_pos h406, m185, bI_v, nI_clamp (by omega), aM.1, (g4 i hi).2.1]
    · intro J R G H aC aM
      try dsimp only
      rw [aC.2.2.1, aM.2]
      exact ⟨_, _, _, _, _, _, _, op_forge hR (y := y) hi (by rw [wI_eq, if_neg (fun z => by omega), wI_s]) (by rw [wI_eq, if_neg (fun z => by omega), wI_s]) (fun o k z1 z2 => by rw [wI_eq, if_neg (fun z => by omega), wI_eq, if_neg (fun z => by omega), aC.1]) (fun k z1 z2 => by rw [wI_eq, if_neg (fun z => by omega), wI_eq, if_neg (fun z => by omega), aM.1])⟩
  · refine rf_of (x := -2) (y := 0) (j := 1) hI (by omega) ?_ ?_
    · rw [s124]; unfold b124
      rw [c12, bI_v, ite_bzif, if_neg hx, r170_2, bI_v]
    · rw [s219]; unfold b219
      dsimp only
      rw [d12 _ rC_1, d184, bI_v, ite_bzif, if_neg hx, r187_2, bI_v]
theorem m11t {N d : Nat} {I : IM} {F : FM} : sem N (d + 1) 11 [vR (some (2, 7)), vR (some (2, 4))] I F = some (vI 0, wI (cI (cI I 2 8 2 5 0 0 40) 2 9 2 6 0 0 40) 2 7 2 (I 2 4 2), F) := by
  have hs := s11v2 N d 0 0 I F
  simp only [Nat.zero_add] at hs
  rw [hs]
  have e : cI (cI I 2 8 2 5 0 0 40) 2 9 2 6 0 0 40 2 4 2 = I 2 4 2 := by rw [cI_eq, if_neg (fun z => by omega), cI_eq, if_neg (fun z => by omega)]
  show some (vI 0, wI (cI (cI I 2 8 2 5 0 0 40) 2 9 2 6 0 0 40) 2 7 2 (cI (cI I 2 8 2 5 0 0 40) 2 9 2 6 0 0 40 2 4 2), F) = _
  rw [e]
theorem l218 {N d n : Nat} {I : IM} {F : FM} (hN : 90 ≤ N) (hs : I 1 2 12 = nI n) (hn : n ≤ 40) : sg (sem N (d + 1)) 1 zc218 N 51 [vR (some (1, 0)), vI 0] I F = some (vI (nI n), wI (flo I 1 2 100 (2 * n) (fun k => I 1 2 (20 + k))) 1 0 1 0, F) := by
  have h12 : ∀ c, flo I 1 2 100 c (fun k => I 1 2 (20 + k)) 1 2 12 = nI n := fun c => by rw [flo_eq, if_neg (fun z => by omega), hs]
  have h := lp (S := fun m c => sg (sem N (d + 1)) 1 zc218 m 51 [vR (some (1, 0)), vI (nI c)] (flo I 1 2 100 c (fun k => I 1 2 (20 + k))) F) (T := some (vI (nI n), wI (flo I 1 2 100 (2 * n) (fun k => I 1 2 (20 + k))) 1 0 1 0, F)) (m := 2 * n) ?_ ?_ (2 * n) 0 N (by omega) (by omega)
  · try dsimp only at h
    rw [flo_0] at h
    exact h
  · intro m c hc
    try dsimp only
    rw [u218_51]; unfold b218_51
    have a1 : flo I 1 2 100 c (fun k => I 1 2 (20 + k)) 1 2 (20 + c) = I 1 2 (20 + c) := by rw [flo_eq, if_neg (fun z => by omega)]
    have e1 := flo_s I 1 2 100 c (fun k => I 1 2 (20 + k))
    try dsimp only at e1
    rw [h12, L2, nI_mul, if_neg (nI_ge hc (by omega)), L20, L100, nI_add, nI_add, if_pos (inb_nI (by omega) (by decide)), if_pos (inb_nI (by omega) (by decide)), nI_clamp (by omega), nI_clamp (by omega), a1, nI_1]
    try dsimp only
    rw [e1]
  · intro m
    try dsimp only
    rw [u218_51]; unfold b218_51
    rw [h12, L2, nI_mul, if_pos (nI_le (Nat.le_refl _) (by omega)), m185, bI_v]

theorem st123 : StpI InvC 123 218 1 := by
  intro as I F hl hI
  obtain ⟨x, rfl⟩ := len1 hl
  simp only [List.map_cons, List.map_nil]
  obtain ⟨nl, nc, nk, nx, np, na, ns, hR⟩ := hI.1
  obtain ⟨g1, g2, g3, g4⟩ := hR.2.2.1
  by_cases h0 : x = 0
  · subst h0
    apply act_of (x := nI nl) 7 (fun J => wI (wI (cI (cI J 2 8 2 5 0 0 40) 2 9 2 6 0 0 40) 2 7 2 (J 2 4 2)) 0 0 6 0) (fun R => wI (flo (wI R 1 2 12 (R 1 2 11)) 1 2 100 (2 * nl) (fun k => wI R 1 2 12 (R 1 2 11) 1 2 (20 + k))) 1 0 1 0) (fun J => wI J 1 0 0 0) (fun G => G) (fun H => H) hI
    · rw [s123]; unfold b123
      rw [if_pos rfl]
      try rfl
    · intro J G hJ hG
      rw [s218]; unfold b218
      dsimp only
      rw [m184 (h := 1) (n := 2) _ _ (by decide), bI_v, ite_bzif, if_pos (by decide)]
      try rfl
    · exact ex0
    · intro J G aC
      refine ⟨?_, okC_of (pC_w (pC_cI (pC_cI pC_rfl)))⟩
      try dsimp only
      rw [if_pos rfl, m11t, bV_v, m168, bI_v, wI_s, aC.1, g1]
    · intro R H aM
      refine ⟨?_, okM_of (pM_flo (pM_w pM_rfl))⟩
      try dsimp only
      rw [if_pos rfl]
      exact l218 (d := 7) (by decide) (by rw [wI_s, aM.1, g2]) g3
    · intro J R G H aC aM
      try dsimp only
      rw [aC.2.2.1, aM.2]
      refine ⟨_, _, _, _, _, _, _, op_tell hR ?_ ?_ ?_ ?_ ?_ ?_⟩
      · rw [wI_eq, if_neg (fun z => by omega), wI_s, aC.1, g1]
      · rw [wI_eq, if_neg (fun z => by omega), flo_eq, if_neg (fun z => by omega), wI_s, aM.1, g2]
      · intro k hk
        refine ⟨?_, ?_⟩
        · rw [wI_eq, if_neg (fun z => by omega), wI_eq, if_neg (fun z => by omega), cI_eq, if_neg (fun z => by omega), cI_eq, if_pos ⟨rfl, rfl, by omega⟩, aC.1]
        · rw [wI_eq, if_neg (fun z => by omega), wI_eq, if_neg (fun z => by omega), cI_eq, if_pos ⟨rfl, rfl, by omega⟩, cI_eq, if_neg (fun z => by omega), aC.1]
      · intro k hk
        rw [wI_eq, if_neg (fun z => by omega), flo_eq, if_pos ⟨rfl, rfl, by omega, by omega⟩, show 100 + k - 100 = k by omega, wI_eq, if_neg (fun z => by omega), aM.1]
      · intro o k z1 z2
        rw [wI_eq, if_neg (fun z => by omega), wI_eq, if_neg (fun z => by omega), cI_eq, if_neg (fun z => by omega), cI_eq, if_neg (fun z => by omega), aC.1]
      · intro k z1 z2
        rw [wI_eq, if_neg (fun z => by omega), flo_eq, if_neg (fun z => by omega), wI_eq, if_neg (fun z => by omega), aM.1]
  · by_cases h1 : x = 1
    · subst h1
      apply act_of (x := 0) 7 (fun J => wI (wI J 2 7 2 0) 0 0 6 0) (fun R => wI (flo (wI R 1 2 12 0) 1 2 100 (2 * 0) (fun k => wI R 1 2 12 0 1 2 (20 + k))) 1 0 1 0) (fun J => wI J 1 0 0 0) (fun G => G) (fun H => H) hI
      · rw [s123]; unfold b123
        rw [if_neg h0, if_pos rfl]
        try rfl
      · intro J G hJ hG
        rw [s218]; unfold b218
        dsimp only
        rw [m184 (h := 1) (n := 2) _ _ (by decide), bI_v, ite_bzif, if_pos (by decide)]
        try rfl
      · exact ex0
      · intro J G aC
        refine ⟨?_, okC_of (pC_w pC_rfl)⟩
        try dsimp only
        rw [if_neg h0, m168, bI_v, wI_s]
      · intro R H aM
        refine ⟨?_, okM_of (pM_flo (pM_w pM_rfl))⟩
        try dsimp only
        rw [if_neg h0]
        exact l218 (d := 7) (n := 0) (by decide) (wI_s _ _ _ _ _) (by omega)
      · intro J R G H aC aM
        try dsimp only
        rw [aC.2.2.1, aM.2]
        refine ⟨_, _, _, _, _, _, _, op_tell0 hR ?_ ?_ ?_ ?_⟩
        · rw [wI_eq, if_neg (fun z => by omega), wI_s]
        · rw [wI_eq, if_neg (fun z => by omega), flo_eq, if_neg (fun z => by omega), wI_s]
        · intro o k z1 z2
          rw [wI_eq, if_neg (fun z => by omega), wI_eq, if_neg (fun z => by omega), aC.1]
        · intro k z1 z2
          rw [wI_eq, if_neg (fun z => by omega), flo_eq, if_neg (fun z => by omega), wI_eq, if_neg (fun z => by omega), aM.1]
    · have hn : ¬ inb x 2 := fun z => by
        rw [inb_iff] at z
        rw [i_eq, i_0] at h0
        rw [i_eq, show (1 : Int32).toInt = 1 by decide] at h1
        omega
      refine rf_of (x := -1) (y := -1) (j := 0) hI (by omega) ?_ ?_
      · rw [s123]; unfold b123
        rw [if_neg h0, if_neg h1, r169_1, bI_v]
      · rw [s218]; unfold b218
        dsimp only
        rw [m184 (h := 1) (n := 2) _ _ (by decide), bI_v, ite_bzif, if_neg hn, r186_1, bI_v]
