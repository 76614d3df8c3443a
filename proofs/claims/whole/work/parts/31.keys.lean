/-! THE CLASS: keys, slots, contexts of a state -/
def slOf (s : Nat → Int32) (x : Int32) : Int32 := if x = -1 then -1 else if s 0 = x then 0 else if s 1 = x then 1 else if s 2 = x then 2 else -1
def frS (s : Nat → Int32) : Int32 := if s 0 = -1 then 0 else if s 1 = -1 then 1 else if s 2 = -1 then 2 else -1
def ltc (f : Nat → Int32) (x : Int32) : Nat → Int32
  | 0 => -1
  | c + 1 => if f c = x then nI c else ltc f x c
section KC
variable {N d b nk nx : Nat} {I : IM} {F : FM}
theorem m48 (hb : 2 ≤ b) (x : Int32) (hs : I b 10 3 = nI nk) (hn : nk ≤ 10) : sem N (d + 1) 48 [vR (some (b, 10)), vI x] I F = some (vI (bz (inb x nk)), I, F) := by
  obtain ⟨j, rfl⟩ := blk hb
  rw [s48]; unfold b48
  rw [has3 hs L10 hn (by decide), ite_bz]
theorem m49 (hb : 2 ≤ b) (x : Int32) (hs : I b 10 9 = nI nx) (hn : nx ≤ 12) : sem N (d + 1) 49 [vR (some (b, 10)), vI x] I F = some (vI (bz (inb x nx)), I, F) := by
  obtain ⟨j, rfl⟩ := blk hb
  rw [s49]; unfold b49
  rw [has3 hs L12 hn (by decide), ite_bz]
theorem m51 (hb : 2 ≤ b) (x : Int32) (hs : I b 10 3 = nI nk) (hn : nk ≤ 10) : sem N (d + 2) 51 [vR (some (b, 10)), vI x] I F = some (vI (if inb x nk then I b 12 x.toNatClampNeg else 0), I, F) := by
  have h := m48 (N := N) (d := d) (F := F) hb x hs hn
  obtain ⟨j, rfl⟩ := blk hb
  rw [s51]; unfold b51
  rw [h, bI_v, ite_bzif]
  by_cases z : inb x nk
  · rw [if_pos z, if_pos z, if_pos (inb_mono hn z)]
  · rw [if_neg z, if_neg z]
theorem m52 (hb : 2 ≤ b) {k : Nat} (y : Int32) (hk : k < nk) (hs : I b 10 3 = nI nk) (hn : nk ≤ 10) : sem N (d + 2) 52 [vR (some (b, 10)), vI (nI k), vI y] I F = some (vI 0, wI I b 12 k y, F) := by
  have h := m48 (N := N) (d := d) (F := F) hb (nI k) hs hn
  obtain ⟨j, rfl⟩ := blk hb
  rw [s52]; unfold b52
  rw [h, bI_v, ite_bzif, if_pos (inb_nI hk (by omega)), if_pos (inb_nI (by omega) (by omega)), nI_clamp (by omega)]
theorem m53 (hb : 2 ≤ b) (x : Int32) (hs : I b 10 3 = nI nk) (hn : nk ≤ 10) : sem N (d + 2) 53 [vR (some (b, 10)), vI x] I F = some (vI (bz (inb x nk ∧ ¬ I b 13 x.toNatClampNeg = 0)), I, F) := by
  have h := m48 (N := N) (d := d) (F := F) hb x hs hn
  obtain ⟨j, rfl⟩ := blk hb
  rw [s53]; unfold b53
  rw [h, bI_v, ite_bzif]
  by_cases z : inb x nk
  · rw [if_pos z, if_pos (inb_mono hn z), ite_bzn]
    congr 2
    exact congrArg vI (bz_congr ⟨fun y => ⟨z, y⟩, fun y => y.2⟩)
  · rw [if_neg z, bz_f (fun y => z y.1)]
theorem m54 (hb : 2 ≤ b) (x : Int32) (hs : I b 10 3 = nI nk) (hn : nk ≤ 10) : sem N (d + 2) 54 [vR (some (b, 10)), vI x] I F = some (vI (if inb x nk then I b 11 x.toNatClampNeg else -1), I, F) := by
  have h := m48 (N := N) (d := d) (F := F) hb x hs hn
  obtain ⟨j, rfl⟩ := blk hb
  rw [s54]; unfold b54
  rw [h, bI_v, ite_bzif]
  by_cases z : inb x nk
  · rw [if_pos z, if_pos z, if_pos (inb_mono hn z)]
  · rw [if_neg z, if_neg z]
theorem m55 (hb : 2 ≤ b) (x : Int32) : sem N (d + 1) 55 [vR (some (b, 10)), vI x] I F = some (vI (if inb x 3 then I b 14 x.toNatClampNeg else -1), I, F) := by
  obtain ⟨j, rfl⟩ := blk hb
  rw [s55]; unfold b55
  rw [has2 L3 (by decide)]
  by_cases z : inb x 3
  · rw [if_pos z, if_pos z, if_pos z]
  · rw [if_neg z, if_neg z]
theorem m56 (hb : 2 ≤ b) (hN : 4 ≤ N) (x : Int32) : sem N (d + 1) 56 [vR (some (b, 10)), vI x] I F = some (vI (slOf (I b 14) x), I, F) := by
  obtain ⟨j, rfl⟩ := blk hb
  obtain ⟨n, rfl⟩ : ∃ n, N = n + 4 := ⟨N - 4, by omega⟩
  rw [s56]; unfold b56 slOf
  by_cases hx : x = -1
  · subst hx
    simp [u56_2, b56_2]
  · simp [u56_2, b56_2, hx]
    by_cases h0 : I (j + 2) 14 0 = x
    · simp [h0]
    · by_cases h1 : I (j + 2) 14 1 = x
      · simp [h0, h1]
      · by_cases h2 : I (j + 2) 14 2 = x
        · simp [h0, h1, h2]
        · simp [h0, h1, h2]
theorem m57 (hb : 2 ≤ b) (hN : 4 ≤ N) : sem N (d + 1) 57 [vR (some (b, 10))] I F = some (vI (frS (I b 14)), I, F) := by
  obtain ⟨j, rfl⟩ := blk hb
  obtain ⟨n, rfl⟩ : ∃ n, N = n + 4 := ⟨N - 4, by omega⟩
  rw [s57]; unfold b57 frS
  simp [u57_2, b57_2]
  by_cases h0 : I (j + 2) 14 0 = -1
  · simp [h0]
  · by_cases h1 : I (j + 2) 14 1 = -1
    · simp [h0, h1]
    · by_cases h2 : I (j + 2) 14 2 = -1
      · simp [h0, h1, h2]
      · simp [h0, h1, h2]
theorem m59 (hb : 2 ≤ b) (hN : 4 ≤ N) : sem N (d + 1) 59 [vR (some (b, 10))] I F = some (vI (orb (fun k => ¬ I b 14 k = -1) 3), I, F) := by
  obtain ⟨j, rfl⟩ := blk hb
  rw [s59]; unfold b59
  refine lp (S := fun n c => sg (sem N d) 1 zc59 n 4 [vR (some (j + 2, 10)), vI (orb (fun k => ¬ I (j + 2) 14 k = -1) c), vI (nI c)] I F) (m := 3) ?_ ?_ 3 0 N rfl (by omega)
  · intro n c hc
    try dsimp only
    rw [u59_4]; unfold b59_4
    have hc' : ¬ 3 ≤ c := by omega
    by_cases h : I (j + 2) 14 c = -1
    · simp (disch := omega) only [nI_neg, nI_clamp, inb_c, nI_leI, nI_ltI, nI_eq, nI_1, nI_add, nI_mul, false_or, or_false, or_self, Nat.not_le, Nat.not_lt, not_false_eq_true, not_true_eq_false, ↓reduceIte, bI_v, bV_v, bF_v, bD_v, bL_v, bR_v, ite_bzif, bz_or, L2, L3, L4, L5, L6, L7, L8, L9, L10, L12, L17, L20, L24, L40, L63, L99, L100, L128, L126, L180, L220, L255, L268, L340, L370, L386, L390, L406, L999, L1000, hc, hc', h, orb]
    · simp (disch := omega) only [nI_neg, nI_clamp, inb_c, nI_leI, nI_ltI, nI_eq, nI_1, nI_add, nI_mul, false_or, or_false, or_self, Nat.not_le, Nat.not_lt, not_false_eq_true, not_true_eq_false, ↓reduceIte, bI_v, bV_v, bF_v, bD_v, bL_v, bR_v, ite_bzif, bz_or, L2, L3, L4, L5, L6, L7, L8, L9, L10, L12, L17, L20, L24, L40, L63, L99, L100, L128, L126, L180, L220, L255, L268, L340, L370, L386, L390, L406, L999, L1000, hc, hc', h, orb]
  · intro n
    try dsimp only
    rw [u59_4]; unfold b59_4
    simp (disch := omega) only [nI_neg, nI_clamp, inb_c, nI_leI, nI_ltI, nI_eq, nI_1, nI_add, nI_mul, false_or, or_false, or_self, Nat.not_le, Nat.not_lt, not_false_eq_true, not_true_eq_false, ↓reduceIte, bI_v, bV_v, bF_v, bD_v, bL_v, bR_v, ite_bzif, bz_or, L2, L3, L4, L5, L6, L7, L8, L9, L10, L12, L17, L20, L24, L40, L63, L99, L100, L128, L126, L180, L220, L255, L268, L340, L370, L386, L390, L406, L999, L1000, Nat.le_refl]
theorem m60 (hb : 2 ≤ b) {s : Nat} (hs : s < 3) (y : Int32) : sem N (d + 1) 60 [vR (some (b, 10)), vI (nI s), vI y] I F = some (vI 0, wI I b 14 s y, F) := by
  obtain ⟨j, rfl⟩ := blk hb
  rw [s60]; unfold b60
  rw [has2 L3 (by decide), if_pos (inb_nI hs (by decide)), if_pos (inb_nI hs (by decide)), nI_clamp (by omega)]
theorem m61 (hb : 2 ≤ b) (hN : 4 ≤ N) (x : Int32) (hs : I b 10 3 = nI nk) (hn : nk ≤ 10) : sem N (d + 3) 61 [vR (some (b, 10)), vI x] I F = some (vI (bz ((if inb x nk then I b 11 x.toNatClampNeg else -1) = -1 ∨ ¬ slOf (I b 14) (if inb x nk then I b 11 x.toNatClampNeg else -1) = -1)), I, F) := by
  have h := m54 (N := N) (d := d) (F := F) hb x hs hn
  have h2 := fun y => m56 (N := N) (d := d + 1) (F := F) (I := I) hb hN y
  obtain ⟨j, rfl⟩ := blk hb
  rw [s61]; unfold b61
  rw [h, bI_v]
  generalize (if inb x nk then I (j + 2) 11 x.toNatClampNeg else -1) = y
  by_cases hy : y = -1
  · rw [if_pos hy, bz_t (Or.inl hy)]
  · rw [if_neg hy, h2, bI_v, ite_bzn]
    congr 2
    exact congrArg vI (bz_congr ⟨fun z => Or.inr z, fun z => z.resolve_left hy⟩)
theorem m62 (hb : 2 ≤ b) (hN : 4 ≤ N) (x : Int32) (hs : I b 10 3 = nI nk) (hn : nk ≤ 10) : sem N (d + 4) 62 [vR (some (b, 10)), vI x] I F = some (vI (bz (slOf (I b 14) x = -1 ∧ ¬ (inb x nk ∧ ¬ I b 13 x.toNatClampNeg = 0) ∧ ((if inb x nk then I b 11 x.toNatClampNeg else -1) = -1 ∨ ¬ slOf (I b 14) (if inb x nk then I b 11 x.toNatClampNeg else -1) = -1))), I, F) := by
  have h := m56 (N := N) (d := d + 2) (F := F) (I := I) hb hN x
  have h2 := m53 (N := N) (d := d + 1) (F := F) hb x hs hn
  have h3 := m61 (N := N) (d := d) (F := F) hb hN x hs hn
  obtain ⟨j, rfl⟩ := blk hb
  rw [s62]; unfold b62
  rw [h, bI_v]
  by_cases z1 : slOf (I (j + 2) 14) x = -1
  · rw [if_pos z1, h2, bI_v, ite_bzif]
    by_cases z2 : inb x nk ∧ ¬ I (j + 2) 13 x.toNatClampNeg = 0
    · rw [if_pos z2, bz_f (fun y => y.2.1 z2)]
    · rw [if_neg z2, h3, bI_v, ite_bzif, ite_bz]
      congr 2
      exact congrArg vI (bz_congr ⟨fun y => ⟨z1, z2, y⟩, fun y => y.2.2⟩)
  · rw [if_neg z1, bz_f (fun y => z1 y.1)]
theorem m65 (hb : 2 ≤ b) (hN : 13 ≤ N) (x : Int32) (hs : I b 10 9 = nI nx) (hn : nx ≤ 12) : sem N (d + 2) 65 [vR (some (b, 10)), vI x] I F = some (vI (ltc (I b 16) x nx), I, F) := by
  obtain ⟨j, rfl⟩ := blk hb
  rw [s65]; unfold b65
  rw [m309, bI_v, hs, L12, if_neg (show ¬ nI 12 < nI nx from nI_nlt hn (by decide)), pI_n]
  refine lpgd (S := fun n c => sg (sem N (d + 1)) 1 zc65 n 12 [vR (some (j + 2, 10)), vI x, vI (pI c)] I F) (T := fun c => some (vI (ltc (I (j + 2) 16) x c), I, F)) (m := nx) ?_ ?_ (by omega)
  · intro n c hc
    try dsimp only
    rw [u65_12]; unfold b65_12
    rw [pI_s]
    by_cases h : I (j + 2) 16 c = x
    · refine Or.inr ?_
      have hc2 : c < 12 := by omega
      simp (disch := omega) only [nI_neg, nI_clamp, inb_c, nI_leI, nI_ltI, nI_eq, nI_1, nI_add, nI_mul, false_or, or_false, or_self, Nat.not_le, Nat.not_lt, not_false_eq_true, not_true_eq_false, ↓reduceIte, bI_v, bV_v, bF_v, bD_v, bL_v, bR_v, ite_bzif, bz_or, L2, L3, L4, L5, L6, L7, L8, L9, L10, L12, L17, L20, L24, L40, L63, L99, L100, L128, L126, L180, L220, L255, L268, L340, L370, L386, L390, L406, L999, L1000, hc2, h, ltc]
    · refine Or.inl ⟨?_, ?_⟩
      · have hc2 : c < 12 := by omega
        simp (disch := omega) only [nI_neg, nI_clamp, inb_c, nI_leI, nI_ltI, nI_eq, nI_1, nI_add, nI_mul, false_or, or_false, or_self, Nat.not_le, Nat.not_lt, not_false_eq_true, not_true_eq_false, ↓reduceIte, bI_v, bV_v, bF_v, bD_v, bL_v, bR_v, ite_bzif, bz_or, L2, L3, L4, L5, L6, L7, L8, L9, L10, L12, L17, L20, L24, L40, L63, L99, L100, L128, L126, L180, L220, L255, L268, L340, L370, L386, L390, L406, L999, L1000, hc2, h, pI_d]
      · simp only [ltc, h, ↓reduceIte]
  · intro n
    try dsimp only
    rw [u65_12]; unfold b65_12
    rw [pI_0, if_pos (by decide)]
    rfl
theorem m66 (hb : 2 ≤ b) (x : Int32) (hs : I b 10 9 = nI nx) (hn : nx ≤ 12) : sem N (d + 2) 66 [vR (some (b, 10)), vI x] I F = some (vI (if inb x nx then I b 17 x.toNatClampNeg else -1), I, F) := by
  have h := m49 (N := N) (d := d) (F := F) hb x hs hn
  obtain ⟨j, rfl⟩ := blk hb
  rw [s66]; unfold b66
  rw [h, bI_v, ite_bzif]
  by_cases z : inb x nx
  · rw [if_pos z, if_pos z, if_pos (inb_mono hn z)]
  · rw [if_neg z, if_neg z]
theorem m67 (hb : 2 ≤ b) (hN : 13 ≤ N) {c k : Nat} (st : Int32) (hc : c < nx) (hs : I b 10 9 = nI nx) (hn : nx ≤ 12) (hk : I b 16 c = nI k) (hkk : k < nk) (hs2 : I b 10 3 = nI nk) (hn2 : nk ≤ 10) : sem N (d + 3) 67 [vR (some (b, 10)), vI (nI c), vI st] I F = some (vI (bz (I b 18 c = 0 ∧ I b 15 c = st ∧ ¬ I b 13 k = 0 ∧ ltc (I b 16) (nI k) nx = nI c)), I, F) := by
  have h := m49 (N := N) (d := d + 1) (F := F) hb (nI c) hs hn
  have h2 := m53 (N := N) (d := d) (F := F) hb (nI k) hs2 hn2
  have h3 := m65 (N := N) (d := d) (F := F) hb hN (nI k) hs hn
  obtain ⟨j, rfl⟩ := blk hb
  rw [s67]; unfold b67
  have hi : inb (nI c) nx := inb_nI hc (by omega)
  rw [h, bI_v, ite_bzif, if_pos hi, if_pos (inb_mono hn hi)]
  simp only [nI_clamp (show c < 2 ^ 31 by omega), hk]
  by_cases z1 : I (j + 2) 18 c = 0
  · rw [if_pos z1, if_pos (inb_mono hn hi)]
    by_cases z2 : I (j + 2) 15 c = st
    · rw [if_pos z2, if_pos (inb_mono hn hi), h2, bI_v, ite_bzif]
      simp only [nI_clamp (show k < 2 ^ 31 by omega)]
      by_cases z3 : I (j + 2) 13 k = 0
      · rw [if_neg (fun y => y.2 z3), bz_f (fun y => y.2.2.1 z3)]
      · rw [if_pos ⟨inb_nI hkk (by omega), z3⟩, h3, bI_v, ite_bz]
        congr 2
        exact congrArg vI (bz_congr ⟨fun y => ⟨z1, z2, z3, y⟩, fun y => y.2.2.2⟩)
    · rw [if_neg z2, bz_f (fun y => z2 y.2.1)]
  · rw [if_neg z1, bz_f (fun y => z1 y.1)]
theorem m68 (hb : 2 ≤ b) {c k s : Nat} (hc : c < nx) (hs : I b 10 9 = nI nx) (hn : nx ≤ 12) (hk : I b 16 c = nI k) (hkk : k < nk) (hs2 : I b 10 3 = nI nk) (hn2 : nk ≤ 10) (hsl : I b 17 c = nI s) (hs3 : s < 3) : sem N (d + 2) 68 [vR (some (b, 10)), vI (nI c)] I F = some (vI 0, wI (wI (wI I b 14 s (nI k)) b 13 k 0) b 18 c 1, F) := by
  have h := m49 (N := N) (d := d) (F := F) hb (nI c) hs hn
  have h2 := m48 (N := N) (d := d) (F := F) hb (nI k) hs2 hn2
  have h3 := m60 (N := N) (d := d) (F := F) (I := I) hb hs3 (nI k)
  obtain ⟨j, rfl⟩ := blk hb
  rw [s68]; unfold b68
  have hi : inb (nI c) nx := inb_nI hc (by omega)
  have hi2 : inb (nI k) nk := inb_nI hkk (by omega)
  rw [h, bI_v, ite_bzif, if_pos hi, if_pos (inb_mono hn hi)]
  simp only [nI_clamp (show c < 2 ^ 31 by omega), nI_clamp (show k < 2 ^ 31 by omega), hk, h2, bI_v, ite_bzif, eq_true hi2, eq_true (inb_mono hn hi), hsl, h3, bV_v, eq_true (inb_mono hn2 hi2), ↓reduceIte]
theorem m64 (hb : 2 ≤ b) {k : Nat} (st sl : Int32) (hs : I b 10 9 = nI nx) (hn : nx < 12) (hkk : k < nk) (hs2 : I b 10 3 = nI nk) (hn2 : nk ≤ 10) : sem N (d + 2) 64 [vR (some (b, 10)), vI st, vI (nI k), vI sl] I F = some (vI (nI nx), wI (wI (wI (wI (wI (wI I b 15 nx st) b 16 nx (nI k)) b 17 nx sl) b 18 nx 0) b 13 k 1) b 10 9 (nI (nx + 1)), F) := by
  have h2 := m48 (N := N) (d := d) (F := F) hb (nI k) hs2 hn2
  obtain ⟨j, rfl⟩ := blk hb
  rw [s64]; unfold b64
  have hi2 : inb (nI k) nk := inb_nI hkk (by omega)
  have hi : inb (nI nx) 12 := inb_nI hn (by omega)
  rw [hs, if_neg (nI_pos (by omega)), if_neg (show ¬ (12 : Int32) ≤ nI nx from nI_ge hn (by decide)), h2, bI_v, ite_bzif, if_pos hi2]
  simp only [wI_eq, hs, reduceCtorEq, Nat.reduceEqDiff, and_false, false_and, and_self, ↓reduceIte]
  rw [if_pos hi]
  simp only [eq_true hi, ↓reduceIte, nI_clamp (show nx < 2 ^ 31 by omega), nI_clamp (show k < 2 ^ 31 by omega), if_pos (inb_mono hn2 hi2), nI_1, nI_pred]
theorem m50 (hb : 2 ≤ b) (p y : Int32) (hs : I b 10 3 = nI nk) (hn : nk < 10) : sem N (d + 1) 50 [vR (some (b, 10)), vI p, vI y] I F = some (vI (nI nk), wI (wI (wI (wI I b 11 nk p) b 12 nk y) b 13 nk 0) b 10 3 (nI (nk + 1)), F) := by
  obtain ⟨j, rfl⟩ := blk hb
  rw [s50]; unfold b50
  have hi : inb (nI nk) 10 := inb_nI hn (by omega)
  rw [hs, if_neg (nI_pos (by omega)), if_pos (show nI nk < (10 : Int32) from nI_lt hn (by decide)), if_pos hi]
  simp only [wI_eq, hs, reduceCtorEq, Nat.reduceEqDiff, and_false, false_and, and_self, ↓reduceIte, eq_true hi, nI_clamp (show nk < 2 ^ 31 by omega), nI_1, nI_pred]
end KC
theorem ltc_ge {f : Nat → Int32} {x : Int32} : ∀ {m c : Nat}, m ≤ 2 ^ 20 → c < m → f c = x → (∀ j, c < j → j < m → f j ≠ x) → ltc f x m = nI c := by
  intro m
  induction m with
  | zero => intro c _ h; omega
  | succ m ih =>
    intro c hm hc hf hj
    unfold ltc
    by_cases e : c = m
    · subst e
      rw [if_pos hf]
    · rw [if_neg (hj m (by omega) (by omega))]
      exact ih (by omega) (by omega) hf (fun j h1 h2 => hj j h1 (by omega))
