/-! THE CLASS: board, entries, policies, seals, sessions of a state -/
def dig (r : Nat → Int32) (set : Int32) : Nat → Int32
  | 0 => 17
  | c + 1 => if set &&& sh1 c = 0 then dig r set c else mixF (dig r set c) (r c)
def rtl (rg nm : Nat → Int32) (r lf jn : Int32) : Nat → Int32
  | 0 => atF r
  | c + 1 => if (rg c = r ∧ ¬ nI c = lf) ∨ nI c = jn then mixF (rtl rg nm r lf jn c) (nm c) else rtl rg nm r lf jn c
def exb (P : Nat → Prop) [DecidablePred P] : Nat → Bool
  | 0 => false
  | c + 1 => decide (P c) || exb P c
theorem exb_iff {P : Nat → Prop} [DecidablePred P] : ∀ {m : Nat}, exb P m = true ↔ ∃ i, i < m ∧ P i := by
  intro m
  induction m with
  | zero => exact ⟨fun h => (by cases h), fun ⟨i, h, _⟩ => (by omega)⟩
  | succ m ih =>
    unfold exb
    rw [Bool.or_eq_true, decide_eq_true_iff, ih]
    constructor
    · rintro (h | ⟨i, h1, h2⟩)
      · exact ⟨m, by omega, h⟩
      · exact ⟨i, by omega, h2⟩
    · rintro ⟨i, h1, h2⟩
      by_cases e : i = m
      · subst e; exact Or.inl h2
      · exact Or.inr ⟨i, by omega, h2⟩
def ag (f : Nat → Int32) (x : Int32) : Nat → Nat
  | 0 => 0
  | c + 1 => if f c = x then 0 else ag f x c + 1
theorem ag_le (f : Nat → Int32) (x : Int32) : ∀ m : Nat, ag f x m ≤ m := by
  intro m
  induction m with
  | zero => exact Nat.le_refl _
  | succ m ih => unfold ag; split <;> omega
section PC
variable {N d b o n : Nat} {I : IM} {F : FM}
theorem m171 (x : Int32) : sem N (d + 1) 171 [vI x] I F = some (vI (bz (inb x 8)), I, F) := by
  rw [s171]; unfold b171; rw [has2 L8 (by decide), ite_bz]
theorem m172 (x : Int32) : sem N (d + 1) 172 [vI x] I F = some (vI (bz (inb x 256)), I, F) := by
  rw [s172]; unfold b172; rw [has2 (show (256 : Int32) = nI 256 from rfl) (by decide), ite_bz]
theorem m173 (x : Int32) : sem N (d + 1) 173 [vI x] I F = some (vI (bz (inb x 4)), I, F) := by
  rw [s173]; unfold b173; rw [has2 L4 (by decide), ite_bz]
theorem m174 (x : Int32) : sem N (d + 1) 174 [vI x] I F = some (vI (bz (inb x 2)), I, F) := by
  rw [s174]; unfold b174; rw [has2 L2 (by decide), ite_bz]
theorem m3 (hb : 2 ≤ b) (hN : 9 ≤ N) : sem N (d + 2) 3 [vR (some (b, 1))] I F = some (vI 0, wI (wI (fl I b 2 8 (fun r => atF (nI r))) b 1 2 0) b 1 4 (I b 1 4 + 1), F) := by
  obtain ⟨j, rfl⟩ := blk hb
  rw [s3]; unfold b3
  have h := lp (S := fun n c => sg (sem N (d + 1)) 0 zc3 n 2 [vR (some (j + 2, 1)), vI (nI c)] (fl I (j + 2) 2 c (fun r => atF (nI r))) F) (T := some (vI 0, wI (wI (fl I (j + 2) 2 8 (fun r => atF (nI r))) (j + 2) 1 2 0) (j + 2) 1 4 (I (j + 2) 1 4 + 1), F)) (m := 8) ?_ ?_ 8 0 N rfl (by omega)
  · try dsimp only at h
    rw [fl_0] at h
    exact h
  · intro n c hc
    try dsimp only
    rw [u3_2]; unfold b3_2
    have hc' : ¬ 8 ≤ c := by omega
    simp (disch := omega) only [nI_neg, nI_clamp, inb_c, nI_leI, nI_ltI, nI_eq, nI_1, nI_add, nI_mul, false_or, or_false, or_self, Nat.not_le, Nat.not_lt, not_false_eq_true, not_true_eq_false, ↓reduceIte, bI_v, bV_v, bF_v, bD_v, bL_v, bR_v, ite_bzif, bz_or, L2, L3, L4, L5, L6, L7, L8, L9, L10, L12, L17, L20, L24, L40, L63, L99, L100, L128, L126, L180, L220, L255, L268, L340, L370, L386, L390, L406, L999, L1000, hc, hc', m1, fl_s]
  · intro n
    try dsimp only
    rw [u3_2]; unfold b3_2
    simp (disch := omega) only [nI_neg, nI_clamp, inb_c, nI_leI, nI_ltI, nI_eq, nI_1, nI_add, nI_mul, false_or, or_false, or_self, Nat.not_le, Nat.not_lt, not_false_eq_true, not_true_eq_false, ↓reduceIte, bI_v, bV_v, bF_v, bD_v, bL_v, bR_v, ite_bzif, bz_or, L2, L3, L4, L5, L6, L7, L8, L9, L10, L12, L17, L20, L24, L40, L63, L99, L100, L128, L126, L180, L220, L255, L268, L340, L370, L386, L390, L406, L999, L1000, Nat.le_refl, wI_eq, fl_eq, Nat.reduceEqDiff, and_false, false_and]
theorem m4 (hb : 2 ≤ b) (x : Int32) : sem N (d + 1) 4 [vR (some (b, 1)), vI x] I F = some (vI (bz (x < 6 ∨ ¬ I b 1 2 < 1)), I, F) := by
  obtain ⟨j, rfl⟩ := blk hb
  rw [s4]; unfold b4
  by_cases h : x < 6
  · rw [if_pos h, bz_t (Or.inl h)]
  · rw [if_neg h]
    by_cases h2 : I (j + 2) 1 2 < 1
    · rw [if_pos h2, bz_f (fun y => y.elim h (fun z => z h2))]
    · rw [if_neg h2, bz_t (Or.inr h2)]
theorem m5 (hb : 2 ≤ b) {r : Nat} (hr : r < 8) (y : Int32) : sem N (d + 2) 5 [vR (some (b, 1)), vI (nI r), vI y] I F = some (vI 0, wI I b 2 r (mixF (I b 2 r) y), F) := by
  obtain ⟨j, rfl⟩ := blk hb
  rw [s5]; unfold b5
  have hi : inb (nI r) 8 := inb_nI hr (by decide)
  rw [m171, bI_v, ite_bzif, if_pos hi, if_pos hi, m69, bI_v, if_pos hi, nI_clamp (by omega)]
theorem m6 (hb : 2 ≤ b) (hN : 9 ≤ N) (set : Int32) : sem N (d + 2) 6 [vR (some (b, 1)), vI set] I F = some (vI (dig (I b 2) set 8), I, F) := by
  obtain ⟨j, rfl⟩ := blk hb
  rw [s6]; unfold b6
  refine lp (S := fun n c => sg (sem N (d + 1)) 1 zc6 n 5 [vR (some (j + 2, 1)), vI set, vI (dig (I (j + 2) 2) set c), vI (nI c)] I F) (m := 8) ?_ ?_ 8 0 N rfl (by omega)
  · intro n c hc
    try dsimp only
    rw [u6_5]; unfold b6_5
    have hc' : ¬ 8 ≤ c := by omega
    by_cases h : set &&& sh1 c = 0
    · simp (disch := omega) only [nI_neg, nI_clamp, inb_c, nI_leI, nI_ltI, nI_eq, nI_1, nI_add, nI_mul, false_or, or_false, or_self, Nat.not_le, Nat.not_lt, not_false_eq_true, not_true_eq_false, ↓reduceIte, bI_v, bV_v, bF_v, bD_v, bL_v, bR_v, ite_bzif, bz_or, L2, L3, L4, L5, L6, L7, L8, L9, L10, L12, L17, L20, L24, L40, L63, L99, L100, L128, L126, L180, L220, L255, L268, L340, L370, L386, L390, L406, L999, L1000, hc, hc', h, m69, dig]
    · simp (disch := omega) only [nI_neg, nI_clamp, inb_c, nI_leI, nI_ltI, nI_eq, nI_1, nI_add, nI_mul, false_or, or_false, or_self, Nat.not_le, Nat.not_lt, not_false_eq_true, not_true_eq_false, ↓reduceIte, bI_v, bV_v, bF_v, bD_v, bL_v, bR_v, ite_bzif, bz_or, L2, L3, L4, L5, L6, L7, L8, L9, L10, L12, L17, L20, L24, L40, L63, L99, L100, L128, L126, L180, L220, L255, L268, L340, L370, L386, L390, L406, L999, L1000, hc, hc', h, m69, dig]
  · intro n
    try dsimp only
    rw [u6_5]; unfold b6_5
    simp (disch := omega) only [nI_neg, nI_clamp, inb_c, nI_leI, nI_ltI, nI_eq, nI_1, nI_add, nI_mul, false_or, or_false, or_self, Nat.not_le, Nat.not_lt, not_false_eq_true, not_true_eq_false, ↓reduceIte, bI_v, bV_v, bF_v, bD_v, bL_v, bR_v, ite_bzif, bz_or, L2, L3, L4, L5, L6, L7, L8, L9, L10, L12, L17, L20, L24, L40, L63, L99, L100, L128, L126, L180, L220, L255, L268, L340, L370, L386, L390, L406, L999, L1000, Nat.le_refl]
theorem m12 (hb : 2 ≤ b) (ho : o = 4 ∨ o = 7) (x : Int32) (hs : I b o 2 = nI n) (hn : n ≤ 40) : sem N (d + 1) 12 [vR (some (b, o)), vI x] I F = some (vI (bz (inb x n)), I, F) := by
  obtain ⟨j, rfl⟩ := blk hb
  rcases ho with rfl | rfl
  · rw [s12v0]; unfold b12; rw [has3 hs L40 hn (by decide), ite_bz]
  · rw [s12v1]; unfold b12; rw [has3 hs L40 hn (by decide), ite_bz]
theorem m13 (hb : 2 ≤ b) (ho : o = 4 ∨ o = 7) (hs : I b o 2 = nI n) (hn : n ≤ 40) : sem N (d + 1) 13 [vR (some (b, o))] I F = some (vI (bz (¬ n < 40)), I, F) := by
  obtain ⟨j, rfl⟩ := blk hb
  rcases ho with rfl | rfl
  · rw [s13v0]; unfold b13; rw [ite_bzn]; congr 2; refine congrArg vI (bz_congr ?_); rw [hs, L40, nI_ltI (by omega) (by omega)]
  · rw [s13v1]; unfold b13; rw [ite_bzn]; congr 2; refine congrArg vI (bz_congr ?_); rw [hs, L40, nI_ltI (by omega) (by omega)]
theorem m14 (hb : 2 ≤ b) (ho : o = 4 ∨ o = 7) (x y : Int32) (hs : I b o 2 = nI n) (hn : n < 40) : sem N (d + 1) 14 [vR (some (b, o)), vI x, vI y] I F = some (vI 0, wI (wI (wI I b (o + 1) n x) b (o + 2) n y) b o 2 (nI (n + 1)), F) := by
  obtain ⟨j, rfl⟩ := blk hb
  have hi : inb (nI n) 40 := inb_nI hn (by omega)
  have e : b14 (sem N d) (sg (sem N d) 0 zc14 N) (j + 2) o x y I F = some (vI 0, wI (wI (wI I (j + 2) (o + 1) n x) (j + 2) (o + 2) n y) (j + 2) o 2 (nI (n + 1)), F) := by
    unfold b14
    rw [hs, if_neg (nI_pos (by omega)), if_pos (show nI n < (40 : Int32) from nI_lt hn (by decide)), if_pos hi]
    have e1 : ¬ o = o + 1 := by omega
    have e2 : ¬ o = o + 2 := by omega
    simp only [wI_eq, hs, e1, e2, and_false, false_and, and_self, ↓reduceIte, eq_true hi, nI_clamp (show n < 2 ^ 31 by omega), nI_1]
  rcases ho with rfl | rfl
  · rw [s14v0]; exact e
  · rw [s14v1]; exact e
theorem m15 (hb : 2 ≤ b) (hN : 42 ≤ N) (x y : Int32) (hs : I b 4 2 = nI n) (hn : n ≤ 40) : sem N (d + 1) 15 [vR (some (b, 4)), vI x, vI y] I F = some (vI (bz (∃ i, i < n ∧ I b 5 i = x ∧ I b 6 i = y)), I, F) := by
  obtain ⟨j, rfl⟩ := blk hb
  rw [s15v0]; unfold b15
  refine Or.elim (lpf0 (S := fun m c => sg (sem N d) 6 zc15 m 2 [vR (some (j + 2, 4)), vI x, vI y, vI (nI c)] I F) (P := fun i => I (j + 2) 5 i = x ∧ I (j + 2) 6 i = y) (R := fun _ => some (vI 1, I, F)) (D := some (vI 0, I, F)) (m := n) (N := N) (by omega) ?_ ?_) (fun ⟨i, h1, h2, _, h3⟩ => ?_) (fun ⟨h1, h2⟩ => ?_)
  rotate_left 2
  · rw [bz_t ⟨i, h1, h2⟩]; exact h3
  · rw [bz_f (fun ⟨i, z1, z2⟩ => h1 i z1 z2)]; exact h2
  · intro m c hc
    try dsimp only
    rw [u15v0_2]; unfold b15_2
    have q1 : ¬ n ≤ c := by omega
    have q2 : ¬ 40 ≤ c := by omega
    have q3 : c < 40 := by omega
    by_cases z1 : I (j + 2) 5 c = x
    · by_cases z2 : I (j + 2) 6 c = y
      · exact Or.inl ⟨⟨z1, z2⟩, by simp (disch := omega) only [nI_neg, nI_clamp, inb_c, nI_leI, nI_ltI, nI_eq, nI_1, nI_add, nI_mul, false_or, or_false, or_self, Nat.not_le, Nat.not_lt, not_false_eq_true, not_true_eq_false, ↓reduceIte, bI_v, bV_v, bF_v, bD_v, bL_v, bR_v, ite_bzif, bz_or, L2, L3, L4, L5, L6, L7, L8, L9, L10, L12, L17, L20, L24, L40, L63, L99, L100, L128, L126, L180, L220, L255, L268, L340, L370, L386, L390, L406, L999, L1000, hs, q1, q2, q3, z1, z2]⟩
      · exact Or.inr ⟨fun q => z2 q.2, by simp (disch := omega) only [nI_neg, nI_clamp, inb_c, nI_leI, nI_ltI, nI_eq, nI_1, nI_add, nI_mul, false_or, or_false, or_self, Nat.not_le, Nat.not_lt, not_false_eq_true, not_true_eq_false, ↓reduceIte, bI_v, bV_v, bF_v, bD_v, bL_v, bR_v, ite_bzif, bz_or, L2, L3, L4, L5, L6, L7, L8, L9, L10, L12, L17, L20, L24, L40, L63, L99, L100, L128, L126, L180, L220, L255, L268, L340, L370, L386, L390, L406, L999, L1000, hs, q1, q2, q3, z1, z2]⟩
    · exact Or.inr ⟨fun q => z1 q.1, by simp (disch := omega) only [nI_neg, nI_clamp, inb_c, nI_leI, nI_ltI, nI_eq, nI_1, nI_add, nI_mul, false_or, or_false, or_self, Nat.not_le, Nat.not_lt, not_false_eq_true, not_true_eq_false, ↓reduceIte, bI_v, bV_v, bF_v, bD_v, bL_v, bR_v, ite_bzif, bz_or, L2, L3, L4, L5, L6, L7, L8, L9, L10, L12, L17, L20, L24, L40, L63, L99, L100, L128, L126, L180, L220, L255, L268, L340, L370, L386, L390, L406, L999, L1000, hs, q1, q2, q3, z1]⟩
  · intro m
    try dsimp only
    rw [u15v0_2]; unfold b15_2
    simp (disch := omega) only [nI_neg, nI_clamp, inb_c, nI_leI, nI_ltI, nI_eq, nI_1, nI_add, nI_mul, false_or, or_false, or_self, Nat.not_le, Nat.not_lt, not_false_eq_true, not_true_eq_false, ↓reduceIte, bI_v, bV_v, bF_v, bD_v, bL_v, bR_v, ite_bzif, bz_or, L2, L3, L4, L5, L6, L7, L8, L9, L10, L12, L17, L20, L24, L40, L63, L99, L100, L128, L126, L180, L220, L255, L268, L340, L370, L386, L390, L406, L999, L1000, hs, Nat.le_refl]
theorem e16 {j : Nat} (hN : 42 ≤ N) (x lf jn : Int32) (hn : n ≤ 40) (hu : ∀ (q : Nat) (x5 x6 : Int32), sg (sem N (d + 1)) 1 zc16 (q + 1) 9 [vR (some (j + 2, o)), vI x, vI (nI n), vI lf, vI jn, vI x5, vI x6] I F = b16_9 (sem N (d + 1)) (sg (sem N (d + 1)) 1 zc16 q) (j + 2) o x (nI n) lf jn x5 x6 I F) : b16 (sem N (d + 1)) (sg (sem N (d + 1)) 1 zc16 N) (j + 2) o x (nI n) lf jn I F = some (vI (rtl (I (j + 2) (o + 1)) (I (j + 2) (o + 2)) x lf jn n), I, F) := by
  unfold b16
  rw [m1, bI_v]
  refine lp (S := fun m c => sg (sem N (d + 1)) 1 zc16 m 9 [vR (some (j + 2, o)), vI x, vI (nI n), vI lf, vI jn, vI (rtl (I (j + 2) (o + 1)) (I (j + 2) (o + 2)) x lf jn c), vI (nI c)] I F) (m := n) ?_ ?_ n 0 N (by omega) (by omega)
  · intro m c hc
    try dsimp only
    rw [hu]; unfold b16_9
    have q1 : ¬ n ≤ c := by omega
    have q2 : ¬ 40 ≤ c := by omega
    have q3 : c < 40 := by omega
    have q4 : ((1 : Int32) = 0) = False := by decide
    by_cases z1 : I (j + 2) (o + 1) c = x
    · by_cases z2 : nI c = lf
      · by_cases z3 : nI c = jn
        · simp (disch := omega) only [nI_neg, nI_clamp, inb_c, nI_leI, nI_ltI, nI_eq, nI_1, nI_add, nI_mul, false_or, or_false, or_self, Nat.not_le, Nat.not_lt, not_false_eq_true, not_true_eq_false, ↓reduceIte, bI_v, bV_v, bF_v, bD_v, bL_v, bR_v, ite_bzif, bz_or, L2, L3, L4, L5, L6, L7, L8, L9, L10, L12, L17, L20, L24, L40, L63, L99, L100, L128, L126, L180, L220, L255, L268, L340, L370, L386, L390, L406, L999, L1000, q1, q2, q3, q4, eq_true z1, eq_true z2, eq_true z3, m69, rtl, true_and, and_true, true_or, or_true]
        · simp (disch := omega) only [nI_neg, nI_clamp, inb_c, nI_leI, nI_ltI, nI_eq, nI_1, nI_add, nI_mul, false_or, or_false, or_self, Nat.not_le, Nat.not_lt, not_false_eq_true, not_true_eq_false, ↓reduceIte, bI_v, bV_v, bF_v, bD_v, bL_v, bR_v, ite_bzif, bz_or, L2, L3, L4, L5, L6, L7, L8, L9, L10, L12, L17, L20, L24, L40, L63, L99, L100, L128, L126, L180, L220, L255, L268, L340, L370, L386, L390, L406, L999, L1000, q1, q2, q3, q4, eq_true z1, eq_true z2, z3, m69, rtl, true_and, and_true, and_false]
      · by_cases z3 : nI c = jn
        · simp (disch := omega) only [nI_neg, nI_clamp, inb_c, nI_leI, nI_ltI, nI_eq, nI_1, nI_add, nI_mul, false_or, or_false, or_self, Nat.not_le, Nat.not_lt, not_false_eq_true, not_true_eq_false, ↓reduceIte, bI_v, bV_v, bF_v, bD_v, bL_v, bR_v, ite_bzif, bz_or, L2, L3, L4, L5, L6, L7, L8, L9, L10, L12, L17, L20, L24, L40, L63, L99, L100, L128, L126, L180, L220, L255, L268, L340, L370, L386, L390, L406, L999, L1000, q1, q2, q3, q4, eq_true z1, z2, eq_true z3, m69, rtl, true_and, and_true, true_or, or_true]
        · simp (disch := omega) only [nI_neg, nI_clamp, inb_c, nI_leI, nI_ltI, nI_eq, nI_1, nI_add, nI_mul, false_or, or_false, or_self, Nat.not_le, Nat.not_lt, not_false_eq_true, not_true_eq_false, ↓reduceIte, bI_v, bV_v, bF_v, bD_v, bL_v, bR_v, ite_bzif, bz_or, L2, L3, L4, L5, L6, L7, L8, L9, L10, L12, L17, L20, L24, L40, L63, L99, L100, L128, L126, L180, L220, L255, L268, L340, L370, L386, L390, L406, L999, L1000, q1, q2, q3, q4, eq_true z1, z2, z3, m69, rtl, true_and, and_true, true_or, or_true]
    · by_cases z3 : nI c = jn
      · simp (disch := omega) only [nI_neg, nI_clamp, inb_c, nI_leI, nI_ltI, nI_eq, nI_1, nI_add, nI_mul, false_or, or_false, or_self, Nat.not_le, Nat.not_lt, not_false_eq_true, not_true_eq_false, ↓reduceIte, bI_v, bV_v, bF_v, bD_v, bL_v, bR_v, ite_bzif, bz_or, L2, L3, L4, L5, L6, L7, L8, L9, L10, L12, L17, L20, L24, L40, L63, L99, L100, L128, L126, L180, L220, L255, L268, L340, L370, L386, L390, L406, L999, L1000, q1, q2, q3, q4, z1, eq_true z3, m69, rtl, true_and, and_true, true_or, or_true, false_and]
      · simp (disch := omega) only [nI_neg, nI_clamp, inb_c, nI_leI, nI_ltI, nI_eq, nI_1, nI_add, nI_mul, false_or, or_false, or_self, Nat.not_le, Nat.not_lt, not_false_eq_true, not_true_eq_false, ↓reduceIte, bI_v, bV_v, bF_v, bD_v, bL_v, bR_v, ite_bzif, bz_or, L2, L3, L4, L5, L6, L7, L8, L9, L10, L12, L17, L20, L24, L40, L63, L99, L100, L128, L126, L180, L220, L255, L268, L340, L370, L386, L390, L406, L999, L1000, q1, q2, q3, q4, z1, z3, m69, rtl, true_and, and_true, false_and]
  · intro m
    try dsimp only
    rw [hu]; unfold b16_9
    simp (disch := omega) only [nI_neg, nI_clamp, inb_c, nI_leI, nI_ltI, nI_eq, nI_1, nI_add, nI_mul, false_or, or_false, or_self, Nat.not_le, Nat.not_lt, not_false_eq_true, not_true_eq_false, ↓reduceIte, bI_v, bV_v, bF_v, bD_v, bL_v, bR_v, ite_bzif, bz_or, L2, L3, L4, L5, L6, L7, L8, L9, L10, L12, L17, L20, L24, L40, L63, L99, L100, L128, L126, L180, L220, L255, L268, L340, L370, L386, L390, L406, L999, L1000, Nat.le_refl]
theorem m16 (hb : 2 ≤ b) (ho : o = 4 ∨ o = 7) (hN : 42 ≤ N) (x lf jn : Int32) (hn : n ≤ 40) : sem N (d + 2) 16 [vR (some (b, o)), vI x, vI (nI n), vI lf, vI jn] I F = some (vI (rtl (I b (o + 1)) (I b (o + 2)) x lf jn n), I, F) := by
  obtain ⟨j, rfl⟩ := blk hb
  rcases ho with rfl | rfl
  · rw [s16v0]; exact e16 hN x lf jn hn (fun q x5 x6 => u16v0_9 _ _ _ _ _ _ _ _ _ _ _)
  · rw [s16v1]; exact e16 hN x lf jn hn (fun q x5 x6 => u16v1_9 _ _ _ _ _ _ _ _ _ _ _)
theorem e18 {j e : Nat} (hb : o = 4 ∨ o = 7) (hN : 42 ≤ N) (hs : I (j + 2) o 2 = nI n) (hn : n ≤ 40) (hu : ∀ (q : Nat) (x5 x6 : Int32), sg (sem N (d + 2)) 1 zc18 (q + 1) 4 [vR (some (j + 2, o)), vR (some (e + 2, 2)), vI x5, vI x6] I F = b18_4 (sem N (d + 2)) (sg (sem N (d + 2)) 1 zc18 q) (j + 2) o (e + 2) x5 x6 I F) : b18 (sem N (d + 2)) (sg (sem N (d + 2)) 1 zc18 N) (j + 2) o (e + 2) I F = some (vI (orb (fun r => ¬ rtl (I (j + 2) (o + 1)) (I (j + 2) (o + 2)) (nI r) (-1) (-1) n = I (e + 2) 2 r) 8), I, F) := by
  unfold b18
  refine lp (S := fun m c => sg (sem N (d + 2)) 1 zc18 m 4 [vR (some (j + 2, o)), vR (some (e + 2, 2)), vI (orb (fun r => ¬ rtl (I (j + 2) (o + 1)) (I (j + 2) (o + 2)) (nI r) (-1) (-1) n = I (e + 2) 2 r) c), vI (nI c)] I F) (m := 8) ?_ ?_ 8 0 N rfl (by omega)
  · intro m c hc
    try dsimp only
    rw [hu]; unfold b18_4
    have q2 : ¬ 8 ≤ c := by omega
    have h16 := m16 (N := N) (d := d) (I := I) (F := F) (b := j + 2) (by omega) hb hN (nI c) (-1) (-1) hn
    by_cases z : rtl (I (j + 2) (o + 1)) (I (j + 2) (o + 2)) (nI c) (-1) (-1) n = I (e + 2) 2 c
    · simp (disch := omega) only [nI_neg, nI_clamp, inb_c, nI_leI, nI_ltI, nI_eq, nI_1, nI_add, nI_mul, false_or, or_false, or_self, Nat.not_le, Nat.not_lt, not_false_eq_true, not_true_eq_false, ↓reduceIte, bI_v, bV_v, bF_v, bD_v, bL_v, bR_v, ite_bzif, bz_or, L2, L3, L4, L5, L6, L7, L8, L9, L10, L12, L17, L20, L24, L40, L63, L99, L100, L128, L126, L180, L220, L255, L268, L340, L370, L386, L390, L406, L999, L1000, hs, h16, q2, hc, z, orb]
    · simp (disch := omega) only [nI_neg, nI_clamp, inb_c, nI_leI, nI_ltI, nI_eq, nI_1, nI_add, nI_mul, false_or, or_false, or_self, Nat.not_le, Nat.not_lt, not_false_eq_true, not_true_eq_false, ↓reduceIte, bI_v, bV_v, bF_v, bD_v, bL_v, bR_v, ite_bzif, bz_or, L2, L3, L4, L5, L6, L7, L8, L9, L10, L12, L17, L20, L24, L40, L63, L99, L100, L128, L126, L180, L220, L255, L268, L340, L370, L386, L390, L406, L999, L1000, hs, h16, q2, hc, z, orb]
  · intro m
    try dsimp only
    rw [hu]; unfold b18_4
    simp (disch := omega) only [nI_neg, nI_clamp, inb_c, nI_leI, nI_ltI, nI_eq, nI_1, nI_add, nI_mul, false_or, or_false, or_self, Nat.not_le, Nat.not_lt, not_false_eq_true, not_true_eq_false, ↓reduceIte, bI_v, bV_v, bF_v, bD_v, bL_v, bR_v, ite_bzif, bz_or, L2, L3, L4, L5, L6, L7, L8, L9, L10, L12, L17, L20, L24, L40, L63, L99, L100, L128, L126, L180, L220, L255, L268, L340, L370, L386, L390, L406, L999, L1000, Nat.le_refl]
theorem m18 {e : Nat} (hb : 2 ≤ b) (he : 2 ≤ e) (ho : o = 4 ∨ o = 7) (hN : 42 ≤ N) (hs : I b o 2 = nI n) (hn : n ≤ 40) : sem N (d + 3) 18 [vR (some (b, o)), vR (some (e, 2))] I F = some (vI (orb (fun r => ¬ rtl (I b (o + 1)) (I b (o + 2)) (nI r) (-1) (-1) n = I e 2 r) 8), I, F) := by
  obtain ⟨j, rfl⟩ := blk hb
  obtain ⟨e, rfl⟩ := blk he
  rcases ho with rfl | rfl
  · rw [s18v0]; exact e18 (Or.inl rfl) hN hs hn (fun q x5 x6 => u18v0_4 _ _ _ _ _ _ _ _)
  · rw [s18v1]; exact e18 (Or.inr rfl) hN hs hn (fun q x5 x6 => u18v1_4 _ _ _ _ _ _ _ _)
theorem m24 (hb : 2 ≤ b) (hN : 42 ≤ N) (x : Int32) (hs : I b 4 2 = nI n) (hn : n ≤ 40) : sem N (d + 2) 24 [vR (some (b, 4)), vI x] I F = some (vI (nI (ag (I b 5) x n)), I, F) := by
  obtain ⟨j, rfl⟩ := blk hb
  rw [s24v0]; unfold b24
  rw [m309, bI_v, hs, L40, if_neg (show ¬ nI 40 < nI n from nI_nlt hn (by decide)), pI_n]
  have h := lpgd (S := fun m c => sg (sem N (d + 1)) 1 zc24 m 14 [vR (some (j + 2, 4)), vI x, vI (nI (n - c)), vI (pI c)] I F) (T := fun c => some (vI (nI (n - c + ag (I (j + 2) 5) x c)), I, F)) (m := n) ?_ ?_ (n := N) (by omega)
  · try dsimp only at h
    rw [Nat.sub_self, Nat.zero_add] at h
    exact h
  · intro m c hc
    try dsimp only
    rw [u24v0_14]; unfold b24_14
    rw [pI_s]
    have q3 : c < 40 := by omega
    have e1 : n - (c + 1) + 1 = n - c := by omega
    by_cases h : I (j + 2) 5 c = x
    · exact Or.inr (by simp (disch := omega) only [nI_neg, nI_clamp, inb_c, nI_leI, nI_ltI, nI_eq, nI_1, nI_add, nI_mul, false_or, or_false, or_self, Nat.not_le, Nat.not_lt, not_false_eq_true, not_true_eq_false, ↓reduceIte, bI_v, bV_v, bF_v, bD_v, bL_v, bR_v, ite_bzif, bz_or, L2, L3, L4, L5, L6, L7, L8, L9, L10, L12, L17, L20, L24, L40, L63, L99, L100, L128, L126, L180, L220, L255, L268, L340, L370, L386, L390, L406, L999, L1000, q3, h, ag, Nat.add_zero])
    · refine Or.inl ⟨by simp (disch := omega) only [nI_neg, nI_clamp, inb_c, nI_leI, nI_ltI, nI_eq, nI_1, nI_add, nI_mul, false_or, or_false, or_self, Nat.not_le, Nat.not_lt, not_false_eq_true, not_true_eq_false, ↓reduceIte, bI_v, bV_v, bF_v, bD_v, bL_v, bR_v, ite_bzif, bz_or, L2, L3, L4, L5, L6, L7, L8, L9, L10, L12, L17, L20, L24, L40, L63, L99, L100, L128, L126, L180, L220, L255, L268, L340, L370, L386, L390, L406, L999, L1000, q3, h, pI_d, e1], ?_⟩
      rw [show ag (I (j + 2) 5) x (c + 1) = ag (I (j + 2) 5) x c + 1 by simp only [ag, h, ↓reduceIte]]
      rw [show n - (c + 1) + (ag (I (j + 2) 5) x c + 1) = n - c + ag (I (j + 2) 5) x c by omega]
  · intro m
    try dsimp only
    rw [u24v0_14]; unfold b24_14
    rw [pI_0, if_pos (by decide)]
    rfl
/-! policies -/
theorem m81 (hb : 2 ≤ b) (x : Int32) (hs : I b 19 5 = nI n) (hn : n ≤ 24) : sem N (d + 1) 81 [vR (some (b, 19)), vI x] I F = some (vI (bz (inb x n)), I, F) := by
  obtain ⟨j, rfl⟩ := blk hb
  rw [s81]; unfold b81
  rw [has3 hs L24 hn (by decide), ite_bz]
theorem m82 (x : Int32) : sem N (d + 1) 82 [vI x] I F = some (vI (bz (x = 3 ∨ x = 4)), I, F) := by
  rw [s82]; unfold b82
  by_cases h : x = 3
  · rw [if_pos h, bz_t (Or.inl h)]
  · rw [if_neg h]
    by_cases h2 : x = 4
    · rw [if_pos h2, bz_t (Or.inr h2)]
    · rw [if_neg h2, bz_f (fun z => z.elim h h2)]
def mkd (f : Nat → Int32) (x a c : Int32) : Int32 := if x = 3 ∨ x = 4 then 1 + f a.toNatClampNeg + f c.toNatClampNeg else 1
def nmd (f : Nat → Int32) (x a c : Int32) : Int32 := if x = 3 ∨ x = 4 then mixF (mixF (mixF 17 x) (f a.toNatClampNeg)) (f c.toNatClampNeg) else mixF (mixF (mixF 17 x) a) c
theorem m83 (hb : 2 ≤ b) (x a c : Int32) (hs : I b 19 5 = nI n) (hn : n ≤ 24) (hx : x = 3 ∨ x = 4 → inb a n ∧ inb c n) : sem N (d + 2) 83 [vR (some (b, 19)), vI x, vI a, vI c] I F = some (vI (mkd (I b 23) x a c), I, F) := by
  have h1 := m81 (N := N) (d := d) (F := F) hb a hs hn
  have h2 := m81 (N := N) (d := d) (F := F) hb c hs hn
  obtain ⟨j, rfl⟩ := blk hb
  rw [s83]; unfold b83 mkd
  rw [m82, bI_v, ite_bzif]
  by_cases h : x = 3 ∨ x = 4
  · obtain ⟨z1, z2⟩ := hx h
    rw [if_pos h, if_pos h, h1, bI_v, ite_bzif, if_pos z1, h2, bI_v, ite_bzif, if_pos z2, if_pos (inb_mono hn z1), if_pos (inb_mono hn z2)]
  · rw [if_neg h, if_neg h]
theorem m84 (hb : 2 ≤ b) (x a c : Int32) (hs : I b 19 5 = nI n) (hn : n ≤ 24) (hx : x = 3 ∨ x = 4 → inb a n ∧ inb c n) : sem N (d + 3) 84 [vR (some (b, 19)), vI x, vI a, vI c] I F = some (vI (nmd (I b 24) x a c), I, F) := by
  have h1 := m81 (N := N) (d := d + 1) (F := F) hb a hs hn
  have h2 := m81 (N := N) (d := d + 1) (F := F) hb c hs hn
  obtain ⟨j, rfl⟩ := blk hb
  rw [s84]; unfold b84 nmd
  rw [m82, bI_v, ite_bzif]
  by_cases h : x = 3 ∨ x = 4
  · obtain ⟨z1, z2⟩ := hx h
    rw [if_pos h, if_pos h, h1, bI_v, ite_bzif, if_pos z1, h2, bI_v, ite_bzif, if_pos z2, if_pos (inb_mono hn z1), if_pos (inb_mono hn z2), m75, bI_v]
  · rw [if_neg h, if_neg h, m75, bI_v]
theorem m85 (hb : 2 ≤ b) (x a c : Int32) (hs : I b 19 5 = nI n) (hn : n < 24) (hx : x = 3 ∨ x = 4 → inb a n ∧ inb c n) : sem N (d + 4) 85 [vR (some (b, 19)), vI x, vI a, vI c] I F = some (vI (nI n), wI (wI (wI (wI (wI (wI I b 20 n x) b 21 n a) b 22 n c) b 23 n (mkd (I b 23) x a c)) b 24 n (nmd (I b 24) x a c)) b 19 5 (nI (n + 1)), F) := by
  have hi : inb (nI n) 24 := inb_nI hn (by omega)
  have h1 := m83 (N := N) (d := d + 1) (F := F) (I := wI (wI (wI I b 20 n x) b 21 n a) b 22 n c) hb x a c (n := n) (by simp only [wI_eq, Nat.reduceEqDiff, and_false, false_and, ↓reduceIte, hs]) (by omega) hx
  have h2 := m84 (N := N) (d := d) (F := F) (I := wI (wI (wI (wI I b 20 n x) b 21 n a) b 22 n c) b 23 n (mkd (I b 23) x a c)) hb x a c (n := n) (by simp only [wI_eq, Nat.reduceEqDiff, and_false, false_and, ↓reduceIte, hs]) (by omega) hx
  have g1 : (wI (wI (wI I b 20 n x) b 21 n a) b 22 n c) b 23 = I b 23 := by funext k; simp only [wI_eq, Nat.reduceEqDiff, and_false, false_and, ↓reduceIte]
  have g2 : (wI (wI (wI (wI I b 20 n x) b 21 n a) b 22 n c) b 23 n (mkd (I b 23) x a c)) b 24 = I b 24 := by funext k; simp only [wI_eq, Nat.reduceEqDiff, and_false, false_and, ↓reduceIte]
  rw [g1] at h1
  rw [g2] at h2
  obtain ⟨j, rfl⟩ := blk hb
  rw [s85]; unfold b85
  have r1 : wI I (j + 2) 20 n x (j + 2) 19 5 = nI n := by simp only [wI_eq, Nat.reduceEqDiff, and_false, false_and, ↓reduceIte, hs]
  have r2 : wI (wI I (j + 2) 20 n x) (j + 2) 21 n a (j + 2) 19 5 = nI n := by simp only [wI_eq, Nat.reduceEqDiff, and_false, false_and, ↓reduceIte, hs]
  have r3 : wI (wI (wI I (j + 2) 20 n x) (j + 2) 21 n a) (j + 2) 22 n c (j + 2) 19 5 = nI n := by simp only [wI_eq, Nat.reduceEqDiff, and_false, false_and, ↓reduceIte, hs]
  have r4 : wI (wI (wI (wI I (j + 2) 20 n x) (j + 2) 21 n a) (j + 2) 22 n c) (j + 2) 23 n (mkd (I (j + 2) 23) x a c) (j + 2) 19 5 = nI n := by simp only [wI_eq, Nat.reduceEqDiff, and_false, false_and, ↓reduceIte, hs]
  have r5 : wI (wI (wI (wI (wI I (j + 2) 20 n x) (j + 2) 21 n a) (j + 2) 22 n c) (j + 2) 23 n (mkd (I (j + 2) 23) x a c)) (j + 2) 24 n (nmd (I (j + 2) 24) x a c) (j + 2) 19 5 = nI n := by simp only [wI_eq, Nat.reduceEqDiff, and_false, false_and, ↓reduceIte, hs]
  simp only [hs, nI_clamp (show n < 2 ^ 31 by omega), eq_true hi, ↓reduceIte, r1, r2, r3, r4, r5, h1, h2, bI_v, nI_1]
  rw [if_neg (nI_pos (by omega)), if_pos (show nI n < (24 : Int32) from nI_lt hn (by decide))]
  rw [wI_s, nI_pred]
theorem m86 (hb : 2 ≤ b) (hN : 26 ≤ N) {q : Nat} (hq : q < n) (hs : I b 19 5 = nI n) (hn : n ≤ 24) : sem N (d + 2) 86 [vR (some (b, 19)), vI (nI q)] I F = some (vI (orb (fun p => I b 24 p = I b 24 q) n), I, F) := by
  have h1 := m81 (N := N) (d := d) (F := F) hb (nI q) hs hn
  obtain ⟨j, rfl⟩ := blk hb
  rw [s86]; unfold b86
  rw [h1, bI_v, ite_bzif, if_pos (inb_nI hq (by omega))]
  refine lp (S := fun m c => sg (sem N (d + 1)) 1 zc86 m 14 [vR (some (j + 2, 19)), vI (nI q), vI (orb (fun p => I (j + 2) 24 p = I (j + 2) 24 q) c), vI (nI c)] I F) (m := n) ?_ ?_ n 0 N (by omega) (by omega)
  · intro m c hc
    try dsimp only
    rw [u86_14]; unfold b86_14
    have q1 : ¬ n ≤ c := by omega
    have q2 : ¬ 24 ≤ c := by omega
    have q3 : c < 24 := by omega
    have q4 : q < 24 := by omega
    by_cases z : I (j + 2) 24 c = I (j + 2) 24 q
    · simp (disch := omega) only [nI_neg, nI_clamp, inb_c, nI_leI, nI_ltI, nI_eq, nI_1, nI_add, nI_mul, false_or, or_false, or_self, Nat.not_le, Nat.not_lt, not_false_eq_true, not_true_eq_false, ↓reduceIte, bI_v, bV_v, bF_v, bD_v, bL_v, bR_v, ite_bzif, bz_or, L2, L3, L4, L5, L6, L7, L8, L9, L10, L12, L17, L20, L24, L40, L63, L99, L100, L128, L126, L180, L220, L255, L268, L340, L370, L386, L390, L406, L999, L1000, hs, q1, q2, q3, q4, z, orb]
    · simp (disch := omega) only [nI_neg, nI_clamp, inb_c, nI_leI, nI_ltI, nI_eq, nI_1, nI_add, nI_mul, false_or, or_false, or_self, Nat.not_le, Nat.not_lt, not_false_eq_true, not_true_eq_false, ↓reduceIte, bI_v, bV_v, bF_v, bD_v, bL_v, bR_v, ite_bzif, bz_or, L2, L3, L4, L5, L6, L7, L8, L9, L10, L12, L17, L20, L24, L40, L63, L99, L100, L128, L126, L180, L220, L255, L268, L340, L370, L386, L390, L406, L999, L1000, hs, q1, q2, q3, q4, z, orb]
  · intro m
    try dsimp only
    rw [u86_14]; unfold b86_14
    simp (disch := omega) only [nI_neg, nI_clamp, inb_c, nI_leI, nI_ltI, nI_eq, nI_1, nI_add, nI_mul, false_or, or_false, or_self, Nat.not_le, Nat.not_lt, not_false_eq_true, not_true_eq_false, ↓reduceIte, bI_v, bV_v, bF_v, bD_v, bL_v, bR_v, ite_bzif, bz_or, L2, L3, L4, L5, L6, L7, L8, L9, L10, L12, L17, L20, L24, L40, L63, L99, L100, L128, L126, L180, L220, L255, L268, L340, L370, L386, L390, L406, L999, L1000, hs, Nat.le_refl]
theorem m87 (hb : 2 ≤ b) (hN : 10 ≤ N) (x y : Int32) (hs : I b 19 8 = nI n) (hn : n ≤ 8) : sem N (d + 1) 87 [vR (some (b, 19)), vI x, vI y] I F = some (vI (bz (∃ i, i < n ∧ I b 25 i = x ∧ I b 26 i = y)), I, F) := by
  obtain ⟨j, rfl⟩ := blk hb
  rw [s87]; unfold b87
  refine Or.elim (lpf0 (S := fun m c => sg (sem N d) 6 zc87 m 2 [vR (some (j + 2, 19)), vI x, vI y, vI (nI c)] I F) (P := fun i => I (j + 2) 25 i = x ∧ I (j + 2) 26 i = y) (R := fun _ => some (vI 1, I, F)) (D := some (vI 0, I, F)) (m := n) (N := N) (by omega) ?_ ?_) (fun ⟨i, h1, h2, _, h3⟩ => ?_) (fun ⟨h1, h2⟩ => ?_)
  rotate_left 2
  · rw [bz_t ⟨i, h1, h2⟩]; exact h3
  · rw [bz_f (fun ⟨i, z1, z2⟩ => h1 i z1 z2)]; exact h2
  · intro m c hc
    try dsimp only
    rw [u87_2]; unfold b87_2
    have q1 : ¬ n ≤ c := by omega
    have q2 : ¬ 8 ≤ c := by omega
    have q3 : c < 8 := by omega
    by_cases z1 : I (j + 2) 25 c = x
    · by_cases z2 : I (j + 2) 26 c = y
      · exact Or.inl ⟨⟨z1, z2⟩, by simp (disch := omega) only [nI_neg, nI_clamp, inb_c, nI_leI, nI_ltI, nI_eq, nI_1, nI_add, nI_mul, false_or, or_false, or_self, Nat.not_le, Nat.not_lt, not_false_eq_true, not_true_eq_false, ↓reduceIte, bI_v, bV_v, bF_v, bD_v, bL_v, bR_v, ite_bzif, bz_or, L2, L3, L4, L5, L6, L7, L8, L9, L10, L12, L17, L20, L24, L40, L63, L99, L100, L128, L126, L180, L220, L255, L268, L340, L370, L386, L390, L406, L999, L1000, hs, q1, q2, q3, z1, z2]⟩
      · exact Or.inr ⟨fun q => z2 q.2, by simp (disch := omega) only [nI_neg, nI_clamp, inb_c, nI_leI, nI_ltI, nI_eq, nI_1, nI_add, nI_mul, false_or, or_false, or_self, Nat.not_le, Nat.not_lt, not_false_eq_true, not_true_eq_false, ↓reduceIte, bI_v, bV_v, bF_v, bD_v, bL_v, bR_v, ite_bzif, bz_or, L2, L3, L4, L5, L6, L7, L8, L9, L10, L12, L17, L20, L24, L40, L63, L99, L100, L128, L126, L180, L220, L255, L268, L340, L370, L386, L390, L406, L999, L1000, hs, q1, q2, q3, z1, z2]⟩
    · exact Or.inr ⟨fun q => z1 q.1, by simp (disch := omega) only [nI_neg, nI_clamp, inb_c, nI_leI, nI_ltI, nI_eq, nI_1, nI_add, nI_mul, false_or, or_false, or_self, Nat.not_le, Nat.not_lt, not_false_eq_true, not_true_eq_false, ↓reduceIte, bI_v, bV_v, bF_v, bD_v, bL_v, bR_v, ite_bzif, bz_or, L2, L3, L4, L5, L6, L7, L8, L9, L10, L12, L17, L20, L24, L40, L63, L99, L100, L128, L126, L180, L220, L255, L268, L340, L370, L386, L390, L406, L999, L1000, hs, q1, q2, q3, z1]⟩
  · intro m
    try dsimp only
    rw [u87_2]; unfold b87_2
    simp (disch := omega) only [nI_neg, nI_clamp, inb_c, nI_leI, nI_ltI, nI_eq, nI_1, nI_add, nI_mul, false_or, or_false, or_self, Nat.not_le, Nat.not_lt, not_false_eq_true, not_true_eq_false, ↓reduceIte, bI_v, bV_v, bF_v, bD_v, bL_v, bR_v, ite_bzif, bz_or, L2, L3, L4, L5, L6, L7, L8, L9, L10, L12, L17, L20, L24, L40, L63, L99, L100, L128, L126, L180, L220, L255, L268, L340, L370, L386, L390, L406, L999, L1000, hs, Nat.le_refl]
theorem m88 (hb : 2 ≤ b) (hN : 10 ≤ N) (x : Int32) (hs : I b 19 8 = nI n) (hn : n ≤ 8) : sem N (d + 1) 88 [vR (some (b, 19)), vI x] I F = some (vI (nI (cnt (fun i => I b 25 i = x) n)), I, F) := by
  obtain ⟨j, rfl⟩ := blk hb
  rw [s88]; unfold b88
  refine lp (S := fun m c => sg (sem N d) 1 zc88 m 4 [vR (some (j + 2, 19)), vI x, vI (nI (cnt (fun i => I (j + 2) 25 i = x) c)), vI (nI c)] I F) (m := n) ?_ ?_ n 0 N (by omega) (by omega)
  · intro m c hc
    try dsimp only
    rw [u88_4]; unfold b88_4
    have q1 : ¬ n ≤ c := by omega
    have q2 : ¬ 8 ≤ c := by omega
    have q3 : c < 8 := by omega
    by_cases z : I (j + 2) 25 c = x
    · simp (disch := omega) only [nI_neg, nI_clamp, inb_c, nI_leI, nI_ltI, nI_eq, nI_1, nI_add, nI_mul, false_or, or_false, or_self, Nat.not_le, Nat.not_lt, not_false_eq_true, not_true_eq_false, ↓reduceIte, bI_v, bV_v, bF_v, bD_v, bL_v, bR_v, ite_bzif, bz_or, L2, L3, L4, L5, L6, L7, L8, L9, L10, L12, L17, L20, L24, L40, L63, L99, L100, L128, L126, L180, L220, L255, L268, L340, L370, L386, L390, L406, L999, L1000, hs, q1, q2, q3, z, cnt]
    · simp (disch := omega) only [nI_neg, nI_clamp, inb_c, nI_leI, nI_ltI, nI_eq, nI_1, nI_add, nI_mul, false_or, or_false, or_self, Nat.not_le, Nat.not_lt, not_false_eq_true, not_true_eq_false, ↓reduceIte, bI_v, bV_v, bF_v, bD_v, bL_v, bR_v, ite_bzif, bz_or, L2, L3, L4, L5, L6, L7, L8, L9, L10, L12, L17, L20, L24, L40, L63, L99, L100, L128, L126, L180, L220, L255, L268, L340, L370, L386, L390, L406, L999, L1000, hs, q1, q2, q3, z, cnt]
  · intro m
    try dsimp only
    rw [u88_4]; unfold b88_4
    simp (disch := omega) only [nI_neg, nI_clamp, inb_c, nI_leI, nI_ltI, nI_eq, nI_1, nI_add, nI_mul, false_or, or_false, or_self, Nat.not_le, Nat.not_lt, not_false_eq_true, not_true_eq_false, ↓reduceIte, bI_v, bV_v, bF_v, bD_v, bL_v, bR_v, ite_bzif, bz_or, L2, L3, L4, L5, L6, L7, L8, L9, L10, L12, L17, L20, L24, L40, L63, L99, L100, L128, L126, L180, L220, L255, L268, L340, L370, L386, L390, L406, L999, L1000, hs, Nat.le_refl]
theorem m89 (hb : 2 ≤ b) (x y : Int32) (hs : I b 19 8 = nI n) (hn : n < 8) : sem N (d + 1) 89 [vR (some (b, 19)), vI x, vI y] I F = some (vI 0, wI (wI (wI I b 25 n x) b 26 n y) b 19 8 (nI (n + 1)), F) := by
  obtain ⟨j, rfl⟩ := blk hb
  rw [s89]; unfold b89
  have hi : inb (nI n) 8 := inb_nI hn (by omega)
  rw [hs, if_neg (nI_pos (by omega)), if_pos (show nI n < (8 : Int32) from nI_lt hn (by decide)), if_pos hi]
  simp only [wI_eq, hs, Nat.reduceEqDiff, and_false, false_and, and_self, ↓reduceIte, eq_true hi, nI_clamp (show n < 2 ^ 31 by omega), nI_1]
/-! seals -/
theorem m98 (hb : 2 ≤ b) (x : Int32) (hs : I b 27 3 = nI n) (hn : n ≤ 10) : sem N (d + 1) 98 [vR (some (b, 27)), vI x] I F = some (vI (bz (inb x n)), I, F) := by
  obtain ⟨j, rfl⟩ := blk hb
  rw [s98]; unfold b98
  rw [has3 hs L10 hn (by decide), ite_bz]
theorem m99 (hb : 2 ≤ b) (x y z : Int32) (hs : I b 27 3 = nI n) (hn : n < 10) : sem N (d + 1) 99 [vR (some (b, 27)), vI x, vI y, vI z] I F = some (vI (nI n), wI (wI (wI (wI I b 28 n x) b 29 n y) b 30 n z) b 27 3 (nI (n + 1)), F) := by
  obtain ⟨j, rfl⟩ := blk hb
  rw [s99]; unfold b99
  have hi : inb (nI n) 10 := inb_nI hn (by omega)
  rw [hs, if_neg (nI_pos (by omega)), if_pos (show nI n < (10 : Int32) from nI_lt hn (by decide)), if_pos hi]
  simp only [wI_eq, hs, Nat.reduceEqDiff, and_false, false_and, and_self, ↓reduceIte, eq_true hi, nI_clamp (show n < 2 ^ 31 by omega), nI_1, nI_pred]
theorem m100 (hb : 2 ≤ b) (hN : 12 ≤ N) (x : Int32) (hs : I b 27 3 = nI n) (hn : n ≤ 10) : sem N (d + 1) 100 [vR (some (b, 27)), vI x] I F = some (vI (orb (fun i => I b 29 i = x) n), I, F) := by
  obtain ⟨j, rfl⟩ := blk hb
  rw [s100]; unfold b100
  refine lp (S := fun m c => sg (sem N d) 1 zc100 m 4 [vR (some (j + 2, 27)), vI x, vI (orb (fun i => I (j + 2) 29 i = x) c), vI (nI c)] I F) (m := n) ?_ ?_ n 0 N (by omega) (by omega)
  · intro m c hc
    try dsimp only
    rw [u100_4]; unfold b100_4
    have q1 : ¬ n ≤ c := by omega
    have q2 : ¬ 10 ≤ c := by omega
    have q3 : c < 10 := by omega
    by_cases z : I (j + 2) 29 c = x
    · simp (disch := omega) only [nI_neg, nI_clamp, inb_c, nI_leI, nI_ltI, nI_eq, nI_1, nI_add, nI_mul, false_or, or_false, or_self, Nat.not_le, Nat.not_lt, not_false_eq_true, not_true_eq_false, ↓reduceIte, bI_v, bV_v, bF_v, bD_v, bL_v, bR_v, ite_bzif, bz_or, L2, L3, L4, L5, L6, L7, L8, L9, L10, L12, L17, L20, L24, L40, L63, L99, L100, L128, L126, L180, L220, L255, L268, L340, L370, L386, L390, L406, L999, L1000, hs, q1, q2, q3, z, orb]
    · simp (disch := omega) only [nI_neg, nI_clamp, inb_c, nI_leI, nI_ltI, nI_eq, nI_1, nI_add, nI_mul, false_or, or_false, or_self, Nat.not_le, Nat.not_lt, not_false_eq_true, not_true_eq_false, ↓reduceIte, bI_v, bV_v, bF_v, bD_v, bL_v, bR_v, ite_bzif, bz_or, L2, L3, L4, L5, L6, L7, L8, L9, L10, L12, L17, L20, L24, L40, L63, L99, L100, L128, L126, L180, L220, L255, L268, L340, L370, L386, L390, L406, L999, L1000, hs, q1, q2, q3, z, orb]
  · intro m
    try dsimp only
    rw [u100_4]; unfold b100_4
    simp (disch := omega) only [nI_neg, nI_clamp, inb_c, nI_leI, nI_ltI, nI_eq, nI_1, nI_add, nI_mul, false_or, or_false, or_self, Nat.not_le, Nat.not_lt, not_false_eq_true, not_true_eq_false, ↓reduceIte, bI_v, bV_v, bF_v, bD_v, bL_v, bR_v, ite_bzif, bz_or, L2, L3, L4, L5, L6, L7, L8, L9, L10, L12, L17, L20, L24, L40, L63, L99, L100, L128, L126, L180, L220, L255, L268, L340, L370, L386, L390, L406, L999, L1000, hs, Nat.le_refl]
/-! sessions -/
theorem m103 (hb : 2 ≤ b) (x : Int32) : sem N (d + 1) 103 [vR (some (b, 31)), vI x] I F = some (vI (bz (inb x 4 ∧ ¬ I b 32 x.toNatClampNeg = -1)), I, F) := by
  obtain ⟨j, rfl⟩ := blk hb
  rw [s103]; unfold b103
  rw [has2 L4 (by decide)]
  by_cases z : inb x 4
  · rw [if_pos z, if_pos z, ite_bzn]
    congr 2
    exact congrArg vI (bz_congr ⟨fun y => ⟨z, y⟩, fun y => y.2⟩)
  · rw [if_neg z, bz_f (fun y => z y.1)]
theorem m104 (hb : 2 ≤ b) (hN : 6 ≤ N) : (∃ i, i < 4 ∧ I b 32 i = -1 ∧ (∀ j, j < i → ¬ I b 32 j = -1) ∧ sem N (d + 1) 104 [vR (some (b, 31))] I F = some (vI (nI i), I, F)) ∨ ((∀ j, j < 4 → ¬ I b 32 j = -1) ∧ sem N (d + 1) 104 [vR (some (b, 31))] I F = some (vI (-1), I, F)) := by
  obtain ⟨j, rfl⟩ := blk hb
  rw [s104]; unfold b104
  refine lpf0 (S := fun m c => sg (sem N d) 1 zc104 m 2 [vR (some (j + 2, 31)), vI (nI c)] I F) (P := fun i => I (j + 2) 32 i = -1) (R := fun i => some (vI (nI i), I, F)) (D := some (vI (-1), I, F)) (m := 4) (N := N) (by omega) ?_ ?_
  · intro m c hc
    try dsimp only
    rw [u104_2]; unfold b104_2
    have q2 : ¬ 4 ≤ c := by omega
    by_cases z1 : I (j + 2) 32 c = -1
    · exact Or.inl ⟨z1, by simp (disch := omega) only [nI_neg, nI_clamp, inb_c, nI_leI, nI_ltI, nI_eq, nI_1, nI_add, nI_mul, false_or, or_false, or_self, Nat.not_le, Nat.not_lt, not_false_eq_true, not_true_eq_false, ↓reduceIte, bI_v, bV_v, bF_v, bD_v, bL_v, bR_v, ite_bzif, bz_or, L2, L3, L4, L5, L6, L7, L8, L9, L10, L12, L17, L20, L24, L40, L63, L99, L100, L128, L126, L180, L220, L255, L268, L340, L370, L386, L390, L406, L999, L1000, q2, hc, z1]⟩
    · exact Or.inr ⟨z1, by simp (disch := omega) only [nI_neg, nI_clamp, inb_c, nI_leI, nI_ltI, nI_eq, nI_1, nI_add, nI_mul, false_or, or_false, or_self, Nat.not_le, Nat.not_lt, not_false_eq_true, not_true_eq_false, ↓reduceIte, bI_v, bV_v, bF_v, bD_v, bL_v, bR_v, ite_bzif, bz_or, L2, L3, L4, L5, L6, L7, L8, L9, L10, L12, L17, L20, L24, L40, L63, L99, L100, L128, L126, L180, L220, L255, L268, L340, L370, L386, L390, L406, L999, L1000, q2, hc, z1]⟩
  · intro m
    try dsimp only
    rw [u104_2]; unfold b104_2
    simp (disch := omega) only [nI_neg, nI_clamp, inb_c, nI_leI, nI_ltI, nI_eq, nI_1, nI_add, nI_mul, false_or, or_false, or_self, Nat.not_le, Nat.not_lt, not_false_eq_true, not_true_eq_false, ↓reduceIte, bI_v, bV_v, bF_v, bD_v, bL_v, bR_v, ite_bzif, bz_or, L2, L3, L4, L5, L6, L7, L8, L9, L10, L12, L17, L20, L24, L40, L63, L99, L100, L128, L126, L180, L220, L255, L268, L340, L370, L386, L390, L406, L999, L1000, Nat.le_refl]
theorem m105 (hb : 2 ≤ b) (hN : 6 ≤ N) : sem N (d + 1) 105 [vR (some (b, 31))] I F = some (vI (orb (fun i => ¬ I b 32 i = -1) 4), I, F) := by
  obtain ⟨j, rfl⟩ := blk hb
  rw [s105]; unfold b105
  refine lp (S := fun m c => sg (sem N d) 1 zc105 m 4 [vR (some (j + 2, 31)), vI (orb (fun i => ¬ I (j + 2) 32 i = -1) c), vI (nI c)] I F) (m := 4) ?_ ?_ 4 0 N rfl (by omega)
  · intro m c hc
    try dsimp only
    rw [u105_4]; unfold b105_4
    have q2 : ¬ 4 ≤ c := by omega
    by_cases z : I (j + 2) 32 c = -1
    · simp (disch := omega) only [nI_neg, nI_clamp, inb_c, nI_leI, nI_ltI, nI_eq, nI_1, nI_add, nI_mul, false_or, or_false, or_self, Nat.not_le, Nat.not_lt, not_false_eq_true, not_true_eq_false, ↓reduceIte, bI_v, bV_v, bF_v, bD_v, bL_v, bR_v, ite_bzif, bz_or, L2, L3, L4, L5, L6, L7, L8, L9, L10, L12, L17, L20, L24, L40, L63, L99, L100, L128, L126, L180, L220, L255, L268, L340, L370, L386, L390, L406, L999, L1000, q2, hc, z, orb]
    · simp (disch := omega) only [nI_neg, nI_clamp, inb_c, nI_leI, nI_ltI, nI_eq, nI_1, nI_add, nI_mul, false_or, or_false, or_self, Nat.not_le, Nat.not_lt, not_false_eq_true, not_true_eq_false, ↓reduceIte, bI_v, bV_v, bF_v, bD_v, bL_v, bR_v, ite_bzif, bz_or, L2, L3, L4, L5, L6, L7, L8, L9, L10, L12, L17, L20, L24, L40, L63, L99, L100, L128, L126, L180, L220, L255, L268, L340, L370, L386, L390, L406, L999, L1000, q2, hc, z, orb]
  · intro m
    try dsimp only
    rw [u105_4]; unfold b105_4
    simp (disch := omega) only [nI_neg, nI_clamp, inb_c, nI_leI, nI_ltI, nI_eq, nI_1, nI_add, nI_mul, false_or, or_false, or_self, Nat.not_le, Nat.not_lt, not_false_eq_true, not_true_eq_false, ↓reduceIte, bI_v, bV_v, bF_v, bD_v, bL_v, bR_v, ite_bzif, bz_or, L2, L3, L4, L5, L6, L7, L8, L9, L10, L12, L17, L20, L24, L40, L63, L99, L100, L128, L126, L180, L220, L255, L268, L340, L370, L386, L390, L406, L999, L1000, Nat.le_refl]
theorem m106 (hb : 2 ≤ b) {s : Nat} (hs : s < 4) (k t y : Int32) : sem N (d + 3) 106 [vR (some (b, 31)), vI (nI s), vI k, vI t, vI y] I F = some (vI 0, wI (wI (wI (wI I b 32 s k) b 33 s (mixF (mixF (mixF 17 t) (I b 31 3)) y)) b 34 s 0) b 31 3 (I b 31 3 + 1), F) := by
  obtain ⟨j, rfl⟩ := blk hb
  rw [s106]; unfold b106
  have hi : inb (nI s) 4 := inb_nI hs (by decide)
  rw [if_neg (nI_pos (by omega)), if_pos (show nI s < (4 : Int32) from nI_lt hs (by decide)), if_pos hi]
  simp only [m75, bI_v, wI_eq, Nat.reduceEqDiff, and_false, false_and, ↓reduceIte, eq_true hi, nI_clamp (show s < 2 ^ 31 by omega)]
theorem m107 (hb : 2 ≤ b) (hN : 6 ≤ N) (x : Int32) : sem N (d + 1) 107 [vR (some (b, 31)), vI x] I F = some (vI 0, fl I b 32 4 (fun s => if I b 32 s = x then -1 else I b 32 s), F) := by
  obtain ⟨j, rfl⟩ := blk hb
  rw [s107]; unfold b107
  have h := lp (S := fun n c => sg (sem N d) 0 zc107 n 2 [vR (some (j + 2, 31)), vI x, vI (nI c)] (fl I (j + 2) 32 c (fun s => if I (j + 2) 32 s = x then -1 else I (j + 2) 32 s)) F) (T := some (vI 0, fl I (j + 2) 32 4 (fun s => if I (j + 2) 32 s = x then -1 else I (j + 2) 32 s), F)) (m := 4) ?_ ?_ 4 0 N rfl (by omega)
  · try dsimp only at h
    rw [fl_0] at h
    exact h
  · intro n c hc
    try dsimp only
    rw [u107_2]; unfold b107_2
    have hc' : ¬ 4 ≤ c := by omega
    have e : fl I (j + 2) 32 c (fun s => if I (j + 2) 32 s = x then -1 else I (j + 2) 32 s) (j + 2) 32 c = I (j + 2) 32 c := by rw [fl_eq, if_neg (fun z => by omega)]
    rw [← fl_s]
    by_cases z : I (j + 2) 32 c = x
    · simp (disch := omega) only [nI_neg, nI_clamp, inb_c, nI_leI, nI_ltI, nI_eq, nI_1, nI_add, nI_mul, false_or, or_false, or_self, Nat.not_le, Nat.not_lt, not_false_eq_true, not_true_eq_false, ↓reduceIte, bI_v, bV_v, bF_v, bD_v, bL_v, bR_v, ite_bzif, bz_or, L2, L3, L4, L5, L6, L7, L8, L9, L10, L12, L17, L20, L24, L40, L63, L99, L100, L128, L126, L180, L220, L255, L268, L340, L370, L386, L390, L406, L999, L1000, hc, hc', e, z]
    · have e2 : wI (fl I (j + 2) 32 c (fun s => if I (j + 2) 32 s = x then -1 else I (j + 2) 32 s)) (j + 2) 32 c (I (j + 2) 32 c) = fl I (j + 2) 32 c (fun s => if I (j + 2) 32 s = x then -1 else I (j + 2) 32 s) := by
        funext b' o' k'
        rw [wI_eq]
        by_cases q : b' = j + 2 ∧ o' = 32 ∧ k' = c
        · obtain ⟨rfl, rfl, rfl⟩ := q
          rw [if_pos ⟨rfl, rfl, rfl⟩, e]
        · rw [if_neg q]
      simp (disch := omega) only [nI_neg, nI_clamp, inb_c, nI_leI, nI_ltI, nI_eq, nI_1, nI_add, nI_mul, false_or, or_false, or_self, Nat.not_le, Nat.not_lt, not_false_eq_true, not_true_eq_false, ↓reduceIte, bI_v, bV_v, bF_v, bD_v, bL_v, bR_v, ite_bzif, bz_or, L2, L3, L4, L5, L6, L7, L8, L9, L10, L12, L17, L20, L24, L40, L63, L99, L100, L128, L126, L180, L220, L255, L268, L340, L370, L386, L390, L406, L999, L1000, hc, hc', e, z, e2]
  · intro n
    try dsimp only
    rw [u107_2]; unfold b107_2
    simp (disch := omega) only [nI_neg, nI_clamp, inb_c, nI_leI, nI_ltI, nI_eq, nI_1, nI_add, nI_mul, false_or, or_false, or_self, Nat.not_le, Nat.not_lt, not_false_eq_true, not_true_eq_false, ↓reduceIte, bI_v, bV_v, bF_v, bD_v, bL_v, bR_v, ite_bzif, bz_or, L2, L3, L4, L5, L6, L7, L8, L9, L10, L12, L17, L20, L24, L40, L63, L99, L100, L128, L126, L180, L220, L255, L268, L340, L370, L386, L390, L406, L999, L1000, Nat.le_refl]
theorem m108 (hb : 2 ≤ b) (hN : 6 ≤ N) : sem N (d + 1) 108 [vR (some (b, 31))] I F = some (vI 0, fl I b 32 4 (fun _ => -1), F) := by
  obtain ⟨j, rfl⟩ := blk hb
  rw [s108]; unfold b108
  have h := lp (S := fun n c => sg (sem N d) 0 zc108 n 2 [vR (some (j + 2, 31)), vI (nI c)] (fl I (j + 2) 32 c (fun _ => -1)) F) (T := some (vI 0, fl I (j + 2) 32 4 (fun _ => -1), F)) (m := 4) ?_ ?_ 4 0 N rfl (by omega)
  · try dsimp only at h
    rw [fl_0] at h
    exact h
  · intro n c hc
    try dsimp only
    rw [u108_2]; unfold b108_2
    have hc' : ¬ 4 ≤ c := by omega
    have e := fl_s I (j + 2) 32 c (fun _ => -1)
    simp (disch := omega) only [nI_neg, nI_clamp, inb_c, nI_leI, nI_ltI, nI_eq, nI_1, nI_add, nI_mul, false_or, or_false, or_self, Nat.not_le, Nat.not_lt, not_false_eq_true, not_true_eq_false, ↓reduceIte, bI_v, bV_v, bF_v, bD_v, bL_v, bR_v, ite_bzif, bz_or, L2, L3, L4, L5, L6, L7, L8, L9, L10, L12, L17, L20, L24, L40, L63, L99, L100, L128, L126, L180, L220, L255, L268, L340, L370, L386, L390, L406, L999, L1000, hc, hc', e]
  · intro n
    try dsimp only
    rw [u108_2]; unfold b108_2
    simp (disch := omega) only [nI_neg, nI_clamp, inb_c, nI_leI, nI_ltI, nI_eq, nI_1, nI_add, nI_mul, false_or, or_false, or_self, Nat.not_le, Nat.not_lt, not_false_eq_true, not_true_eq_false, ↓reduceIte, bI_v, bV_v, bF_v, bD_v, bL_v, bR_v, ite_bzif, bz_or, L2, L3, L4, L5, L6, L7, L8, L9, L10, L12, L17, L20, L24, L40, L63, L99, L100, L128, L126, L180, L220, L255, L268, L340, L370, L386, L390, L406, L999, L1000, Nat.le_refl]
theorem m109 (hb : 2 ≤ b) {s : Nat} (hs : s < 4) (ho : ¬ I b 32 s = -1) (ca nu wo by_ : Int32) : sem N (d + 3) 109 [vR (some (b, 31)), vI (nI s), vI ca, vI nu, vI wo, vI by_] I F = some (vI 0, wI (wI I b 33 s (mixF (I b 33 s) wo)) b 34 s (mixF (I b 34 s) (mixF (mixF (mixF 17 ca) nu) by_)), F) := by
  have h := m103 (N := N) (d := d + 1) (I := I) (F := F) hb (nI s)
  obtain ⟨j, rfl⟩ := blk hb
  rw [s109]; unfold b109
  have hi : inb (nI s) 4 := inb_nI hs (by decide)
  rw [h, bI_v, ite_bzif]
  simp only [nI_clamp (show s < 2 ^ 31 by omega), eq_true hi, ho, not_false_eq_true, and_self, true_and, m69, m75, bI_v, wI_eq, Nat.reduceEqDiff, and_false, false_and, ↓reduceIte]
theorem m47 (hb : 2 ≤ b) (hN : 16 ≤ N) : sem N (d + 1) 47 [vR (some (b, 10))] I F = some (vI 0, fl (fl I b 14 3 (fun _ => -1)) b 13 10 (fun _ => 0), F) := by
  obtain ⟨j, rfl⟩ := blk hb
  obtain ⟨M, rfl⟩ : ∃ M, N = M + 11 := ⟨N - 11, by omega⟩
  rw [s47]; unfold b47
  have h := lp (S := fun n c => sg (sem (M + 11) d) 0 zc47 (n + 11) 2 [vR (some (j + 2, 10)), vI (nI c)] (fl I (j + 2) 14 c (fun _ => -1)) F) (T := some (vI 0, fl (fl I (j + 2) 14 3 (fun _ => -1)) (j + 2) 13 10 (fun _ => 0), F)) (m := 3) ?_ ?_ 3 0 M rfl (by omega)
  · try dsimp only at h
    rw [fl_0] at h
    exact h
  · intro n c hc
    try dsimp only
    rw [show n + 1 + 11 = (n + 11) + 1 by omega, u47_2]; unfold b47_2
    have hc' : ¬ 3 ≤ c := by omega
    have e := fl_s I (j + 2) 14 c (fun _ => -1)
    simp (disch := omega) only [nI_neg, nI_clamp, inb_c, nI_leI, nI_ltI, nI_eq, nI_1, nI_add, nI_mul, false_or, or_false, or_self, Nat.not_le, Nat.not_lt, not_false_eq_true, not_true_eq_false, ↓reduceIte, bI_v, bV_v, bF_v, bD_v, bL_v, bR_v, ite_bzif, bz_or, L2, L3, L4, L5, L6, L7, L8, L9, L10, L12, L17, L20, L24, L40, L63, L99, L100, L128, L126, L180, L220, L255, L268, L340, L370, L386, L390, L406, L999, L1000, hc, hc', e]
  · intro n
    try dsimp only
    rw [show n + 1 + 11 = (n + 11) + 1 by omega, u47_2]; unfold b47_2
    simp (disch := omega) only [nI_neg, nI_clamp, inb_c, nI_leI, nI_ltI, nI_eq, nI_1, nI_add, nI_mul, false_or, or_false, or_self, Nat.not_le, Nat.not_lt, not_false_eq_true, not_true_eq_false, ↓reduceIte, bI_v, bV_v, bF_v, bD_v, bL_v, bR_v, ite_bzif, bz_or, L2, L3, L4, L5, L6, L7, L8, L9, L10, L12, L17, L20, L24, L40, L63, L99, L100, L128, L126, L180, L220, L255, L268, L340, L370, L386, L390, L406, L999, L1000, Nat.le_refl]
    have h2 := lp (S := fun k c => sg (sem (M + 11) d) 0 zc47 k 22 [vR (some (j + 2, 10)), vI (nI c)] (fl (fl I (j + 2) 14 3 (fun _ => -1)) (j + 2) 13 c (fun _ => 0)) F) (T := some (vI 0, fl (fl I (j + 2) 14 3 (fun _ => -1)) (j + 2) 13 10 (fun _ => 0), F)) (m := 10) ?_ ?_ 10 0 (n + 11) rfl (by omega)
    · try dsimp only at h2
      rw [fl_0] at h2
      exact h2
    · intro k c hc
      try dsimp only
      rw [u47_22]; unfold b47_22
      have hc' : ¬ 10 ≤ c := by omega
      have e := fl_s (fl I (j + 2) 14 3 (fun _ => -1)) (j + 2) 13 c (fun _ => 0)
      simp (disch := omega) only [nI_neg, nI_clamp, inb_c, nI_leI, nI_ltI, nI_eq, nI_1, nI_add, nI_mul, false_or, or_false, or_self, Nat.not_le, Nat.not_lt, not_false_eq_true, not_true_eq_false, ↓reduceIte, bI_v, bV_v, bF_v, bD_v, bL_v, bR_v, ite_bzif, bz_or, L2, L3, L4, L5, L6, L7, L8, L9, L10, L12, L17, L20, L24, L40, L63, L99, L100, L128, L126, L180, L220, L255, L268, L340, L370, L386, L390, L406, L999, L1000, hc, hc', e]
    · intro k
      try dsimp only
      rw [u47_22]; unfold b47_22
      simp (disch := omega) only [nI_neg, nI_clamp, inb_c, nI_leI, nI_ltI, nI_eq, nI_1, nI_add, nI_mul, false_or, or_false, or_self, Nat.not_le, Nat.not_lt, not_false_eq_true, not_true_eq_false, ↓reduceIte, bI_v, bV_v, bF_v, bD_v, bL_v, bR_v, ite_bzif, bz_or, L2, L3, L4, L5, L6, L7, L8, L9, L10, L12, L17, L20, L24, L40, L63, L99, L100, L128, L126, L180, L220, L255, L268, L340, L370, L386, L390, L406, L999, L1000, Nat.le_refl]
end PC
