/-! QUESTIONS: digest, age, word, audit, quote, checks -/
theorem bvA (v : BitVec 32) {c : Nat} (hc : c < 32) : (v &&& BitVec.twoPow 32 c = 0#32) ↔ v.getLsbD c = false := by
  constructor
  · intro h
    have h2 := congrArg (fun u => BitVec.getLsbD u c) h
    simpa [hc] using h2
  · intro h
    apply BitVec.eq_of_getLsbD_eq
    intro i hi
    by_cases e : c = i
    · subst e; simp [h]
    · simp [e]
theorem bvB (v : BitVec 32) {c : Nat} (hc : c < 32) : (v.sshiftRight c &&& 1#32 = 1#32) ↔ v.getLsbD c = true := by
  constructor
  · intro h
    have h2 := congrArg (fun u => BitVec.getLsbD u 0) h
    have h3 : (v.sshiftRight c).getLsbD 0 = true := by simpa using h2
    rw [BitVec.getLsbD_sshiftRight] at h3
    simpa [hc] using h3
  · intro h
    apply BitVec.eq_of_getLsbD_eq
    intro i hi
    by_cases e : i = 0
    · subst e; simp [BitVec.getLsbD_sshiftRight, hc, h]
    · simp [e]
theorem sh1_b : ∀ c, c < 24 → (sh1 c).toBitVec = BitVec.twoPow 32 c := by decide
theorem sm_b : ∀ c, c < 24 → ((nI c &&& 31).toBitVec.smod 32#32).toNat = c := by decide
theorem bit_c {c : Nat} (hc : c < 24) (x : Int32) : (x &&& sh1 c = 0) ↔ ¬ (x >>> (nI c &&& 31)) &&& 1 = 1 := by
  have e1 : (x &&& sh1 c = 0) ↔ x.toBitVec &&& BitVec.twoPow 32 c = 0#32 := by
    rw [← Int32.toBitVec_inj, ← sh1_b c hc]
    exact Iff.rfl
  have e2 : ((x >>> (nI c &&& 31)) &&& 1 = 1) ↔ x.toBitVec.sshiftRight c &&& 1#32 = 1#32 := by
    rw [← Int32.toBitVec_inj]
    have h : (x >>> (nI c &&& 31)).toBitVec = x.toBitVec.sshiftRight (((nI c &&& 31).toBitVec.smod 32#32).toNat) := rfl
    rw [sm_b c hc] at h
    show (x >>> (nI c &&& 31)).toBitVec &&& 1#32 = 1#32 ↔ _
    rw [h]
  rw [e1, e2, bvA _ (by omega), bvB _ (by omega)]
  cases x.toBitVec.getLsbD c <;> simp
section Q1
variable {N d n : Nat} {I : IM} {F : FM}
theorem m229 (hN : 10 ≤ N) (x : Int32) : sem N (d + 2) 229 [vR (some (1, 0)), vI x] I F = some (vI (dig (I 1 2) x 8), I, F) := by
  rw [s229]; unfold b229
  refine lp (S := fun m c => sg (sem N (d + 1)) 1 zc229 m 5 [vR (some (1, 0)), vI x, vI (dig (I 1 2) x c), vI (nI c)] I F) (m := 8) ?_ ?_ 8 0 N rfl (by omega)
  · intro m c hc
    try dsimp only
    rw [u229_5]; unfold b229_5
    rw [if_neg (show ¬ (8 : Int32) ≤ nI c from nI_ge hc (by decide))]
    by_cases h : x &&& sh1 c = 0
    · rw [if_neg ((bit_c (by omega) x).mp h), nI_1, show dig (I 1 2) x (c + 1) = dig (I 1 2) x c from if_pos h]
    · rw [if_pos (Decidable.not_not.mp (fun z => h ((bit_c (by omega) x).mpr z))), if_pos (inb_nI (by omega) (by decide)), m188, bI_v, nI_clamp (by omega), nI_1, show dig (I 1 2) x (c + 1) = mixF (dig (I 1 2) x c) (I 1 2 c) from if_neg h]
  · intro m
    try dsimp only
    rw [u229_5]; unfold b229_5
    rw [if_pos (show (8 : Int32) ≤ nI 8 from nI_le (Nat.le_refl _) (by decide))]
theorem dig_c {r r' : Nat → Int32} {x : Int32} : ∀ {c : Nat}, (∀ i, i < c → r i = r' i) → dig r x c = dig r' x c := by
  intro c
  induction c with
  | zero => intro _; rfl
  | succ c ih =>
    intro h
    show (if x &&& sh1 c = 0 then dig r x c else mixF (dig r x c) (r c)) = (if x &&& sh1 c = 0 then dig r' x c else mixF (dig r' x c) (r' c))
    rw [ih (fun i hi => h i (by omega)), h c (by omega)]
theorem m294 (hN : 50 ≤ N) (x : Int32) (hs : I 1 2 11 = nI n) (hn : n ≤ 40) : sem N (d + 1) 294 [vR (some (1, 0)), vI x] I F = some (vI (nI (ag (fun i => I 1 2 (20 + 2 * i)) x n)), I, F) := by
  rw [s294]; unfold b294
  rw [hs, pI_n]
  have h := lpgd (S := fun m c => sg (sem N d) 1 zc294 m 12 [vR (some (1, 0)), vI x, vI (nI (n - c)), vI (pI c)] I F) (T := fun c => some (vI (nI (n - c + ag (fun i => I 1 2 (20 + 2 * i)) x c)), I, F)) (m := n) ?_ ?_ (n := N) (by omega)
  · try dsimp only at h
    rw [Nat.sub_self, Nat.zero_add] at h
    exact h
  · intro m c hc
    try dsimp only
    rw [u294_12]; unfold b294_12
    rw [pI_s]
    have e0 : (20 : Int32) + 2 * nI c = nI (20 + 2 * c) := by rw [L20, L2, nI_mul, nI_add]
    have i0 : inb (nI (20 + 2 * c)) 406 := inb_nI (by omega) (by decide)
    rw [if_neg (nI_pos (by omega)), e0, if_pos i0, nI_clamp (by omega)]
    by_cases h : I 1 2 (20 + 2 * c) = x
    · refine Or.inr ?_
      rw [if_pos h, show ag (fun i => I 1 2 (20 + 2 * i)) x (c + 1) = 0 from if_pos h]
      rfl
    · refine Or.inl ⟨?_, ?_⟩
      · rw [if_neg h, nI_1, pI_d, show n - (c + 1) + 1 = n - c by omega]
      · rw [show ag (fun i => I 1 2 (20 + 2 * i)) x (c + 1) = ag (fun i => I 1 2 (20 + 2 * i)) x c + 1 from if_neg h, show n - (c + 1) + (ag (fun i => I 1 2 (20 + 2 * i)) x c + 1) = n - c + ag (fun i => I 1 2 (20 + 2 * i)) x c by omega]
  · intro m
    try dsimp only
    rw [u294_12]; unfold b294_12
    rw [pI_0, if_pos (by decide)]
    rfl
theorem ag_c {f g : Nat → Int32} {x : Int32} : ∀ {m : Nat}, (∀ i, i < m → f i = g i) → ag f x m = ag g x m := by
  intro m
  induction m with
  | zero => intro _; rfl
  | succ m ih =>
    intro h
    show (if f m = x then 0 else ag f x m + 1) = (if g m = x then 0 else ag g x m + 1)
    rw [ih (fun i hi => h i (by omega)), h m (by omega)]
end Q1
theorem st144 : StpI InvC 144 257 1 := by
  intro as I F hl hI
  obtain ⟨x, rfl⟩ := len1 hl
  simp only [List.map_cons, List.map_nil]
  obtain ⟨nl, nc, nk, nx, np, na, ns, hR⟩ := hI.1
  have p4 := hR.2.1.2.2.2.1
  by_cases hx : inb x 256
  · refine qs_0 (x := dig (I 2 2) x 8) hI ?_ ?_
    · rw [s144]; unfold b144
      rw [m172, bI_v, ite_bzif, if_pos hx, m6 (by omega) (by decide), bI_v]
    · rw [s257]; unfold b257
      dsimp only
      rw [m204, bI_v, ite_bzif, if_pos hx, m229 (by decide), bI_v, dig_c (r' := I 2 2) (fun i hi => by rw [w0_12, p4 i hi])]
  · refine qs_0 (x := 0) hI ?_ ?_
    · rw [s144]; unfold b144
      rw [m172, bI_v, ite_bzif, if_neg hx]
    · rw [s257]; unfold b257
      dsimp only
      rw [m204, bI_v, ite_bzif, if_neg hx]
theorem st149 : StpI InvC 149 295 1 := by
  intro as I F hl hI
  obtain ⟨x, rfl⟩ := len1 hl
  simp only [List.map_cons, List.map_nil]
  obtain ⟨nl, nc, nk, nx, np, na, ns, hR⟩ := hI.1
  obtain ⟨g1, g2, g3, g4⟩ := hR.2.2.1
  by_cases hx : inb x 8
  · refine qs_0 (x := nI (ag (I 2 5) x nl)) hI ?_ ?_
    · rw [s149]; unfold b149
      rw [m171, bI_v, ite_bzif, if_pos hx, m24 (n := nl) (by omega) (by decide) x g1 g3, bI_v]
    · rw [s295]; unfold b295
      dsimp only
      rw [m203, bI_v, ite_bzif, if_pos hx, m294 (n := nl) (by decide) x (by rw [w0_12, g2]) g3, bI_v, ag_c (g := I 2 5) (fun i hi => by rw [w0_12, (g4 i hi).1])]
  · refine qs_0 (x := -1) hI ?_ ?_
    · rw [s149]; unfold b149
      rw [m171, bI_v, ite_bzif, if_neg hx]
    · rw [s295]; unfold b295
      dsimp only
      rw [m203, bI_v, ite_bzif, if_neg hx]
theorem st155 : StpI InvC 155 287 1 := by
  intro as I F hl hI
  obtain ⟨x, rfl⟩ := len1 hl
  simp only [List.map_cons, List.map_nil]
  obtain ⟨nl, nc, nk, nx, np, na, ns, hR⟩ := hI.1
  have hS := hR.2.2.2.2.2.2.2
  have q3 := hR.2.2.2.2.1.2.2.1
  have c103 := m103 (N := zN) (d := 7) (I := I) (F := F) (b := 2) (by omega) x
  have d202 : sem zN 8 202 [vR (some (1, 0)), vI x] (wI I 1 0 0 0) F = some (vI (bz (inb x 4 ∧ ¬ I 2 32 x.toNatClampNeg = -1)), wI I 1 0 0 0, F) := by
    rw [m202 (d := 6)]
    refine congrArg (fun v => some (vI v, wI I 1 0 0 0, F)) (bz_congr ?_)
    rw [w0_12]
    exact open_c hS q3 x
  by_cases hx : inb x 4 ∧ ¬ I 2 32 x.toNatClampNeg = -1
  · have hx4 := hx.1
    obtain ⟨s, hs, hs2, rfl, es⟩ := inb_get hx4
    refine qs_0 (x := I 2 34 s) hI ?_ ?_
    · rw [s155]; unfold b155
      rw [c103, bI_v, ite_bzif, if_pos hx, if_pos hx4, es]
    · rw [s287]; unfold b287
      dsimp only
      rw [d202, bI_v, ite_bzif, if_pos hx, m198, bI_v, L3, nI_add, if_pos (inb_nI (by omega) (by decide)), nI_clamp (by omega), w0_12, (hS.2 s hs).2.1, show 370 + 4 * s + 3 = 373 + 4 * s by omega]
  · refine qs_0 (x := 0) hI ?_ ?_
    · rw [s155]; unfold b155
      rw [c103, bI_v, ite_bzif, if_neg hx]
    · rw [s287]; unfold b287
      dsimp only
      rw [d202, bI_v, ite_bzif, if_neg hx]
theorem st152 : StpI InvC 152 265 3 := by
  intro as I F hl hI
  obtain ⟨x, y, z, rfl⟩ := len3 hl
  simp only [List.map_cons, List.map_nil]
  obtain ⟨nl, nc, nk, nx, np, na, ns, hR⟩ := hI.1
  have hS := hR.2.2.2.2.2.2.2
  obtain ⟨q1, q2, q3, -, -, -, q7, -⟩ := hR.2.2.2.2.1
  have c103 := m103 (N := zN) (d := 7) (I := I) (F := F) (b := 2) (by omega) x
  have d202 : sem zN 8 202 [vR (some (1, 0)), vI x] (wI I 1 0 0 0) F = some (vI (bz (inb x 4 ∧ ¬ I 2 32 x.toNatClampNeg = -1)), wI I 1 0 0 0, F) := by
    rw [m202 (d := 6)]
    refine congrArg (fun v => some (vI v, wI I 1 0 0 0, F)) (bz_congr ?_)
    rw [w0_12]
    exact open_c hS q3 x
  have d184 := m184g zN 7 (x := y) (l := 1) (h := 4) 1 4 (by decide) (by decide) (wI I 1 0 0 0) F
  have e1 : (y < 1) ↔ y.toInt < 1 := by rw [i_lt, show (1 : Int32).toInt = 1 by decide]
  have e4 : (y ≤ 4) ↔ y.toInt ≤ 4 := by rw [i_le, show (4 : Int32).toInt = 4 by decide]
  by_cases hx : inb x 4 ∧ ¬ I 2 32 x.toNatClampNeg = -1
  · by_cases hy : 1 ≤ y.toInt ∧ y.toInt ≤ 4
    · have hx4 := hx.1
      have hxo := hx.2
      obtain ⟨s, hs, hs2, rfl, es⟩ := inb_get hx4
      rw [es] at hxo
      obtain ⟨k, hk, ek, e32⟩ : ∃ k, k < nk ∧ I 1 2 (371 + 4 * s) = nI k ∧ I 2 32 s = nI k := by
        rcases (hS.2 s hs).2.2 with ⟨-, y2, k, y3, y4⟩ | ⟨-, y2⟩
        · exact ⟨k, y3, y4, by rw [y2, y4]⟩
        · exact absurd y2 hxo
      refine qs_0 (x := due y z (I 2 33 s) (I 2 12 k)) hI ?_ ?_
      · rw [s152]; unfold b152
        rw [c103, bI_v, ite_bzif, if_pos hx, if_neg (fun w => by have := e1.mp w; omega), if_pos (e4.mpr hy.2), m179 y z hs hk e32 q1 q3, bI_v]
      · rw [s265]; unfold b265
        dsimp only
        rw [d202, bI_v, ite_bzif, if_pos hx, d184, bI_v, ite_bzif, if_pos hy, m245 (k := k) y z hs (by omega) (by rw [w0_12, ek]), bI_v, w0_12, w0_12, (hS.2 s hs).1, (q7 k hk).2.1]
    · refine qs_0 (x := 0) hI ?_ ?_
      · rw [s152]; unfold b152
        rw [c103, bI_v, ite_bzif, if_pos hx]
        by_cases h1 : y < 1
        · rw [if_pos h1]
        · rw [if_neg h1, if_neg (fun w => hy ⟨Int.not_lt.mp (fun v => h1 (e1.mpr v)), e4.mp w⟩)]
      · rw [s265]; unfold b265
        dsimp only
        rw [d202, bI_v, ite_bzif, if_pos hx, d184, bI_v, ite_bzif, if_neg hy]
  · refine qs_0 (x := 0) hI ?_ ?_
    · rw [s152]; unfold b152
      rw [c103, bI_v, ite_bzif, if_neg hx]
    · rw [s265]; unfold b265
      dsimp only
      rw [d202, bI_v, ite_bzif, if_neg hx]
theorem m266 {N d k : Nat} {I : IM} {F : FM} (hk : k < 10) (x y z w : Int32) : sem N (d + 2) 266 [vR (some (1, 0)), vI (nI k), vI x, vI y, vI z, vI w] I F = some (vI (mixF (mixF (mixF (mixF (mixF 17 x) y) z) w) (I 1 2 (181 + 4 * k))), I, F) := by
  rw [s266]; unfold b266
  have k1 : inb (nI (180 + 4 * k + 1)) 406 := inb_nI (by omega) (by decide)
  have c1 : (nI (180 + 4 * k + 1)).toNatClampNeg = 181 + 4 * k := by rw [nI_clamp (by omega)]; omega
  simp only [m188, m194, bI_v, nI_1, eq_true k1, ↓reduceIte, c1]
theorem st153 : StpI InvC 153 267 3 := by
  intro as I F hl hI
  obtain ⟨x, y, z, rfl⟩ := len3 hl
  simp only [List.map_cons, List.map_nil]
  obtain ⟨nl, nc, nk, nx, np, na, ns, hR⟩ := hI.1
  obtain ⟨p1, p2, p3, p4, -⟩ := hR.2.1
  have hK := hR.2.2.2.2.1
  obtain ⟨q1, q2, q3, -, -, -, q7, q8, -⟩ := hR.2.2.2.2.1
  have c55 := m55 (N := zN) (d := 7) (I := I) (F := F) (b := 2) (by omega) x
  have d205 : sem zN 8 205 [vR (some (1, 0)), vI x] (wI I 1 0 0 0) F = some (vI (if inb x 3 then I 2 14 x.toNatClampNeg else -1), wI I 1 0 0 0, F) := by
    rw [m205 (d := 6) (n := nk) (by decide) x (by rw [w0_12, q2]) q3, show wI I 1 0 0 0 1 2 = I 1 2 from funext (fun k => by rw [w0_12]), kIn_c hK]
  by_cases hp : (if inb x 3 then I 2 14 x.toNatClampNeg else -1) = -1
  · refine qs_0 (x := 0) hI ?_ ?_
    · rw [s153]; unfold b153
      rw [c55, bI_v, if_pos hp]
    · rw [s267]; unfold b267
      dsimp only
      rw [d205, bI_v, if_pos hp]
  · have hx : inb x 3 := Decidable.not_not.mp (fun w => hp (if_neg w))
    obtain ⟨s, hs, hs2, rfl, es⟩ := inb_get hx
    obtain ⟨k, hk, ek⟩ : ∃ k, k < nk ∧ I 2 14 s = nI k := (q8 s hs).resolve_left (fun w => hp (by rw [if_pos hx, es, w]))
    have epk : (if inb (nI s) 3 then I 2 14 (nI s).toNatClampNeg else -1) = nI k := by rw [if_pos hx, es, ek]
    rw [epk] at hp c55 d205
    by_cases hy : inb y 256
    · refine qs_0 (x := mixF (mixF (mixF (mixF (mixF 17 (dig (I 2 2) y 8)) z) (I 2 1 4)) (I 2 1 3)) (I 2 12 k)) hI ?_ ?_
      · rw [s153]; unfold b153
        rw [c55, bI_v, if_neg hp, m172, bI_v, ite_bzif, if_pos hy, m6 (by omega) (by decide), bI_v, m76, bI_v, m51 (nk := nk) (by omega) (nI k) q1 q3, bI_v, if_pos (inb_nI hk (by omega)), nI_clamp (by omega), m69, bI_v]
      · rw [s267]; unfold b267
        dsimp only
        rw [d205, bI_v, if_neg hp, m204, bI_v, ite_bzif, if_pos hy, m229 (by decide), bI_v, m266 (by omega), bI_v, w0_12, w0_12, w0_12, p3, p2, (q7 k hk).2.1, dig_c (r' := I 2 2) (fun i hi => by rw [w0_12, p4 i hi])]
    · refine qs_0 (x := 0) hI ?_ ?_
      · rw [s153]; unfold b153
        rw [c55, bI_v, if_neg hp, m172, bI_v, ite_bzif, if_neg hy]
      · rw [s267]; unfold b267
        dsimp only
        rw [d205, bI_v, if_neg hp, m204, bI_v, ite_bzif, if_neg hy]
theorem st154 : StpI InvC 154 268 6 := by
  intro as I F hl hI
  obtain ⟨x, y1, y2, y3, y4, v, rfl⟩ := len6 hl
  simp only [List.map_cons, List.map_nil]
  obtain ⟨nl, nc, nk, nx, np, na, ns, hR⟩ := hI.1
  have hK := hR.2.2.2.2.1
  obtain ⟨q1, q2, q3, -, -, -, q7, q8, -⟩ := hR.2.2.2.2.1
  have c55 := m55 (N := zN) (d := 7) (I := I) (F := F) (b := 2) (by omega) x
  have d205 : sem zN 8 205 [vR (some (1, 0)), vI x] (wI I 1 0 0 0) F = some (vI (if inb x 3 then I 2 14 x.toNatClampNeg else -1), wI I 1 0 0 0, F) := by
    rw [m205 (d := 6) (n := nk) (by decide) x (by rw [w0_12, q2]) q3, show wI I 1 0 0 0 1 2 = I 1 2 from funext (fun k => by rw [w0_12]), kIn_c hK]
  by_cases hp : (if inb x 3 then I 2 14 x.toNatClampNeg else -1) = -1
  · refine qs_0 (x := 0) hI ?_ ?_
    · rw [s154]; unfold b154
      rw [c55, bI_v, if_pos hp]
    · rw [s268]; unfold b268
      dsimp only
      rw [d205, bI_v, if_pos hp]
  · have hx : inb x 3 := Decidable.not_not.mp (fun w => hp (if_neg w))
    obtain ⟨s, hs, hs2, rfl, es⟩ := inb_get hx
    obtain ⟨k, hk, ek⟩ : ∃ k, k < nk ∧ I 2 14 s = nI k := (q8 s hs).resolve_left (fun w => hp (by rw [if_pos hx, es, w]))
    have epk : (if inb (nI s) 3 then I 2 14 (nI s).toNatClampNeg else -1) = nI k := by rw [if_pos hx, es, ek]
    rw [epk] at hp c55 d205
    refine qs_0 (x := bz (mixF (mixF (mixF (mixF (mixF 17 y1) y2) y3) y4) (I 2 12 k) = v)) hI ?_ ?_
    · rw [s154]; unfold b154
      rw [c55, bI_v, if_neg hp, m76, bI_v, m51 (nk := nk) (by omega) (nI k) q1 q3, bI_v, if_pos (inb_nI hk (by omega)), nI_clamp (by omega), m69, bI_v, ite_bz]
    · rw [s268]; unfold b268
      dsimp only
      rw [d205, bI_v, if_neg hp, m266 (by omega), bI_v, w0_12, (q7 k hk).2.1, ite_bz]
