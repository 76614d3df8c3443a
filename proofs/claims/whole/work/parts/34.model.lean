/-! THE REFERENCE: its row, its small questions -/
/-- another row -/
def sr (I : IM) (f : Nat → Int32) : IM := fun b o k => if b = 1 ∧ o = 2 then f k else I b o k
def updR (f : Nat → Int32) (k : Nat) (x : Int32) : Nat → Int32 := fun i => if i = k then x else f i
theorem sr_eq (I : IM) (f : Nat → Int32) (b o k : Nat) : sr I f b o k = if b = 1 ∧ o = 2 then f k else I b o k := rfl
theorem sr_row (I : IM) (f : Nat → Int32) : sr I f 1 2 = f := by funext k; rw [sr_eq, if_pos ⟨rfl, rfl⟩]
theorem sr_id (I : IM) : sr I (I 1 2) = I := by
  funext b o k
  rw [sr_eq]
  by_cases h : b = 1 ∧ o = 2
  · obtain ⟨rfl, rfl⟩ := h
    rw [if_pos ⟨rfl, rfl⟩]
  · rw [if_neg h]
theorem sr_w (I : IM) (f : Nat → Int32) (k : Nat) (x : Int32) : wI (sr I f) 1 2 k x = sr I (updR f k x) := by
  funext b o i
  rw [wI_eq, sr_eq, sr_eq]
  by_cases h : b = 1 ∧ o = 2
  · obtain ⟨rfl, rfl⟩ := h
    unfold updR
    by_cases hk : i = k
    · rw [if_pos ⟨rfl, rfl, hk⟩, if_pos ⟨rfl, rfl⟩, if_pos hk]
    · rw [if_neg (fun z => hk z.2.2), if_pos ⟨rfl, rfl⟩, if_pos ⟨rfl, rfl⟩, if_neg hk]
  · rw [if_neg (fun z => h ⟨z.1, z.2.1⟩), if_neg h, if_neg h]
theorem w_sr (I : IM) (k : Nat) (x : Int32) : wI I 1 2 k x = sr I (updR (I 1 2) k x) := by
  have h := sr_w I (I 1 2) k x
  rw [sr_id] at h
  exact h
def kIn (a : Nat → Int32) (x : Int32) : Nat → Int32
  | 0 => -1
  | k + 1 => if inb x 3 ∧ a (182 + 4 * k) = x then nI k else kIn a x k
def frM (a : Nat → Int32) (n : Nat) : Int32 := if kIn a 0 n = -1 then 0 else if kIn a 1 n = -1 then 1 else if kIn a 2 n = -1 then 2 else -1
section MC
variable {N d n : Nat} {I : IM} {F : FM}
theorem m194 (k : Nat) : sem N (d + 1) 194 [vI (nI k)] I F = some (vI (nI (180 + 4 * k)), I, F) := by
  rw [s194]; unfold b194
  rw [L180, L4, nI_mul, nI_add]
theorem m195 (k : Nat) : sem N (d + 1) 195 [vI (nI k)] I F = some (vI (nI (220 + 4 * k)), I, F) := by
  rw [s195]; unfold b195
  rw [L220, L4, nI_mul, nI_add]
theorem m196 (k : Nat) : sem N (d + 1) 196 [vI (nI k)] I F = some (vI (nI (268 + 3 * k)), I, F) := by
  rw [s196]; unfold b196
  rw [L268, L3, nI_mul, nI_add]
theorem m197 (k : Nat) : sem N (d + 1) 197 [vI (nI k)] I F = some (vI (nI (340 + 3 * k)), I, F) := by
  rw [s197]; unfold b197
  rw [L340, L3, nI_mul, nI_add]
theorem m198 (k : Nat) : sem N (d + 1) 198 [vI (nI k)] I F = some (vI (nI (370 + 4 * k)), I, F) := by
  rw [s198]; unfold b198
  rw [L370, L4, nI_mul, nI_add]
theorem m199 (x : Int32) (hs : I 1 2 13 = nI n) (hn : n < 2 ^ 31) : sem N (d + 2) 199 [vR (some (1, 0)), vI x] I F = some (vI (bz (inb x n)), I, F) := by
  rw [s199]; unfold b199
  rw [hs, m184 (n := n) N d (l_pred hn), bI_v, if_pos bz_01]
theorem m200 (x : Int32) (hs : I 1 2 15 = nI n) (hn : n < 2 ^ 31) : sem N (d + 2) 200 [vR (some (1, 0)), vI x] I F = some (vI (bz (inb x n)), I, F) := by
  rw [s200]; unfold b200
  rw [hs, m184 (n := n) N d (l_pred hn), bI_v, if_pos bz_01]
theorem m201 (x : Int32) (hs : I 1 2 16 = nI n) (hn : n < 2 ^ 31) : sem N (d + 2) 201 [vR (some (1, 0)), vI x] I F = some (vI (bz (inb x n)), I, F) := by
  rw [s201]; unfold b201
  rw [hs, m184 (n := n) N d (l_pred hn), bI_v, if_pos bz_01]
theorem m224 (x : Int32) (hs : I 1 2 14 = nI n) (hn : n < 2 ^ 31) : sem N (d + 2) 224 [vR (some (1, 0)), vI x] I F = some (vI (bz (inb x n)), I, F) := by
  rw [s224]; unfold b224
  rw [hs, m184 (n := n) N d (l_pred hn), bI_v, if_pos bz_01]
theorem m202 (x : Int32) : sem N (d + 2) 202 [vR (some (1, 0)), vI x] I F = some (vI (bz (inb x 4 ∧ I 1 2 (370 + 4 * x.toNatClampNeg) = 1)), I, F) := by
  rw [s202]; unfold b202
  rw [m184 (h := 3) (n := 4) N d (by decide), bI_v, ite_bzif]
  by_cases h : inb x 4
  · obtain ⟨c, hc, hc2, rfl, -⟩ := inb_get h
    rw [if_pos h, m198, bI_v, if_pos (inb_nI (by omega) (by decide)), ite_bz]
    refine congrArg (fun v => some (vI v, I, F)) (bz_congr ?_)
    rw [nI_clamp (by omega), nI_clamp (by omega)]
    exact ⟨fun y => ⟨h, y⟩, fun y => y.2⟩
  · rw [if_neg h, bz_f (fun y => h y.1)]
theorem m203 (x : Int32) : sem N (d + 2) 203 [vI x] I F = some (vI (bz (inb x 8)), I, F) := by
  rw [s203]; unfold b203
  rw [m184 (h := 7) (n := 8) N d (by decide), bI_v, if_pos bz_01]
theorem m204 (x : Int32) : sem N (d + 2) 204 [vI x] I F = some (vI (bz (inb x 256)), I, F) := by
  rw [s204]; unfold b204
  rw [m184 (h := 255) (n := 256) N d (by decide), bI_v, if_pos bz_01]
theorem m205 (hN : 12 ≤ N) (x : Int32) (hs : I 1 2 13 = nI n) (hn : n ≤ 10) : sem N (d + 2) 205 [vR (some (1, 0)), vI x] I F = some (vI (kIn (I 1 2) x n), I, F) := by
  rw [s205]; unfold b205
  refine lp (S := fun m c => sg (sem N (d + 1)) 1 zc205 m 4 [vR (some (1, 0)), vI x, vI (kIn (I 1 2) x c), vI (nI c)] I F) (m := n) ?_ ?_ n 0 N (by omega) (by omega)
  · intro m c hc
    try dsimp only
    rw [u205_4]; unfold b205_4
    rw [hs, if_neg (nI_ge hc (by omega)), m184 (h := 2) (n := 3) N d (by decide), bI_v, ite_bzif]
    by_cases h : inb x 3
    · have e : kIn (I 1 2) x (c + 1) = if I 1 2 (182 + 4 * c) = x then nI c else kIn (I 1 2) x c := by
        show (if inb x 3 ∧ I 1 2 (182 + 4 * c) = x then nI c else kIn (I 1 2) x c) = _
        by_cases z : I 1 2 (182 + 4 * c) = x
        · rw [if_pos ⟨h, z⟩, if_pos z]
        · rw [if_neg (fun y => z y.2), if_neg z]
      rw [if_pos h, m194, bI_v, L2, nI_add, if_pos (inb_nI (by omega) (by decide)), nI_clamp (by omega), nI_1, e, show 180 + 4 * c + 2 = 182 + 4 * c by omega]
      by_cases z : I 1 2 (182 + 4 * c) = x
      · rw [if_pos z, if_pos z]
      · rw [if_neg z, if_neg z]
    · rw [if_neg h, nI_1, show kIn (I 1 2) x (c + 1) = kIn (I 1 2) x c by show (if _ then _ else _) = _; rw [if_neg (fun z => h z.1)]]
  · intro m
    try dsimp only
    rw [u205_4]; unfold b205_4
    rw [hs, if_pos (nI_le (Nat.le_refl _) (by omega))]
theorem m206 (hN : 12 ≤ N) (hs : I 1 2 13 = nI n) (hn : n ≤ 10) : sem N (d + 3) 206 [vR (some (1, 0))] I F = some (vI (frM (I 1 2) n), I, F) := by
  have h := fun x : Int32 => m205 (N := N) (d := d) (I := I) (F := F) hN x hs hn
  obtain ⟨M, rfl⟩ : ∃ M, N = M + 4 := ⟨N - 4, by omega⟩
  have st : ∀ (k : Nat) (x1 x2 : Int32), sg (sem (M + 4) (d + 2)) 1 zc206 (k + 1) 4 [vR (some (1, 0)), vI x1, vI x2] I F = if x2 < 0 then some (vI x1, I, F) else sg (sem (M + 4) (d + 2)) 1 zc206 k 4 [vR (some (1, 0)), vI (if kIn (I 1 2) x2 n = -1 then x2 else x1), vI (x2 + (-1))] I F := by
    intro k x1 x2
    rw [u206_4]; unfold b206_4
    by_cases h0 : x2 < 0
    · rw [if_pos h0, if_pos h0]
    · rw [if_neg h0, if_neg h0, h, bI_v]
      by_cases z : kIn (I 1 2) x2 n = -1
      · rw [if_pos z, if_pos z]
      · rw [if_neg z, if_neg z]
  rw [s206]; unfold b206 frM
  rw [st (M + 3), if_neg (show ¬ (2 : Int32) < 0 by decide), show (2 : Int32) + (-1) = 1 from rfl, st (M + 2), if_neg (show ¬ (1 : Int32) < 0 by decide), show (1 : Int32) + (-1) = 0 from rfl, st (M + 1), if_neg (show ¬ (0 : Int32) < 0 by decide), show (0 : Int32) + (-1) = -1 from rfl, st M, if_pos (show (-1 : Int32) < 0 by decide)]
/-- a key no longer loaded, in the row -/
def ulc (a : Nat → Int32) (k c : Nat) : Nat → Int32 := fun i => if i = 182 + 4 * k then -1 else if 370 ≤ i ∧ i < 370 + 4 * c ∧ (i - 370) % 4 = 0 ∧ a (i + 1) = nI k then 0 else a i
theorem m207 (hN : 6 ≤ N) {k : Nat} (hk : k < 10) : sem N (d + 2) 207 [vR (some (1, 0)), vI (nI k)] I F = some (vI 0, sr I (ulc (I 1 2) k 4), F) := by
  rw [s207]; unfold b207
  rw [m194, bI_v, L2, nI_add, if_pos (inb_nI (by omega) (by decide)), nI_clamp (by omega), w_sr]
  have e0 : updR (I 1 2) (180 + 4 * k + 2) (-1) = ulc (I 1 2) k 0 := by
    funext i
    unfold updR ulc
    by_cases h : i = 182 + 4 * k
    · rw [if_pos (by omega), if_pos h]
    · rw [if_neg (by omega), if_neg h, if_neg (fun z => by omega)]
  show sg (sem N (d + 1)) 0 zc207 N 14 [vR (some (1, 0)), vI (nI k), vI 0] (sr I (updR (I 1 2) (180 + 4 * k + 2) (-1))) F = _
  rw [e0]
  refine lp (S := fun m c => sg (sem N (d + 1)) 0 zc207 m 14 [vR (some (1, 0)), vI (nI k), vI (nI c)] (sr I (ulc (I 1 2) k c)) F) (m := 4) ?_ ?_ 4 0 N rfl (by omega)
  · intro m c hc
    try dsimp only
    rw [u207_14]; unfold b207_14
    have a1 : sr I (ulc (I 1 2) k c) 1 2 (370 + 4 * c + 1) = I 1 2 (371 + 4 * c) := by
      rw [sr_row]; unfold ulc
      rw [if_neg (by omega), if_neg (fun z => by omega), show 370 + 4 * c + 1 = 371 + 4 * c by omega]
    rw [if_neg (show ¬ (4 : Int32) ≤ nI c from nI_ge hc (by decide)), m198, bI_v, nI_1, if_pos (inb_nI (by omega) (by decide)), nI_clamp (by omega), a1]
    by_cases z : I 1 2 (371 + 4 * c) = nI k
    · rw [if_pos z, m198, bI_v, if_pos (inb_nI (by omega) (by decide)), nI_clamp (by omega), sr_w, nI_1]
      have e : updR (ulc (I 1 2) k c) (370 + 4 * c) 0 = ulc (I 1 2) k (c + 1) := by
        funext i
        unfold updR ulc
        by_cases h1 : i = 370 + 4 * c
        · subst h1
          rw [if_pos rfl, if_neg (by omega), if_pos ⟨by omega, by omega, by omega, by rw [show 370 + 4 * c + 1 = 371 + 4 * c by omega]; exact z⟩]
        · rw [if_neg h1]
          by_cases h2 : i = 182 + 4 * k
          · rw [if_pos h2, if_pos h2]
          · rw [if_neg h2, if_neg h2]
            by_cases h3 : 370 ≤ i ∧ i < 370 + 4 * c ∧ (i - 370) % 4 = 0 ∧ I 1 2 (i + 1) = nI k
            · rw [if_pos h3, if_pos ⟨h3.1, by omega, h3.2.2⟩]
            · rw [if_neg h3, if_neg (fun y => h3 ⟨y.1, by omega, y.2.2⟩)]
      rw [e]
    · rw [if_neg z, nI_1]
      have e : ulc (I 1 2) k c = ulc (I 1 2) k (c + 1) := by
        funext i
        unfold ulc
        by_cases h2 : i = 182 + 4 * k
        · rw [if_pos h2, if_pos h2]
        · rw [if_neg h2, if_neg h2]
          by_cases h3 : 370 ≤ i ∧ i < 370 + 4 * c ∧ (i - 370) % 4 = 0 ∧ I 1 2 (i + 1) = nI k
          · rw [if_pos h3, if_pos ⟨h3.1, by omega, h3.2.2⟩]
          · rw [if_neg h3, if_neg ?_]
            rintro ⟨y1, y2, y3, y4⟩
            by_cases h4 : i = 370 + 4 * c
            · subst h4
              exact z (by rw [← y4, show 370 + 4 * c + 1 = 371 + 4 * c by omega])
            · exact h3 ⟨y1, by omega, y3, y4⟩
      rw [e]
  · intro m
    try dsimp only
    rw [u207_14]; unfold b207_14
    rw [if_pos (show (4 : Int32) ≤ nI 4 from nI_le (Nat.le_refl _) (by decide))]
end MC
/-! rows copied -/
theorem e189 {N d u v p q n1 n2 : Nat} {I : IM} {F : FM} (huv : u ≠ v) (hp : p + 406 ≤ n1) (hq : q + 406 ≤ n2) (hn1 : n1 < 2 ^ 20) (hn2 : n2 < 2 ^ 20) (hN : 408 ≤ N) (hu : ∀ (k : Nat) (x4 : Int32) (J : IM), sg (sem N d) 0 zc189 (k + 1) 3 [vR (some (1, u)), vI (nI p), vR (some (1, v)), vI (nI q), vI x4] J F = if (406 : Int32) ≤ x4 then some (vI 0, J, F) else (if inb (nI p + x4) n1 then (if inb (nI q + x4) n2 then sg (sem N d) 0 zc189 k 3 [vR (some (1, u)), vI (nI p), vR (some (1, v)), vI (nI q), vI (x4 + 1)] (wI J 1 v (nI q + x4).toNatClampNeg (J 1 u (nI p + x4).toNatClampNeg)) F else none) else none)) : sg (sem N d) 0 zc189 N 3 [vR (some (1, u)), vI (nI p), vR (some (1, v)), vI (nI q), vI 0] I F = some (vI 0, flo I 1 v q 406 (fun k => I 1 u (p + k)), F) := by
  have h := lp (S := fun m c => sg (sem N d) 0 zc189 m 3 [vR (some (1, u)), vI (nI p), vR (some (1, v)), vI (nI q), vI (nI c)] (flo I 1 v q c (fun k => I 1 u (p + k))) F) (T := some (vI 0, flo I 1 v q 406 (fun k => I 1 u (p + k)), F)) (m := 406) ?_ ?_ 406 0 N rfl (by omega)
  · try dsimp only at h
    rw [flo_0] at h
    exact h
  · intro m c hc
    try dsimp only
    rw [hu]
    have a1 : flo I 1 v q c (fun k => I 1 u (p + k)) 1 u (p + c) = I 1 u (p + c) := by rw [flo_eq, if_neg (fun z => huv z.2.1)]
    rw [if_neg (show ¬ (406 : Int32) ≤ nI c from nI_ge hc (by decide)), nI_add, nI_add, if_pos (inb_nI (by omega) (by omega)), if_pos (inb_nI (by omega) (by omega)), nI_clamp (by omega), nI_clamp (by omega), a1, nI_1]
    rw [← flo_s]
  · intro m
    try dsimp only
    rw [hu, if_pos (show (406 : Int32) ≤ nI 406 from nI_le (Nat.le_refl _) (by decide))]
section MK
variable {N d : Nat} {I : IM} {F : FM}
theorem m189a (hN : 408 ≤ N) {i : Nat} (hi : i < 8) : sem N (d + 1) 189 [vR (some (1, 2)), vI 0, vR (some (1, 3)), vI (nI (406 * i))] I F = some (vI 0, flo I 1 3 (406 * i) 406 (fun k => I 1 2 (0 + k)), F) := by
  rw [s189v0]; unfold b189v0
  exact e189 (u := 2) (v := 3) (p := 0) (n1 := 406) (n2 := 3248) (by decide) (by omega) (by omega) (by decide) (by decide) hN (fun k x4 J => u189v0_3 _ _ _ _ _ _ _)
theorem m189b (hN : 408 ≤ N) {i : Nat} (hi : i < 8) : sem N (d + 1) 189 [vR (some (1, 3)), vI (nI (406 * i)), vR (some (1, 2)), vI 0] I F = some (vI 0, flo I 1 2 0 406 (fun k => I 1 3 (406 * i + k)), F) := by
  rw [s189v1]; unfold b189v1
  exact e189 (u := 3) (v := 2) (q := 0) (n1 := 3248) (n2 := 406) (by decide) (by omega) (by omega) (by decide) (by decide) hN (fun k x4 J => u189v1_3 _ _ _ _ _ _ _)
theorem m189c (hN : 408 ≤ N) {i : Nat} (hi : i < 2) : sem N (d + 1) 189 [vR (some (1, 2)), vI 0, vR (some (1, 6)), vI (nI (406 * i))] I F = some (vI 0, flo I 1 6 (406 * i) 406 (fun k => I 1 2 (0 + k)), F) := by
  rw [s189v2]; unfold b189v2
  exact e189 (u := 2) (v := 6) (p := 0) (n1 := 406) (n2 := 812) (by decide) (by omega) (by omega) (by decide) (by decide) hN (fun k x4 J => u189v2_3 _ _ _ _ _ _ _)
theorem m189d (hN : 408 ≤ N) {i : Nat} (hi : i < 2) : sem N (d + 1) 189 [vR (some (1, 6)), vI (nI (406 * i)), vR (some (1, 2)), vI 0] I F = some (vI 0, flo I 1 2 0 406 (fun k => I 1 6 (406 * i + k)), F) := by
  rw [s189v3]; unfold b189v3
  exact e189 (u := 6) (v := 2) (q := 0) (n1 := 812) (n2 := 406) (by decide) (by omega) (by omega) (by decide) (by decide) hN (fun k x4 J => u189v3_3 _ _ _ _ _ _ _)
theorem m189e (hN : 408 ≤ N) : sem N (d + 1) 189 [vR (some (1, 2)), vI 0, vR (some (1, 7)), vI 0] I F = some (vI 0, flo I 1 7 0 406 (fun k => I 1 2 (0 + k)), F) := by
  rw [s189v4]; unfold b189v4
  exact e189 (u := 2) (v := 7) (p := 0) (q := 0) (n1 := 406) (n2 := 406) (by decide) (by omega) (by omega) (by decide) (by decide) hN (fun k x4 J => u189v4_3 _ _ _ _ _ _ _)
theorem m189f (hN : 408 ≤ N) : sem N (d + 1) 189 [vR (some (1, 7)), vI 0, vR (some (1, 2)), vI 0] I F = some (vI 0, flo I 1 2 0 406 (fun k => I 1 7 (0 + k)), F) := by
  rw [s189v5]; unfold b189v5
  exact e189 (u := 7) (v := 2) (p := 0) (q := 0) (n1 := 406) (n2 := 406) (by decide) (by omega) (by omega) (by decide) (by decide) hN (fun k x4 J => u189v5_3 _ _ _ _ _ _ _)
end MK
