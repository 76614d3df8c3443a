/-! THE REFERENCE LAYS ITS POLICIES OUT -/
theorem m232 {N d : Nat} {I : IM} {F : FM} (x y : Int32) : sem N (d + 1) 232 [vI x, vI y] I F = some (vI (mxI x y), I, F) := by
  rw [s232]; unfold b232 mxI
  by_cases h : x < y
  · rw [if_pos h, if_pos (by rw [i_lt] at h; rw [i_le]; omega)]
  · rw [if_neg h]
    by_cases e : x ≤ y
    · rw [if_pos e, show x = y by rw [i_lt] at h; rw [i_le] at e; rw [i_eq]; omega]
    · rw [if_neg e]
theorem m233 {N d : Nat} {I : IM} {F : FM} (x y : Int32) : sem N (d + 1) 233 [vI x, vI y] I F = some (vI (mnI x y), I, F) := by
  rw [s233]; unfold b233 mnI
  by_cases h : y < x
  · rw [if_pos h, if_pos (by rw [i_lt] at h; rw [i_le]; omega)]
  · rw [if_neg h]
    by_cases e : y ≤ x
    · rw [if_pos e, show x = y by rw [i_lt] at h; rw [i_le] at e; rw [i_eq]; omega]
    · rw [if_neg e]
theorem nar_bz {p : Prop} [Decidable p] : vp_nar .boolean (bz p) = bz p := by
  by_cases h : p
  · rw [bz_t h]; decide
  · rw [bz_f h]; decide
theorem nar_01 {x : Int32} (h : x = 0 ∨ x = 1) : vp_nar .boolean x = x := by
  rcases h with rfl | rfl <;> decide
theorem brV_01 (a : Nat → Int32) (l : Int32) (nl : Nat) (k x y : Int32) : brV a l nl k x y = 0 ∨ brV a l nl k x y = 1 := by
  unfold brV
  split
  · exact bz_01
  · split
    · exact bz_01
    · split
      · exact bz_01
      · split
        · exact bz_01
        · split
          · exact bz_01
          · exact Or.inl rfl
theorem br_01 (a : Nat → Int32) (l : Int32) (nl p : Nat) : tv (brF a l nl) p = 0 ∨ tv (brF a l nl) p = 1 := by
  rw [tv_eq]
  unfold brF
  split
  · exact bz_01
  · split
    · exact bz_01
    · exact brV_01 _ _ _ _ _ _
theorem hF_01 (a : Nat → Int32) (l : Int32) (nl na p : Nat) : tv (hF a l nl na) p = 0 ∨ tv (hF a l nl na) p = 1 := by
  rw [tv_eq]
  unfold hF
  split
  · exact bz_01
  · split
    · exact bz_01
    · split
      · exact bz_01
      · exact br_01 _ _ _ _
section LY
variable {N d nl np na nk : Nat} {X : IM} {F : FM} {a : Nat → Int32}
theorem m228 (hN : 50 ≤ N) {r : Nat} (hr : r < 8) (y : Int32) (hX : ∀ k, X 1 2 k = a k) (h11 : a 11 = nI nl) (hl : nl ≤ 40) (hw : X 1 0 22 = orb (fun r => ¬ rtl (fun i => a (20 + 2 * i)) (fun i => a (20 + 2 * i + 1)) (nI r) (-1) (-1) nl = a r) 8) : sem N (d + 1) 228 [vR (some (1, 0)), vI (nI r), vI y] X F = some (vI (bz (lgd a nl (nI r) y = true ∧ rtl (fun i => a (20 + 2 * i)) (fun i => a (20 + 2 * i + 1)) (nI r) (-1) (-1) nl = a r)), X, F) := by
  rw [s228]; unfold b228
  have h := lp (S := fun m c => sg (sem N d) 6 zc228 m 5 [vR (some (1, 0)), vI (nI r), vI y, vI (bz (lgd a c (nI r) y = true)), vI (nI c)] X F) (T := some (vI (bz (lgd a nl (nI r) y = true ∧ rtl (fun i => a (20 + 2 * i)) (fun i => a (20 + 2 * i + 1)) (nI r) (-1) (-1) nl = a r)), X, F)) (m := nl) ?_ ?_ nl 0 N (by omega) (by omega)
  · try dsimp only at h
    rw [bz_f (p := lgd a 0 (nI r) y = true) Bool.false_ne_true] at h
    exact h
  · intro m c hc
    try dsimp only
    rw [u228_5]; unfold b228_5
    have e0 : (20 : Int32) + 2 * nI c = nI (20 + 2 * c) := by rw [L20, L2, nI_mul, nI_add]
    have i0 : inb (nI (20 + 2 * c)) 406 := inb_nI (by omega) (by decide)
    have i1 : inb (nI (20 + 2 * c + 1)) 406 := inb_nI (by omega) (by decide)
    have c0 : (nI (20 + 2 * c)).toNatClampNeg = 20 + 2 * c := nI_clamp (by omega)
    have c1 : (nI (20 + 2 * c + 1)).toNatClampNeg = 20 + 2 * c + 1 := nI_clamp (by omega)
    have es : lgd a (c + 1) (nI r) y = (decide (a (20 + 2 * c) = nI r ∧ a (20 + 2 * c + 1) = y) || lgd a c (nI r) y) := rfl
    rw [hX 11, h11, if_neg (nI_ge hc (by omega)), es]
    by_cases hE : lgd a c (nI r) y = true
    · rw [bz_t hE, if_neg (by decide), nI_1, bz_t (by rw [hE, Bool.or_true])]
    · have hE' : lgd a c (nI r) y = false := by simpa using hE
      rw [bz_f hE, if_pos rfl]
      simp only [e0, eq_true i0, ↓reduceIte, c0, nI_1, eq_true i1, c1, hX]
      rw [hE', Bool.or_false]
      by_cases h1 : a (20 + 2 * c) = nI r
      · rw [if_pos h1]
        by_cases h2 : a (20 + 2 * c + 1) = y
        · rw [if_pos h2, bz_t (by rw [decide_eq_true_iff]; exact ⟨h1, h2⟩)]
        · rw [if_neg h2, bz_f (by rw [decide_eq_true_iff]; exact fun z => h2 z.2)]
      · rw [if_neg h1, bz_f (by rw [decide_eq_true_iff]; exact fun z => h1 z.1)]
  · intro m
    try dsimp only
    rw [u228_5]; unfold b228_5
    have hb := orb_t (P := fun r => ¬ rtl (fun i => a (20 + 2 * i)) (fun i => a (20 + 2 * i + 1)) (nI r) (-1) (-1) nl = a r) (r := r) (m := 8) hr (by omega)
    rw [hX 11, h11, if_pos (nI_le (Nat.le_refl _) (by omega)), hw]
    by_cases hE : lgd a nl (nI r) y = true
    · rw [bz_t hE, if_neg (by decide)]
      by_cases hg : rtl (fun i => a (20 + 2 * i)) (fun i => a (20 + 2 * i + 1)) (nI r) (-1) (-1) nl = a r
      · rw [if_pos ((and1 _).mpr (fun z => (hb.mp z) hg)), bz_t ⟨hE, hg⟩]
      · rw [if_neg (fun z => (and1 _).mp z (hb.mpr hg)), bz_f (fun z => hg z.2)]
    · rw [bz_f hE, if_pos rfl, bz_f (fun z => hE z.1)]
theorem m230 (hN : 50 ≤ N) {p : Nat} (hp : p < 24) (hok : plOK a nk p) (hX : ∀ k, X 1 2 k = a k) (h11 : a 11 = nI nl) (hl : nl ≤ 40) (hw : X 1 0 22 = orb (fun r => ¬ rtl (fun i => a (20 + 2 * i)) (fun i => a (20 + 2 * i + 1)) (nI r) (-1) (-1) nl = a r) 8) (ht : ∀ q, q < p → X 1 11 q = tv (brF a (a 8) nl) q) : sem N (d + 3) 230 [vR (some (1, 0)), vI (a (268 + 3 * p)), vI (a (269 + 3 * p)), vI (a (270 + 3 * p))] X F = some (vI (tv (brF a (a 8) nl) p), X, F) := by
  rw [s230]; unfold b230
  rw [tv_eq]
  have hT : ∀ q, q < p → tabl (brF a (a 8) nl) p q = X 1 11 q := fun q hq => by rw [tv_lt hq, ht q hq]
  generalize tabl (brF a (a 8) nl) p = T at hT ⊢
  unfold brF brV
  have row : X 1 2 = a := funext hX
  generalize hK : a (268 + 3 * p) = K at *
  generalize hx : a (269 + 3 * p) = x at *
  generalize hy : a (270 + 3 * p) = y at *
  unfold plOK at hok
  rw [hK, hx, hy] at hok
  rcases hok with ⟨rfl, h1⟩ | ⟨rfl, h1⟩ | rfl | ⟨h0, h1, h2⟩ | rfl | ⟨rfl, h1⟩ | ⟨rfl, h1⟩
  · rw [if_pos rfl, m229 (by omega), bI_v, if_neg (show ¬ (0 : Int32) = 3 by decide), if_neg (show ¬ (0 : Int32) = 4 by decide), if_pos rfl, row, ite_bz]
  · obtain ⟨c, hc, hc2, rfl, ec⟩ := inb_get h1
    rw [if_neg (show ¬ (1 : Int32) = 0 by decide), if_pos rfl, L386, nI_add, if_pos (inb_nI (by omega) (by decide)), nI_clamp (by omega), hX, if_neg (show ¬ (1 : Int32) = 3 by decide), if_neg (show ¬ (1 : Int32) = 4 by decide), if_neg (show ¬ (1 : Int32) = 0 by decide), if_pos rfl, ec, ite_bzn]
  · rw [if_neg (show ¬ (2 : Int32) = 0 by decide), if_neg (show ¬ (2 : Int32) = 1 by decide), if_pos rfl, hX, if_neg (show ¬ (2 : Int32) = 3 by decide), if_neg (show ¬ (2 : Int32) = 4 by decide), if_neg (show ¬ (2 : Int32) = 0 by decide), if_neg (show ¬ (2 : Int32) = 1 by decide), if_pos rfl, ite_bzn]
  · obtain ⟨u, hu, hu2, rfl, eu⟩ := inb_get h1
    obtain ⟨v, hv, hv2, rfl, ev⟩ := inb_get h2
    have iu : inb (nI u) 24 := inb_mono (by omega) h1
    have iv : inb (nI v) 24 := inb_mono (by omega) h2
    rcases h0 with rfl | rfl
    · rw [if_neg (show ¬ (3 : Int32) = 0 by decide), if_neg (show ¬ (3 : Int32) = 1 by decide), if_neg (show ¬ (3 : Int32) = 2 by decide), if_pos rfl, if_pos iu, if_pos iv, if_pos rfl, eu, ev, hT u hu, hT v hv]
      by_cases z1 : X 1 11 u = 0
      · rw [if_pos z1, bz_f (fun z => z.1 z1)]
      · rw [if_neg z1]
        by_cases z2 : X 1 11 v = 0
        · rw [if_pos z2, bz_f (fun z => z.2 z2)]
        · rw [if_neg z2, bz_t ⟨z1, z2⟩]
    · rw [if_neg (show ¬ (4 : Int32) = 0 by decide), if_neg (show ¬ (4 : Int32) = 1 by decide), if_neg (show ¬ (4 : Int32) = 2 by decide), if_neg (show ¬ (4 : Int32) = 3 by decide), if_pos rfl, if_pos iu, if_pos iv, if_neg (show ¬ (4 : Int32) = 3 by decide), if_pos rfl, eu, ev, hT u hu, hT v hv]
      by_cases z1 : X 1 11 u = 0
      · rw [if_pos z1]
        by_cases z2 : X 1 11 v = 0
        · rw [if_pos z2, bz_f (fun z => z.elim (fun w => w z1) (fun w => w z2))]
        · rw [if_neg z2, bz_t (Or.inr z2)]
      · rw [if_neg z1, bz_t (Or.inl z1)]
  · rw [if_neg (show ¬ (5 : Int32) = 0 by decide), if_neg (show ¬ (5 : Int32) = 1 by decide), if_neg (show ¬ (5 : Int32) = 2 by decide), if_neg (show ¬ (5 : Int32) = 3 by decide), if_neg (show ¬ (5 : Int32) = 4 by decide), if_pos rfl, hX, if_neg (show ¬ (5 : Int32) = 3 by decide), if_neg (show ¬ (5 : Int32) = 4 by decide), if_neg (show ¬ (5 : Int32) = 0 by decide), if_neg (show ¬ (5 : Int32) = 1 by decide), if_neg (show ¬ (5 : Int32) = 2 by decide), if_pos rfl, ite_bzn]
  · rw [if_neg (show ¬ (6 : Int32) = 0 by decide), if_neg (show ¬ (6 : Int32) = 1 by decide), if_neg (show ¬ (6 : Int32) = 2 by decide), if_neg (show ¬ (6 : Int32) = 3 by decide), if_neg (show ¬ (6 : Int32) = 4 by decide), if_neg (show ¬ (6 : Int32) = 5 by decide), if_pos rfl]
    rfl
  · obtain ⟨r, hr, hr2, rfl, er⟩ := inb_get h1
    rw [if_neg (show ¬ (7 : Int32) = 0 by decide), if_neg (show ¬ (7 : Int32) = 1 by decide), if_neg (show ¬ (7 : Int32) = 2 by decide), if_neg (show ¬ (7 : Int32) = 3 by decide), if_neg (show ¬ (7 : Int32) = 4 by decide), if_neg (show ¬ (7 : Int32) = 5 by decide), if_neg (show ¬ (7 : Int32) = 6 by decide), if_pos rfl, m228 hN hr y hX h11 hl hw, bI_v, if_pos bz_01, if_neg (show ¬ (7 : Int32) = 3 by decide), if_neg (show ¬ (7 : Int32) = 4 by decide), if_neg (show ¬ (7 : Int32) = 0 by decide), if_neg (show ¬ (7 : Int32) = 1 by decide), if_neg (show ¬ (7 : Int32) = 2 by decide), if_neg (show ¬ (7 : Int32) = 5 by decide), if_pos rfl, er]
theorem m231 (hN : 20 ≤ N) (x : Int32) (hX : ∀ k, X 1 2 k = a k) (h18 : a 18 = nI na) (hn : na ≤ 8) (hq : ∀ i, i < na → ∃ p, p < 24 ∧ a (391 + 2 * i) = nI p ∧ X 1 11 p = tv (brF a (a 8) nl) p) : sem N (d + 1) 231 [vR (some (1, 0)), vI x] X F = some (vI (bz (sgd a (a 8) nl na x = true)), X, F) := by
  rw [s231]; unfold b231
  have h := lp (S := fun m c => sg (sem N d) 6 zc231 m 4 [vR (some (1, 0)), vI x, vI (bz (sgd a (a 8) nl c x = true)), vI (nI c)] X F) (T := some (vI (bz (sgd a (a 8) nl na x = true)), X, F)) (m := na) ?_ ?_ na 0 N (by omega) (by omega)
  · try dsimp only at h
    rw [bz_f (p := sgd a (a 8) nl 0 x = true) Bool.false_ne_true] at h
    exact h
  · intro m c hc
    try dsimp only
    rw [u231_4]; unfold b231_4
    obtain ⟨p, hp, ep, et⟩ := hq c hc
    have e0 : (390 : Int32) + 2 * nI c = nI (390 + 2 * c) := by rw [L390, L2, nI_mul, nI_add]
    have i0 : inb (nI (390 + 2 * c)) 406 := inb_nI (by omega) (by decide)
    have i1 : inb (nI (390 + 2 * c + 1)) 406 := inb_nI (by omega) (by decide)
    have c0 : (nI (390 + 2 * c)).toNatClampNeg = 390 + 2 * c := nI_clamp (by omega)
    have c1 : (nI (390 + 2 * c + 1)).toNatClampNeg = 391 + 2 * c := by rw [nI_clamp (by omega)]; omega
    have ip : inb (nI p) 24 := inb_nI hp (by decide)
    have cp : (nI p).toNatClampNeg = p := nI_clamp (by omega)
    have es : sgd a (a 8) nl (c + 1) x = (decide (a (390 + 2 * c) = x ∧ ¬ tv (brF a (a 8) nl) (a (391 + 2 * c)).toNatClampNeg = 0) || sgd a (a 8) nl c x) := rfl
    rw [hX 18, h18, if_neg (nI_ge hc (by omega)), es]
    by_cases hE : sgd a (a 8) nl c x = true
    · rw [bz_t hE, if_neg (by decide), nI_1, bz_t (by rw [hE, Bool.or_true])]
    · have hE' : sgd a (a 8) nl c x = false := by simpa using hE
      rw [bz_f hE, if_pos rfl]
      simp only [e0, eq_true i0, ↓reduceIte, c0, nI_1, eq_true i1, c1, hX, ep, eq_true ip, cp, et]
      rw [hE', Bool.or_false]
      by_cases h1 : a (390 + 2 * c) = x
      · rw [if_pos h1]
        by_cases h2 : tv (brF a (a 8) nl) p = 0
        · rw [if_pos h2, bz_f (by rw [decide_eq_true_iff]; exact fun z => z.2 h2)]
        · rw [if_neg h2, bz_t (by rw [decide_eq_true_iff]; exact ⟨h1, h2⟩)]
      · rw [if_neg h1, bz_f (by rw [decide_eq_true_iff]; exact fun z => h1 z.1)]
  · intro m
    try dsimp only
    rw [u231_4]; unfold b231_4
    rw [hX 18, h18, if_pos (nI_le (Nat.le_refl _) (by omega)), if_pos bz_01]
theorem m234 (hN : 20 ≤ N) (x : Int32) (hX : ∀ k, X 1 2 k = a k) (h18 : a 18 = nI na) (hn : na ≤ 8) (hq : ∀ i, i < na → ∃ p, p < 24 ∧ a (391 + 2 * i) = nI p ∧ X 1 17 p = tv (eF a (a 8) nl) p) : sem N (d + 2) 234 [vR (some (1, 0)), vI x] X F = some (vI (slt a (a 8) nl x na), X, F) := by
  rw [s234]; unfold b234
  refine lp (S := fun m c => sg (sem N (d + 1)) 1 zc234 m 4 [vR (some (1, 0)), vI x, vI (slt a (a 8) nl x c), vI (nI c)] X F) (m := na) ?_ ?_ na 0 N (by omega) (by omega)
  · intro m c hc
    try dsimp only
    rw [u234_4]; unfold b234_4
    obtain ⟨p, hp, ep, et⟩ := hq c hc
    have e0 : (390 : Int32) + 2 * nI c = nI (390 + 2 * c) := by rw [L390, L2, nI_mul, nI_add]
    have i0 : inb (nI (390 + 2 * c)) 406 := inb_nI (by omega) (by decide)
    have i1 : inb (nI (390 + 2 * c + 1)) 406 := inb_nI (by omega) (by decide)
    have c0 : (nI (390 + 2 * c)).toNatClampNeg = 390 + 2 * c := nI_clamp (by omega)
    have c1 : (nI (390 + 2 * c + 1)).toNatClampNeg = 391 + 2 * c := by rw [nI_clamp (by omega)]; omega
    have ip : inb (nI p) 24 := inb_nI hp (by decide)
    have cp : (nI p).toNatClampNeg = p := nI_clamp (by omega)
    rw [hX 18, h18, if_neg (nI_ge hc (by omega))]
    simp only [e0, eq_true i0, ↓reduceIte, c0, nI_1, eq_true i1, c1, hX, ep, eq_true ip, cp, et, m232, bI_v]
    show _ = sg (sem N (d + 1)) 1 zc234 m 4 [vR (some (1, 0)), vI x, vI (if a (390 + 2 * c) = x then mxI (slt a (a 8) nl x c) (tv (eF a (a 8) nl) (a (391 + 2 * c)).toNatClampNeg) else slt a (a 8) nl x c), vI (nI (c + 1))] X F
    by_cases h1 : a (390 + 2 * c) = x
    · rw [if_pos h1, if_pos h1, ep, cp]
    · rw [if_neg h1, if_neg h1]
  · intro m
    try dsimp only
    rw [u234_4]; unfold b234_4
    rw [hX 18, h18, if_pos (nI_le (Nat.le_refl _) (by omega))]
theorem m235 (hN : 20 ≤ N) {p : Nat} (hp : p < 24) (hok : plOK a nk p) (hX : ∀ k, X 1 2 k = a k) (hw : X 1 0 22 = orb (fun r => ¬ rtl (fun i => a (20 + 2 * i)) (fun i => a (20 + 2 * i + 1)) (nI r) (-1) (-1) nl = a r) 8) (t : Nat → Int32) (ht : ∀ q, q < p → X 1 12 q = t q) : sem N (d + 2) 235 [vR (some (1, 0)), vI (a (268 + 3 * p)), vI (a (269 + 3 * p)), vI (a (270 + 3 * p))] X F = some (vI (if a (268 + 3 * p) = 3 then mxI (t (a (269 + 3 * p)).toNatClampNeg) (t (a (270 + 3 * p)).toNatClampNeg) else if a (268 + 3 * p) = 4 then mnI (t (a (269 + 3 * p)).toNatClampNeg) (t (a (270 + 3 * p)).toNatClampNeg) else oV a nl (a (268 + 3 * p)) (a (269 + 3 * p))), X, F) := by
  rw [s235]; unfold b235 oV
  generalize hK : a (268 + 3 * p) = K at *
  generalize hx : a (269 + 3 * p) = x at *
  generalize hy : a (270 + 3 * p) = y at *
  unfold plOK at hok
  rw [hK, hx, hy] at hok
  rcases hok with ⟨rfl, h1⟩ | ⟨rfl, h1⟩ | rfl | ⟨h0, h1, h2⟩ | rfl | ⟨rfl, h1⟩ | ⟨rfl, h1⟩
  · rw [if_pos rfl, if_neg (show ¬ (0 : Int32) = 3 by decide), if_neg (show ¬ (0 : Int32) = 4 by decide), if_pos rfl]
    by_cases z : x &&& 63 = 0
    · rw [if_pos z, if_pos z]
    · rw [if_neg z, if_neg z]
  · rw [if_neg (show ¬ (1 : Int32) = 0 by decide), if_pos rfl, if_neg (show ¬ (1 : Int32) = 3 by decide), if_neg (show ¬ (1 : Int32) = 4 by decide), if_neg (show ¬ (1 : Int32) = 0 by decide), if_pos rfl]
  · rw [if_neg (show ¬ (2 : Int32) = 0 by decide), if_neg (show ¬ (2 : Int32) = 1 by decide), if_pos rfl, if_neg (show ¬ (2 : Int32) = 3 by decide), if_neg (show ¬ (2 : Int32) = 4 by decide), if_neg (show ¬ (2 : Int32) = 0 by decide), if_neg (show ¬ (2 : Int32) = 1 by decide), if_pos rfl]
  · obtain ⟨u, hu, hu2, rfl, eu⟩ := inb_get h1
    obtain ⟨v, hv, hv2, rfl, ev⟩ := inb_get h2
    have iu : inb (nI u) 24 := inb_mono (by omega) h1
    have iv : inb (nI v) 24 := inb_mono (by omega) h2
    rcases h0 with rfl | rfl
    · rw [if_neg (show ¬ (3 : Int32) = 0 by decide), if_neg (show ¬ (3 : Int32) = 1 by decide), if_neg (show ¬ (3 : Int32) = 2 by decide), if_pos rfl, if_pos iu, if_pos iv, if_pos rfl, eu, ev, ht u hu, ht v hv, m232, bI_v]
    · rw [if_neg (show ¬ (4 : Int32) = 0 by decide), if_neg (show ¬ (4 : Int32) = 1 by decide), if_neg (show ¬ (4 : Int32) = 2 by decide), if_neg (show ¬ (4 : Int32) = 3 by decide), if_pos rfl, if_pos iu, if_pos iv, if_neg (show ¬ (4 : Int32) = 3 by decide), if_pos rfl, eu, ev, ht u hu, ht v hv, m233, bI_v]
  · rfl
  · rfl
  · obtain ⟨r, hr, hr2, rfl, er⟩ := inb_get h1
    have hb := orb_t (P := fun r => ¬ rtl (fun i => a (20 + 2 * i)) (fun i => a (20 + 2 * i + 1)) (nI r) (-1) (-1) nl = a r) (r := r) (m := 8) hr (by omega)
    show (if (6 : Int32) ≤ nI r then some (vI (1 : Int32), X, F) else if (X 1 0 22 >>> (nI r &&& 31)) &&& 1 = 1 then some (vI (2 : Int32), X, F) else some (vI (1 : Int32), X, F)) = some (vI (if 6 ≤ nI r then 1 else if rtl (fun i => a (20 + 2 * i)) (fun i => a (20 + 2 * i + 1)) (nI (nI r).toNatClampNeg) (-1) (-1) nl = a (nI r).toNatClampNeg then 1 else 2), X, F)
    rw [er, hw]
    by_cases h6 : (6 : Int32) ≤ nI r
    · rw [if_pos h6, if_pos h6]
    · rw [if_neg h6, if_neg h6]
      by_cases hg : rtl (fun i => a (20 + 2 * i)) (fun i => a (20 + 2 * i + 1)) (nI r) (-1) (-1) nl = a r
      · rw [if_neg (fun z => hb.mp z hg), if_pos hg]
      · rw [if_pos (hb.mpr hg), if_neg hg]
end LY
