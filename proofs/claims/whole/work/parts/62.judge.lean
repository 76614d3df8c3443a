/-! THE CLASS WEIGHS ITS POLICIES -/
def tz (S : Nat → Bool) (I : IM) (c j : Nat) (f : Nat → Nat → Int32) : IM := fun b o k => if b = 0 ∧ S o = true ∧ (k < c ∨ (k = c ∧ o ≤ j)) then f o k else I b o k
theorem tz_eq (S : Nat → Bool) (I : IM) (c j : Nat) (f : Nat → Nat → Int32) (b o k : Nat) : tz S I c j f b o k = if b = 0 ∧ S o = true ∧ (k < c ∨ (k = c ∧ o ≤ j)) then f o k else I b o k := rfl
theorem tz_r {S : Nat → Bool} {I : IM} {c j o k : Nat} {f : Nat → Nat → Int32} (hS : S o = true) (hk : k < c) : tz S I c j f 0 o k = f o k := by rw [tz_eq, if_pos ⟨rfl, hS, Or.inl hk⟩]
theorem tz_c {S : Nat → Bool} {I : IM} {c j o : Nat} {f : Nat → Nat → Int32} (hS : S o = true) (hj : o ≤ j) : tz S I c j f 0 o c = f o c := by rw [tz_eq, if_pos ⟨rfl, hS, Or.inr ⟨rfl, hj⟩⟩]
theorem tz_o {S : Nat → Bool} {I : IM} {c j o k : Nat} {f : Nat → Nat → Int32} (hS : S o = false) : tz S I c j f 0 o k = I 0 o k := by rw [tz_eq, if_neg (fun z => by rw [hS] at z; exact Bool.false_ne_true z.2.1)]
theorem tz_b {S : Nat → Bool} {I : IM} {c j b o k : Nat} {f : Nat → Nat → Int32} (hb : b ≠ 0) : tz S I c j f b o k = I b o k := by rw [tz_eq, if_neg (fun z => hb z.1)]
theorem tz_w {S : Nat → Bool} {I : IM} {c j o' : Nat} {f : Nat → Nat → Int32} (hS : S o' = true) (h1 : j < o') (h2 : ∀ o, S o = true → o ≤ o' → o ≤ j ∨ o = o') {x : Int32} (hx : x = f o' c) : wI (tz S I c j f) 0 o' c x = tz S I c o' f := by
  subst hx
  funext b o k
  rw [wI_eq, tz_eq, tz_eq]
  by_cases hw : b = 0 ∧ o = o' ∧ k = c
  · obtain ⟨rfl, rfl, rfl⟩ := hw
    rw [if_pos ⟨rfl, rfl, rfl⟩, if_pos ⟨rfl, hS, Or.inr ⟨rfl, Nat.le_refl _⟩⟩]
  · rw [if_neg hw]
    by_cases hz : b = 0 ∧ S o = true ∧ (k < c ∨ (k = c ∧ o ≤ j))
    · rw [if_pos hz, if_pos ⟨hz.1, hz.2.1, by omega⟩]
    · rw [if_neg hz, if_neg ?_]
      rintro ⟨z1, z2, z3⟩
      rcases z3 with z | ⟨z, z4⟩
      · exact hz ⟨z1, z2, Or.inl z⟩
      · rcases h2 o z2 z4 with y | y
        · exact hz ⟨z1, z2, Or.inr ⟨z, y⟩⟩
        · exact hw ⟨z1, y, z⟩
theorem tz_n {S : Nat → Bool} {I : IM} {c j : Nat} {f : Nat → Nat → Int32} (h : ∀ o, S o = true → o ≤ j ∧ 0 < o) : tz S I c j f = tz S I (c + 1) 0 f := by
  funext b o k
  rw [tz_eq, tz_eq]
  by_cases hz : b = 0 ∧ S o = true ∧ (k < c ∨ (k = c ∧ o ≤ j))
  · rw [if_pos hz, if_pos ⟨hz.1, hz.2.1, by omega⟩]
  · rw [if_neg hz, if_neg ?_]
    rintro ⟨z1, z2, z3⟩
    have := h o z2
    rcases z3 with z | ⟨z, z4⟩
    · by_cases e : k = c
      · exact hz ⟨z1, z2, Or.inr ⟨e, this.1⟩⟩
      · exact hz ⟨z1, z2, Or.inl (by omega)⟩
    · omega
theorem tz_0 {S : Nat → Bool} {I : IM} {f : Nat → Nat → Int32} (h : ∀ o, S o = true → 0 < o) : tz S I 0 0 f = I := by
  funext b o k
  rw [tz_eq, if_neg ?_]
  rintro ⟨z1, z2, z3⟩
  have := h o z2
  omega
def Z1 (o : Nat) : Bool := o == 3 || o == 4
def Z2 (o : Nat) : Bool := o == 5 || o == 6 || o == 7 || o == 8 || o == 9
theorem Z1_iff {o : Nat} (h : Z1 o = true) : o = 3 ∨ o = 4 := by
  unfold Z1 at h
  simpa using h
theorem Z2_iff {o : Nat} (h : Z2 o = true) : o = 5 ∨ o = 6 ∨ o = 7 ∨ o = 8 ∨ o = 9 := by
  unfold Z2 at h
  simp at h
  omega
/-- all the class's tables -/
def jF (a : Nat → Int32) (l : Int32) (nl na : Nat) (o k : Nat) : Int32 := if o = 3 then tv (brF a l nl) k else if o = 4 then tv (eF a l nl) k else if o = 5 then tv (hF a l nl na) k else if o = 6 then tv (gF a l nl na) k else if o = 7 then tv (oF a l nl na) k else if o = 8 then tv (zF a l nl na) k else tv (yF a l nl na) k
/-- what must be known of a state of the class -/
def jok (B : Nat → Nat → Int32) (a : Nat → Int32) (nl np na nk : Nat) : Prop := B 1 3 = a 9 ∧ (∀ r, r < 8 → B 2 r = a r) ∧ (∀ c, c < 4 → B 3 c = a (386 + c)) ∧ enR B a 4 11 20 nl ∧ plR B a nk np na
theorem nI_ltx {q p : Nat} (h : q < p) (hp : p < 2 ^ 31) : ¬ nI p ≤ nI q := by
  rw [i_le, i_nI hp, i_nI (by omega)]
  omega
section JD
variable {N d nl np na nk c : Nat} {X : IM} {F : FM} {a : Nat → Int32} {l : Int32}
theorem m40 {q p : Nat} (hq : q < p) (hp : p < 24) : sem N (d + 1) 40 [vI (nI q), vI (nI p)] X F = some (vI 1, X, F) := by
  rw [s40]; unfold b40
  rw [if_neg (nI_pos (by omega)), if_neg (nI_ltx hq (by omega)), if_neg (show ¬ (24 : Int32) ≤ nI p from nI_ge hp (by decide))]
theorem m42 (hc : 2 ≤ c) {r : Nat} (hr : r < 8) : sem N (d + 2) 42 [vR (some (0, 1)), vI (nI r), vR (some (c, 2))] X F = some (vI (bz (X 0 2 r = X c 2 r)), X, F) := by
  obtain ⟨j, rfl⟩ := blk hc
  rw [s42]; unfold b42
  rw [m171, bI_v, ite_bzif, if_pos (inb_nI hr (by decide)), if_neg (show ¬ (8 : Int32) ≤ nI r from nI_ge hr (by decide)), if_pos (inb_nI hr (by decide)), if_pos (inb_nI hr (by decide)), nI_clamp (by omega), ite_bz]
theorem m41 (hc : 2 ≤ c) (hN : 50 ≤ N) {p : Nat} (hp : p < np) (hj : jok (X c) a nl np na nk) (hg : ∀ r, r < 8 → X 0 2 r = rtl (fun i => a (20 + 2 * i)) (fun i => a (20 + 2 * i + 1)) (nI r) (-1) (-1) nl) (hk : ¬ (a (268 + 3 * p) = 3 ∨ a (268 + 3 * p) = 4)) : sem N (d + 3) 41 [vR (some (0, 1)), vR (some (c, 0)), vI l, vI (nI p)] X F = some (vI (tv (brF a l nl) p), X, F) := by
  obtain ⟨j1, j2, j3, ⟨g1, g2, g3, g4⟩, ⟨v1, v2, v3, v4, v5, v6, v7, v8⟩⟩ := hj
  obtain ⟨w1, w2, w3, -, -, hok⟩ := v4 p hp
  have ip : inb (nI p) 24 := inb_nI (by omega) (by decide)
  have cp : (nI p).toNatClampNeg = p := nI_clamp (by omega)
  have ev : tv (brF a l nl) p = brV a l nl (a (268 + 3 * p)) (a (269 + 3 * p)) (a (270 + 3 * p)) := by
    rw [tv_eq]; unfold brF
    rw [if_neg (fun z => hk (Or.inl z)), if_neg (fun z => hk (Or.inr z))]
  obtain ⟨cc, rfl⟩ := blk hc
  rw [ev, s41]; unfold b41 brV
  simp only [eq_true ip, ↓reduceIte, cp, w1, w2, w3]
  generalize hK : a (268 + 3 * p) = K at *
  generalize hx : a (269 + 3 * p) = x at *
  generalize hy : a (270 + 3 * p) = y at *
  unfold plOK at hok
  rw [hK, hx, hy] at hok
  rcases hok with ⟨rfl, h1⟩ | ⟨rfl, h1⟩ | rfl | ⟨h0, h1, h2⟩ | rfl | ⟨rfl, h1⟩ | ⟨rfl, h1⟩
  · rw [if_pos rfl, if_pos rfl, m6 (by omega) (by omega), bI_v, dig_c (r' := a) (fun i hi => j2 i hi), ite_bz]
  · obtain ⟨i, hi, hi2, rfl, ei⟩ := inb_get h1
    rw [if_neg (show ¬ (1 : Int32) = 0 by decide), if_pos rfl, if_neg (show ¬ (1 : Int32) = 0 by decide), if_pos rfl, if_neg (nI_pos hi2), if_neg (show ¬ (4 : Int32) ≤ nI i from nI_ge hi (by decide)), if_pos h1, ei, j3 i hi, ite_bzn]
  · rw [if_neg (show ¬ (2 : Int32) = 0 by decide), if_neg (show ¬ (2 : Int32) = 1 by decide), if_pos rfl, if_neg (show ¬ (2 : Int32) = 0 by decide), if_neg (show ¬ (2 : Int32) = 1 by decide), if_pos rfl, ite_bzn]
  · exact absurd h0 hk
  · rw [if_neg (show ¬ (5 : Int32) = 0 by decide), if_neg (show ¬ (5 : Int32) = 1 by decide), if_neg (show ¬ (5 : Int32) = 2 by decide), if_neg (show ¬ (5 : Int32) = 3 by decide), if_neg (show ¬ (5 : Int32) = 4 by decide), if_pos rfl, j1, if_neg (show ¬ (5 : Int32) = 0 by decide), if_neg (show ¬ (5 : Int32) = 1 by decide), if_neg (show ¬ (5 : Int32) = 2 by decide), if_pos rfl, ite_bzn]
  · rw [if_neg (show ¬ (6 : Int32) = 0 by decide), if_neg (show ¬ (6 : Int32) = 1 by decide), if_neg (show ¬ (6 : Int32) = 2 by decide), if_neg (show ¬ (6 : Int32) = 3 by decide), if_neg (show ¬ (6 : Int32) = 4 by decide), if_neg (show ¬ (6 : Int32) = 5 by decide), if_pos rfl]
    rfl
  · obtain ⟨r, hr, hr2, rfl, er⟩ := inb_get h1
    rw [if_neg (show ¬ (7 : Int32) = 0 by decide), if_neg (show ¬ (7 : Int32) = 1 by decide), if_neg (show ¬ (7 : Int32) = 2 by decide), if_neg (show ¬ (7 : Int32) = 3 by decide), if_neg (show ¬ (7 : Int32) = 4 by decide), if_neg (show ¬ (7 : Int32) = 5 by decide), if_neg (show ¬ (7 : Int32) = 6 by decide), if_pos rfl, m42 (by omega) hr, bI_v, ite_bzif, hg r hr, j2 r hr, m15 (by omega) (by omega) (nI r) y g1 g3, bI_v, ite_bzif, ite_bz, if_neg (show ¬ (7 : Int32) = 0 by decide), if_neg (show ¬ (7 : Int32) = 1 by decide), if_neg (show ¬ (7 : Int32) = 2 by decide), if_neg (show ¬ (7 : Int32) = 5 by decide), if_pos rfl, er]
    have hl : (∃ i, i < nl ∧ X (cc + 2) 5 i = nI r ∧ X (cc + 2) 6 i = y) ↔ lgd a nl (nI r) y = true := by
      unfold lgd
      rw [exb_iff]
      constructor
      · rintro ⟨i, hi, z1, z2⟩
        exact ⟨i, hi, by rw [← (g4 i hi).1]; exact z1, by rw [← (g4 i hi).2.1]; exact z2⟩
      · rintro ⟨i, hi, z1, z2⟩
        exact ⟨i, hi, by rw [(g4 i hi).1]; exact z1, by rw [(g4 i hi).2.1]; exact z2⟩
    by_cases hq : rtl (fun i => a (20 + 2 * i)) (fun i => a (20 + 2 * i + 1)) (nI r) (-1) (-1) nl = a r
    · rw [if_pos hq]
      refine congrArg (fun v => some (vI v, X, F)) (bz_congr ?_)
      rw [hl]
      exact ⟨fun z => ⟨z, hq⟩, fun z => z.1⟩
    · rw [if_neg hq, bz_f (fun z => hq z.2)]
/-- joined of two -/
theorem j38 {gl gl' : Nat → List Vl → IM → FM → Option Rs} {u v p q r : Nat} (huv : u ≠ v) (hc : 2 ≤ c) (hp : p < 24) (hq : q < p) (hr : r < p) (eq1 : X c 21 p = nI q) (er : X c 22 p = nI r) (hk : X c 20 p = 3 ∨ X c 20 p = 4) (hu : ∀ (x2 x5 x6 x7 s0 s1 : Int32) (I : IM), gl 100 [vI x2, vR (some (0, v)), vI x5, vI x6, vI x7, vI s0, vI s1, vR (some (0, u))] I F = b38_100 (sem N (d + 1)) gl' c u v x2 x5 x6 x7 s0 s1 I F) : b38 (sem N (d + 1)) gl c (nI p) u v X F = some (vI 0, wI (wI X 0 u p (if X c 20 p = 3 then bz (¬ X 0 u q = 0 ∧ ¬ X 0 u r = 0) else bz (¬ X 0 u q = 0 ∨ ¬ X 0 u r = 0))) 0 v p (if X c 20 p = 3 then mnI (X 0 v q) (X 0 v r) else mxI (X 0 v q) (X 0 v r)), F) := by
  have ip : inb (nI p) 24 := inb_nI hp (by decide)
  have cp : (nI p).toNatClampNeg = p := nI_clamp (by omega)
  have iq : inb (nI q) 24 := inb_nI (by omega) (by decide)
  have cq : (nI q).toNatClampNeg = q := nI_clamp (by omega)
  have ir : inb (nI r) 24 := inb_nI (by omega) (by decide)
  have cr : (nI r).toNatClampNeg = r := nI_clamp (by omega)
  have n10 : ((1 : Int32) = 0) = False := eq_false (by decide)
  have rd : ∀ x k, wI X 0 u p x 0 v k = X 0 v k := fun x k => by rw [wI_eq, if_neg (fun z => huv z.2.1.symm)]
  have n0 : vp_nar .boolean (0 : Int32) = 0 := nar_01 (Or.inl rfl)
  have n1 : vp_nar .boolean (1 : Int32) = 1 := nar_01 (Or.inr rfl)
  unfold b38
  simp only [eq_true ip, ↓reduceIte, cp, eq1, er, m40 hq hp, m40 hr hp, bI_v, n10, eq_true iq, eq_true ir, cq, cr, hu]
  unfold b38_100
  rcases hk with hk | hk
  · by_cases z1 : X 0 u q = 0
    · simp only [hk, z1, eq_true ip, eq_true iq, eq_true ir, cp, cq, cr, rd, m309, bI_v, n10, n0, n1, ↓reduceIte, not_true_eq_false, false_and, bz_f not_false]
      rfl
    · by_cases z2 : X 0 u r = 0
      · simp only [hk, z1, z2, eq_true ip, eq_true iq, eq_true ir, cp, cq, cr, rd, m309, bI_v, n10, n0, n1, ↓reduceIte, not_true_eq_false, and_false, bz_f not_false]
        rfl
      · simp only [hk, z1, z2, eq_true ip, eq_true iq, eq_true ir, cp, cq, cr, rd, m309, bI_v, n10, n0, n1, ↓reduceIte, not_false_eq_true, and_self, bz_t trivial]
        rfl
  · have n43 : ((4 : Int32) = 3) = False := eq_false (by decide)
    by_cases z1 : X 0 u q = 0
    · by_cases z2 : X 0 u r = 0
      · simp only [hk, n43, z1, z2, eq_true ip, eq_true iq, eq_true ir, cp, cq, cr, rd, m308, bI_v, n10, n0, n1, ↓reduceIte, not_true_eq_false, or_self, bz_f not_false]
        rfl
      · simp only [hk, n43, z1, z2, eq_true ip, eq_true iq, eq_true ir, cp, cq, cr, rd, m308, bI_v, n10, n0, n1, ↓reduceIte, not_false_eq_true, or_true, bz_t trivial]
        rfl
    · simp only [hk, n43, z1, eq_true ip, eq_true iq, eq_true ir, cp, cq, cr, rd, m308, bI_v, n10, n0, n1, ↓reduceIte, not_false_eq_true, true_or, bz_t trivial]
      rfl
theorem m38a (hc : 2 ≤ c) (hN : 1 ≤ N) {p q r : Nat} (hp : p < 24) (hq : q < p) (hr : r < p) (eq1 : X c 21 p = nI q) (er : X c 22 p = nI r) (hk : X c 20 p = 3 ∨ X c 20 p = 4) : sem N (d + 2) 38 [vR (some (0, 1)), vR (some (c, 19)), vI (nI p), vR (some (0, 3)), vR (some (0, 4))] X F = some (vI 0, wI (wI X 0 3 p (if X c 20 p = 3 then bz (¬ X 0 3 q = 0 ∧ ¬ X 0 3 r = 0) else bz (¬ X 0 3 q = 0 ∨ ¬ X 0 3 r = 0))) 0 4 p (if X c 20 p = 3 then mnI (X 0 4 q) (X 0 4 r) else mxI (X 0 4 q) (X 0 4 r)), F) := by
  obtain ⟨cc, rfl⟩ := blk hc
  obtain ⟨M, rfl⟩ : ∃ M, N = M + 1 := ⟨N - 1, by omega⟩
  rw [s38v0]
  exact j38 (gl' := sg (sem (M + 1) (d + 1)) 0 zc38 M) (by decide) (by omega) hp hq hr eq1 er hk (fun x2 x5 x6 x7 s0 s1 I => u38v0_100 _ _ _ _ _ _ _ _ _ _ _)
theorem m38b (hc : 2 ≤ c) (hN : 1 ≤ N) {p q r : Nat} (hp : p < 24) (hq : q < p) (hr : r < p) (eq1 : X c 21 p = nI q) (er : X c 22 p = nI r) (hk : X c 20 p = 3 ∨ X c 20 p = 4) : sem N (d + 2) 38 [vR (some (0, 1)), vR (some (c, 19)), vI (nI p), vR (some (0, 5)), vR (some (0, 6))] X F = some (vI 0, wI (wI X 0 5 p (if X c 20 p = 3 then bz (¬ X 0 5 q = 0 ∧ ¬ X 0 5 r = 0) else bz (¬ X 0 5 q = 0 ∨ ¬ X 0 5 r = 0))) 0 6 p (if X c 20 p = 3 then mnI (X 0 6 q) (X 0 6 r) else mxI (X 0 6 q) (X 0 6 r)), F) := by
  obtain ⟨cc, rfl⟩ := blk hc
  obtain ⟨M, rfl⟩ : ∃ M, N = M + 1 := ⟨N - 1, by omega⟩
  rw [s38v1]
  exact j38 (gl' := sg (sem (M + 1) (d + 1)) 0 zc38 M) (by decide) (by omega) hp hq hr eq1 er hk (fun x2 x5 x6 x7 s0 s1 I => u38v1_100 _ _ _ _ _ _ _ _ _ _ _)
theorem m39 (hc : 2 ≤ c) (hN : 1 ≤ N) {p q r : Nat} (hp : p < 24) (hq : q < p) (hr : r < p) (eq1 : X c 21 p = nI q) (er : X c 22 p = nI r) (hk : X c 20 p = 3 ∨ X c 20 p = 4) : sem N (d + 2) 39 [vR (some (0, 1)), vR (some (c, 19)), vI (nI p)] X F = some (vI 0, wI (wI (wI X 0 7 p (if X c 20 p = 3 then mxI (X 0 7 q) (X 0 7 r) else mnI (X 0 7 q) (X 0 7 r))) 0 8 p (if X c 20 p = 3 then X 0 8 q + X 0 8 r else mnI (X 0 8 q) (X 0 8 r))) 0 9 p (if X 0 5 p = 0 then X 0 9 q ||| X 0 9 r else 0), F) := by
  obtain ⟨cc, rfl⟩ := blk hc
  obtain ⟨M, rfl⟩ : ∃ M, N = M + 1 := ⟨N - 1, by omega⟩
  have ip : inb (nI p) 24 := inb_nI hp (by decide)
  have cp : (nI p).toNatClampNeg = p := nI_clamp (by omega)
  have iq : inb (nI q) 24 := inb_nI (by omega) (by decide)
  have cq : (nI q).toNatClampNeg = q := nI_clamp (by omega)
  have ir : inb (nI r) 24 := inb_nI (by omega) (by decide)
  have cr : (nI r).toNatClampNeg = r := nI_clamp (by omega)
  have n10 : ((1 : Int32) = 0) = False := eq_false (by decide)
  have n43 : ((4 : Int32) = 3) = False := eq_false (by decide)
  have r8 : ∀ x k, wI X 0 7 p x 0 8 k = X 0 8 k := fun x k => by rw [wI_eq, if_neg (fun z => by omega)]
  have r5 : ∀ x y k, wI (wI X 0 7 p x) 0 8 p y 0 5 k = X 0 5 k := fun x y k => by rw [wI_eq, if_neg (fun z => by omega), wI_eq, if_neg (fun z => by omega)]
  have r9 : ∀ x y k, wI (wI X 0 7 p x) 0 8 p y 0 9 k = X 0 9 k := fun x y k => by rw [wI_eq, if_neg (fun z => by omega), wI_eq, if_neg (fun z => by omega)]
  rw [s39]
  unfold b39
  simp only [eq_true ip, ↓reduceIte, cp, eq1, er, m40 hq hp, m40 hr hp, bI_v, n10, eq_true iq, eq_true ir, cq, cr, m308, m309, u39_95 (jc := cc)]
  unfold b39_95
  simp only [eq_true ip, eq_true iq, eq_true ir, cp, cq, cr, m309, bI_v, n10, ↓reduceIte, r8, r5, r9]
  rcases hk with hk | hk
  · by_cases h5 : X 0 5 p = 0
    · simp only [hk, h5, ↓reduceIte]
      rfl
    · simp only [hk, h5, ↓reduceIte]
      rfl
  · by_cases h5 : X 0 5 p = 0
    · simp only [hk, h5, n43, ↓reduceIte]
      rfl
    · simp only [hk, h5, n43, ↓reduceIte]
      rfl
end JD
