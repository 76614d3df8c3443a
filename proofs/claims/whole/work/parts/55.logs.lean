/-! QUESTIONS ON LOGS: replay, entry, wrong -/
set_option maxRecDepth 100000 in
theorem u145 (gc gl : Nat → List Vl → IM → FM → Option Rs) (x0 x1 x2 : Int32) (I : IM) (F : FM) : runM gc gl (1, zc145) [vR (some (0, 0)), vI x0, vI x1, vI x2] I F = bR (gc 175 [vR (some (0, 0)), vI x0] I F) (fun r I1 F1 => seg gc gl 1 zc145 397 true (jmp 5 zc145) [(0, vR (some (0, 0))), (1, vI x0), (2, vI x1), (3, vI x2)] [vR r] I1 F1) := rfl
set_option maxRecDepth 100000 in
theorem u145n (gc gl : Nat → List Vl → IM → FM → Option Rs) (x0 x1 x2 : Int32) (I : IM) (F : FM) : seg gc gl 1 zc145 397 true (jmp 5 zc145) [(0, vR (some (0, 0))), (1, vI x0), (2, vI x1), (3, vI x2)] [vR none] I F = some (vI 0, I, F) := rfl
set_option maxRecDepth 100000 in
theorem u145a (gc gl : Nat → List Vl → IM → FM → Option Rs) (x0 x1 x2 : Int32) (I : IM) (F : FM) : seg gc gl 1 zc145 397 true (jmp 5 zc145) [(0, vR (some (0, 0))), (1, vI x0), (2, vI x1), (3, vI x2)] [vR (some (2, 4))] I F = (if x1 < 0 then some (vI (0 : Int32), I, F) else (if (I 2 4 2) < x1 then some (vI (0 : Int32), I, F) else (bI (gc 171 [vI x2] I F) (fun r1 I1 F1 => (if r1 = 0 then some (vI (0 : Int32), I1, F1) else (bI (gc 16 [vR (some (2, 4)), vI x2, vI x1, vI (-1 : Int32), vI (-1 : Int32)] I1 F1) (fun r2 I2 F2 => some (vI r2, I2, F2)))))))) := rfl
set_option maxRecDepth 100000 in
theorem u145b (gc gl : Nat → List Vl → IM → FM → Option Rs) (x0 x1 x2 : Int32) (I : IM) (F : FM) : seg gc gl 1 zc145 397 true (jmp 5 zc145) [(0, vR (some (0, 0))), (1, vI x0), (2, vI x1), (3, vI x2)] [vR (some (2, 7))] I F = (if x1 < 0 then some (vI (0 : Int32), I, F) else (if (I 2 7 2) < x1 then some (vI (0 : Int32), I, F) else (bI (gc 171 [vI x2] I F) (fun r1 I1 F1 => (if r1 = 0 then some (vI (0 : Int32), I1, F1) else (bI (gc 16 [vR (some (2, 7)), vI x2, vI x1, vI (-1 : Int32), vI (-1 : Int32)] I1 F1) (fun r2 I2 F2 => some (vI r2, I2, F2)))))))) := rfl
set_option maxRecDepth 100000 in
theorem u146 (gc gl : Nat → List Vl → IM → FM → Option Rs) (x0 x1 x2 : Int32) (I : IM) (F : FM) : runM gc gl (1, zc146) [vR (some (0, 0)), vI x0, vI x1, vI x2] I F = bR (gc 175 [vR (some (0, 0)), vI x0] I F) (fun r I1 F1 => seg gc gl 1 zc146 397 true (jmp 5 zc146) [(0, vR (some (0, 0))), (1, vI x0), (2, vI x1), (3, vI x2)] [vR r] I1 F1) := rfl
set_option maxRecDepth 100000 in
theorem u146n (gc gl : Nat → List Vl → IM → FM → Option Rs) (x0 x1 x2 : Int32) (I : IM) (F : FM) : seg gc gl 1 zc146 397 true (jmp 5 zc146) [(0, vR (some (0, 0))), (1, vI x0), (2, vI x1), (3, vI x2)] [vR none] I F = some (vI 0, I, F) := rfl
set_option maxRecDepth 100000 in
theorem u146a (gc gl : Nat → List Vl → IM → FM → Option Rs) (x0 x1 x2 : Int32) (I : IM) (F : FM) : seg gc gl 1 zc146 397 true (jmp 5 zc146) [(0, vR (some (0, 0))), (1, vI x0), (2, vI x1), (3, vI x2)] [vR (some (2, 4))] I F = (bI (gc 12 [vR (some (2, 4)), vI x1] I F) (fun r1 I1 F1 => (if r1 = 0 then some (vI (0 : Int32), I1, F1) else (if x2 = 0 then (if inb x1 40 then some (vI (I1 2 5 x1.toNatClampNeg), I1, F1) else none) else (if x2 = (1 : Int32) then (if inb x1 40 then some (vI (I1 2 6 x1.toNatClampNeg), I1, F1) else none) else some (vI (0 : Int32), I1, F1)))))) := rfl
set_option maxRecDepth 100000 in
theorem u146b (gc gl : Nat → List Vl → IM → FM → Option Rs) (x0 x1 x2 : Int32) (I : IM) (F : FM) : seg gc gl 1 zc146 397 true (jmp 5 zc146) [(0, vR (some (0, 0))), (1, vI x0), (2, vI x1), (3, vI x2)] [vR (some (2, 7))] I F = (bI (gc 12 [vR (some (2, 7)), vI x1] I F) (fun r1 I1 F1 => (if r1 = 0 then some (vI (0 : Int32), I1, F1) else (if x2 = 0 then (if inb x1 40 then some (vI (I1 2 8 x1.toNatClampNeg), I1, F1) else none) else (if x2 = (1 : Int32) then (if inb x1 40 then some (vI (I1 2 9 x1.toNatClampNeg), I1, F1) else none) else some (vI (0 : Int32), I1, F1)))))) := rfl
set_option maxRecDepth 100000 in
theorem u147 (gc gl : Nat → List Vl → IM → FM → Option Rs) (x0 : Int32) (I : IM) (F : FM) : runM gc gl (1, zc147) [vR (some (0, 0)), vI x0] I F = bR (gc 175 [vR (some (0, 0)), vI x0] I F) (fun r I1 F1 => seg gc gl 1 zc147 397 true (jmp 5 zc147) [(0, vR (some (0, 0))), (1, vI x0)] [vR r] I1 F1) := rfl
set_option maxRecDepth 100000 in
theorem u147n (gc gl : Nat → List Vl → IM → FM → Option Rs) (x0 : Int32) (I : IM) (F : FM) : seg gc gl 1 zc147 397 true (jmp 5 zc147) [(0, vR (some (0, 0))), (1, vI x0)] [vR none] I F = some (vI (-1), I, F) := rfl
set_option maxRecDepth 100000 in
theorem u147a (gc gl : Nat → List Vl → IM → FM → Option Rs) (x0 : Int32) (I : IM) (F : FM) : seg gc gl 1 zc147 397 true (jmp 5 zc147) [(0, vR (some (0, 0))), (1, vI x0)] [vR (some (2, 4))] I F = (bI (gc 18 [vR (some (2, 4)), vR (some (2, 2))] I F) (fun r I F => some (vI r, I, F))) := rfl
set_option maxRecDepth 100000 in
theorem u147b (gc gl : Nat → List Vl → IM → FM → Option Rs) (x0 : Int32) (I : IM) (F : FM) : seg gc gl 1 zc147 397 true (jmp 5 zc147) [(0, vR (some (0, 0))), (1, vI x0)] [vR (some (2, 7))] I F = (bI (gc 18 [vR (some (2, 7)), vR (some (2, 2))] I F) (fun r I F => some (vI r, I, F))) := rfl
theorem fl_w (I : IM) (b o n : Nat) (f : Nat → Int32) {k : Nat} (x : Int32) (hk : k < n) : wI (fl I b o n f) b o k x = fl I b o n (updR f k x) := by
  funext b' o' k'
  rw [wI_eq, fl_eq, fl_eq]
  unfold updR
  by_cases h : b' = b ∧ o' = o
  · by_cases e : k' = k
    · rw [if_pos ⟨h.1, h.2, e⟩, if_pos ⟨h.1, h.2, by omega⟩, if_pos e]
    · rw [if_neg (fun z => e z.2.2), if_neg e]
  · rw [if_neg (fun z => h ⟨z.1, z.2.1⟩), if_neg (fun z => h ⟨z.1, z.2.1⟩), if_neg (fun z => h ⟨z.1, z.2.1⟩)]
theorem sm_fl {I J : IM} {F G : FM} {b o n : Nat} (f : Nat → Int32) (h : smI I J F G) (hk : ∀ k, ¬ kpl b o k) (h2 : b ≠ 2) (h12 : ¬ (b = 1 ∧ o = 2)) : smI I (fl J b o n f) F G := by
  obtain ⟨q1, q2, q3, q4⟩ := h
  refine ⟨fun b' o' k' z => ?_, fun o' k' => ?_, fun k' => ?_, q4⟩
  · rw [fl_eq, if_neg (fun y => hk k' (by obtain ⟨rfl, rfl, -⟩ := y; exact z)), q1 b' o' k' z]
  · rw [fl_eq, if_neg (fun y => h2 y.1.symm), q2]
  · rw [fl_eq, if_neg (fun y => h12 ⟨y.1.symm, y.2.1.symm⟩), q3]
theorem rtl_0 {rg nm : Nat → Int32} {r c : Nat} (hr : r < 8) (hc : c < 2 ^ 30) : rtl rg nm (nI r) (-1) (-1) (c + 1) = if rg c = nI r then mixF (rtl rg nm (nI r) (-1) (-1) c) (nm c) else rtl rg nm (nI r) (-1) (-1) c := by
  show (if (rg c = nI r ∧ ¬ nI c = -1) ∨ nI c = -1 then _ else _) = _
  have h1 : ¬ nI c = -1 := fun z => nI_ne1 (by omega) z
  by_cases h : rg c = nI r
  · rw [if_pos (Or.inl ⟨h, h1⟩), if_pos h]
  · rw [if_neg (fun z => z.elim (fun y => h y.1) h1), if_neg h]
/-- the table of a replayed log -/
def rpT (I : IM) (p c : Nat) : Nat → Int32 := fun r => rtl (fun i => I 1 2 (p + 2 * i)) (fun i => I 1 2 (p + 2 * i + 1)) (nI r) (-1) (-1) c
/-- the reference replays a log as it stands -/
theorem m258 {N d p n : Nat} {I : IM} {F : FM} (hN : 200 ≤ N) (hn : n ≤ 40) (hp : p + 80 ≤ 406) (hr : ∀ i, i < n → ∃ r, r < 8 ∧ I 1 2 (p + 2 * i) = nI r) : sem N (d + 2) 258 [vR (some (1, 0)), vI (nI p), vI (nI n), vI (-1), vI (-1), vI (-1), vI 0] I F = some (vI 0, fl I 1 19 8 (rpT I p n), F) := by
  rw [s258]; unfold b258
  have h31 : ∀ (k c m : Nat), c + k = n → 2 * k < m → sg (sem N (d + 1)) 0 zc258 m 31 [vR (some (1, 0)), vI (nI p), vI (nI n), vI (-1), vI (-1), vI (-1), vI 0, vI (nI c)] (fl I 1 19 8 (rpT I p c)) F = some (vI 0, fl I 1 19 8 (rpT I p n), F) := by
    intro k
    induction k with
    | zero =>
      intro c m hc hm
      obtain ⟨q, rfl⟩ : ∃ q, m = q + 1 := ⟨m - 1, by omega⟩
      have e : c = n := by omega
      subst e
      rw [u258_31]; unfold b258_31
      rw [if_pos (nI_le (Nat.le_refl _) (by omega))]
    | succ k ih =>
      intro c m hc hm
      obtain ⟨q, rfl⟩ : ∃ q, m = q + 2 := ⟨m - 2, by omega⟩
      have hcn : c < n := by omega
      have nc : ¬ nI c = -1 := fun z => nI_ne1 (by omega) z
      obtain ⟨r, hr8, er⟩ := hr c hcn
      have e0 : nI p + 2 * nI c = nI (p + 2 * c) := by rw [L2, nI_mul, nI_add]
      have i0 : inb (nI (p + 2 * c)) 406 := inb_nI (by omega) (by decide)
      have i1 : inb (nI (p + 2 * c + 1)) 406 := inb_nI (by omega) (by decide)
      have k0 : (nI (p + 2 * c)).toNatClampNeg = p + 2 * c := nI_clamp (by omega)
      have k1 : (nI (p + 2 * c + 1)).toNatClampNeg = p + 2 * c + 1 := nI_clamp (by omega)
      have i8 : inb (nI r) 8 := inb_nI hr8 (by decide)
      have k8 : (nI r).toNatClampNeg = r := nI_clamp (by omega)
      have f2 : ∀ j, fl I 1 19 8 (rpT I p c) 1 2 j = I 1 2 j := fun j => by rw [fl_eq, if_neg (fun z => by omega)]
      have f19 : fl I 1 19 8 (rpT I p c) 1 19 r = rpT I p c r := by rw [fl_eq, if_pos ⟨rfl, rfl, hr8⟩]
      have eT : fl I 1 19 8 (updR (rpT I p c) r (mixF (rpT I p c r) (I 1 2 (p + 2 * c + 1)))) = fl I 1 19 8 (rpT I p (c + 1)) := by
        funext b' o' k'
        rw [fl_eq, fl_eq]
        by_cases h : b' = 1 ∧ o' = 19 ∧ k' < 8
        · rw [if_pos h, if_pos h]
          show (if k' = r then _ else rpT I p c k') = rtl _ _ (nI k') (-1) (-1) (c + 1)
          rw [rtl_0 h.2.2 (by omega)]
          by_cases e : k' = r
          · subst e
            rw [if_pos rfl, if_pos er]
            rfl
          · rw [if_neg e, if_neg (fun z => e (nI_inj (by omega) (by omega) (by rw [← z, er])))]
            rfl
        · rw [if_neg h, if_neg h]
      rw [show q + 2 = (q + 1) + 1 by omega, u258_31]; unfold b258_31
      rw [if_neg (nI_ge hcn (by omega)), if_neg nc]
      have h75 : sg (sem N (d + 1)) 0 zc258 (q + 1) 75 [vR (some (1, 0)), vI (nI p), vI (nI n), vI (-1), vI (-1), vI (-1), vI 0, vI (nI c), vI (nI c)] (fl I 1 19 8 (rpT I p c)) F = some (vI 0, fl I 1 19 8 (rpT I p n), F) := by
        rw [u258_75]; unfold b258_75
        rw [if_neg nc]
        simp only [e0, eq_true i0, ↓reduceIte, k0, f2, er, nI_1, eq_true i1, k1, eq_true i8, k8, f19, nc, m188, bI_v]
        rw [fl_w _ _ _ _ _ _ hr8, eT]
        exact ih (c + 1) q (by omega) (by omega)
      by_cases h0 : nI c = -1 + 1
      · rw [if_pos h0, if_pos rfl]
        exact h75
      · rw [if_neg h0]
        exact h75
  obtain ⟨M, rfl⟩ : ∃ M, N = M + 100 := ⟨N - 100, by omega⟩
  have h := lp (S := fun m c => sg (sem (M + 100) (d + 1)) 0 zc258 (m + 100) 3 [vR (some (1, 0)), vI (nI p), vI (nI n), vI (-1), vI (-1), vI (-1), vI 0, vI (nI c)] (fl I 1 19 c (rpT I p 0)) F) (T := some (vI 0, fl I 1 19 8 (rpT I p n), F)) (m := 8) ?_ ?_ 8 0 M rfl (by omega)
  · try dsimp only at h
    rw [fl_0] at h
    exact h
  · intro m c hc
    try dsimp only
    rw [show m + 1 + 100 = (m + 100) + 1 by omega, u258_3]; unfold b258_3
    have e1 := fl_s I 1 19 c (rpT I p 0)
    rw [if_neg (show ¬ (8 : Int32) ≤ nI c from nI_ge hc (by decide)), m209, bI_v, if_pos (inb_nI hc (by decide)), nI_clamp (by omega), nI_1]
    try dsimp only
    rw [show atF (nI c) = rpT I p 0 c from rfl, e1]
  · intro m
    try dsimp only
    rw [show m + 1 + 100 = (m + 100) + 1 by omega, u258_3]; unfold b258_3
    rw [if_pos (show (8 : Int32) ≤ nI 8 from nI_le (Nat.le_refl _) (by decide))]
    exact h31 n 0 (m + 100) (by omega) (by omega)
theorem rtl_c {rg nm rg' nm' : Nat → Int32} {r lf jn : Int32} : ∀ {m : Nat}, (∀ i, i < m → rg i = rg' i ∧ nm i = nm' i) → rtl rg nm r lf jn m = rtl rg' nm' r lf jn m := by
  intro m
  induction m with
  | zero => intro _; rfl
  | succ m ih =>
    intro h
    show (if (rg m = r ∧ ¬ nI m = lf) ∨ nI m = jn then mixF (rtl rg nm r lf jn m) (nm m) else rtl rg nm r lf jn m) = (if (rg' m = r ∧ ¬ nI m = lf) ∨ nI m = jn then mixF (rtl rg' nm' r lf jn m) (nm' m) else rtl rg' nm' r lf jn m)
    rw [ih (fun i hi => h i (by omega)), (h m (by omega)).1, (h m (by omega)).2]
theorem m175 {N d : Nat} {I : IM} {F : FM} (x : Int32) : sem N (d + 1) 175 [vR (some (0, 0)), vI x] I F = some (vR (if x = 0 then some (2, 4) else if x = 1 then some (2, 7) else none), I, F) := by
  rw [s175]; unfold b175
  by_cases h0 : x = 0
  · rw [if_pos h0, if_pos h0]
  · rw [if_neg h0, if_neg h0]
    by_cases h1 : x = 1
    · rw [if_pos h1, if_pos h1]
    · rw [if_neg h1, if_neg h1]
theorem c145 {x y z : Int32} {I : IM} {F : FM} : sem zN 9 145 [vR (some (0, 0)), vI x, vI y, vI z] I F = seg (sem zN 8) (sg (sem zN 8) 1 zc145 zN) 1 zc145 397 true (jmp 5 zc145) [(0, vR (some (0, 0))), (1, vI x), (2, vI y), (3, vI z)] [vR (if x = 0 then some (2, 4) else if x = 1 then some (2, 7) else none)] I F := by
  refine Eq.trans (u145 (sem zN 8) (sg (sem zN 8) 1 zc145 zN) x y z I F) ?_
  rw [m175, bR_v]
theorem c146 {x y z : Int32} {I : IM} {F : FM} : sem zN 9 146 [vR (some (0, 0)), vI x, vI y, vI z] I F = seg (sem zN 8) (sg (sem zN 8) 1 zc146 zN) 1 zc146 397 true (jmp 5 zc146) [(0, vR (some (0, 0))), (1, vI x), (2, vI y), (3, vI z)] [vR (if x = 0 then some (2, 4) else if x = 1 then some (2, 7) else none)] I F := by
  refine Eq.trans (u146 (sem zN 8) (sg (sem zN 8) 1 zc146 zN) x y z I F) ?_
  rw [m175, bR_v]
theorem c147 {x : Int32} {I : IM} {F : FM} : sem zN 9 147 [vR (some (0, 0)), vI x] I F = seg (sem zN 8) (sg (sem zN 8) 1 zc147 zN) 1 zc147 397 true (jmp 5 zc147) [(0, vR (some (0, 0))), (1, vI x)] [vR (if x = 0 then some (2, 4) else if x = 1 then some (2, 7) else none)] I F := by
  refine Eq.trans (u147 (sem zN 8) (sg (sem zN 8) 1 zc147 zN) x I F) ?_
  rw [m175, bR_v]
theorem nin2 {x : Int32} (h0 : ¬ x = 0) (h1 : ¬ x = 1) : ¬ inb x 2 := fun z => by
  rw [inb_iff] at z
  rw [i_eq, i_0] at h0
  rw [i_eq, show (1 : Int32).toInt = 1 by decide] at h1
  omega
theorem st146 : StpI InvC 146 262 3 := by
  intro as I F hl hI
  obtain ⟨x, y, z, rfl⟩ := len3 hl
  simp only [List.map_cons, List.map_nil]
  obtain ⟨nl, nc, nk, nx, np, na, ns, hR⟩ := hI.1
  have d184 := m184 (h := 1) (n := 2) zN 7 (x := x) (by decide) (wI I 1 0 0 0) F
  have d184z := m184 (h := 1) (n := 2) zN 7 (x := z) (by decide) (wI I 1 0 0 0) F
  have n10 : ¬ ((1 : Int32) = 0) := by decide
  by_cases h0 : x = 0
  · subst h0
    obtain ⟨g1, g2, g3, g4⟩ := hR.2.2.1
    have c12 := m12 (N := zN) (d := 7) (I := I) (F := F) (b := 2) (o := 4) (n := nl) (by omega) (Or.inl rfl) y g1 g3
    have d11 : wI I 1 0 0 0 1 2 ((11 : Int32) + 0).toNatClampNeg = nI nl := by
      show wI I 1 0 0 0 1 2 11 = nI nl
      rw [w0_12, g2]
    have d184y := m184 (n := nl) zN 7 (x := y) (l_pred (n := nl) (by omega)) (wI I 1 0 0 0) F
    by_cases hz : inb z 2
    · by_cases hy : inb y nl
      · obtain ⟨i, hi, hi2, rfl, ei⟩ := inb_get hy
        have h40 : inb (nI i) 40 := inb_mono g3 hy
        obtain ⟨zz, hzz, hzz2, rfl, -⟩ := inb_get hz
        have hcs : zz = 0 ∨ zz = 1 := by omega
        rcases hcs with rfl | rfl
        · refine qs_0 (x := I 2 5 i) hI ?_ ?_
          · rw [c146, if_pos rfl, u146a, c12, bI_v, ite_bzif, if_pos hy, if_pos (show nI 0 = (0 : Int32) by decide), if_pos h40, ei]
          · rw [s262]; unfold b262
            dsimp only
            have e0 : (20 : Int32) + 2 * nI i + nI 0 = nI (20 + 2 * i + 0) := by rw [L20, L2, nI_mul, nI_add, nI_add]
            rw [d184, bI_v, ite_bzif, if_pos (by decide), d184z, bI_v, ite_bzif, if_pos hz, if_pos (by decide), d11, d184y, bI_v, ite_bzif, if_pos hy, if_pos rfl, e0, if_pos (inb_nI (by omega) (by decide)), nI_clamp (by omega), w0_12, (g4 i hi).1]
            rfl
        · refine qs_0 (x := I 2 6 i) hI ?_ ?_
          · rw [c146, if_pos rfl, u146a, c12, bI_v, ite_bzif, if_pos hy, if_neg (show ¬ nI 1 = (0 : Int32) by decide), if_pos (show nI 1 = (1 : Int32) by decide), if_pos h40, ei]
          · rw [s262]; unfold b262
            dsimp only
            have e0 : (20 : Int32) + 2 * nI i + nI 1 = nI (20 + 2 * i + 1) := by rw [L20, L2, nI_mul, nI_add, nI_add]
            rw [d184, bI_v, ite_bzif, if_pos (by decide), d184z, bI_v, ite_bzif, if_pos hz, if_pos (by decide), d11, d184y, bI_v, ite_bzif, if_pos hy, if_pos rfl, e0, if_pos (inb_nI (by omega) (by decide)), nI_clamp (by omega), w0_12, (g4 i hi).2.1]
      · refine qs_0 (x := 0) hI ?_ ?_
        · rw [c146, if_pos rfl, u146a, c12, bI_v, ite_bzif, if_neg hy]
        · rw [s262]; unfold b262
          dsimp only
          rw [d184, bI_v, ite_bzif, if_pos (by decide), d184z, bI_v, ite_bzif, if_pos hz, if_pos (by decide), d11, d184y, bI_v, ite_bzif, if_neg hy]
    · refine qs_0 (x := 0) hI ?_ ?_
      · have hz0 : ¬ z = 0 := fun e => hz (by rw [e]; decide)
        have hz1 : ¬ z = 1 := fun e => hz (by rw [e]; decide)
        rw [c146, if_pos rfl, u146a, c12, bI_v, ite_bzif]
        by_cases hy : inb y nl
        · rw [if_pos hy, if_neg hz0, if_neg hz1]
        · rw [if_neg hy]
      · rw [s262]; unfold b262
        dsimp only
        rw [d184, bI_v, ite_bzif, if_pos (by decide), d184z, bI_v, ite_bzif, if_neg hz]
  · by_cases h1 : x = 1
    · subst h1
      obtain ⟨g1, g2, g3, g4⟩ := hR.2.2.2.1
      have c12 := m12 (N := zN) (d := 7) (I := I) (F := F) (b := 2) (o := 7) (n := nc) (by omega) (Or.inr rfl) y g1 g3
      have d11 : wI I 1 0 0 0 1 2 ((11 : Int32) + 1).toNatClampNeg = nI nc := by
        show wI I 1 0 0 0 1 2 12 = nI nc
        rw [w0_12, g2]
      have d184y := m184 (n := nc) zN 7 (x := y) (l_pred (n := nc) (by omega)) (wI I 1 0 0 0) F
      by_cases hz : inb z 2
      · by_cases hy : inb y nc
        · obtain ⟨i, hi, hi2, rfl, ei⟩ := inb_get hy
          have h40 : inb (nI i) 40 := inb_mono g3 hy
          obtain ⟨zz, hzz, hzz2, rfl, -⟩ := inb_get hz
          have hcs : zz = 0 ∨ zz = 1 := by omega
          rcases hcs with rfl | rfl
          · refine qs_0 (x := I 2 8 i) hI ?_ ?_
            · rw [c146, if_neg n10, if_pos rfl, u146b, c12, bI_v, ite_bzif, if_pos hy, if_pos (show nI 0 = (0 : Int32) by decide), if_pos h40, ei]
            · rw [s262]; unfold b262
              dsimp only
              have e0 : (100 : Int32) + 2 * nI i + nI 0 = nI (100 + 2 * i + 0) := by rw [L100, L2, nI_mul, nI_add, nI_add]
              rw [d184, bI_v, ite_bzif, if_pos (by decide), d184z, bI_v, ite_bzif, if_pos hz, if_pos (by decide), d11, d184y, bI_v, ite_bzif, if_pos hy, if_neg n10, e0, if_pos (inb_nI (by omega) (by decide)), nI_clamp (by omega), w0_12, (g4 i hi).1]
              rfl
          · refine qs_0 (x := I 2 9 i) hI ?_ ?_
            · rw [c146, if_neg n10, if_pos rfl, u146b, c12, bI_v, ite_bzif, if_pos hy, if_neg (show ¬ nI 1 = (0 : Int32) by decide), if_pos (show nI 1 = (1 : Int32) by decide), if_pos h40, ei]
            · rw [s262]; unfold b262
              dsimp only
              have e0 : (100 : Int32) + 2 * nI i + nI 1 = nI (100 + 2 * i + 1) := by rw [L100, L2, nI_mul, nI_add, nI_add]
              rw [d184, bI_v, ite_bzif, if_pos (by decide), d184z, bI_v, ite_bzif, if_pos hz, if_pos (by decide), d11, d184y, bI_v, ite_bzif, if_pos hy, if_neg n10, e0, if_pos (inb_nI (by omega) (by decide)), nI_clamp (by omega), w0_12, (g4 i hi).2.1]
        · refine qs_0 (x := 0) hI ?_ ?_
          · rw [c146, if_neg n10, if_pos rfl, u146b, c12, bI_v, ite_bzif, if_neg hy]
          · rw [s262]; unfold b262
            dsimp only
            rw [d184, bI_v, ite_bzif, if_pos (by decide), d184z, bI_v, ite_bzif, if_pos hz, if_pos (by decide), d11, d184y, bI_v, ite_bzif, if_neg hy]
      · refine qs_0 (x := 0) hI ?_ ?_
        · have hz0 : ¬ z = 0 := fun e => hz (by rw [e]; decide)
          have hz1 : ¬ z = 1 := fun e => hz (by rw [e]; decide)
          rw [c146, if_neg n10, if_pos rfl, u146b, c12, bI_v, ite_bzif]
          by_cases hy : inb y nc
          · rw [if_pos hy, if_neg hz0, if_neg hz1]
          · rw [if_neg hy]
        · rw [s262]; unfold b262
          dsimp only
          rw [d184, bI_v, ite_bzif, if_pos (by decide), d184z, bI_v, ite_bzif, if_neg hz]
    · refine qs_0 (x := 0) hI ?_ ?_
      · rw [c146, if_neg h0, if_neg h1, u146n]
      · rw [s262]; unfold b262
        dsimp only
        rw [d184, bI_v, ite_bzif, if_neg (nin2 h0 h1)]
