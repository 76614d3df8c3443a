/-! WHAT AN ACT CHANGES: class's state and reference's row, side by side -/
theorem op_loc {B B' : Nat → Nat → Int32} {a a' : Nat → Int32} {f g : UInt32} {nl nc nk nx np na ns : Nat} (h : CRep B f a g nl nc nk nx np na ns) {l : Nat} (hl : l < 4) (e1 : B' 1 2 = nI l) (e2 : a' 8 = nI l) (hB : ∀ o k, cpd o k → ¬ (o = 1 ∧ k = 2) → B' o k = B o k) (ha : ∀ k, k < 406 → ¬ k = 8 → a' k = a k) : CRep B' f a' g nl nc nk nx np na ns := by
  obtain ⟨h0, h1, h2, h3, h4, h5, h6, h7⟩ := h
  obtain ⟨p1, p2, p3, p4, p5, p6⟩ := h1
  refine ⟨h0, ⟨by rw [e1, e2], ?_, ?_, ?_, ?_, ⟨l, hl, e2⟩⟩, enR_congr h2 (fun o k z => hB o k (cpe4 z) (by omega)) (ha 11 (by omega) (by omega)) (fun k z1 z2 => ha k (by omega) (by omega)), enR_congr h3 (fun o k z => hB o k (cpe7 z) (by omega)) (ha 12 (by omega) (by omega)) (fun k z1 z2 => ha k (by omega) (by omega)), kyR_congr h4 (fun o k z1 z2 z => hB o k z (by omega)) (ha 10 (by omega) (by omega)) (ha 13 (by omega) (by omega)) (ha 14 (by omega) (by omega)) (fun k z1 z2 => ha k (by omega) (by omega)), plR_congr h5 (by omega) (fun o k z1 z2 z => hB o k z (by omega)) (ha 15 (by omega) (by omega)) (ha 18 (by omega) (by omega)) (fun k z1 z2 => ha k (by omega) (by omega)) (fun k z1 z2 => ha k (by omega) (by omega)), slR_congr h6 (by omega) (by omega) (fun o k z1 z2 z => hB o k z (by omega)) (ha 16 (by omega) (by omega)) (fun k z1 z2 => ha k (by omega) (by omega)), seR_congr h7 (by omega) (fun o k z1 z2 z => hB o k z (by omega)) (ha 17 (by omega) (by omega)) (fun k z1 z2 => ha k (by omega) (by omega))⟩
  · rw [hB 1 3 (cp1 (by omega)) (by omega), ha 9 (by omega) (by omega), p2]
  · rw [hB 1 4 (cp1 (by omega)) (by omega), ha 10 (by omega) (by omega), p3]
  · intro r hr
    rw [hB 2 r (cp2 (by omega)) (by omega), ha r (by omega) (by omega), p4 r hr]
  · intro c hc
    rw [hB 3 c (cp3 (by omega)) (by omega), ha (386 + c) (by omega) (by omega)]
    exact p5 c hc
theorem op_reg {B B' : Nat → Nat → Int32} {a a' : Nat → Int32} {f g : UInt32} {nl nc nk nx np na ns : Nat} (h : CRep B f a g nl nc nk nx np na ns) {r : Nat} {x : Int32} (hr : r < 8) (e1 : B' 2 r = x) (e2 : a' r = x) (hB : ∀ o k, cpd o k → ¬ (o = 2 ∧ k = r) → B' o k = B o k) (ha : ∀ k, k < 406 → ¬ k = r → a' k = a k) : CRep B' f a' g nl nc nk nx np na ns := by
  obtain ⟨h0, h1, h2, h3, h4, h5, h6, h7⟩ := h
  obtain ⟨p1, p2, p3, p4, p5, p6⟩ := h1
  refine ⟨h0, ⟨?_, ?_, ?_, ?_, ?_, ?_⟩, enR_congr h2 (fun o k z => hB o k (cpe4 z) (by omega)) (ha 11 (by omega) (by omega)) (fun k z1 z2 => ha k (by omega) (by omega)), enR_congr h3 (fun o k z => hB o k (cpe7 z) (by omega)) (ha 12 (by omega) (by omega)) (fun k z1 z2 => ha k (by omega) (by omega)), kyR_congr h4 (fun o k z1 z2 z => hB o k z (by omega)) (ha 10 (by omega) (by omega)) (ha 13 (by omega) (by omega)) (ha 14 (by omega) (by omega)) (fun k z1 z2 => ha k (by omega) (by omega)), plR_congr h5 (by omega) (fun o k z1 z2 z => hB o k z (by omega)) (ha 15 (by omega) (by omega)) (ha 18 (by omega) (by omega)) (fun k z1 z2 => ha k (by omega) (by omega)) (fun k z1 z2 => ha k (by omega) (by omega)), slR_congr h6 (by omega) (by omega) (fun o k z1 z2 z => hB o k z (by omega)) (ha 16 (by omega) (by omega)) (fun k z1 z2 => ha k (by omega) (by omega)), seR_congr h7 (by omega) (fun o k z1 z2 z => hB o k z (by omega)) (ha 17 (by omega) (by omega)) (fun k z1 z2 => ha k (by omega) (by omega))⟩
  · rw [hB 1 2 (cp1 (by omega)) (by omega), ha 8 (by omega) (by omega), p1]
  · rw [hB 1 3 (cp1 (by omega)) (by omega), ha 9 (by omega) (by omega), p2]
  · rw [hB 1 4 (cp1 (by omega)) (by omega), ha 10 (by omega) (by omega), p3]
  · intro q hq
    by_cases e : q = r
    · rw [e, e1, e2]
    · rw [hB 2 q (cp2 (by omega)) (by omega), ha q (by omega) (by omega), p4 q hq]
  · intro c hc
    rw [hB 3 c (cp3 (by omega)) (by omega), ha (386 + c) (by omega) (by omega)]
    exact p5 c hc
  · rw [ha 8 (by omega) (by omega)]; exact p6
theorem op_time {B B' : Nat → Nat → Int32} {a a' : Nat → Int32} {f g : UInt32} {nl nc nk nx np na ns : Nat} (h : CRep B f a g nl nc nk nx np na ns) {x : Int32} {f' g' : UInt32} (hf : f' = g') (hfk : fok f') (e1 : B' 1 3 = x) (e2 : a' 9 = x) (hB : ∀ o k, cpd o k → ¬ (o = 1 ∧ k = 3) → B' o k = B o k) (ha : ∀ k, k < 406 → ¬ k = 9 → a' k = a k) : CRep B' f' a' g' nl nc nk nx np na ns := by
  obtain ⟨h0, h1, h2, h3, h4, h5, h6, h7⟩ := h
  obtain ⟨p1, p2, p3, p4, p5, p6⟩ := h1
  refine ⟨⟨hf, hfk⟩, ⟨?_, by rw [e1, e2], ?_, ?_, ?_, ?_⟩, enR_congr h2 (fun o k z => hB o k (cpe4 z) (by omega)) (ha 11 (by omega) (by omega)) (fun k z1 z2 => ha k (by omega) (by omega)), enR_congr h3 (fun o k z => hB o k (cpe7 z) (by omega)) (ha 12 (by omega) (by omega)) (fun k z1 z2 => ha k (by omega) (by omega)), kyR_congr h4 (fun o k z1 z2 z => hB o k z (by omega)) (ha 10 (by omega) (by omega)) (ha 13 (by omega) (by omega)) (ha 14 (by omega) (by omega)) (fun k z1 z2 => ha k (by omega) (by omega)), plR_congr h5 (by omega) (fun o k z1 z2 z => hB o k z (by omega)) (ha 15 (by omega) (by omega)) (ha 18 (by omega) (by omega)) (fun k z1 z2 => ha k (by omega) (by omega)) (fun k z1 z2 => ha k (by omega) (by omega)), slR_congr h6 (by omega) (by omega) (fun o k z1 z2 z => hB o k z (by omega)) (ha 16 (by omega) (by omega)) (fun k z1 z2 => ha k (by omega) (by omega)), seR_congr h7 (by omega) (fun o k z1 z2 z => hB o k z (by omega)) (ha 17 (by omega) (by omega)) (fun k z1 z2 => ha k (by omega) (by omega))⟩
  · rw [hB 1 2 (cp1 (by omega)) (by omega), ha 8 (by omega) (by omega), p1]
  · rw [hB 1 4 (cp1 (by omega)) (by omega), ha 10 (by omega) (by omega), p3]
  · intro r hr
    rw [hB 2 r (cp2 (by omega)) (by omega), ha r (by omega) (by omega), p4 r hr]
  · intro c hc
    rw [hB 3 c (cp3 (by omega)) (by omega), ha (386 + c) (by omega) (by omega)]
    exact p5 c hc
  · rw [ha 8 (by omega) (by omega)]; exact p6
theorem op_cnt {B B' : Nat → Nat → Int32} {a a' : Nat → Int32} {f g : UInt32} {nl nc nk nx np na ns : Nat} (h : CRep B f a g nl nc nk nx np na ns) {c n : Nat} (hc : c < 4) (hn : n ≤ 9999) (e1 : B' 3 c = nI n) (e2 : a' (386 + c) = nI n) (hB : ∀ o k, cpd o k → ¬ (o = 3 ∧ k = c) → B' o k = B o k) (ha : ∀ k, k < 406 → ¬ k = 386 + c → a' k = a k) : CRep B' f a' g nl nc nk nx np na ns := by
  obtain ⟨h0, h1, h2, h3, h4, h5, h6, h7⟩ := h
  obtain ⟨p1, p2, p3, p4, p5, p6⟩ := h1
  refine ⟨h0, ⟨?_, ?_, ?_, ?_, ?_, ?_⟩, enR_congr h2 (fun o k z => hB o k (cpe4 z) (by omega)) (ha 11 (by omega) (by omega)) (fun k z1 z2 => ha k (by omega) (by omega)), enR_congr h3 (fun o k z => hB o k (cpe7 z) (by omega)) (ha 12 (by omega) (by omega)) (fun k z1 z2 => ha k (by omega) (by omega)), kyR_congr h4 (fun o k z1 z2 z => hB o k z (by omega)) (ha 10 (by omega) (by omega)) (ha 13 (by omega) (by omega)) (ha 14 (by omega) (by omega)) (fun k z1 z2 => ha k (by omega) (by omega)), plR_congr h5 (by omega) (fun o k z1 z2 z => hB o k z (by omega)) (ha 15 (by omega) (by omega)) (ha 18 (by omega) (by omega)) (fun k z1 z2 => ha k (by omega) (by omega)) (fun k z1 z2 => ha k (by omega) (by omega)), slR_congr h6 (by omega) (by omega) (fun o k z1 z2 z => hB o k z (by omega)) (ha 16 (by omega) (by omega)) (fun k z1 z2 => ha k (by omega) (by omega)), seR_congr h7 (by omega) (fun o k z1 z2 z => hB o k z (by omega)) (ha 17 (by omega) (by omega)) (fun k z1 z2 => ha k (by omega) (by omega))⟩
  · rw [hB 1 2 (cp1 (by omega)) (by omega), ha 8 (by omega) (by omega), p1]
  · rw [hB 1 3 (cp1 (by omega)) (by omega), ha 9 (by omega) (by omega), p2]
  · rw [hB 1 4 (cp1 (by omega)) (by omega), ha 10 (by omega) (by omega), p3]
  · intro r hr
    rw [hB 2 r (cp2 (by omega)) (by omega), ha r (by omega) (by omega), p4 r hr]
  · intro i hi
    by_cases e : i = c
    · subst e
      exact ⟨by rw [e1, e2], n, hn, e2⟩
    · rw [hB 3 i (cp3 (by omega)) (by omega), ha (386 + i) (by omega) (by omega)]
      exact p5 i hi
  · rw [ha 8 (by omega) (by omega)]; exact p6
/-- an entry more -/
theorem en_app {B B' : Nat → Nat → Int32} {a a' : Nat → Int32} {o i p n r : Nat} {y : Int32} (h : enR B a o i p n) (hn : n < 40) (hr : r < 8) (e1 : B' o 2 = nI (n + 1)) (e2 : B' (o + 1) n = nI r) (e3 : B' (o + 2) n = y) (d1 : a' i = nI (n + 1)) (d2 : a' (p + 2 * n) = nI r) (d3 : a' (p + 2 * n + 1) = y) (hB : ∀ o' k, k < n → (o' = o + 1 ∨ o' = o + 2) → B' o' k = B o' k) (ha : ∀ k, p ≤ k → k < p + 2 * n → a' k = a k) : enR B' a' o i p (n + 1) := by
  obtain ⟨h1, h2, h3, h4⟩ := h
  refine ⟨e1, d1, by omega, fun k hk => ?_⟩
  by_cases e : k = n
  · subst e
    exact ⟨by rw [e2, d2], by rw [e3, d3], r, hr, d2⟩
  · rw [hB (o + 1) k (by omega) (by omega), hB (o + 2) k (by omega) (by omega), ha (p + 2 * k) (by omega) (by omega), ha (p + 2 * k + 1) (by omega) (by omega)]
    exact h4 k (by omega)
theorem op_meas {B B' : Nat → Nat → Int32} {a a' : Nat → Int32} {f g : UInt32} {nl nc nk nx np na ns : Nat} (h : CRep B f a g nl nc nk nx np na ns) {r : Nat} {x y : Int32} (hr : r < 8) (hl : nl < 40) (e1 : B' 2 r = x) (e2 : a' r = x) (e3 : B' 4 2 = nI (nl + 1)) (e4 : B' 5 nl = nI r) (e5 : B' 6 nl = y) (d3 : a' 11 = nI (nl + 1)) (d4 : a' (20 + 2 * nl) = nI r) (d5 : a' (20 + 2 * nl + 1) = y) (hB : ∀ o k, cpd o k → ¬ (o = 2 ∧ k = r) → ¬ (o = 4 ∧ k = 2) → ¬ (o = 5 ∧ k = nl) → ¬ (o = 6 ∧ k = nl) → B' o k = B o k) (ha : ∀ k, k < 406 → ¬ k = r → ¬ k = 11 → ¬ k = 20 + 2 * nl → ¬ k = 20 + 2 * nl + 1 → a' k = a k) : CRep B' f a' g (nl + 1) nc nk nx np na ns := by
  obtain ⟨h0, h1, h2, h3, h4, h5, h6, h7⟩ := h
  obtain ⟨p1, p2, p3, p4, p5, p6⟩ := h1
  replace hB : ∀ o k, cpd o k → ¬ ((o = 2 ∧ k = r) ∨ (o = 4 ∧ k = 2) ∨ (o = 5 ∧ k = nl) ∨ (o = 6 ∧ k = nl)) → B' o k = B o k := fun o k z1 z2 => hB o k z1 (by omega) (by omega) (by omega) (by omega)
  replace ha : ∀ k, k < 406 → ¬ (k = r ∨ k = 11 ∨ k = 20 + 2 * nl ∨ k = 20 + 2 * nl + 1) → a' k = a k := fun k z1 z2 => ha k z1 (by omega) (by omega) (by omega) (by omega)
  refine ⟨h0, ⟨?_, ?_, ?_, ?_, ?_, ?_⟩, en_app h2 hl hr e3 e4 e5 d3 d4 d5 (fun o' k z1 z2 => hB o' k (cpf4 (by omega) z2) (by omega)) (fun k z1 z2 => ha k (by omega) (by omega)), enR_congr h3 (fun o k z => hB o k (cpe7 z) (by omega)) (ha 12 (by omega) (by omega)) (fun k z1 z2 => ha k (by omega) (by omega)), kyR_congr h4 (fun o k z1 z2 z => hB o k z (by omega)) (ha 10 (by omega) (by omega)) (ha 13 (by omega) (by omega)) (ha 14 (by omega) (by omega)) (fun k z1 z2 => ha k (by omega) (by omega)), plR_congr h5 (by omega) (fun o k z1 z2 z => hB o k z (by omega)) (ha 15 (by omega) (by omega)) (ha 18 (by omega) (by omega)) (fun k z1 z2 => ha k (by omega) (by omega)) (fun k z1 z2 => ha k (by omega) (by omega)), slR_congr h6 (by omega) (by omega) (fun o k z1 z2 z => hB o k z (by omega)) (ha 16 (by omega) (by omega)) (fun k z1 z2 => ha k (by omega) (by omega)), seR_congr h7 (by omega) (fun o k z1 z2 z => hB o k z (by omega)) (ha 17 (by omega) (by omega)) (fun k z1 z2 => ha k (by omega) (by omega))⟩
  · rw [hB 1 2 (cp1 (by omega)) (by omega), ha 8 (by omega) (by omega), p1]
  · rw [hB 1 3 (cp1 (by omega)) (by omega), ha 9 (by omega) (by omega), p2]
  · rw [hB 1 4 (cp1 (by omega)) (by omega), ha 10 (by omega) (by omega), p3]
  · intro q hq
    by_cases e : q = r
    · rw [e, e1, e2]
    · rw [hB 2 q (cp2 (by omega)) (by omega), ha q (by omega) (by omega), p4 q hq]
  · intro c hc
    rw [hB 3 c (cp3 (by omega)) (by omega), ha (386 + c) (by omega) (by omega)]
    exact p5 c hc
  · rw [ha 8 (by omega) (by omega)]; exact p6
theorem op_claim {B B' : Nat → Nat → Int32} {a a' : Nat → Int32} {f g : UInt32} {nl nc nk nx np na ns : Nat} (h : CRep B f a g nl nc nk nx np na ns) {r : Nat} {y : Int32} (hr : r < 8) (hl : nc < 40) (e3 : B' 7 2 = nI (nc + 1)) (e4 : B' 8 nc = nI r) (e5 : B' 9 nc = y) (d3 : a' 12 = nI (nc + 1)) (d4 : a' (100 + 2 * nc) = nI r) (d5 : a' (100 + 2 * nc + 1) = y) (hB : ∀ o k, cpd o k → ¬ (o = 7 ∧ k = 2) → ¬ (o = 8 ∧ k = nc) → ¬ (o = 9 ∧ k = nc) → B' o k = B o k) (ha : ∀ k, k < 406 → ¬ k = 12 → ¬ k = 100 + 2 * nc → ¬ k = 100 + 2 * nc + 1 → a' k = a k) : CRep B' f a' g nl (nc + 1) nk nx np na ns := by
  obtain ⟨h0, h1, h2, h3, h4, h5, h6, h7⟩ := h
  replace hB : ∀ o k, cpd o k → ¬ ((o = 7 ∧ k = 2) ∨ (o = 8 ∧ k = nc) ∨ (o = 9 ∧ k = nc)) → B' o k = B o k := fun o k z1 z2 => hB o k z1 (by omega) (by omega) (by omega)
  replace ha : ∀ k, k < 406 → ¬ (k = 12 ∨ k = 100 + 2 * nc ∨ k = 100 + 2 * nc + 1) → a' k = a k := fun k z1 z2 => ha k z1 (by omega) (by omega) (by omega)
  exact ⟨h0, bdR_congr h1 (fun o k z1 z2 => hB o k z2 (by omega)) (fun k z => ha k (by omega) (by omega)) (fun k z1 z2 => ha k (by omega) (by omega)), enR_congr h2 (fun o k z => hB o k (cpe4 z) (by omega)) (ha 11 (by omega) (by omega)) (fun k z1 z2 => ha k (by omega) (by omega)), en_app h3 hl hr e3 e4 e5 d3 d4 d5 (fun o' k z1 z2 => hB o' k (cpf7 (by omega) z2) (by omega)) (fun k z1 z2 => ha k (by omega) (by omega)), kyR_congr h4 (fun o k z1 z2 z => hB o k z (by omega)) (ha 10 (by omega) (by omega)) (ha 13 (by omega) (by omega)) (ha 14 (by omega) (by omega)) (fun k z1 z2 => ha k (by omega) (by omega)), plR_congr h5 (by omega) (fun o k z1 z2 z => hB o k z (by omega)) (ha 15 (by omega) (by omega)) (ha 18 (by omega) (by omega)) (fun k z1 z2 => ha k (by omega) (by omega)) (fun k z1 z2 => ha k (by omega) (by omega)), slR_congr h6 (by omega) (by omega) (fun o k z1 z2 z => hB o k z (by omega)) (ha 16 (by omega) (by omega)) (fun k z1 z2 => ha k (by omega) (by omega)), seR_congr h7 (by omega) (fun o k z1 z2 z => hB o k z (by omega)) (ha 17 (by omega) (by omega)) (fun k z1 z2 => ha k (by omega) (by omega))⟩
theorem op_forge {B B' : Nat → Nat → Int32} {a a' : Nat → Int32} {f g : UInt32} {nl nc nk nx np na ns : Nat} (h : CRep B f a g nl nc nk nx np na ns) {i : Nat} {y : Int32} (hi : i < nc) (e1 : B' 9 i = y) (e2 : a' (100 + 2 * i + 1) = y) (hB : ∀ o k, cpd o k → ¬ (o = 9 ∧ k = i) → B' o k = B o k) (ha : ∀ k, k < 406 → ¬ k = 100 + 2 * i + 1 → a' k = a k) : CRep B' f a' g nl nc nk nx np na ns := by
  obtain ⟨h0, h1, h2, h3, h4, h5, h6, h7⟩ := h
  obtain ⟨q1, q2, q3, q4⟩ := h3
  refine ⟨h0, bdR_congr h1 (fun o k z1 z2 => hB o k z2 (by omega)) (fun k z => ha k (by omega) (by omega)) (fun k z1 z2 => ha k (by omega) (by omega)), enR_congr h2 (fun o k z => hB o k (cpe4 z) (by omega)) (ha 11 (by omega) (by omega)) (fun k z1 z2 => ha k (by omega) (by omega)), ⟨?_, ?_, q3, fun k hk => ?_⟩, kyR_congr h4 (fun o k z1 z2 z => hB o k z (by omega)) (ha 10 (by omega) (by omega)) (ha 13 (by omega) (by omega)) (ha 14 (by omega) (by omega)) (fun k z1 z2 => ha k (by omega) (by omega)), plR_congr h5 (by omega) (fun o k z1 z2 z => hB o k z (by omega)) (ha 15 (by omega) (by omega)) (ha 18 (by omega) (by omega)) (fun k z1 z2 => ha k (by omega) (by omega)) (fun k z1 z2 => ha k (by omega) (by omega)), slR_congr h6 (by omega) (by omega) (fun o k z1 z2 z => hB o k z (by omega)) (ha 16 (by omega) (by omega)) (fun k z1 z2 => ha k (by omega) (by omega)), seR_congr h7 (by omega) (fun o k z1 z2 z => hB o k z (by omega)) (ha 17 (by omega) (by omega)) (fun k z1 z2 => ha k (by omega) (by omega))⟩
  · rw [hB 7 2 (cp7 (by omega)) (by omega), q1]
  · rw [ha 12 (by omega) (by omega), q2]
  · obtain ⟨z1, z2, z3⟩ := q4 k hk
    rw [hB 8 k (cp8 (by omega)) (by omega), ha (100 + 2 * k) (by omega) (by omega)]
    refine ⟨z1, ?_, z3⟩
    by_cases e : k = i
    · rw [e, e1, e2]
    · rw [hB 9 k (cp9 (by omega)) (by omega), ha (100 + 2 * k + 1) (by omega) (by omega), z2]
/-- the told log is the log, or empty -/
theorem op_tell {B B' : Nat → Nat → Int32} {a a' : Nat → Int32} {f g : UInt32} {nl nc nk nx np na ns : Nat} (h : CRep B f a g nl nc nk nx np na ns) (e1 : B' 7 2 = nI nl) (e2 : a' 12 = nI nl) (e3 : ∀ k, k < nl → B' 8 k = B 5 k ∧ B' 9 k = B 6 k) (e4 : ∀ k, k < 2 * nl → a' (100 + k) = a (20 + k)) (hB : ∀ o k, cpd o k → ¬ (o = 7 ∨ o = 8 ∨ o = 9) → B' o k = B o k) (ha : ∀ k, k < 406 → ¬ (k = 12 ∨ (100 ≤ k ∧ k < 180)) → a' k = a k) : CRep B' f a' g nl nl nk nx np na ns := by
  obtain ⟨h0, h1, h2, h3, h4, h5, h6, h7⟩ := h
  obtain ⟨q1, q2, q3, q4⟩ := h2
  have h2 : enR B a 4 11 20 nl := ⟨q1, q2, q3, q4⟩
  refine ⟨h0, bdR_congr h1 (fun o k z1 z2 => hB o k z2 (by omega)) (fun k z => ha k (by omega) (by omega)) (fun k z1 z2 => ha k (by omega) (by omega)), enR_congr h2 (fun o k z => hB o k (cpe4 z) (by omega)) (ha 11 (by omega) (by omega)) (fun k z1 z2 => ha k (by omega) (by omega)), ⟨e1, e2, q3, fun k hk => ?_⟩, kyR_congr h4 (fun o k z1 z2 z => hB o k z (by omega)) (ha 10 (by omega) (by omega)) (ha 13 (by omega) (by omega)) (ha 14 (by omega) (by omega)) (fun k z1 z2 => ha k (by omega) (by omega)), plR_congr h5 (by omega) (fun o k z1 z2 z => hB o k z (by omega)) (ha 15 (by omega) (by omega)) (ha 18 (by omega) (by omega)) (fun k z1 z2 => ha k (by omega) (by omega)) (fun k z1 z2 => ha k (by omega) (by omega)), slR_congr h6 (by omega) (by omega) (fun o k z1 z2 z => hB o k z (by omega)) (ha 16 (by omega) (by omega)) (fun k z1 z2 => ha k (by omega) (by omega)), seR_congr h7 (by omega) (fun o k z1 z2 z => hB o k z (by omega)) (ha 17 (by omega) (by omega)) (fun k z1 z2 => ha k (by omega) (by omega))⟩
  obtain ⟨z1, z2, z3⟩ := q4 k hk
  rw [(e3 k hk).1, (e3 k hk).2, e4 (2 * k) (by omega), show 100 + 2 * k + 1 = 100 + (2 * k + 1) by omega, e4 (2 * k + 1) (by omega)]
  exact ⟨z1, by rw [z2, show 20 + 2 * k + 1 = 20 + (2 * k + 1) by omega], z3⟩
theorem op_tell0 {B B' : Nat → Nat → Int32} {a a' : Nat → Int32} {f g : UInt32} {nl nc nk nx np na ns : Nat} (h : CRep B f a g nl nc nk nx np na ns) (e1 : B' 7 2 = 0) (e2 : a' 12 = 0) (hB : ∀ o k, cpd o k → ¬ (o = 7 ∧ k = 2) → B' o k = B o k) (ha : ∀ k, k < 406 → ¬ k = 12 → a' k = a k) : CRep B' f a' g nl 0 nk nx np na ns := by
  obtain ⟨h0, h1, h2, h3, h4, h5, h6, h7⟩ := h
  exact ⟨h0, bdR_congr h1 (fun o k z1 z2 => hB o k z2 (by omega)) (fun k z => ha k (by omega) (by omega)) (fun k z1 z2 => ha k (by omega) (by omega)), enR_congr h2 (fun o k z => hB o k (cpe4 z) (by omega)) (ha 11 (by omega) (by omega)) (fun k z1 z2 => ha k (by omega) (by omega)), ⟨e1, e2, by omega, fun k hk => by omega⟩, kyR_congr h4 (fun o k z1 z2 z => hB o k z (by omega)) (ha 10 (by omega) (by omega)) (ha 13 (by omega) (by omega)) (ha 14 (by omega) (by omega)) (fun k z1 z2 => ha k (by omega) (by omega)), plR_congr h5 (by omega) (fun o k z1 z2 z => hB o k z (by omega)) (ha 15 (by omega) (by omega)) (ha 18 (by omega) (by omega)) (fun k z1 z2 => ha k (by omega) (by omega)) (fun k z1 z2 => ha k (by omega) (by omega)), slR_congr h6 (by omega) (by omega) (fun o k z1 z2 z => hB o k z (by omega)) (ha 16 (by omega) (by omega)) (fun k z1 z2 => ha k (by omega) (by omega)), seR_congr h7 (by omega) (fun o k z1 z2 z => hB o k z (by omega)) (ha 17 (by omega) (by omega)) (fun k z1 z2 => ha k (by omega) (by omega))⟩
