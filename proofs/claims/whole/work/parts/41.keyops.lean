/-! KEYS: what class and reference say of slots; what acts on keys change -/
theorem nI_inj {x y : Nat} (hx : x < 2 ^ 31) (hy : y < 2 ^ 31) (h : nI x = nI y) : x = y := by rw [i_eq, i_nI hx, i_nI hy] at h; omega
theorem nI_ne1 {x : Nat} (hx : x < 2 ^ 31) (h : nI x = -1) : False := by rw [nI_m1 hx] at h; exact h
theorem kIn_none {a : Nat → Int32} {x : Int32} : ∀ {n : Nat}, (∀ k, k < n → ¬ (inb x 3 ∧ a (182 + 4 * k) = x)) → kIn a x n = -1 := by
  intro n
  induction n with
  | zero => intro _; rfl
  | succ n ih =>
    intro h
    show (if inb x 3 ∧ a (182 + 4 * n) = x then nI n else kIn a x n) = -1
    rw [if_neg (h n (by omega)), ih (fun k hk => h k (by omega))]
theorem kIn_one {a : Nat → Int32} {x : Int32} {k0 : Nat} : ∀ {n : Nat}, k0 < n → (inb x 3 ∧ a (182 + 4 * k0) = x) → (∀ k, k0 < k → k < n → ¬ (inb x 3 ∧ a (182 + 4 * k) = x)) → kIn a x n = nI k0 := by
  intro n
  induction n with
  | zero => intro h; omega
  | succ n ih =>
    intro h1 h2 h3
    show (if inb x 3 ∧ a (182 + 4 * n) = x then nI n else kIn a x n) = nI k0
    by_cases e : k0 = n
    · subst e
      rw [if_pos h2]
    · rw [if_neg (h3 n (by omega) (by omega)), ih (by omega) h2 (fun k z1 z2 => h3 k z1 (by omega))]
section KY
variable {B : Nat → Nat → Int32} {a : Nat → Int32} {nk nx : Nat}
theorem kIn_c (h : kyR B a nk nx) (x : Int32) : kIn a x nk = if inb x 3 then B 14 x.toNatClampNeg else -1 := by
  obtain ⟨q1, q2, q3, q4, q5, q6, q7, q8, q9, q10, q11, q12⟩ := h
  by_cases hx : inb x 3
  · rw [if_pos hx]
    obtain ⟨s, hs, hs2, rfl, e⟩ := inb_get hx
    rw [e]
    rcases q8 s hs with z | ⟨k, hk, z⟩
    · rw [z]
      refine kIn_none (fun k hk y => ?_)
      rw [q10 k s hk hs, z] at y
      exact nI_ne1 (by omega) y.2.symm
    · rw [z]
      refine kIn_one hk ⟨hx, (q10 k s hk hs).mpr z⟩ (fun j j1 j2 y => ?_)
      rw [q10 j s j2 hs, z] at y
      have := nI_inj (by omega) (by omega) y.2
      omega
  · rw [if_neg hx]
    exact kIn_none (fun k hk y => hx y.1)
theorem frM_c (h : kyR B a nk nx) : frM a nk = frS (B 14) := by
  unfold frM frS
  have e0 : kIn a 0 nk = B 14 0 := by rw [kIn_c h 0, if_pos (show inb 0 3 by decide)]; rfl
  have e1 : kIn a 1 nk = B 14 1 := by rw [kIn_c h 1, if_pos (show inb 1 3 by decide)]; rfl
  have e2 : kIn a 2 nk = B 14 2 := by rw [kIn_c h 2, if_pos (show inb 2 3 by decide)]; rfl
  rw [e0, e1, e2]
theorem slOf_c (h : kyR B a nk nx) {k : Nat} (hk : k < nk) : slOf (B 14) (nI k) = a (182 + 4 * k) := by
  obtain ⟨q1, q2, q3, q4, q5, q6, q7, q8, q9, q10, q11, q12⟩ := h
  unfold slOf
  rw [if_neg (fun z => nI_ne1 (by omega) z)]
  have e0 := q10 k 0 hk (by omega)
  have e1 := q10 k 1 hk (by omega)
  have e2 := q10 k 2 hk (by omega)
  rcases q9 k hk with z | ⟨s, hs, z⟩
  · rw [z] at e0 e1 e2 ⊢
    rw [if_neg (fun y => nI_ne1 (by omega) (e0.mpr y).symm), if_neg (fun y => nI_ne1 (by omega) (e1.mpr y).symm), if_neg (fun y => nI_ne1 (by omega) (e2.mpr y).symm)]
  · rw [z] at e0 e1 e2 ⊢
    have hs3 : s = 0 ∨ s = 1 ∨ s = 2 := by omega
    rcases hs3 with rfl | rfl | rfl
    · rw [if_pos (e0.mp rfl)]
      rfl
    · rw [if_neg (fun y => by have := nI_inj (by omega) (by omega) (e0.mpr y); omega), if_pos (e1.mp rfl)]
      rfl
    · rw [if_neg (fun y => by have := nI_inj (by omega) (by omega) (e0.mpr y); omega), if_neg (fun y => by have := nI_inj (by omega) (by omega) (e1.mpr y); omega), if_pos (e2.mp rfl)]
      rfl
theorem frS_c {s : Nat → Int32} : frS s = -1 ∨ ∃ i, i < 3 ∧ frS s = nI i ∧ s i = -1 := by
  unfold frS
  by_cases h0 : s 0 = -1
  · rw [if_pos h0]
    exact Or.inr ⟨0, by omega, rfl, h0⟩
  · rw [if_neg h0]
    by_cases h1 : s 1 = -1
    · rw [if_pos h1]
      exact Or.inr ⟨1, by omega, rfl, h1⟩
    · rw [if_neg h1]
      by_cases h2 : s 2 = -1
      · rw [if_pos h2]
        exact Or.inr ⟨2, by omega, rfl, h2⟩
      · rw [if_neg h2]
        exact Or.inl rfl
/-- a context is good -/
theorem good_c (h : kyR B a nk nx) {c k : Nat} (hc : c < nx) (hk : k < nk) (hck : B 16 c = nI k) : (B 18 c = 0 ∧ B 15 c = a 10 ∧ ¬ B 13 k = 0 ∧ ltc (B 16) (nI k) nx = nI c) ↔ a (183 + 4 * k) = nI c := by
  obtain ⟨q1, q2, q3, q4, q5, q6, q7, q8, q9, q10, q11, q12⟩ := h
  rcases q11 k hk with ⟨z1, z2⟩ | ⟨z1, z2, c', y1, y2, y3, y4, y5, y6⟩
  · constructor
    · intro w
      exact absurd z1 w.2.2.1
    · intro w
      rw [z2] at w
      exact absurd w.symm (fun y => nI_ne1 (by omega) y)
  · have e := ltc_ge (f := B 16) (x := nI k) (m := nx) (c := c') (by omega) y1 y3 y4
    rw [e, y2]
    constructor
    · intro w
      exact w.2.2.2
    · intro w
      have e2 := nI_inj (by omega) (by omega) w
      subst e2
      exact ⟨y5, y6, by rw [z1]; decide, rfl⟩
end KY
theorem op_key {B B' : Nat → Nat → Int32} {a a' : Nat → Int32} {f g : UInt32} {nl nc nk nx np na ns : Nat} (h : CRep B f a g nl nc nk nx np na ns) {p y : Int32} (hn : nk < 10) (hp : p = -1 ∨ ∃ q, q < nk ∧ p = nI q) (e1 : B' 11 nk = p) (e2 : B' 12 nk = y) (e3 : B' 13 nk = 0) (e4 : B' 10 3 = nI (nk + 1)) (d1 : a' (180 + 4 * nk) = p) (d2 : a' (181 + 4 * nk) = y) (d3 : a' (182 + 4 * nk) = -1) (d4 : a' (183 + 4 * nk) = -1) (d5 : a' 13 = nI (nk + 1)) (hB : ∀ o k, cpd o k → ¬ (((o = 11 ∨ o = 12 ∨ o = 13) ∧ k = nk) ∨ (o = 10 ∧ k = 3)) → B' o k = B o k) (ha : ∀ k, k < 406 → ¬ ((180 + 4 * nk ≤ k ∧ k ≤ 183 + 4 * nk) ∨ k = 13) → a' k = a k) : CRep B' f a' g nl nc (nk + 1) nx np na ns := by
  obtain ⟨h0, h1, h2, h3, h4, h5, h6, h7⟩ := h
  obtain ⟨q1, q2, q3, q4, q5, q6, q7, q8, q9, q10, q11, q12⟩ := h4
  have h14 : ∀ s, s < 3 → B' 14 s = B 14 s := fun s hs => hB 14 s (cp14 (by omega)) (by omega)
  have ho : ∀ k, k < nk → a' (182 + 4 * k) = a (182 + 4 * k) := fun k hk => ha _ (by omega) (by omega)
  refine ⟨h0, bdR_congr h1 (fun o k z1 z2 => hB o k z2 (by omega)) (fun k z => ha k (by omega) (by omega)) (fun k z1 z2 => ha k (by omega) (by omega)), enR_congr h2 (fun o k z => hB o k (cpe4 z) (by omega)) (ha 11 (by omega) (by omega)) (fun k z1 z2 => ha k (by omega) (by omega)), enR_congr h3 (fun o k z => hB o k (cpe7 z) (by omega)) (ha 12 (by omega) (by omega)) (fun k z1 z2 => ha k (by omega) (by omega)), ⟨e4, d5, by omega, ?_, ?_, q6, ?_, ?_, ?_, ?_, ?_, ?_⟩, plR_congr h5 (by omega) (fun o k z1 z2 z => hB o k z (by omega)) (ha 15 (by omega) (by omega)) (ha 18 (by omega) (by omega)) (fun k z1 z2 => ha k (by omega) (by omega)) (fun k z1 z2 => ha k (by omega) (by omega)), slR_congr h6 (by omega) (by omega) (fun o k z1 z2 z => hB o k z (by omega)) (ha 16 (by omega) (by omega)) (fun k z1 z2 => ha k (by omega) (by omega)), seR_congr h7 (by omega) (fun o k z1 z2 z => hB o k z (by omega)) (ha 17 (by omega) (by omega)) (fun k z1 z2 => ha k (by omega) (by omega))⟩
  · rw [hB 10 9 (cp10 (by omega)) (by omega), q4]
  · rw [ha 14 (by omega) (by omega), q5]
  · intro k hk
    by_cases e : k = nk
    · subst e
      exact ⟨by rw [e1, d1], by rw [e2, d2], by rw [d1]; exact hp⟩
    · rw [hB 11 k (cp11 (by omega)) (by omega), hB 12 k (cp12 (by omega)) (by omega), ha (180 + 4 * k) (by omega) (by omega), ha (181 + 4 * k) (by omega) (by omega)]
      exact q7 k (by omega)
  · intro s hs
    rw [h14 s hs]
    rcases q8 s hs with z | ⟨k, z1, z2⟩
    · exact Or.inl z
    · exact Or.inr ⟨k, by omega, z2⟩
  · intro k hk
    by_cases e : k = nk
    · subst e
      exact Or.inl d3
    · rw [ho k (by omega)]
      exact q9 k (by omega)
  · intro k s hk hs
    rw [h14 s hs]
    by_cases e : k = nk
    · subst e
      rw [d3]
      constructor
      · intro y
        exact absurd y.symm (fun z => nI_ne1 (by omega) z)
      · intro y
        rcases q8 s hs with z | ⟨j, z1, z2⟩
        · rw [z] at y
          exact absurd y.symm (fun w => nI_ne1 (by omega) w)
        · rw [z2] at y
          have := nI_inj (by omega) (by omega) y
          omega
    · rw [ho k (by omega)]
      exact q10 k s (by omega) hs
  · intro k hk
    by_cases e : k = nk
    · subst e
      exact Or.inl ⟨e3, d4⟩
    · unfold swR
      rw [hB 13 k (cp13 (by omega)) (by omega), ho k (by omega), ha (183 + 4 * k) (by omega) (by omega), ha 10 (by omega) (by omega)]
      rcases q11 k (by omega) with z | ⟨z1, z2, c, z3, z4, z5, z6, z7, z8⟩
      · exact Or.inl z
      · refine Or.inr ⟨z1, z2, c, z3, z4, ?_, fun j j1 j2 => ?_, ?_, ?_⟩
        · rw [hB 16 c (cp16 (by omega)) (by omega)]; exact z5
        · rw [hB 16 j (cp16 (by omega)) (by omega)]; exact z6 j j1 j2
        · rw [hB 18 c (cp18 (by omega)) (by omega)]; exact z7
        · rw [hB 15 c (cp15 (by omega)) (by omega)]; exact z8
  · intro c hc
    rw [hB 16 c (cp16 (by omega)) (by omega), hB 17 c (cp17 (by omega)) (by omega), ha (221 + 4 * c) (by omega) (by omega), ha (222 + 4 * c) (by omega) (by omega)]
    obtain ⟨z1, z2, ⟨k, z3, z4⟩, z5⟩ := q12 c hc
    exact ⟨z1, z2, ⟨k, by omega, z4⟩, z5⟩
/-- a key comes into a free slot; it may have been swapped out with the context c -/
theorem op_load {B B' : Nat → Nat → Int32} {a a' : Nat → Int32} {f g : UInt32} {nl nc nk nx np na ns : Nat} (h : CRep B f a g nl nc nk nx np na ns) {k s : Nat} (hk : k < nk) (hs : s < 3) (hf : B 14 s = -1) (hu : a (182 + 4 * k) = -1) (e1 : B' 14 s = nI k) (e2 : B' 13 k = 0) (d1 : a' (182 + 4 * k) = nI s) (d2 : a' (183 + 4 * k) = -1) (hB : ∀ o i, cpd o i → ¬ ((o = 14 ∧ i = s) ∨ (o = 13 ∧ i = k) ∨ (o = 18 ∧ B 16 i = nI k)) → B' o i = B o i) (ha : ∀ i, i < 406 → ¬ (i = 182 + 4 * k ∨ i = 183 + 4 * k) → a' i = a i) : CRep B' f a' g nl nc nk nx np na ns := by
  obtain ⟨h0, h1, h2, h3, h4, h5, h6, h7⟩ := h
  obtain ⟨q1, q2, q3, q4, q5, q6, q7, q8, q9, q10, q11, q12⟩ := h4
  refine ⟨h0, bdR_congr h1 (fun o k z1 z2 => hB o k z2 (by omega)) (fun k z => ha k (by omega) (by omega)) (fun k z1 z2 => ha k (by omega) (by omega)), enR_congr h2 (fun o k z => hB o k (cpe4 z) (by omega)) (ha 11 (by omega) (by omega)) (fun k z1 z2 => ha k (by omega) (by omega)), enR_congr h3 (fun o k z => hB o k (cpe7 z) (by omega)) (ha 12 (by omega) (by omega)) (fun k z1 z2 => ha k (by omega) (by omega)), ⟨?_, ?_, q3, ?_, ?_, q6, ?_, ?_, ?_, ?_, ?_, ?_⟩, plR_congr h5 (by omega) (fun o k z1 z2 z => hB o k z (by omega)) (ha 15 (by omega) (by omega)) (ha 18 (by omega) (by omega)) (fun k z1 z2 => ha k (by omega) (by omega)) (fun k z1 z2 => ha k (by omega) (by omega)), slR_congr h6 (by omega) (by omega) (fun o k z1 z2 z => hB o k z (by omega)) (ha 16 (by omega) (by omega)) (fun k z1 z2 => ha k (by omega) (by omega)), seR_congr h7 (by omega) (fun o k z1 z2 z => hB o k z (by omega)) (ha 17 (by omega) (by omega)) (fun k z1 z2 => ha k (by omega) (by omega))⟩
  · rw [hB 10 3 (cp10 (by omega)) (by omega), q1]
  · rw [ha 13 (by omega) (by omega), q2]
  · rw [hB 10 9 (cp10 (by omega)) (by omega), q4]
  · rw [ha 14 (by omega) (by omega), q5]
  · intro j hj
    rw [hB 11 j (cp11 (by omega)) (by omega), hB 12 j (cp12 (by omega)) (by omega), ha (180 + 4 * j) (by omega) (by omega), ha (181 + 4 * j) (by omega) (by omega)]
    exact q7 j hj
  · intro t ht
    by_cases e : t = s
    · subst e
      exact Or.inr ⟨k, hk, e1⟩
    · rw [hB 14 t (cp14 (by omega)) (by omega)]
      exact q8 t ht
  · intro j hj
    by_cases e : j = k
    · subst e
      exact Or.inr ⟨s, hs, d1⟩
    · rw [ha (182 + 4 * j) (by omega) (by omega)]
      exact q9 j hj
  · intro j t hj ht
    by_cases ej : j = k
    · subst ej
      rw [d1]
      by_cases et : t = s
      · subst et
        rw [e1]
        exact ⟨fun _ => rfl, fun _ => rfl⟩
      · rw [hB 14 t (cp14 (by omega)) (by omega), ← q10 j t hj ht, hu]
        exact ⟨fun y => absurd (nI_inj (by omega) (by omega) y) (by omega), fun y => absurd y.symm (fun z => nI_ne1 (by omega) z)⟩
    · rw [ha (182 + 4 * j) (by omega) (by omega)]
      by_cases et : t = s
      · subst et
        rw [e1, q10 j t hj ht, hf]
        exact ⟨fun y => absurd y.symm (fun z => nI_ne1 (by omega) z), fun y => absurd (nI_inj (by omega) (by omega) y) (by omega)⟩
      · rw [hB 14 t (cp14 (by omega)) (by omega)]
        exact q10 j t hj ht
  · intro j hj
    by_cases ej : j = k
    · subst ej
      exact Or.inl ⟨e2, d2⟩
    · unfold swR
      rw [hB 13 j (cp13 (by omega)) (by omega), ha (182 + 4 * j) (by omega) (by omega), ha (183 + 4 * j) (by omega) (by omega), ha 10 (by omega) (by omega)]
      rcases q11 j hj with z | ⟨z1, z2, c, z3, z4, z5, z6, z7, z8⟩
      · exact Or.inl z
      · refine Or.inr ⟨z1, z2, c, z3, z4, ?_, fun i j1 j2 => ?_, ?_, ?_⟩
        · rw [hB 16 c (cp16 (by omega)) (by omega)]; exact z5
        · rw [hB 16 i (cp16 (by omega)) (by omega)]; exact z6 i j1 j2
        · rw [hB 18 c (cp18 (by omega)) (fun y => by
            rcases y with y | y | y
            · omega
            · omega
            · rw [z5] at y
              exact ej (nI_inj (by omega) (by omega) y.2))]
          exact z7
        · rw [hB 15 c (cp15 (by omega)) (by omega)]; exact z8
  · intro c hc
    rw [hB 16 c (cp16 (by omega)) (by omega), hB 17 c (cp17 (by omega)) (by omega), ha (221 + 4 * c) (by omega) (by omega), ha (222 + 4 * c) (by omega) (by omega)]
    exact q12 c hc
/-- a key is dropped that was swapped out -/
theorem op_drop {B B' : Nat → Nat → Int32} {a a' : Nat → Int32} {f g : UInt32} {nl nc nk nx np na ns : Nat} (h : CRep B f a g nl nc nk nx np na ns) {k : Nat} (hk : k < nk) (e2 : B' 13 k = 0) (d2 : a' (183 + 4 * k) = -1) (hB : ∀ o i, cpd o i → ¬ (o = 13 ∧ i = k) → B' o i = B o i) (ha : ∀ i, i < 406 → ¬ i = 183 + 4 * k → a' i = a i) : CRep B' f a' g nl nc nk nx np na ns := by
  obtain ⟨h0, h1, h2, h3, h4, h5, h6, h7⟩ := h
  obtain ⟨q1, q2, q3, q4, q5, q6, q7, q8, q9, q10, q11, q12⟩ := h4
  refine ⟨h0, bdR_congr h1 (fun o k z1 z2 => hB o k z2 (by omega)) (fun k z => ha k (by omega) (by omega)) (fun k z1 z2 => ha k (by omega) (by omega)), enR_congr h2 (fun o k z => hB o k (cpe4 z) (by omega)) (ha 11 (by omega) (by omega)) (fun k z1 z2 => ha k (by omega) (by omega)), enR_congr h3 (fun o k z => hB o k (cpe7 z) (by omega)) (ha 12 (by omega) (by omega)) (fun k z1 z2 => ha k (by omega) (by omega)), ⟨?_, ?_, q3, ?_, ?_, q6, ?_, ?_, ?_, ?_, ?_, ?_⟩, plR_congr h5 (by omega) (fun o k z1 z2 z => hB o k z (by omega)) (ha 15 (by omega) (by omega)) (ha 18 (by omega) (by omega)) (fun k z1 z2 => ha k (by omega) (by omega)) (fun k z1 z2 => ha k (by omega) (by omega)), slR_congr h6 (by omega) (by omega) (fun o k z1 z2 z => hB o k z (by omega)) (ha 16 (by omega) (by omega)) (fun k z1 z2 => ha k (by omega) (by omega)), seR_congr h7 (by omega) (fun o k z1 z2 z => hB o k z (by omega)) (ha 17 (by omega) (by omega)) (fun k z1 z2 => ha k (by omega) (by omega))⟩
  · rw [hB 10 3 (cp10 (by omega)) (by omega), q1]
  · rw [ha 13 (by omega) (by omega), q2]
  · rw [hB 10 9 (cp10 (by omega)) (by omega), q4]
  · rw [ha 14 (by omega) (by omega), q5]
  · intro j hj
    rw [hB 11 j (cp11 (by omega)) (by omega), hB 12 j (cp12 (by omega)) (by omega), ha (180 + 4 * j) (by omega) (by omega), ha (181 + 4 * j) (by omega) (by omega)]
    exact q7 j hj
  · intro t ht
    rw [hB 14 t (cp14 (by omega)) (by omega)]
    exact q8 t ht
  · intro j hj
    rw [ha (182 + 4 * j) (by omega) (by omega)]
    exact q9 j hj
  · intro j t hj ht
    rw [ha (182 + 4 * j) (by omega) (by omega), hB 14 t (cp14 (by omega)) (by omega)]
    exact q10 j t hj ht
  · intro j hj
    by_cases ej : j = k
    · subst ej
      exact Or.inl ⟨e2, d2⟩
    · unfold swR
      rw [hB 13 j (cp13 (by omega)) (by omega), ha (182 + 4 * j) (by omega) (by omega), ha (183 + 4 * j) (by omega) (by omega), ha 10 (by omega) (by omega)]
      rcases q11 j hj with z | ⟨z1, z2, c, z3, z4, z5, z6, z7, z8⟩
      · exact Or.inl z
      · refine Or.inr ⟨z1, z2, c, z3, z4, ?_, fun i j1 j2 => ?_, ?_, ?_⟩
        · rw [hB 16 c (cp16 (by omega)) (by omega)]; exact z5
        · rw [hB 16 i (cp16 (by omega)) (by omega)]; exact z6 i j1 j2
        · rw [hB 18 c (cp18 (by omega)) (by omega)]; exact z7
        · rw [hB 15 c (cp15 (by omega)) (by omega)]; exact z8
  · intro c hc
    rw [hB 16 c (cp16 (by omega)) (by omega), hB 17 c (cp17 (by omega)) (by omega), ha (221 + 4 * c) (by omega) (by omega), ha (222 + 4 * c) (by omega) (by omega)]
    exact q12 c hc
/-- a key goes out of its slot -/
theorem op_unl {B B' : Nat → Nat → Int32} {a a' : Nat → Int32} {f g : UInt32} {nl nc nk nx np na ns : Nat} (h : CRep B f a g nl nc nk nx np na ns) {k s : Nat} (hk : k < nk) (hs : s < 3) (hf : B 14 s = nI k) (e1 : B' 14 s = -1) (e2 : ∀ t, t < 4 → B' 32 t = if B 32 t = nI k then -1 else B 32 t) (d1 : ∀ i, i < 406 → a' i = ulc a k 4 i) (hB : ∀ o i, cpd o i → ¬ ((o = 14 ∧ i = s) ∨ o = 32) → B' o i = B o i) : CRep B' f a' g nl nc nk nx np na ns := by
  obtain ⟨h0, h1, h2, h3, h4, h5, h6, h7⟩ := h
  obtain ⟨q1, q2, q3, q4, q5, q6, q7, q8, q9, q10, q11, q12⟩ := h4
  have hl : a (182 + 4 * k) = nI s := (q10 k s hk hs).mpr hf
  have ha : ∀ i, i < 406 → ¬ (i = 182 + 4 * k ∨ (370 ≤ i ∧ i < 386 ∧ (i - 370) % 4 = 0)) → a' i = a i := fun i z1 z2 => by
    rw [d1 i z1]
    unfold ulc
    rw [if_neg (fun z => z2 (by omega)), if_neg (fun z => z2 (by omega))]
  have hk1 : a' (182 + 4 * k) = -1 := by
    rw [d1 _ (by omega)]
    unfold ulc
    rw [if_pos rfl]
  refine ⟨h0, bdR_congr h1 (fun o k z1 z2 => hB o k z2 (by omega)) (fun k z => ha k (by omega) (by omega)) (fun k z1 z2 => ha k (by omega) (by omega)), enR_congr h2 (fun o k z => hB o k (cpe4 z) (by omega)) (ha 11 (by omega) (by omega)) (fun k z1 z2 => ha k (by omega) (by omega)), enR_congr h3 (fun o k z => hB o k (cpe7 z) (by omega)) (ha 12 (by omega) (by omega)) (fun k z1 z2 => ha k (by omega) (by omega)), ⟨?_, ?_, q3, ?_, ?_, q6, ?_, ?_, ?_, ?_, ?_, ?_⟩, plR_congr h5 (by omega) (fun o k z1 z2 z => hB o k z (by omega)) (ha 15 (by omega) (by omega)) (ha 18 (by omega) (by omega)) (fun k z1 z2 => ha k (by omega) (by omega)) (fun k z1 z2 => ha k (by omega) (by omega)), slR_congr h6 (by omega) (by omega) (fun o k z1 z2 z => hB o k z (by omega)) (ha 16 (by omega) (by omega)) (fun k z1 z2 => ha k (by omega) (by omega)), ⟨?_, fun t ht => ⟨?_, ?_, ?_⟩⟩⟩
  · rw [hB 10 3 (cp10 (by omega)) (by omega), q1]
  · rw [ha 13 (by omega) (by omega), q2]
  · rw [hB 10 9 (cp10 (by omega)) (by omega), q4]
  · rw [ha 14 (by omega) (by omega), q5]
  · intro j hj
    rw [hB 11 j (cp11 (by omega)) (by omega), hB 12 j (cp12 (by omega)) (by omega), ha (180 + 4 * j) (by omega) (by omega), ha (181 + 4 * j) (by omega) (by omega)]
    exact q7 j hj
  · intro t ht
    by_cases e : t = s
    · subst e
      exact Or.inl e1
    · rw [hB 14 t (cp14 (by omega)) (by omega)]
      exact q8 t ht
  · intro j hj
    by_cases e : j = k
    · subst e
      exact Or.inl hk1
    · rw [ha (182 + 4 * j) (by omega) (by omega)]
      exact q9 j hj
  · intro j t hj ht
    by_cases ej : j = k
    · subst ej
      rw [hk1]
      by_cases et : t = s
      · subst et
        rw [e1]
        exact ⟨fun y => absurd y.symm (fun z => nI_ne1 (by omega) z), fun y => absurd y.symm (fun z => nI_ne1 (by omega) z)⟩
      · rw [hB 14 t (cp14 (by omega)) (by omega), ← q10 j t hj ht, hl]
        exact ⟨fun y => absurd y.symm (fun z => nI_ne1 (by omega) z), fun y => absurd (nI_inj (by omega) (by omega) y) (by omega)⟩
    · rw [ha (182 + 4 * j) (by omega) (by omega)]
      by_cases et : t = s
      · subst et
        rw [e1, q10 j t hj ht, hf]
        exact ⟨fun y => absurd (nI_inj (by omega) (by omega) y) (by omega), fun y => absurd y.symm (fun z => nI_ne1 (by omega) z)⟩
      · rw [hB 14 t (cp14 (by omega)) (by omega)]
        exact q10 j t hj ht
  · intro j hj
    unfold swR
    rw [hB 13 j (cp13 (by omega)) (by omega), ha (183 + 4 * j) (by omega) (by omega), ha 10 (by omega) (by omega)]
    rcases q11 j hj with z | ⟨z1, z2, c, z3, z4, z5, z6, z7, z8⟩
    · exact Or.inl z
    · have ej : j ≠ k := fun y => by
        subst y
        rw [hl] at z2
        exact nI_ne1 (by omega) z2
      refine Or.inr ⟨z1, ?_, c, z3, z4, ?_, fun i j1 j2 => ?_, ?_, ?_⟩
      · rw [ha (182 + 4 * j) (by omega) (by omega)]; exact z2
      · rw [hB 16 c (cp16 (by omega)) (by omega)]; exact z5
      · rw [hB 16 i (cp16 (by omega)) (by omega)]; exact z6 i j1 j2
      · rw [hB 18 c (cp18 (by omega)) (by omega)]; exact z7
      · rw [hB 15 c (cp15 (by omega)) (by omega)]; exact z8
  · intro c hc
    rw [hB 16 c (cp16 (by omega)) (by omega), hB 17 c (cp17 (by omega)) (by omega), ha (221 + 4 * c) (by omega) (by omega), ha (222 + 4 * c) (by omega) (by omega)]
    exact q12 c hc
  · rw [hB 31 3 (cp31 (by omega)) (by omega), ha 17 (by omega) (by omega), h7.1]
  · rw [hB 33 t (cp33 (by omega)) (by omega), ha (372 + 4 * t) (by omega) (by omega), (h7.2 t ht).1]
  · rw [hB 34 t (cp34 (by omega)) (by omega), ha (373 + 4 * t) (by omega) (by omega), (h7.2 t ht).2.1]
  · have e370 : a' (370 + 4 * t) = if a (371 + 4 * t) = nI k then 0 else a (370 + 4 * t) := by
      rw [d1 _ (by omega)]
      unfold ulc
      rw [if_neg (fun z => by omega), show 370 + 4 * t + 1 = 371 + 4 * t by omega]
      by_cases z : a (371 + 4 * t) = nI k
      · rw [if_pos ⟨by omega, by omega, by omega, z⟩, if_pos z]
      · rw [if_neg (fun y => z y.2.2.2), if_neg z]
    rw [e2 t ht, e370, ha (371 + 4 * t) (by omega) (by omega)]
    rcases (h7.2 t ht).2.2 with ⟨y1, y2, j, y3, y4⟩ | ⟨y1, y2⟩
    · rw [y2]
      by_cases z : a (371 + 4 * t) = nI k
      · rw [if_pos z, if_pos z]
        exact Or.inr ⟨rfl, rfl⟩
      · rw [if_neg z, if_neg z]
        exact Or.inl ⟨y1, rfl, j, y3, y4⟩
    · refine Or.inr ⟨?_, ?_⟩
      · by_cases z : a (371 + 4 * t) = nI k
        · rw [if_pos z]
        · rw [if_neg z, y1]
      · rw [y2, if_neg (fun z => nI_ne1 (x := k) (by omega) z.symm)]
/-- a context more, of a key that is not loaded -/
theorem op_ctx {B B' : Nat → Nat → Int32} {a a' : Nat → Int32} {f g : UInt32} {nl nc nk nx np na ns : Nat} (h : CRep B f a g nl nc nk nx np na ns) {k s : Nat} (hk : k < nk) (hs : s < 3) (hn : nx < 12) (hu : a (182 + 4 * k) = -1) (e1 : B' 15 nx = a 10) (e2 : B' 16 nx = nI k) (e3 : B' 17 nx = nI s) (e4 : B' 18 nx = 0) (e5 : B' 13 k = 1) (e6 : B' 10 9 = nI (nx + 1)) (d2 : a' (221 + 4 * nx) = nI k) (d3 : a' (222 + 4 * nx) = nI s) (d4 : a' 14 = nI (nx + 1)) (d5 : a' (183 + 4 * k) = nI nx) (hB : ∀ o i, cpd o i → ¬ (((o = 15 ∨ o = 16 ∨ o = 17 ∨ o = 18) ∧ i = nx) ∨ (o = 13 ∧ i = k) ∨ (o = 10 ∧ i = 9)) → B' o i = B o i) (ha : ∀ i, i < 406 → ¬ ((220 + 4 * nx ≤ i ∧ i ≤ 222 + 4 * nx) ∨ i = 14 ∨ i = 183 + 4 * k) → a' i = a i) : CRep B' f a' g nl nc nk (nx + 1) np na ns := by
  obtain ⟨h0, h1, h2, h3, h4, h5, h6, h7⟩ := h
  obtain ⟨q1, q2, q3, q4, q5, q6, q7, q8, q9, q10, q11, q12⟩ := h4
  refine ⟨h0, bdR_congr h1 (fun o k z1 z2 => hB o k z2 (by omega)) (fun k z => ha k (by omega) (by omega)) (fun k z1 z2 => ha k (by omega) (by omega)), enR_congr h2 (fun o k z => hB o k (cpe4 z) (by omega)) (ha 11 (by omega) (by omega)) (fun k z1 z2 => ha k (by omega) (by omega)), enR_congr h3 (fun o k z => hB o k (cpe7 z) (by omega)) (ha 12 (by omega) (by omega)) (fun k z1 z2 => ha k (by omega) (by omega)), ⟨?_, ?_, q3, e6, d4, by omega, ?_, ?_, ?_, ?_, ?_, ?_⟩, plR_congr h5 (by omega) (fun o k z1 z2 z => hB o k z (by omega)) (ha 15 (by omega) (by omega)) (ha 18 (by omega) (by omega)) (fun k z1 z2 => ha k (by omega) (by omega)) (fun k z1 z2 => ha k (by omega) (by omega)), slR_congr h6 (by omega) (by omega) (fun o k z1 z2 z => hB o k z (by omega)) (ha 16 (by omega) (by omega)) (fun k z1 z2 => ha k (by omega) (by omega)), seR_congr h7 (by omega) (fun o k z1 z2 z => hB o k z (by omega)) (ha 17 (by omega) (by omega)) (fun k z1 z2 => ha k (by omega) (by omega))⟩
  · rw [hB 10 3 (cp10 (by omega)) (by omega), q1]
  · rw [ha 13 (by omega) (by omega), q2]
  · intro j hj
    rw [hB 11 j (cp11 (by omega)) (by omega), hB 12 j (cp12 (by omega)) (by omega), ha (180 + 4 * j) (by omega) (by omega), ha (181 + 4 * j) (by omega) (by omega)]
    exact q7 j hj
  · intro t ht
    rw [hB 14 t (cp14 (by omega)) (by omega)]
    exact q8 t ht
  · intro j hj
    rw [ha (182 + 4 * j) (by omega) (by omega)]
    exact q9 j hj
  · intro j t hj ht
    rw [ha (182 + 4 * j) (by omega) (by omega), hB 14 t (cp14 (by omega)) (by omega)]
    exact q10 j t hj ht
  · intro j hj
    by_cases ej : j = k
    · subst ej
      refine Or.inr ⟨e5, ?_, nx, by omega, d5, e2, fun i j1 j2 => by omega, e4, ?_⟩
      · rw [ha (182 + 4 * j) (by omega) (by omega)]; exact hu
      · rw [e1, ha 10 (by omega) (by omega)]
    · unfold swR
      rw [hB 13 j (cp13 (by omega)) (by omega), ha (182 + 4 * j) (by omega) (by omega), ha (183 + 4 * j) (by omega) (by omega), ha 10 (by omega) (by omega)]
      rcases q11 j hj with z | ⟨z1, z2, c, z3, z4, z5, z6, z7, z8⟩
      · exact Or.inl z
      · refine Or.inr ⟨z1, z2, c, by omega, z4, ?_, fun i j1 j2 => ?_, ?_, ?_⟩
        · rw [hB 16 c (cp16 (by omega)) (by omega)]; exact z5
        · by_cases ei : i = nx
          · subst ei
            rw [e2]
            exact fun y => ej (nI_inj (by omega) (by omega) y.symm)
          · rw [hB 16 i (cp16 (by omega)) (by omega)]; exact z6 i j1 (by omega)
        · rw [hB 18 c (cp18 (by omega)) (by omega)]; exact z7
        · rw [hB 15 c (cp15 (by omega)) (by omega)]; exact z8
  · intro c hc
    by_cases ec : c = nx
    · subst ec
      exact ⟨by rw [e2, d2], by rw [e3, d3], ⟨k, hk, d2⟩, s, hs, d3⟩
    · rw [hB 16 c (cp16 (by omega)) (by omega), hB 17 c (cp17 (by omega)) (by omega), ha (221 + 4 * c) (by omega) (by omega), ha (222 + 4 * c) (by omega) (by omega)]
      exact q12 c (by omega)
