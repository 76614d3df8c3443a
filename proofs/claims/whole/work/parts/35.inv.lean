/-! WHAT BINDS CLASS AND REFERENCE: a state of the class (its ints B, its strain f) and a row of the reference (a, its strain g) -/
/-- a strain is no NaN, not below 0, and at most 4 -/
def fok (f : UInt32) : Prop := f ≤ 1082130432
def bdR (B : Nat → Nat → Int32) (a : Nat → Int32) : Prop := B 1 2 = a 8 ∧ B 1 3 = a 9 ∧ B 1 4 = a 10 ∧ (∀ r, r < 8 → B 2 r = a r) ∧ (∀ c, c < 4 → B 3 c = a (386 + c) ∧ ∃ n, n ≤ 9999 ∧ a (386 + c) = nI n) ∧ ∃ l, l < 4 ∧ a 8 = nI l
def enR (B : Nat → Nat → Int32) (a : Nat → Int32) (o i p n : Nat) : Prop := B o 2 = nI n ∧ a i = nI n ∧ n ≤ 40 ∧ ∀ k, k < n → B (o + 1) k = a (p + 2 * k) ∧ B (o + 2) k = a (p + 2 * k + 1) ∧ ∃ r, r < 8 ∧ a (p + 2 * k) = nI r
def swR (B : Nat → Nat → Int32) (a : Nat → Int32) (nx k : Nat) : Prop := (B 13 k = 0 ∧ a (183 + 4 * k) = -1) ∨ (B 13 k = 1 ∧ a (182 + 4 * k) = -1 ∧ ∃ c, c < nx ∧ a (183 + 4 * k) = nI c ∧ B 16 c = nI k ∧ (∀ j, c < j → j < nx → B 16 j ≠ nI k) ∧ B 18 c = 0 ∧ B 15 c = a 10)
def kyR (B : Nat → Nat → Int32) (a : Nat → Int32) (nk nx : Nat) : Prop := B 10 3 = nI nk ∧ a 13 = nI nk ∧ nk ≤ 10 ∧ B 10 9 = nI nx ∧ a 14 = nI nx ∧ nx ≤ 12 ∧
  (∀ k, k < nk → B 11 k = a (180 + 4 * k) ∧ B 12 k = a (181 + 4 * k) ∧ (a (180 + 4 * k) = -1 ∨ ∃ p, p < k ∧ a (180 + 4 * k) = nI p)) ∧
  (∀ s, s < 3 → B 14 s = -1 ∨ ∃ k, k < nk ∧ B 14 s = nI k) ∧ (∀ k, k < nk → a (182 + 4 * k) = -1 ∨ ∃ s, s < 3 ∧ a (182 + 4 * k) = nI s) ∧ (∀ k s, k < nk → s < 3 → (a (182 + 4 * k) = nI s ↔ B 14 s = nI k)) ∧
  (∀ k, k < nk → swR B a nx k) ∧ (∀ c, c < nx → B 16 c = a (221 + 4 * c) ∧ B 17 c = a (222 + 4 * c) ∧ (∃ k, k < nk ∧ a (221 + 4 * c) = nI k) ∧ ∃ s, s < 3 ∧ a (222 + 4 * c) = nI s)
/-- tables that are told from the lowest on -/
def tabl (f : Nat → (Nat → Int32) → Int32) : Nat → Nat → Int32
  | 0, _ => 0
  | p + 1, q => if q = p then f p (tabl f p) else tabl f p q
def mdT (a : Nat → Int32) (p : Nat) (t : Nat → Int32) : Int32 := mkd t (a (268 + 3 * p)) (a (269 + 3 * p)) (a (270 + 3 * p))
def nmT (a : Nat → Int32) (p : Nat) (t : Nat → Int32) : Int32 := nmd t (a (268 + 3 * p)) (a (269 + 3 * p)) (a (270 + 3 * p))
def plOK (a : Nat → Int32) (nk p : Nat) : Prop := (a (268 + 3 * p) = 0 ∧ inb (a (269 + 3 * p)) 256) ∨ (a (268 + 3 * p) = 1 ∧ inb (a (269 + 3 * p)) 4) ∨ a (268 + 3 * p) = 2 ∨ ((a (268 + 3 * p) = 3 ∨ a (268 + 3 * p) = 4) ∧ inb (a (269 + 3 * p)) p ∧ inb (a (270 + 3 * p)) p) ∨ a (268 + 3 * p) = 5 ∨ (a (268 + 3 * p) = 6 ∧ inb (a (269 + 3 * p)) nk) ∨ (a (268 + 3 * p) = 7 ∧ inb (a (269 + 3 * p)) 8)
def plR (B : Nat → Nat → Int32) (a : Nat → Int32) (nk np na : Nat) : Prop := B 19 5 = nI np ∧ a 15 = nI np ∧ np ≤ 24 ∧ (∀ p, p < np → B 20 p = a (268 + 3 * p) ∧ B 21 p = a (269 + 3 * p) ∧ B 22 p = a (270 + 3 * p) ∧ B 23 p = tabl (mdT a) np p ∧ B 24 p = tabl (nmT a) np p ∧ plOK a nk p) ∧
  B 19 8 = nI na ∧ a 18 = nI na ∧ na ≤ 8 ∧ ∀ i, i < na → B 25 i = a (390 + 2 * i) ∧ B 26 i = a (391 + 2 * i) ∧ (∃ k, k < nk ∧ a (390 + 2 * i) = nI k) ∧ ∃ p, p < np ∧ a (391 + 2 * i) = nI p
def slR (B : Nat → Nat → Int32) (a : Nat → Int32) (nk np ns : Nat) : Prop := B 27 3 = nI ns ∧ a 16 = nI ns ∧ ns ≤ 10 ∧ ∀ s, s < ns → B 28 s = a (340 + 3 * s) ∧ B 29 s = a (341 + 3 * s) ∧ B 30 s = a (342 + 3 * s) ∧ (∃ k, k < nk ∧ a (341 + 3 * s) = nI k) ∧ (a (342 + 3 * s) = -1 ∨ ∃ p, p < np ∧ a (342 + 3 * s) = nI p)
def seR (B : Nat → Nat → Int32) (a : Nat → Int32) (nk : Nat) : Prop := B 31 3 = a 17 ∧ ∀ s, s < 4 → B 33 s = a (372 + 4 * s) ∧ B 34 s = a (373 + 4 * s) ∧ ((a (370 + 4 * s) = 1 ∧ B 32 s = a (371 + 4 * s) ∧ ∃ k, k < nk ∧ a (371 + 4 * s) = nI k) ∨ (a (370 + 4 * s) = 0 ∧ B 32 s = -1))
def CRep (B : Nat → Nat → Int32) (f : UInt32) (a : Nat → Int32) (g : UInt32) (nl nc nk nx np na ns : Nat) : Prop := (f = g ∧ fok f) ∧ bdR B a ∧ enR B a 4 11 20 nl ∧ enR B a 7 12 100 nc ∧ kyR B a nk nx ∧ plR B a nk np na ∧ slR B a nk np ns ∧ seR B a nk
def CR (B : Nat → Nat → Int32) (f : UInt32) (a : Nat → Int32) (g : UInt32) : Prop := ∃ nl nc nk nx np na ns, CRep B f a g nl nc nk nx np na ns
/-! each piece speaks of its own places alone -/
theorem bdR_congr {B B' : Nat → Nat → Int32} {a a' : Nat → Int32} (h : bdR B a) (hB : ∀ o k, o ≤ 3 → cpd o k → B' o k = B o k) (ha : ∀ k, k < 11 → a' k = a k) (ha2 : ∀ k, 386 ≤ k → k < 390 → a' k = a k) : bdR B' a' := by
  obtain ⟨h1, h2, h3, h4, h5, h6⟩ := h
  refine ⟨?_, ?_, ?_, ?_, ?_, ?_⟩
  · rw [hB 1 2 (by omega) (cp1 (by omega)), ha 8 (by omega), h1]
  · rw [hB 1 3 (by omega) (cp1 (by omega)), ha 9 (by omega), h2]
  · rw [hB 1 4 (by omega) (cp1 (by omega)), ha 10 (by omega), h3]
  · intro r hr
    rw [hB 2 r (by omega) (cp2 (by omega)), ha r (by omega), h4 r hr]
  · intro c hc
    rw [hB 3 c (by omega) (cp3 (by omega)), ha2 (386 + c) (by omega) (by omega)]
    exact h5 c hc
  · rw [ha 8 (by omega)]; exact h6
theorem enR_congr {B B' : Nat → Nat → Int32} {a a' : Nat → Int32} {o i p n : Nat} (h : enR B a o i p n) (hB : ∀ o' k, (o' = o ∧ k = 2) ∨ (o' = o + 1 ∧ k < 40) ∨ (o' = o + 2 ∧ k < 40) → B' o' k = B o' k) (ha : a' i = a i) (ha2 : ∀ k, p ≤ k → k < p + 80 → a' k = a k) : enR B' a' o i p n := by
  obtain ⟨h1, h2, h3, h4⟩ := h
  refine ⟨by rw [hB o 2 (by omega), h1], by rw [ha, h2], h3, fun k hk => ?_⟩
  obtain ⟨z1, z2, z3⟩ := h4 k hk
  rw [hB (o + 1) k (by omega), hB (o + 2) k (by omega), ha2 (p + 2 * k) (by omega) (by omega), ha2 (p + 2 * k + 1) (by omega) (by omega)]
  exact ⟨z1, z2, z3⟩
theorem kyR_congr {B B' : Nat → Nat → Int32} {a a' : Nat → Int32} {nk nx : Nat} (h : kyR B a nk nx) (hB : ∀ o k, 10 ≤ o → o ≤ 18 → cpd o k → B' o k = B o k) (h10 : a' 10 = a 10) (h13 : a' 13 = a 13) (h14 : a' 14 = a 14) (ha : ∀ k, 180 ≤ k → k < 268 → a' k = a k) : kyR B' a' nk nx := by
  obtain ⟨q1, q2, q3, q4, q5, q6, q7, q8, q9, q10, q11, q12⟩ := h
  refine ⟨by rw [hB 10 3 (by omega) (by omega) (cp10 (by omega)), q1], by rw [h13, q2], q3, by rw [hB 10 9 (by omega) (by omega) (cp10 (by omega)), q4], by rw [h14, q5], q6, ?_, ?_, ?_, ?_, ?_, ?_⟩
  · intro k hk
    rw [hB 11 k (by omega) (by omega) (cp11 (by omega)), hB 12 k (by omega) (by omega) (cp12 (by omega)), ha (180 + 4 * k) (by omega) (by omega), ha (181 + 4 * k) (by omega) (by omega)]
    exact q7 k hk
  · intro s hs
    rw [hB 14 s (by omega) (by omega) (cp14 (by omega))]
    exact q8 s hs
  · intro k hk
    rw [ha (182 + 4 * k) (by omega) (by omega)]
    exact q9 k hk
  · intro k s hk hs
    rw [ha (182 + 4 * k) (by omega) (by omega), hB 14 s (by omega) (by omega) (cp14 (by omega))]
    exact q10 k s hk hs
  · intro k hk
    unfold swR
    rw [hB 13 k (by omega) (by omega) (cp13 (by omega)), ha (182 + 4 * k) (by omega) (by omega), ha (183 + 4 * k) (by omega) (by omega), h10]
    rcases q11 k hk with z | ⟨z1, z2, c, z3, z4, z5, z6, z7, z8⟩
    · exact Or.inl z
    · refine Or.inr ⟨z1, z2, c, z3, z4, ?_, ?_, ?_, ?_⟩
      · rw [hB 16 c (by omega) (by omega) (cp16 (by omega))]; exact z5
      · intro j j1 j2
        rw [hB 16 j (by omega) (by omega) (cp16 (by omega))]; exact z6 j j1 j2
      · rw [hB 18 c (by omega) (by omega) (cp18 (by omega))]; exact z7
      · rw [hB 15 c (by omega) (by omega) (cp15 (by omega))]; exact z8
  · intro c hc
    rw [hB 16 c (by omega) (by omega) (cp16 (by omega)), hB 17 c (by omega) (by omega) (cp17 (by omega)), ha (221 + 4 * c) (by omega) (by omega), ha (222 + 4 * c) (by omega) (by omega)]
    exact q12 c hc
theorem tab_congr {f g : Nat → (Nat → Int32) → Int32} : ∀ {p : Nat}, (∀ q t, q < p → f q t = g q t) → tabl f p = tabl g p := by
  intro p
  induction p with
  | zero => intro _; rfl
  | succ p ih =>
    intro h
    funext q
    show (if q = p then f p (tabl f p) else tabl f p q) = (if q = p then g p (tabl g p) else tabl g p q)
    rw [ih (fun q t hq => h q t (by omega)), h p _ (by omega)]
theorem tab_lt {f : Nat → (Nat → Int32) → Int32} {q : Nat} : ∀ {p r : Nat}, q < p → p ≤ r → tabl f r q = tabl f p q := by
  intro p r
  induction r with
  | zero => intro h1 h2; omega
  | succ r ih =>
    intro h1 h2
    by_cases e : p = r + 1
    · rw [e]
    · show (if q = r then f r (tabl f r) else tabl f r q) = _
      rw [if_neg (by omega), ih h1 (by omega)]
theorem tab_at {f : Nat → (Nat → Int32) → Int32} (p : Nat) : tabl f (p + 1) p = f p (tabl f p) := by
  show (if p = p then _ else _) = _
  rw [if_pos rfl]
theorem plR_congr {B B' : Nat → Nat → Int32} {a a' : Nat → Int32} {nk nk' np na : Nat} (h : plR B a nk np na) (hk : nk ≤ nk') (hB : ∀ o k, 19 ≤ o → o ≤ 26 → cpd o k → B' o k = B o k) (h15 : a' 15 = a 15) (h18 : a' 18 = a 18) (ha : ∀ k, 268 ≤ k → k < 340 → a' k = a k) (ha2 : ∀ k, 390 ≤ k → k < 406 → a' k = a k) : plR B' a' nk' np na := by
  obtain ⟨q1, q2, q3, q4, q5, q6, q7, q8⟩ := h
  have hm : tabl (mdT a') np = tabl (mdT a) np := tab_congr (fun q t hq => by unfold mdT; rw [ha (268 + 3 * q) (by omega) (by omega), ha (269 + 3 * q) (by omega) (by omega), ha (270 + 3 * q) (by omega) (by omega)])
  have hn : tabl (nmT a') np = tabl (nmT a) np := tab_congr (fun q t hq => by unfold nmT; rw [ha (268 + 3 * q) (by omega) (by omega), ha (269 + 3 * q) (by omega) (by omega), ha (270 + 3 * q) (by omega) (by omega)])
  refine ⟨by rw [hB 19 5 (by omega) (by omega) (cp19 (by omega)), q1], by rw [h15, q2], q3, ?_, by rw [hB 19 8 (by omega) (by omega) (cp19 (by omega)), q5], by rw [h18, q6], q7, ?_⟩
  · intro p hp
    obtain ⟨z1, z2, z3, z4, z5, z6⟩ := q4 p hp
    unfold plOK at z6 ⊢
    rw [hB 20 p (by omega) (by omega) (cp20 (by omega)), hB 21 p (by omega) (by omega) (cp21 (by omega)), hB 22 p (by omega) (by omega) (cp22 (by omega)), hB 23 p (by omega) (by omega) (cp23 (by omega)), hB 24 p (by omega) (by omega) (cp24 (by omega)), hm, hn, ha (268 + 3 * p) (by omega) (by omega), ha (269 + 3 * p) (by omega) (by omega), ha (270 + 3 * p) (by omega) (by omega)]
    refine ⟨z1, z2, z3, z4, z5, ?_⟩
    rcases z6 with z | z | z | z | z | ⟨y1, y2⟩ | z
    · exact Or.inl z
    · exact Or.inr (Or.inl z)
    · exact Or.inr (Or.inr (Or.inl z))
    · exact Or.inr (Or.inr (Or.inr (Or.inl z)))
    · exact Or.inr (Or.inr (Or.inr (Or.inr (Or.inl z))))
    · exact Or.inr (Or.inr (Or.inr (Or.inr (Or.inr (Or.inl ⟨y1, inb_mono hk y2⟩)))))
    · exact Or.inr (Or.inr (Or.inr (Or.inr (Or.inr (Or.inr z)))))
  · intro i hi
    rw [hB 25 i (by omega) (by omega) (cp25 (by omega)), hB 26 i (by omega) (by omega) (cp26 (by omega)), ha2 (390 + 2 * i) (by omega) (by omega), ha2 (391 + 2 * i) (by omega) (by omega)]
    obtain ⟨z1, z2, ⟨k, z3, z4⟩, z5⟩ := q8 i hi
    exact ⟨z1, z2, ⟨k, by omega, z4⟩, z5⟩
theorem slR_congr {B B' : Nat → Nat → Int32} {a a' : Nat → Int32} {nk nk' np np' ns : Nat} (h : slR B a nk np ns) (hk : nk ≤ nk') (hp : np ≤ np') (hB : ∀ o k, 27 ≤ o → o ≤ 30 → cpd o k → B' o k = B o k) (h16 : a' 16 = a 16) (ha : ∀ k, 340 ≤ k → k < 370 → a' k = a k) : slR B' a' nk' np' ns := by
  obtain ⟨q1, q2, q3, q4⟩ := h
  refine ⟨by rw [hB 27 3 (by omega) (by omega) (cp27 (by omega)), q1], by rw [h16, q2], q3, ?_⟩
  intro s hs
  obtain ⟨z1, z2, z3, ⟨k, z4, z5⟩, z6⟩ := q4 s hs
  rw [hB 28 s (by omega) (by omega) (cp28 (by omega)), hB 29 s (by omega) (by omega) (cp29 (by omega)), hB 30 s (by omega) (by omega) (cp30 (by omega)), ha (340 + 3 * s) (by omega) (by omega), ha (341 + 3 * s) (by omega) (by omega), ha (342 + 3 * s) (by omega) (by omega)]
  refine ⟨z1, z2, z3, ⟨k, by omega, z5⟩, ?_⟩
  rcases z6 with z | ⟨p, y1, y2⟩
  · exact Or.inl z
  · exact Or.inr ⟨p, by omega, y2⟩
theorem seR_congr {B B' : Nat → Nat → Int32} {a a' : Nat → Int32} {nk nk' : Nat} (h : seR B a nk) (hk : nk ≤ nk') (hB : ∀ o k, 31 ≤ o → o ≤ 34 → cpd o k → B' o k = B o k) (h17 : a' 17 = a 17) (ha : ∀ k, 370 ≤ k → k < 386 → a' k = a k) : seR B' a' nk' := by
  obtain ⟨q1, q2⟩ := h
  refine ⟨by rw [hB 31 3 (by omega) (by omega) (cp31 (by omega)), h17, q1], fun s hs => ?_⟩
  obtain ⟨z1, z2, z3⟩ := q2 s hs
  rw [hB 32 s (by omega) (by omega) (cp32 (by omega)), hB 33 s (by omega) (by omega) (cp33 (by omega)), hB 34 s (by omega) (by omega) (cp34 (by omega)), ha (370 + 4 * s) (by omega) (by omega), ha (371 + 4 * s) (by omega) (by omega), ha (372 + 4 * s) (by omega) (by omega), ha (373 + 4 * s) (by omega) (by omega)]
  refine ⟨z1, z2, ?_⟩
  rcases z3 with ⟨y1, y2, k, y3, y4⟩ | z
  · exact Or.inl ⟨y1, y2, k, by omega, y4⟩
  · exact Or.inr z
theorem CRep_congr {B B' : Nat → Nat → Int32} {a a' : Nat → Int32} {f g f' g' : UInt32} {nl nc nk nx np na ns : Nat} (h : CRep B f a g nl nc nk nx np na ns) (hf : f' = f) (hg : g' = g) (hB : ∀ o k, cpd o k → B' o k = B o k) (ha : ∀ k, k < 406 → a' k = a k) : CRep B' f' a' g' nl nc nk nx np na ns := by
  obtain ⟨h0, h1, h2, h3, h4, h5, h6, h7⟩ := h
  refine ⟨by rw [hf, hg]; exact h0, bdR_congr h1 (fun o k _ z => hB o k z) (fun k z => ha k (by omega)) (fun k _ z => ha k (by omega)), enR_congr h2 (fun o k z => hB o k (cpe4 z)) (ha 11 (by omega)) (fun k _ z => ha k (by omega)), enR_congr h3 (fun o k z => hB o k (cpe7 z)) (ha 12 (by omega)) (fun k _ z => ha k (by omega)), kyR_congr h4 (fun o k _ _ z => hB o k z) (ha 10 (by omega)) (ha 13 (by omega)) (ha 14 (by omega)) (fun k _ z => ha k (by omega)), plR_congr h5 (Nat.le_refl _) (fun o k _ _ z => hB o k z) (ha 15 (by omega)) (ha 18 (by omega)) (fun k _ z => ha k (by omega)) (fun k _ z => ha k (by omega)), slR_congr h6 (Nat.le_refl _) (Nat.le_refl _) (fun o k _ _ z => hB o k z) (ha 16 (by omega)) (fun k _ z => ha k (by omega)), seR_congr h7 (Nat.le_refl _) (fun o k _ _ z => hB o k z) (ha 17 (by omega)) (fun k _ z => ha k (by omega))⟩
theorem CR_congr {B B' : Nat → Nat → Int32} {a a' : Nat → Int32} {f g f' g' : UInt32} (h : CR B f a g) (hf : f' = f) (hg : g' = g) (hB : ∀ o k, cpd o k → B' o k = B o k) (ha : ∀ k, k < 406 → a' k = a k) : CR B' f' a' g' := by
  obtain ⟨nl, nc, nk, nx, np, na, ns, h⟩ := h
  exact ⟨nl, nc, nk, nx, np, na, ns, CRep_congr h hf hg hB ha⟩
/-! the whole: now, what is remembered, images, refusals -/
def HE (I : IM) (F : FM) (j i : Nat) : Prop := CR (I (4 + j)) (F (4 + j) 1 5) (fun k => I 1 3 (406 * i + k)) (F 1 4 i) ∧ I 0 14 j = I 1 5 i
def Hist (I : IM) (F : FM) : Prop := ∃ n q, n ≤ 8 ∧ q < 8 ∧ I 1 0 8 = nI n ∧ I 0 12 3 = nI n ∧ I 0 12 2 = nI q ∧ ∀ i, i < n → HE I F ((q + 8 - n + i) % 8) i
def Img (I : IM) (F : FM) : Prop := ∀ k, k < 2 → (I 0 16 k = 0 ∧ I 1 9 k = 0) ∨ (I 0 16 k = 1 ∧ I 1 9 k = 1 ∧ CR (I (12 + k)) (F (12 + k) 1 5) (fun i => I 1 6 (406 * k + i)) (F 1 8 k))
def Rfs (I : IM) : Prop := I 0 0 6 = I 1 0 1 ∧ ∀ i, i < 7 → I 0 17 i = I 1 1 (i + 1)
def Now (I : IM) (F : FM) : Prop := CR (I 2) (F 2 1 5) (I 1 2) (F 1 0 4)
def InvC (I : IM) (F : FM) : Prop := Now I F ∧ Hist I F ∧ Img I F ∧ Rfs I
/-- where two stores agree that the invariant sees alike -/
def eqH (I J : IM) (F G : FM) : Prop := J 1 0 8 = I 1 0 8 ∧ J 0 12 3 = I 0 12 3 ∧ J 0 12 2 = I 0 12 2 ∧ (∀ j, j < 8 → J 0 14 j = I 0 14 j ∧ G (4 + j) 1 5 = F (4 + j) 1 5 ∧ ∀ o k, cpd o k → J (4 + j) o k = I (4 + j) o k) ∧ (∀ i, i < 8 → J 1 5 i = I 1 5 i ∧ G 1 4 i = F 1 4 i) ∧ ∀ k, k < 3248 → J 1 3 k = I 1 3 k
def eqM (I J : IM) (F G : FM) : Prop := (∀ k, k < 2 → J 0 16 k = I 0 16 k ∧ J 1 9 k = I 1 9 k ∧ G (12 + k) 1 5 = F (12 + k) 1 5 ∧ G 1 8 k = F 1 8 k ∧ ∀ o i, cpd o i → J (12 + k) o i = I (12 + k) o i) ∧ ∀ k, k < 812 → J 1 6 k = I 1 6 k
theorem Hist_congr {I J : IM} {F G : FM} (h : Hist I F) (e : eqH I J F G) : Hist J G := by
  obtain ⟨n, q, h1, h2, h3, h4, h5, h6⟩ := h
  obtain ⟨e1, e2, e3, e4, e5, e6⟩ := e
  refine ⟨n, q, h1, h2, by rw [e1, h3], by rw [e2, h4], by rw [e3, h5], fun i hi => ?_⟩
  obtain ⟨z1, z2⟩ := h6 i hi
  obtain ⟨y1, y2, y3⟩ := e4 ((q + 8 - n + i) % 8) (by omega)
  refine ⟨CR_congr z1 y2 (e5 i (by omega)).2 y3 (fun k hk => e6 _ (by omega)), by rw [y1, (e5 i (by omega)).1, z2]⟩
theorem Img_congr {I J : IM} {F G : FM} (h : Img I F) (e : eqM I J F G) : Img J G := by
  intro k hk
  obtain ⟨e1, e2⟩ := e
  obtain ⟨y1, y2, y3, y4, y5⟩ := e1 k hk
  rw [y1, y2]
  rcases h k hk with z | ⟨z1, z2, z3⟩
  · exact Or.inl z
  · exact Or.inr ⟨z1, z2, CR_congr z3 y3 y4 y5 (fun i hi => e2 _ (by omega))⟩
/-- the places of which the invariant speaks, now aside -/
def kq (b o k : Nat) : Prop := (b = 0 ∧ (o = 12 ∨ o = 14 ∨ o = 16)) ∨ (b = 1 ∧ ((o = 0 ∧ k = 8) ∨ o = 3 ∨ o = 5 ∨ o = 6 ∨ o = 9)) ∨ 4 ≤ b
/-- the places of which the invariant speaks, now aside -/
def kpl (b o k : Nat) : Prop := (b = 0 ∧ ((o = 0 ∧ k = 6) ∨ o = 12 ∨ o = 14 ∨ o = 16 ∨ o = 17)) ∨ (b = 1 ∧ ((o = 0 ∧ (k = 1 ∨ k = 8)) ∨ o = 1 ∨ o = 3 ∨ o = 5 ∨ o = 6 ∨ o = 9)) ∨ 4 ≤ b
theorem eqH_of {I J : IM} {F G : FM} (h : ∀ b o k, kq b o k → J b o k = I b o k) (hF : ∀ b k, 4 ≤ b → G b 1 k = F b 1 k) (hF2 : ∀ k, G 1 4 k = F 1 4 k) : eqH I J F G := by
  refine ⟨h _ _ _ ?_, h _ _ _ ?_, h _ _ _ ?_, fun j hj => ⟨h _ _ _ ?_, hF _ _ (by omega), fun o k _ => h _ _ _ ?_⟩, fun i hi => ⟨h _ _ _ ?_, hF2 i⟩, fun k hk => h _ _ _ ?_⟩ <;> unfold kq <;> omega
theorem eqM_of {I J : IM} {F G : FM} (h : ∀ b o k, kq b o k → J b o k = I b o k) (hF : ∀ b k, 4 ≤ b → G b 1 k = F b 1 k) (hF2 : ∀ k, G 1 8 k = F 1 8 k) : eqM I J F G := by
  refine ⟨fun k hk => ⟨h _ _ _ ?_, h _ _ _ ?_, hF _ _ (by omega), hF2 k, fun o i _ => h _ _ _ ?_⟩, fun k hk => h _ _ _ ?_⟩ <;> unfold kq <;> omega
/-- a question: nothing of all this changes -/
theorem Inv_q {I J : IM} {F G : FM} (hI : InvC I F) (h : ∀ b o k, kpl b o k → J b o k = I b o k) (h2 : ∀ o k, J 2 o k = I 2 o k) (hr : ∀ k, J 1 2 k = I 1 2 k) (hF : ∀ b o k, b ≠ 3 → G b o k = F b o k) : InvC J G := by
  obtain ⟨i1, i2, i3, i4, i5⟩ := hI
  refine ⟨CR_congr i1 (hF _ _ _ (by omega)) (hF _ _ _ (by omega)) (fun o k _ => h2 o k) (fun k _ => hr k), Hist_congr i2 (eqH_of (fun b o k z => h b o k (by unfold kpl; unfold kq at z; omega)) (fun b k hb => hF _ _ _ (by omega)) (fun k => hF _ _ _ (by omega))), Img_congr i3 (eqM_of (fun b o k z => h b o k (by unfold kpl; unfold kq at z; omega)) (fun b k hb => hF _ _ _ (by omega)) (fun k => hF _ _ _ (by omega))), ?_, ?_⟩
  · rw [h 0 0 6 (by unfold kpl; omega), h 1 0 1 (by unfold kpl; omega), i4]
  · intro i hi
    rw [h 0 17 i (by unfold kpl; omega), h 1 1 (i + 1) (by unfold kpl; omega), i5 i hi]
