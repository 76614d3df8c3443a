/-! COUNT, RENEW, APPROVE: what is said in a session -/
def t254 (gc : Nat → List Vl → IM → FM → Option Rs) (x0 x1 : Int32) : Int32 → IM → FM → Option Rs := (fun r6 I6 F6 => (bI (gc 248 [vR (some (1, 0)), vI x0, vI (3 : Int32), vI x1, vI r6] I6 F6) (fun r7 I7 F7 => (if 0 ≤ r7 then (if inb ((386 : Int32) + x1) 406 then (if inb ((386 : Int32) + x1) 406 then (let I8 : IM := wI I7 1 2 ((386 : Int32) + x1).toNatClampNeg ((I7 1 2 ((386 : Int32) + x1).toNatClampNeg) + (1 : Int32)); (if inb ((386 : Int32) + x1) 406 then (bI (gc 185 [vR (some (1, 0)), vI (I8 1 2 ((386 : Int32) + x1).toNatClampNeg)] I8 F7) (fun r9 I9 F9 => some (vI r9, I9, F9))) else none)) else none) else none) else (bI (gc 186 [vR (some (1, 0)), vI r7] I7 F7) (fun r10 I10 F10 => some (vI r10, I10, F10)))))))
def t255 (gc : Nat → List Vl → IM → FM → Option Rs) (x0 x1 : Int32) : Int32 → IM → FM → Option Rs := (fun r4 I4 F4 => (bI (gc 248 [vR (some (1, 0)), vI x0, vI (4 : Int32), vI x1, vI r4] I4 F4) (fun r5 I5 F5 => (if 0 ≤ r5 then (bI (gc 249 [vR (some (1, 0)), vI x0] I5 F5) (fun r6 I6 F6 => (bI (gc 194 [vI r6] I6 F6) (fun r7 I7 F7 => (if inb (r7 + (1 : Int32)) 406 then (let I8 : IM := wI I7 1 2 (r7 + (1 : Int32)).toNatClampNeg x1; (bI (gc 185 [vR (some (1, 0)), vI (0 : Int32)] I8 F7) (fun r9 I9 F9 => some (vI r9, I9, F9)))) else none))))) else (bI (gc 186 [vR (some (1, 0)), vI r5] I5 F5) (fun r10 I10 F10 => some (vI r10, I10, F10)))))))
def t253 (gc : Nat → List Vl → IM → FM → Option Rs) (x0 x1 r6 : Int32) : Int32 → IM → FM → Option Rs := (fun r8 I8 F8 => (bI (gc 248 [vR (some (1, 0)), vI x0, vI (2 : Int32), vI x1, vI r8] I8 F8) (fun r9 I9 F9 => (if 0 ≤ r9 then (bI (gc 213 [vR (some (1, 0)), vI (18 : Int32), vI (390 : Int32), vI r6, vI x1] I9 F9) (fun r10 I10 F10 => (bI (gc 252 [vR (some (1, 0)), vI r6] I10 F10) (fun r11 I11 F11 => (bI (gc 185 [vR (some (1, 0)), vI r11] I11 F11) (fun r12 I12 F12 => some (vI r12, I12, F12))))))) else (bI (gc 186 [vR (some (1, 0)), vI r9] I9 F9) (fun r13 I13 F13 => some (vI r13, I13, F13)))))))
theorem op_say {B B' : Nat → Nat → Int32} {a a' : Nat → Int32} {f g : UInt32} {nl nc nk nx np na ns : Nat} (h : CRep B f a g nl nc nk nx np na ns) {s : Nat} {u v : Int32} {f' : UInt32} (hs : s < 4) (hf : fok f') (e1 : B' 33 s = u) (e2 : B' 34 s = v) (d1 : a' (372 + 4 * s) = u) (d2 : a' (373 + 4 * s) = v) (hB : ∀ o k, cpd o k → ¬ ((o = 33 ∨ o = 34) ∧ k = s) → B' o k = B o k) (ha : ∀ k, k < 406 → ¬ (k = 372 + 4 * s ∨ k = 373 + 4 * s) → a' k = a k) : CRep B' f' a' f' nl nc nk nx np na ns := by
  obtain ⟨h0, h1, h2, h3, h4, h5, h6, h7⟩ := h
  refine ⟨⟨rfl, hf⟩, bdR_congr h1 (fun o k z1 z2 => hB o k z2 (by omega)) (fun k z => ha k (by omega) (by omega)) (fun k z1 z2 => ha k (by omega) (by omega)), enR_congr h2 (fun o k z => hB o k (cpe4 z) (by omega)) (ha 11 (by omega) (by omega)) (fun k z1 z2 => ha k (by omega) (by omega)), enR_congr h3 (fun o k z => hB o k (cpe7 z) (by omega)) (ha 12 (by omega) (by omega)) (fun k z1 z2 => ha k (by omega) (by omega)), kyR_congr h4 (fun o k z1 z2 z => hB o k z (by omega)) (ha 10 (by omega) (by omega)) (ha 13 (by omega) (by omega)) (ha 14 (by omega) (by omega)) (fun k z1 z2 => ha k (by omega) (by omega)), plR_congr h5 (by omega) (fun o k z1 z2 z => hB o k z (by omega)) (ha 15 (by omega) (by omega)) (ha 18 (by omega) (by omega)) (fun k z1 z2 => ha k (by omega) (by omega)) (fun k z1 z2 => ha k (by omega) (by omega)), slR_congr h6 (by omega) (by omega) (fun o k z1 z2 z => hB o k z (by omega)) (ha 16 (by omega) (by omega)) (fun k z1 z2 => ha k (by omega) (by omega)), ⟨?_, fun t ht => ⟨?_, ?_, ?_⟩⟩⟩
  · rw [hB 31 3 (cp31 (by omega)) (by omega), ha 17 (by omega) (by omega), h7.1]
  · by_cases e : t = s
    · subst e; rw [e1, d1]
    · rw [hB 33 t (cp33 (by omega)) (by omega), ha (372 + 4 * t) (by omega) (by omega), (h7.2 t ht).1]
  · by_cases e : t = s
    · subst e; rw [e2, d2]
    · rw [hB 34 t (cp34 (by omega)) (by omega), ha (373 + 4 * t) (by omega) (by omega), (h7.2 t ht).2.1]
  · rw [hB 32 t (cp32 (by omega)) (by omega), ha (370 + 4 * t) (by omega) (by omega), ha (371 + 4 * t) (by omega) (by omega)]
    exact (h7.2 t ht).2.2
theorem op_sec {B B' : Nat → Nat → Int32} {a a' : Nat → Int32} {f g : UInt32} {nl nc nk nx np na ns : Nat} (h : CRep B f a g nl nc nk nx np na ns) {k : Nat} {x : Int32} (hk : k < nk) (e1 : B' 12 k = x) (d1 : a' (181 + 4 * k) = x) (hB : ∀ o i, cpd o i → ¬ (o = 12 ∧ i = k) → B' o i = B o i) (ha : ∀ i, i < 406 → ¬ i = 181 + 4 * k → a' i = a i) : CRep B' f a' g nl nc nk nx np na ns := by
  obtain ⟨h0, h1, h2, h3, h4, h5, h6, h7⟩ := h
  obtain ⟨q1, q2, q3, q4, q5, q6, q7, q8, q9, q10, q11, q12⟩ := h4
  refine ⟨h0, bdR_congr h1 (fun o k z1 z2 => hB o k z2 (by omega)) (fun k z => ha k (by omega) (by omega)) (fun k z1 z2 => ha k (by omega) (by omega)), enR_congr h2 (fun o k z => hB o k (cpe4 z) (by omega)) (ha 11 (by omega) (by omega)) (fun k z1 z2 => ha k (by omega) (by omega)), enR_congr h3 (fun o k z => hB o k (cpe7 z) (by omega)) (ha 12 (by omega) (by omega)) (fun k z1 z2 => ha k (by omega) (by omega)), ⟨?_, ?_, q3, ?_, ?_, q6, ?_, ?_, ?_, ?_, ?_, ?_⟩, plR_congr h5 (by omega) (fun o k z1 z2 z => hB o k z (by omega)) (ha 15 (by omega) (by omega)) (ha 18 (by omega) (by omega)) (fun k z1 z2 => ha k (by omega) (by omega)) (fun k z1 z2 => ha k (by omega) (by omega)), slR_congr h6 (by omega) (by omega) (fun o k z1 z2 z => hB o k z (by omega)) (ha 16 (by omega) (by omega)) (fun k z1 z2 => ha k (by omega) (by omega)), seR_congr h7 (by omega) (fun o k z1 z2 z => hB o k z (by omega)) (ha 17 (by omega) (by omega)) (fun k z1 z2 => ha k (by omega) (by omega))⟩
  · rw [hB 10 3 (cp10 (by omega)) (by omega), q1]
  · rw [ha 13 (by omega) (by omega), q2]
  · rw [hB 10 9 (cp10 (by omega)) (by omega), q4]
  · rw [ha 14 (by omega) (by omega), q5]
  · intro j hj
    obtain ⟨z1, z2, z3⟩ := q7 j hj
    rw [hB 11 j (cp11 (by omega)) (by omega), ha (180 + 4 * j) (by omega) (by omega)]
    refine ⟨z1, ?_, z3⟩
    by_cases e : j = k
    · subst e; rw [e1, d1]
    · rw [hB 12 j (cp12 (by omega)) (by omega), ha (181 + 4 * j) (by omega) (by omega), z2]
  · intro t ht
    rw [hB 14 t (cp14 (by omega)) (by omega)]
    exact q8 t ht
  · intro j hj
    rw [ha (182 + 4 * j) (by omega) (by omega)]
    exact q9 j hj
  · intro j t hj ht
    rw [ha (182 + 4 * j) (by omega) (by omega), hB 14 t (cp14 (by omega)) (by omega)]
    exact q10 j t hj ht
  · intro j hj
    unfold swR
    rw [hB 13 j (cp13 (by omega)) (by omega), ha (182 + 4 * j) (by omega) (by omega), ha (183 + 4 * j) (by omega) (by omega), ha 10 (by omega) (by omega)]
    rcases q11 j hj with z | ⟨z1, z2, c, z3, z4, z5, z6, z7, z8⟩
    · exact Or.inl z
    · refine Or.inr ⟨z1, z2, c, z3, z4, ?_, fun i j1 j2 => ?_, ?_, ?_⟩
      · rw [hB 16 c (cp16 (by omega)) (by omega)]; exact z5
      · rw [hB 16 i (cp16 (by omega)) (by omega)]; exact z6 i j1 j2
      · rw [hB 18 c (cp18 (by omega)) (by omega)]; exact z7
      · rw [hB 15 c (cp15 (by omega)) (by omega)]; exact z8
  · intro c hc
    rw [hB 16 c (cp16 (by omega)) (by omega), hB 17 c (cp17 (by omega)) (by omega), ha (221 + 4 * c) (by omega) (by omega), ha (222 + 4 * c) (by omega) (by omega)]
    exact q12 c hc
theorem op_appr {B B' : Nat → Nat → Int32} {a a' : Nat → Int32} {f g : UInt32} {nl nc nk nx np na ns : Nat} (h : CRep B f a g nl nc nk nx np na ns) {k p : Nat} (hn : na < 8) (hk : k < nk) (hp : p < np) (e1 : B' 25 na = nI k) (e2 : B' 26 na = nI p) (e3 : B' 19 8 = nI (na + 1)) (d1 : a' (390 + 2 * na) = nI k) (d2 : a' (390 + 2 * na + 1) = nI p) (d3 : a' 18 = nI (na + 1)) (hB : ∀ o i, cpd o i → ¬ (((o = 25 ∨ o = 26) ∧ i = na) ∨ (o = 19 ∧ i = 8)) → B' o i = B o i) (ha : ∀ i, i < 406 → ¬ (i = 390 + 2 * na ∨ i = 390 + 2 * na + 1 ∨ i = 18) → a' i = a i) : CRep B' f a' g nl nc nk nx np (na + 1) ns := by
  obtain ⟨h0, h1, h2, h3, h4, h5, h6, h7⟩ := h
  obtain ⟨q1, q2, q3, q4, q5, q6, q7, q8⟩ := h5
  have hm : tabl (mdT a') np = tabl (mdT a) np := tab_congr (fun q t hq => by unfold mdT; rw [ha (268 + 3 * q) (by omega) (by omega), ha (269 + 3 * q) (by omega) (by omega), ha (270 + 3 * q) (by omega) (by omega)])
  have hn' : tabl (nmT a') np = tabl (nmT a) np := tab_congr (fun q t hq => by unfold nmT; rw [ha (268 + 3 * q) (by omega) (by omega), ha (269 + 3 * q) (by omega) (by omega), ha (270 + 3 * q) (by omega) (by omega)])
  refine ⟨h0, bdR_congr h1 (fun o k z1 z2 => hB o k z2 (by omega)) (fun k z => ha k (by omega) (by omega)) (fun k z1 z2 => ha k (by omega) (by omega)), enR_congr h2 (fun o k z => hB o k (cpe4 z) (by omega)) (ha 11 (by omega) (by omega)) (fun k z1 z2 => ha k (by omega) (by omega)), enR_congr h3 (fun o k z => hB o k (cpe7 z) (by omega)) (ha 12 (by omega) (by omega)) (fun k z1 z2 => ha k (by omega) (by omega)), kyR_congr h4 (fun o k z1 z2 z => hB o k z (by omega)) (ha 10 (by omega) (by omega)) (ha 13 (by omega) (by omega)) (ha 14 (by omega) (by omega)) (fun k z1 z2 => ha k (by omega) (by omega)), ⟨?_, ?_, q3, ?_, e3, d3, by omega, ?_⟩, slR_congr h6 (by omega) (by omega) (fun o k z1 z2 z => hB o k z (by omega)) (ha 16 (by omega) (by omega)) (fun k z1 z2 => ha k (by omega) (by omega)), seR_congr h7 (by omega) (fun o k z1 z2 z => hB o k z (by omega)) (ha 17 (by omega) (by omega)) (fun k z1 z2 => ha k (by omega) (by omega))⟩
  · rw [hB 19 5 (cp19 (by omega)) (by omega), q1]
  · rw [ha 15 (by omega) (by omega), q2]
  · intro q hq
    unfold plOK
    rw [hB 20 q (cp20 (by omega)) (by omega), hB 21 q (cp21 (by omega)) (by omega), hB 22 q (cp22 (by omega)) (by omega), hB 23 q (cp23 (by omega)) (by omega), hB 24 q (cp24 (by omega)) (by omega), hm, hn', ha (268 + 3 * q) (by omega) (by omega), ha (269 + 3 * q) (by omega) (by omega), ha (270 + 3 * q) (by omega) (by omega)]
    exact q4 q hq
  · intro i hi
    by_cases e : i = na
    · subst e
      rw [show 391 + 2 * i = 390 + 2 * i + 1 by omega]
      exact ⟨by rw [e1, d1], by rw [e2, d2], ⟨k, hk, d1⟩, p, hp, d2⟩
    · rw [hB 25 i (cp25 (by omega)) (by omega), hB 26 i (cp26 (by omega)) (by omega), ha (390 + 2 * i) (by omega) (by omega), ha (391 + 2 * i) (by omega) (by omega)]
      exact q8 i (by omega)
def jr (r : Int32) : Nat := if r = -3 then 2 else if r = -4 then 3 else if r = -5 then 4 else if r = -6 then 5 else 6
def rng (r : Int32) : Prop := r = -3 ∨ r = -4 ∨ r = -5 ∨ r = -6 ∨ r = -7
theorem jr_lt (r : Int32) : jr r < 7 := by
  unfold jr
  split
  · omega
  · split
    · omega
    · split
      · omega
      · split <;> omega
theorem r169 {N d : Nat} {I : IM} {F : FM} {r : Int32} (h : rng r) : sem N (d + 1) 169 [vR (some (0, 0)), vI r] I F = some (vI r, rC I r (jr r), F) := by
  rcases h with rfl | rfl | rfl | rfl | rfl
  · exact r169_3
  · exact r169_4
  · exact r169_5
  · exact r169_6
  · exact r169_7
theorem r186 {N d : Nat} {I : IM} {F : FM} {r : Int32} (h : rng r) : sem N (d + 1) 186 [vR (some (1, 0)), vI r] I F = some (vI r, rM I r (jr r + 1), F) := by
  rcases h with rfl | rfl | rfl | rfl | rfl
  · exact r186_3
  · exact r186_4
  · exact r186_5
  · exact r186_6
  · exact r186_7
theorem r170 {N d : Nat} {I : IM} {F : FM} {r : Int32} (h : rng r) : sem N (d + 2) 170 [vR (some (0, 0)), vI r] I F = some (vI 0, rC I r (jr r), F) := by
  rw [s170]; unfold b170
  rw [r169 h, bI_v]
theorem r187 {N d : Nat} {I : IM} {F : FM} {r : Int32} (h : rng r) : sem N (d + 2) 187 [vR (some (1, 0)), vI r] I F = some (vI 0, rM I r (jr r + 1), F) := by
  rw [s187]; unfold b187
  rw [r186 h, bI_v]
theorem rng_n {r : Int32} (h : rng r) : ¬ r = 0 ∧ ¬ 0 ≤ r := by
  rcases h with rfl | rfl | rfl | rfl | rfl <;> decide
/-- what may come of a word -/
theorem hrd_r (f : UInt32) (p w dw : Int32) (hp : p = 0 ∨ p = -4 ∨ p = -5) : (hrd f p w dw = 0 ∧ p = 0) ∨ rng (hrd f p w dw) := by
  unfold hrd rng
  by_cases hf : (Op.cmpValue (FP.fcmp f (1077936128 : UInt32)) CmpOp.l) < 0
  · rw [if_pos hf]
    by_cases h0 : p = 0
    · rw [if_pos h0]
      by_cases hw : w = dw
      · rw [if_pos hw]; exact Or.inl ⟨rfl, h0⟩
      · rw [if_neg hw]; exact Or.inr (by decide)
    · rw [if_neg h0]
      rcases hp with h | h | h
      · exact absurd h h0
      · rw [h]; exact Or.inr (by decide)
      · rw [h]; exact Or.inr (by decide)
  · rw [if_neg hf]; exact Or.inr (by decide)
theorem hrd_6 {f : UInt32} {p w dw : Int32} (hp : p = 0 ∨ p = -4 ∨ p = -5) (h : hrd f p w dw = -6) : (Op.cmpValue (FP.fcmp f (1077936128 : UInt32)) CmpOp.l) < 0 := by
  unfold hrd at h
  by_cases hf : (Op.cmpValue (FP.fcmp f (1077936128 : UInt32)) CmpOp.l) < 0
  · exact hf
  · rw [if_neg hf] at h
    exact absurd h (by decide)
theorem stn_ok {f : UInt32} {p w dw : Int32} (hp : p = 0 ∨ p = -4 ∨ p = -5) (hf : fok f) : fok (stn (hrd f p w dw) f) ∧ (hrd f p w dw = -6 → (FP.fadd f FP.fconst1) &&& 0x7fffffff ≤ 0x7f800000) := by
  unfold stn
  by_cases h : hrd f p w dw = -6
  · rw [if_pos h]
    have := fok_add hf (hrd_6 hp h)
    exact ⟨this.1, fun _ => this.2⟩
  · rw [if_neg h]
    exact ⟨hf, fun z => absurd z h⟩
theorem p_6 {p : Int32} (hp : p = 0 ∨ p = -4 ∨ p = -5) : ¬ p = -6 := by
  rcases hp with rfl | rfl | rfl <;> decide
/-- after a word: the row and the state -/
theorem say_R {B : Nat → Nat → Int32} {a : Nat → Int32} {f g f' : UInt32} {nl nc nk nx np na ns s : Nat} (h : CRep B f a g nl nc nk nx np na ns) (hs : s < 4) (u v : Int32) (hf : fok f') : CRep (fun o i => if o = 33 ∧ i = s then u else if o = 34 ∧ i = s then v else B o i) f' (fun i => if i = 372 + 4 * s then u else if i = 373 + 4 * s then v else a i) f' nl nc nk nx np na ns := by
  refine op_say h (u := u) (v := v) hs hf ?_ ?_ ?_ ?_ ?_ ?_
  · rw [if_pos ⟨rfl, rfl⟩]
  · rw [if_neg (fun z => by omega), if_pos ⟨rfl, rfl⟩]
  · rw [if_pos rfl]
  · rw [if_neg (fun z => by omega), if_pos rfl]
  · intro o k z1 z2
    rw [if_neg (fun z => z2 ⟨Or.inl z.1, z.2⟩), if_neg (fun z => z2 ⟨Or.inr z.1, z.2⟩)]
  · intro k z1 z2
    rw [if_neg (fun z => z2 (Or.inl z)), if_neg (fun z => z2 (Or.inr z))]
theorem sayB {J : IM} {s o i : Nat} {u v : Int32} : wI (wI J 2 33 s u) 2 34 s v 2 o i = if o = 33 ∧ i = s then u else if o = 34 ∧ i = s then v else J 2 o i := by
  rw [wI_eq, wI_eq]
  by_cases h : o = 33 ∧ i = s
  · rw [if_neg (fun z => by omega), if_pos ⟨rfl, h⟩, if_pos h]
  · rw [if_neg (fun z => h z.2) (c := 2 = 2 ∧ o = 33 ∧ i = s), if_neg h]
    by_cases h2 : o = 34 ∧ i = s
    · rw [if_pos ⟨rfl, h2⟩, if_pos h2]
    · rw [if_neg (fun z => h2 z.2), if_neg h2]
theorem sayA {R : IM} {s i : Nat} {u v : Int32} : wI (wI R 1 2 (372 + 4 * s) u) 1 2 (373 + 4 * s) v 1 2 i = if i = 372 + 4 * s then u else if i = 373 + 4 * s then v else R 1 2 i := by
  rw [wI_eq, wI_eq]
  by_cases h : i = 372 + 4 * s
  · rw [if_neg (fun z => by omega), if_pos ⟨rfl, rfl, h⟩, if_pos h]
  · rw [if_neg (fun z => h z.2.2) (c := 1 = 1 ∧ 2 = 2 ∧ i = 372 + 4 * s), if_neg h]
    by_cases h2 : i = 373 + 4 * s
    · rw [if_pos ⟨rfl, rfl, h2⟩, if_pos h2]
    · rw [if_neg (fun z => h2 z.2.2), if_neg h2]
