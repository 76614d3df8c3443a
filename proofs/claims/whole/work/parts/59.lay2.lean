/-! THE REFERENCE LAYS ITS POLICIES OUT: the tables stand -/
def jn2 (a : Nat → Int32) (c : Nat) : Prop := a (268 + 3 * c) = 3 ∨ a (268 + 3 * c) = 4 → ∃ u v, u < c ∧ v < c ∧ a (269 + 3 * c) = nI u ∧ a (270 + 3 * c) = nI v
theorem jn_ok {a : Nat → Int32} {nk c : Nat} (h : plOK a nk c) : jn2 a c := by
  intro hk
  have n : ∀ x y : Int32, x = y → (x = 3 ∨ x = 4) → (y = 3 ∨ y = 4) := fun x y e z => e ▸ z
  rcases h with ⟨z, -⟩ | ⟨z, -⟩ | z | ⟨-, h1, h2⟩ | z | ⟨z, -⟩ | ⟨z, -⟩
  · exact absurd (n _ _ z hk) (by decide)
  · exact absurd (n _ _ z hk) (by decide)
  · exact absurd (n _ _ z hk) (by decide)
  · obtain ⟨u, hu, -, eu, -⟩ := inb_get h1
    obtain ⟨v, hv, -, ev, -⟩ := inb_get h2
    exact ⟨u, v, hu, hv, eu, ev⟩
  · exact absurd (n _ _ z hk) (by decide)
  · exact absurd (n _ _ z hk) (by decide)
  · exact absurd (n _ _ z hk) (by decide)
theorem jn_lt {a : Nat → Int32} {c : Nat} (h : jn2 a c) (hc : c < 24) (hk : a (268 + 3 * c) = 3 ∨ a (268 + 3 * c) = 4) : (a (269 + 3 * c)).toNatClampNeg < c ∧ (a (270 + 3 * c)).toNatClampNeg < c := by
  obtain ⟨u, v, hu, hv, eu, ev⟩ := h hk
  rw [eu, ev, nI_clamp (by omega), nI_clamp (by omega)]
  exact ⟨hu, hv⟩
section VL
variable {a : Nat → Int32} {l : Int32} {nl na c : Nat}
theorem vE (hj : jn2 a c) (hc : c < 24) : tv (eF a l nl) c = if a (268 + 3 * c) = 3 then mnI (tv (eF a l nl) (a (269 + 3 * c)).toNatClampNeg) (tv (eF a l nl) (a (270 + 3 * c)).toNatClampNeg) else if a (268 + 3 * c) = 4 then mxI (tv (eF a l nl) (a (269 + 3 * c)).toNatClampNeg) (tv (eF a l nl) (a (270 + 3 * c)).toNatClampNeg) else if a (268 + 3 * c) = 5 then a (270 + 3 * c) else if tv (brF a l nl) c = 0 then -1 else 100000 := by
  refine (tv_eq (eF a l nl) c).trans ?_
  show (if a (268 + 3 * c) = 3 then mnI (tabl (eF a l nl) c (a (269 + 3 * c)).toNatClampNeg) (tabl (eF a l nl) c (a (270 + 3 * c)).toNatClampNeg) else if a (268 + 3 * c) = 4 then mxI (tabl (eF a l nl) c (a (269 + 3 * c)).toNatClampNeg) (tabl (eF a l nl) c (a (270 + 3 * c)).toNatClampNeg) else if a (268 + 3 * c) = 5 then a (270 + 3 * c) else if tv (brF a l nl) c = 0 then -1 else 100000) = _
  by_cases h3 : a (268 + 3 * c) = 3
  · have z := jn_lt hj hc (Or.inl h3)
    rw [if_pos h3, if_pos h3, tv_lt z.1, tv_lt z.2]
  · rw [if_neg h3, if_neg h3]
    by_cases h4 : a (268 + 3 * c) = 4
    · have z := jn_lt hj hc (Or.inr h4)
      rw [if_pos h4, if_pos h4, tv_lt z.1, tv_lt z.2]
    · rw [if_neg h4, if_neg h4]
theorem vH (hj : jn2 a c) (hc : c < 24) : tv (hF a l nl na) c = if a (268 + 3 * c) = 3 then bz (¬ tv (hF a l nl na) (a (269 + 3 * c)).toNatClampNeg = 0 ∧ ¬ tv (hF a l nl na) (a (270 + 3 * c)).toNatClampNeg = 0) else if a (268 + 3 * c) = 4 then bz (¬ tv (hF a l nl na) (a (269 + 3 * c)).toNatClampNeg = 0 ∨ ¬ tv (hF a l nl na) (a (270 + 3 * c)).toNatClampNeg = 0) else if a (268 + 3 * c) = 6 then bz (sgd a l nl na (a (269 + 3 * c)) = true) else tv (brF a l nl) c := by
  refine (tv_eq (hF a l nl na) c).trans ?_
  show (if a (268 + 3 * c) = 3 then bz (¬ tabl (hF a l nl na) c (a (269 + 3 * c)).toNatClampNeg = 0 ∧ ¬ tabl (hF a l nl na) c (a (270 + 3 * c)).toNatClampNeg = 0) else if a (268 + 3 * c) = 4 then bz (¬ tabl (hF a l nl na) c (a (269 + 3 * c)).toNatClampNeg = 0 ∨ ¬ tabl (hF a l nl na) c (a (270 + 3 * c)).toNatClampNeg = 0) else if a (268 + 3 * c) = 6 then bz (sgd a l nl na (a (269 + 3 * c)) = true) else tv (brF a l nl) c) = _
  by_cases h3 : a (268 + 3 * c) = 3
  · have z := jn_lt hj hc (Or.inl h3)
    rw [if_pos h3, if_pos h3, tv_lt z.1, tv_lt z.2]
  · rw [if_neg h3, if_neg h3]
    by_cases h4 : a (268 + 3 * c) = 4
    · have z := jn_lt hj hc (Or.inr h4)
      rw [if_pos h4, if_pos h4, tv_lt z.1, tv_lt z.2]
    · rw [if_neg h4, if_neg h4]
theorem vG (hj : jn2 a c) (hc : c < 24) : tv (gF a l nl na) c = if a (268 + 3 * c) = 3 then mnI (tv (gF a l nl na) (a (269 + 3 * c)).toNatClampNeg) (tv (gF a l nl na) (a (270 + 3 * c)).toNatClampNeg) else if a (268 + 3 * c) = 4 then mxI (tv (gF a l nl na) (a (269 + 3 * c)).toNatClampNeg) (tv (gF a l nl na) (a (270 + 3 * c)).toNatClampNeg) else if a (268 + 3 * c) = 6 then slt a l nl (a (269 + 3 * c)) na else tv (eF a l nl) c := by
  refine (tv_eq (gF a l nl na) c).trans ?_
  show (if a (268 + 3 * c) = 3 then mnI (tabl (gF a l nl na) c (a (269 + 3 * c)).toNatClampNeg) (tabl (gF a l nl na) c (a (270 + 3 * c)).toNatClampNeg) else if a (268 + 3 * c) = 4 then mxI (tabl (gF a l nl na) c (a (269 + 3 * c)).toNatClampNeg) (tabl (gF a l nl na) c (a (270 + 3 * c)).toNatClampNeg) else if a (268 + 3 * c) = 6 then slt a l nl (a (269 + 3 * c)) na else tv (eF a l nl) c) = _
  by_cases h3 : a (268 + 3 * c) = 3
  · have z := jn_lt hj hc (Or.inl h3)
    rw [if_pos h3, if_pos h3, tv_lt z.1, tv_lt z.2]
  · rw [if_neg h3, if_neg h3]
    by_cases h4 : a (268 + 3 * c) = 4
    · have z := jn_lt hj hc (Or.inr h4)
      rw [if_pos h4, if_pos h4, tv_lt z.1, tv_lt z.2]
    · rw [if_neg h4, if_neg h4]
theorem vO (hj : jn2 a c) (hc : c < 24) : tv (oF a l nl na) c = if tv (hF a l nl na) c = 0 then (if a (268 + 3 * c) = 3 then mxI (tv (oF a l nl na) (a (269 + 3 * c)).toNatClampNeg) (tv (oF a l nl na) (a (270 + 3 * c)).toNatClampNeg) else if a (268 + 3 * c) = 4 then mnI (tv (oF a l nl na) (a (269 + 3 * c)).toNatClampNeg) (tv (oF a l nl na) (a (270 + 3 * c)).toNatClampNeg) else oV a nl (a (268 + 3 * c)) (a (269 + 3 * c))) else 0 := by
  refine (tv_eq (oF a l nl na) c).trans ?_
  show (if tv (hF a l nl na) c = 0 then (if a (268 + 3 * c) = 3 then mxI (tabl (oF a l nl na) c (a (269 + 3 * c)).toNatClampNeg) (tabl (oF a l nl na) c (a (270 + 3 * c)).toNatClampNeg) else if a (268 + 3 * c) = 4 then mnI (tabl (oF a l nl na) c (a (269 + 3 * c)).toNatClampNeg) (tabl (oF a l nl na) c (a (270 + 3 * c)).toNatClampNeg) else oV a nl (a (268 + 3 * c)) (a (269 + 3 * c))) else 0) = _
  by_cases hh : tv (hF a l nl na) c = 0
  · rw [if_pos hh, if_pos hh]
    by_cases h3 : a (268 + 3 * c) = 3
    · have z := jn_lt hj hc (Or.inl h3)
      rw [if_pos h3, if_pos h3, tv_lt z.1, tv_lt z.2]
    · rw [if_neg h3, if_neg h3]
      by_cases h4 : a (268 + 3 * c) = 4
      · have z := jn_lt hj hc (Or.inr h4)
        rw [if_pos h4, if_pos h4, tv_lt z.1, tv_lt z.2]
      · rw [if_neg h4, if_neg h4]
  · rw [if_neg hh, if_neg hh]
theorem vZ (hj : jn2 a c) (hc : c < 24) : tv (zF a l nl na) c = if tv (hF a l nl na) c = 0 then (if a (268 + 3 * c) = 3 then tv (zF a l nl na) (a (269 + 3 * c)).toNatClampNeg + tv (zF a l nl na) (a (270 + 3 * c)).toNatClampNeg else if a (268 + 3 * c) = 4 then mnI (tv (zF a l nl na) (a (269 + 3 * c)).toNatClampNeg) (tv (zF a l nl na) (a (270 + 3 * c)).toNatClampNeg) else 1) else 0 := by
  refine (tv_eq (zF a l nl na) c).trans ?_
  show (if tv (hF a l nl na) c = 0 then (if a (268 + 3 * c) = 3 then tabl (zF a l nl na) c (a (269 + 3 * c)).toNatClampNeg + tabl (zF a l nl na) c (a (270 + 3 * c)).toNatClampNeg else if a (268 + 3 * c) = 4 then mnI (tabl (zF a l nl na) c (a (269 + 3 * c)).toNatClampNeg) (tabl (zF a l nl na) c (a (270 + 3 * c)).toNatClampNeg) else 1) else 0) = _
  by_cases hh : tv (hF a l nl na) c = 0
  · rw [if_pos hh, if_pos hh]
    by_cases h3 : a (268 + 3 * c) = 3
    · have z := jn_lt hj hc (Or.inl h3)
      rw [if_pos h3, if_pos h3, tv_lt z.1, tv_lt z.2]
    · rw [if_neg h3, if_neg h3]
      by_cases h4 : a (268 + 3 * c) = 4
      · have z := jn_lt hj hc (Or.inr h4)
        rw [if_pos h4, if_pos h4, tv_lt z.1, tv_lt z.2]
      · rw [if_neg h4, if_neg h4]
  · rw [if_neg hh, if_neg hh]
theorem vY (hj : jn2 a c) (hc : c < 24) : tv (yF a l nl na) c = if tv (hF a l nl na) c = 0 then (if a (268 + 3 * c) = 3 ∨ a (268 + 3 * c) = 4 then tv (yF a l nl na) (a (269 + 3 * c)).toNatClampNeg ||| tv (yF a l nl na) (a (270 + 3 * c)).toNatClampNeg else sh1 c) else 0 := by
  refine (tv_eq (yF a l nl na) c).trans ?_
  show (if tv (hF a l nl na) c = 0 then (if a (268 + 3 * c) = 3 ∨ a (268 + 3 * c) = 4 then tabl (yF a l nl na) c (a (269 + 3 * c)).toNatClampNeg ||| tabl (yF a l nl na) c (a (270 + 3 * c)).toNatClampNeg else sh1 c) else 0) = _
  by_cases hh : tv (hF a l nl na) c = 0
  · rw [if_pos hh, if_pos hh]
    by_cases h3 : a (268 + 3 * c) = 3 ∨ a (268 + 3 * c) = 4
    · have z := jn_lt hj hc h3
      rw [if_pos h3, if_pos h3, tv_lt z.1, tv_lt z.2]
    · rw [if_neg h3, if_neg h3]
  · rw [if_neg hh, if_neg hh]
theorem vM (hj : jn2 a c) (hc : c < 24) : tv (mdT a) c = if a (268 + 3 * c) = 3 ∨ a (268 + 3 * c) = 4 then 1 + tv (mdT a) (a (269 + 3 * c)).toNatClampNeg + tv (mdT a) (a (270 + 3 * c)).toNatClampNeg else 1 := by
  refine (tv_eq (mdT a) c).trans ?_
  show (if a (268 + 3 * c) = 3 ∨ a (268 + 3 * c) = 4 then 1 + tabl (mdT a) c (a (269 + 3 * c)).toNatClampNeg + tabl (mdT a) c (a (270 + 3 * c)).toNatClampNeg else 1) = _
  by_cases h3 : a (268 + 3 * c) = 3 ∨ a (268 + 3 * c) = 4
  · have z := jn_lt hj hc h3
    rw [if_pos h3, if_pos h3, tv_lt z.1, tv_lt z.2]
  · rw [if_neg h3, if_neg h3]
theorem vN (hj : jn2 a c) (hc : c < 24) : tv (nmT a) c = if a (268 + 3 * c) = 3 ∨ a (268 + 3 * c) = 4 then mixF (mixF (mixF 17 (a (268 + 3 * c))) (tv (nmT a) (a (269 + 3 * c)).toNatClampNeg)) (tv (nmT a) (a (270 + 3 * c)).toNatClampNeg) else mixF (mixF (mixF 17 (a (268 + 3 * c))) (a (269 + 3 * c))) (a (270 + 3 * c)) := by
  refine (tv_eq (nmT a) c).trans ?_
  show (if a (268 + 3 * c) = 3 ∨ a (268 + 3 * c) = 4 then mixF (mixF (mixF 17 (a (268 + 3 * c))) (tabl (nmT a) c (a (269 + 3 * c)).toNatClampNeg)) (tabl (nmT a) c (a (270 + 3 * c)).toNatClampNeg) else mixF (mixF (mixF 17 (a (268 + 3 * c))) (a (269 + 3 * c))) (a (270 + 3 * c))) = _
  by_cases h3 : a (268 + 3 * c) = 3 ∨ a (268 + 3 * c) = 4
  · have z := jn_lt hj hc h3
    rw [if_pos h3, if_pos h3, tv_lt z.1, tv_lt z.2]
  · rw [if_neg h3, if_neg h3]
end VL
section L2
variable {N d nl np na nk c : Nat} {F : FM} {a : Nat → Int32} {Z : IM}
theorem t18 (k : Nat) : tF a (a 8) nl na 18 k = tv (zF a (a 8) nl na) k := rfl
theorem t16 (k : Nat) : tF a (a 8) nl na 16 k = tv (gF a (a 8) nl na) k := rfl
theorem t17 (k : Nat) : tF a (a 8) nl na 17 k = tv (eF a (a 8) nl) k := rfl
theorem t15 (k : Nat) : tF a (a 8) nl na 15 k = tv (yF a (a 8) nl na) k := rfl
theorem t14 (k : Nat) : tF a (a 8) nl na 14 k = tv (mdT a) k := rfl
theorem t13 (k : Nat) : tF a (a 8) nl na 13 k = tv (nmT a) k := rfl
theorem t12 (k : Nat) : tF a (a 8) nl na 12 k = tv (oF a (a 8) nl na) k := rfl
theorem t11 (k : Nat) : tF a (a 8) nl na 11 k = tv (brF a (a 8) nl) k := rfl
theorem t10 (k : Nat) : tF a (a 8) nl na 10 k = tv (hF a (a 8) nl na) k := rfl
theorem S2w {o' j : Nat} (h : (o' = 10 ∧ j = 0) ∨ (o' = 12 ∧ j = 10) ∨ (o' = 13 ∧ j = 12) ∨ (o' = 14 ∧ j = 13) ∨ (o' = 15 ∧ j = 14) ∨ (o' = 16 ∧ j = 15) ∨ (o' = 18 ∧ j = 16)) : S2 o' = true ∧ j < o' ∧ ∀ o, S2 o = true → o ≤ o' → o ≤ j ∨ o = o' := by
  rcases h with ⟨rfl, rfl⟩ | ⟨rfl, rfl⟩ | ⟨rfl, rfl⟩ | ⟨rfl, rfl⟩ | ⟨rfl, rfl⟩ | ⟨rfl, rfl⟩ | ⟨rfl, rfl⟩ <;> refine ⟨rfl, by omega, fun o ho hle => ?_⟩ <;> (have := S2_iff ho; omega)
theorem wS2 {o' j : Nat} {I : IM} {f : Nat → Nat → Int32} (h : (o' = 10 ∧ j = 0) ∨ (o' = 12 ∧ j = 10) ∨ (o' = 13 ∧ j = 12) ∨ (o' = 14 ∧ j = 13) ∨ (o' = 15 ∧ j = 14) ∨ (o' = 16 ∧ j = 15) ∨ (o' = 18 ∧ j = 16)) {x : Int32} (hx : x = f o' c) : wI (ts S2 I c j f) 1 o' c x = ts S2 I c o' f := ts_w (S2w h).1 (S2w h).2.1 (S2w h).2.2 hx
theorem l536 (hc : c < 24) (hj : jn2 a c) (n : Nat) : sg (sem N (d + 3)) 0 zc237 (n + 1) 536 [vR (some (1, 0)), vI (nI c), vI (a (268 + 3 * c)), vI (a (269 + 3 * c)), vI (a (270 + 3 * c)), vI (tv (gF a (a 8) nl na) c), vI (nI c), vR (some (1, 16))] (ts S2 Z c 15 (tF a (a 8) nl na)) F = sg (sem N (d + 3)) 0 zc237 n 158 [vR (some (1, 0)), vI (nI (c + 1))] (ts S2 Z (c + 1) 0 (tF a (a 8) nl na)) F := by
  have ic : inb (nI c) 24 := inb_nI hc (by decide)
  have cc : (nI c).toNatClampNeg = c := nI_clamp (by omega)
  have w16 : wI (ts S2 Z c 15 (tF a (a 8) nl na)) 1 16 c (tv (gF a (a 8) nl na) c) = ts S2 Z c 16 (tF a (a 8) nl na) := wS2 (by omega) (t16 c).symm
  have e10 : ts S2 Z c 16 (tF a (a 8) nl na) 1 10 c = tv (hF a (a 8) nl na) c := ts_c rfl (by omega)
  have fin : ∀ x, x = tv (zF a (a 8) nl na) c → wI (ts S2 Z c 16 (tF a (a 8) nl na)) 1 18 c x = ts S2 Z (c + 1) 0 (tF a (a 8) nl na) := fun x hx => by
    rw [wS2 (c := c) (o' := 18) (j := 16) (by omega) (by rw [hx]; exact (t18 c).symm)]
    exact ts_n (fun o ho => by have := S2_iff ho; omega)
  have vz := vZ (l := a 8) (nl := nl) (na := na) hj hc
  rw [u237_536]; unfold b237_536
  simp only [eq_true ic, ↓reduceIte, cc, w16, e10]
  by_cases hh : tv (hF a (a 8) nl na) c = 0
  · rw [if_pos hh] at vz
    rw [if_pos hh]
    by_cases h3 : a (268 + 3 * c) = 3
    · obtain ⟨u, v, hu, hv, eu, ev⟩ := hj (Or.inl h3)
      rw [if_pos h3] at vz
      rw [eu, ev, nI_clamp (by omega), nI_clamp (by omega)] at vz
      rw [if_pos h3, eu, ev, if_pos (inb_nI (by omega) (by decide)), if_pos (inb_nI (by omega) (by decide)), nI_clamp (by omega), nI_clamp (by omega), ts_r rfl hu, ts_r rfl hv, t18, t18, fin _ vz.symm, nI_1]
    · rw [if_neg h3] at vz
      rw [if_neg h3]
      by_cases h4 : a (268 + 3 * c) = 4
      · obtain ⟨u, v, hu, hv, eu, ev⟩ := hj (Or.inr h4)
        rw [if_pos h4] at vz
        rw [eu, ev, nI_clamp (by omega), nI_clamp (by omega)] at vz
        rw [if_pos h4, eu, ev, if_pos (inb_nI (by omega) (by decide)), if_pos (inb_nI (by omega) (by decide)), nI_clamp (by omega), nI_clamp (by omega), ts_r rfl hu, ts_r rfl hv, t18, t18, m233, bI_v, fin _ vz.symm, nI_1]
      · rw [if_neg h4] at vz
        rw [if_neg h4, fin _ vz.symm, nI_1]
  · rw [if_neg hh] at vz
    rw [if_neg hh, fin _ vz.symm, nI_1]
theorem l462 (hN : 20 ≤ N) (hc : c < 24) (hj : jn2 a c) (hZ : ∀ k, Z 1 2 k = a k) (hZ17 : ∀ q, q < np → Z 1 17 q = tv (eF a (a 8) nl) q) (hcn : c < np) (hnp : np ≤ 24) (h18 : a 18 = nI na) (hna : na ≤ 8) (hq : ∀ i, i < na → ∃ p, p < np ∧ a (391 + 2 * i) = nI p) (n : Nat) : sg (sem N (d + 3)) 0 zc237 (n + 2) 462 [vR (some (1, 0)), vI (nI c), vI (a (268 + 3 * c)), vI (a (269 + 3 * c)), vI (a (270 + 3 * c)), vI (tv (yF a (a 8) nl na) c), vI (nI c), vR (some (1, 15))] (ts S2 Z c 14 (tF a (a 8) nl na)) F = sg (sem N (d + 3)) 0 zc237 n 158 [vR (some (1, 0)), vI (nI (c + 1))] (ts S2 Z (c + 1) 0 (tF a (a 8) nl na)) F := by
  have ic : inb (nI c) 24 := inb_nI hc (by decide)
  have cc : (nI c).toNatClampNeg = c := nI_clamp (by omega)
  have w15 : wI (ts S2 Z c 14 (tF a (a 8) nl na)) 1 15 c (tv (yF a (a 8) nl na) c) = ts S2 Z c 15 (tF a (a 8) nl na) := wS2 (by omega) (t15 c).symm
  have e17 : ∀ q, q < np → ts S2 Z c 15 (tF a (a 8) nl na) 1 17 q = tv (eF a (a 8) nl) q := fun q hq => by rw [ts_o rfl, hZ17 q hq]
  have vg := vG (l := a 8) (nl := nl) (na := na) hj hc
  have fin := l536 (N := N) (d := d) (nl := nl) (na := na) (Z := Z) (F := F) hc hj n
  rw [show n + 2 = (n + 1) + 1 by omega, u237_462]; unfold b237_462
  simp only [eq_true ic, ↓reduceIte, cc, w15]
  by_cases h3 : a (268 + 3 * c) = 3
  · obtain ⟨u, v, hu, hv, eu, ev⟩ := hj (Or.inl h3)
    rw [if_pos h3] at vg
    rw [eu, ev, nI_clamp (by omega), nI_clamp (by omega)] at vg
    rw [vg, eu, ev] at fin
    rw [if_pos h3, eu, ev, if_pos (inb_nI (by omega) (by decide)), if_pos (inb_nI (by omega) (by decide)), nI_clamp (by omega), nI_clamp (by omega), ts_r rfl hu, ts_r rfl hv, t16, t16, m233, bI_v]
    exact fin
  · rw [if_neg h3] at vg
    rw [if_neg h3]
    by_cases h4 : a (268 + 3 * c) = 4
    · obtain ⟨u, v, hu, hv, eu, ev⟩ := hj (Or.inr h4)
      rw [if_pos h4] at vg
      rw [eu, ev, nI_clamp (by omega), nI_clamp (by omega)] at vg
      rw [vg, eu, ev] at fin
      rw [if_pos h4, eu, ev, if_pos (inb_nI (by omega) (by decide)), if_pos (inb_nI (by omega) (by decide)), nI_clamp (by omega), nI_clamp (by omega), ts_r rfl hu, ts_r rfl hv, t16, t16, m232, bI_v]
      exact fin
    · rw [if_neg h4] at vg
      rw [if_neg h4]
      by_cases h6 : a (268 + 3 * c) = 6
      · rw [if_pos h6] at vg
        rw [vg] at fin
        rw [if_pos h6, m234 (a := a) (nl := nl) (na := na) hN _ (fun k => by rw [ts_o rfl, hZ]) h18 hna (fun i hi => by obtain ⟨p, hp, ep⟩ := hq i hi; exact ⟨p, by omega, ep, e17 p hp⟩), bI_v]
        exact fin
      · rw [if_neg h6] at vg
        rw [vg] at fin
        rw [if_neg h6, e17 c hcn]
        exact fin
theorem l384 (hN : 20 ≤ N) (hc : c < 24) (hj : jn2 a c) (hZ : ∀ k, Z 1 2 k = a k) (hZ17 : ∀ q, q < np → Z 1 17 q = tv (eF a (a 8) nl) q) (hcn : c < np) (hnp : np ≤ 24) (h18 : a 18 = nI na) (hna : na ≤ 8) (hq : ∀ i, i < na → ∃ p, p < np ∧ a (391 + 2 * i) = nI p) (n : Nat) {fl0 s0 s1 : Int32} (hf : (fl0 = 1 ∧ (a (268 + 3 * c) = 3 ∨ a (268 + 3 * c) = 4)) ∨ (fl0 = 0 ∧ ¬ (a (268 + 3 * c) = 3 ∨ a (268 + 3 * c) = 4))) (hs : mixF s1 s0 = tv (nmT a) c) : sg (sem N (d + 3)) 0 zc237 (n + 3) 384 [vR (some (1, 0)), vI (nI c), vI (a (268 + 3 * c)), vI (a (269 + 3 * c)), vI (a (270 + 3 * c)), vI fl0, vI s0, vI s1, vI (nI c), vR (some (1, 13))] (ts S2 Z c 12 (tF a (a 8) nl na)) F = sg (sem N (d + 3)) 0 zc237 n 158 [vR (some (1, 0)), vI (nI (c + 1))] (ts S2 Z (c + 1) 0 (tF a (a 8) nl na)) F := by
  have ic : inb (nI c) 24 := inb_nI hc (by decide)
  have cc : (nI c).toNatClampNeg = c := nI_clamp (by omega)
  have w13 : wI (ts S2 Z c 12 (tF a (a 8) nl na)) 1 13 c (tv (nmT a) c) = ts S2 Z c 13 (tF a (a 8) nl na) := wS2 (by omega) (t13 c).symm
  have w14 : ∀ x, x = tv (mdT a) c → wI (ts S2 Z c 13 (tF a (a 8) nl na)) 1 14 c x = ts S2 Z c 14 (tF a (a 8) nl na) := fun x hx => wS2 (by omega) (by rw [hx]; exact (t14 c).symm)
  have e10 : ts S2 Z c 14 (tF a (a 8) nl na) 1 10 c = tv (hF a (a 8) nl na) c := ts_c rfl (by omega)
  have vm := vM hj hc
  have vy := vY (l := a 8) (nl := nl) (na := na) hj hc
  have fin := l462 (N := N) (d := d) (nl := nl) (na := na) (np := np) (Z := Z) (F := F) hN hc hj hZ hZ17 hcn hnp h18 hna hq n
  rw [show n + 3 = (n + 2) + 1 by omega, u237_384]; unfold b237_384
  rw [m188, bI_v, hs]
  simp only [eq_true ic, ↓reduceIte, cc, w13]
  rcases hf with ⟨rfl, hk⟩ | ⟨rfl, hk⟩
  · obtain ⟨u, v, hu, hv, eu, ev⟩ := hj hk
    rw [if_pos hk] at vm vy
    rw [eu, ev, nI_clamp (by omega), nI_clamp (by omega)] at vm vy
    have iu : inb (nI u) 24 := inb_nI (by omega) (by decide)
    have iv : inb (nI v) 24 := inb_nI (by omega) (by decide)
    have cu : (nI u).toNatClampNeg = u := nI_clamp (by omega)
    have cv : (nI v).toNatClampNeg = v := nI_clamp (by omega)
    have r1 : ∀ q, q < c → ts S2 Z c 13 (tF a (a 8) nl na) 1 14 q = tv (mdT a) q := fun q hq => by rw [ts_r rfl hq, t14]
    have r2 : ∀ q, q < c → ts S2 Z c 14 (tF a (a 8) nl na) 1 15 q = tv (yF a (a 8) nl na) q := fun q hq => by rw [ts_r rfl hq, t15]
    rw [eu, ev] at fin ⊢
    rw [if_neg (show ¬ (1 : Int32) = 0 by decide)]
    simp only [eq_true iu, eq_true iv, ↓reduceIte, cu, cv, r1 u hu, r1 v hv, w14 _ vm.symm, e10, r2 u hu, r2 v hv]
    by_cases hh : tv (hF a (a 8) nl na) c = 0
    · rw [if_pos hh] at vy
      rw [if_pos hh, if_neg (show ¬ (1 : Int32) = 0 by decide), ← vy]
      exact fin
    · rw [if_neg hh] at vy
      rw [if_neg hh, ← vy]
      exact fin
  · rw [if_neg hk] at vm vy
    rw [if_pos rfl]
    simp only [w14 _ vm.symm, e10, ↓reduceIte]
    by_cases hh : tv (hF a (a 8) nl na) c = 0
    · rw [if_pos hh] at vy
      rw [vy] at fin
      rw [if_pos hh]
      exact fin
    · rw [if_neg hh] at vy
      rw [vy] at fin
      rw [if_neg hh]
      exact fin
theorem l310 (hN : 20 ≤ N) (hc : c < 24) (hok : plOK a nk c) (hZ : ∀ k, Z 1 2 k = a k) (hZ17 : ∀ q, q < np → Z 1 17 q = tv (eF a (a 8) nl) q) (hZw : Z 1 0 22 = orb (fun r => ¬ rtl (fun i => a (20 + 2 * i)) (fun i => a (20 + 2 * i + 1)) (nI r) (-1) (-1) nl = a r) 8) (hcn : c < np) (hnp : np ≤ 24) (h18 : a 18 = nI na) (hna : na ≤ 8) (hq : ∀ i, i < na → ∃ p, p < np ∧ a (391 + 2 * i) = nI p) (n : Nat) {fl0 : Int32} (hf : (fl0 = 1 ∧ (a (268 + 3 * c) = 3 ∨ a (268 + 3 * c) = 4)) ∨ (fl0 = 0 ∧ ¬ (a (268 + 3 * c) = 3 ∨ a (268 + 3 * c) = 4))) : sg (sem N (d + 3)) 0 zc237 (n + 4) 310 [vR (some (1, 0)), vI (nI c), vI (a (268 + 3 * c)), vI (a (269 + 3 * c)), vI (a (270 + 3 * c)), vI fl0, vI (tv (hF a (a 8) nl na) c), vI (nI c), vR (some (1, 10))] (ts S2 Z c 0 (tF a (a 8) nl na)) F = sg (sem N (d + 3)) 0 zc237 n 158 [vR (some (1, 0)), vI (nI (c + 1))] (ts S2 Z (c + 1) 0 (tF a (a 8) nl na)) F := by
  have hj := jn_ok hok
  have ic : inb (nI c) 24 := inb_nI hc (by decide)
  have cc : (nI c).toNatClampNeg = c := nI_clamp (by omega)
  have w10 : wI (ts S2 Z c 0 (tF a (a 8) nl na)) 1 10 c (tv (hF a (a 8) nl na) c) = ts S2 Z c 10 (tF a (a 8) nl na) := wS2 (by omega) (t10 c).symm
  have w12 : ∀ x, x = tv (oF a (a 8) nl na) c → wI (ts S2 Z c 10 (tF a (a 8) nl na)) 1 12 c x = ts S2 Z c 12 (tF a (a 8) nl na) := fun x hx => wS2 (by omega) (by rw [hx]; exact (t12 c).symm)
  have e10 : ts S2 Z c 10 (tF a (a 8) nl na) 1 10 c = tv (hF a (a 8) nl na) c := ts_c rfl (by omega)
  have e13 : ∀ q, q < c → ts S2 Z c 12 (tF a (a 8) nl na) 1 13 q = tv (nmT a) q := fun q hq => by rw [ts_r rfl hq, t13]
  have vo := vO (l := a 8) (nl := nl) (na := na) hj hc
  have vn := vN hj hc
  have h235 := m235 (N := N) (d := d + 1) (F := F) (a := a) (nk := nk) (nl := nl) (X := ts S2 Z c 10 (tF a (a 8) nl na)) hN hc hok (fun k => by rw [ts_o rfl, hZ]) (by rw [ts_o rfl, hZw]) (tv (oF a (a 8) nl na)) (fun q hq => by rw [ts_r rfl hq, t12])
  have fin := fun s0 s1 => l384 (N := N) (d := d) (nl := nl) (na := na) (np := np) (Z := Z) (F := F) hN hc hj hZ hZ17 hcn hnp h18 hna hq n (fl0 := fl0) (s0 := s0) (s1 := s1) hf
  rw [show n + 4 = (n + 3) + 1 by omega, u237_310]; unfold b237_310
  rw [if_pos ic]
  simp only [cc, nar_01 (hF_01 a (a 8) nl na c), w10, eq_true ic, ↓reduceIte, e10]
  by_cases hh : tv (hF a (a 8) nl na) c = 0
  · rw [if_pos hh] at vo
    rw [if_pos hh, h235, bI_v]
    simp only [w12 _ vo.symm, m188, bI_v]
    rcases hf with ⟨rfl, hk⟩ | ⟨rfl, hk⟩
    · obtain ⟨u, v, hu, hv, eu, ev⟩ := hj hk
      rw [if_pos hk] at vn
      rw [eu, ev, nI_clamp (by omega), nI_clamp (by omega)] at vn
      rw [eu, ev] at fin ⊢
      rw [if_neg (show ¬ (1 : Int32) = 0 by decide), if_neg (show ¬ (1 : Int32) = 0 by decide), if_pos (inb_nI (by omega) (by decide)), if_pos (inb_nI (by omega) (by decide)), nI_clamp (by omega), nI_clamp (by omega), e13 u hu, e13 v hv]
      exact fin _ _ vn.symm
    · rw [if_neg hk] at vn
      rw [if_pos rfl, if_pos rfl]
      exact fin _ _ vn.symm
  · rw [if_neg hh] at vo
    rw [if_neg hh]
    simp only [w12 _ vo.symm, m188, bI_v]
    rcases hf with ⟨rfl, hk⟩ | ⟨rfl, hk⟩
    · obtain ⟨u, v, hu, hv, eu, ev⟩ := hj hk
      rw [if_pos hk] at vn
      rw [eu, ev, nI_clamp (by omega), nI_clamp (by omega)] at vn
      rw [eu, ev] at fin ⊢
      rw [if_neg (show ¬ (1 : Int32) = 0 by decide), if_neg (show ¬ (1 : Int32) = 0 by decide), if_pos (inb_nI (by omega) (by decide)), if_pos (inb_nI (by omega) (by decide)), nI_clamp (by omega), nI_clamp (by omega), e13 u hu, e13 v hv]
      exact fin _ _ vn.symm
    · rw [if_neg hk] at vn
      rw [if_pos rfl, if_pos rfl]
      exact fin _ _ vn.symm
end L2
