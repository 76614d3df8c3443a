/-! THE CLASS WEIGHS ITS POLICIES: the whole -/
theorem mx_nn {x y : Int32} (hx : ¬ x < 0) (hy : ¬ y < 0) : ¬ mxI x y < 0 := by
  unfold mxI
  split
  · exact hy
  · exact hx
theorem mn_nn {x y : Int32} (hx : ¬ x < 0) (hy : ¬ y < 0) : ¬ mnI x y < 0 := by
  unfold mnI
  split
  · exact hy
  · exact hx
theorem mn_0l {y : Int32} (hy : ¬ y < 0) : mnI 0 y = 0 := by
  unfold mnI
  rw [if_neg hy]
theorem mn_0r {x : Int32} (hx : ¬ x < 0) : mnI x 0 = 0 := by
  unfold mnI
  split
  · rfl
  · rename_i h
    rw [i_eq]
    rw [i_lt, i_0] at h hx
    rw [i_0]
    omega
theorem oV_nn (a : Nat → Int32) (nl : Nat) (k x : Int32) : ¬ oV a nl k x < 0 := by
  unfold oV
  split
  · split <;> decide
  · split
    · decide
    · split
      · decide
      · split
        · decide
        · split
          · decide
          · split
            · split
              · decide
              · split <;> decide
            · decide
section JV
variable {a : Nat → Int32} {l : Int32} {nl na np : Nat}
theorem o_nn (hnp : np ≤ 24) (hj : ∀ q, q < np → jn2 a q) : ∀ p, p < np → ¬ tv (oF a l nl na) p < 0 := by
  intro p
  induction p using Nat.strongRecOn with
  | _ p ih =>
    intro hp
    rw [vO (hj p hp) (by omega)]
    split
    · split
      · rename_i h3
        have z := jn_lt (hj p hp) (by omega) (Or.inl h3)
        exact mx_nn (ih _ z.1 (by omega)) (ih _ z.2 (by omega))
      · split
        · rename_i h4
          have z := jn_lt (hj p hp) (by omega) (Or.inr h4)
          exact mn_nn (ih _ z.1 (by omega)) (ih _ z.2 (by omega))
        · exact oV_nn _ _ _ _
    · decide
theorem mn_nI {m n : Nat} (hm : m < 2 ^ 31) (hn : n < 2 ^ 31) : ∃ k, (k = m ∨ k = n) ∧ mnI (nI m) (nI n) = nI k := by
  unfold mnI
  split
  · exact ⟨n, Or.inr rfl, rfl⟩
  · exact ⟨m, Or.inl rfl, rfl⟩
theorem z_nn (hnp : np ≤ 24) (hj : ∀ q, q < np → jn2 a q) : ∀ p, p < np → ∃ m, m ≤ 2 ^ p ∧ tv (zF a l nl na) p = nI m := by
  intro p
  induction p using Nat.strongRecOn with
  | _ p ih =>
    intro hp
    rw [vZ (hj p hp) (by omega)]
    have h1 : 1 ≤ 2 ^ p := Nat.one_le_two_pow
    split
    · split
      · rename_i h3
        have z := jn_lt (hj p hp) (by omega) (Or.inl h3)
        obtain ⟨m, hm, em⟩ := ih _ z.1 (by omega)
        obtain ⟨n, hn, en⟩ := ih _ z.2 (by omega)
        obtain ⟨p', rfl⟩ : ∃ p', p = p' + 1 := ⟨p - 1, by omega⟩
        have a1 : 2 ^ (a (269 + 3 * (p' + 1))).toNatClampNeg ≤ 2 ^ p' := Nat.pow_le_pow_right (by omega) (by omega)
        have a2 : 2 ^ (a (270 + 3 * (p' + 1))).toNatClampNeg ≤ 2 ^ p' := Nat.pow_le_pow_right (by omega) (by omega)
        refine ⟨m + n, ?_, by rw [em, en, nI_add]⟩
        rw [Nat.pow_succ]
        omega
      · split
        · rename_i h4
          have z := jn_lt (hj p hp) (by omega) (Or.inr h4)
          obtain ⟨m, hm, em⟩ := ih _ z.1 (by omega)
          obtain ⟨n, hn, en⟩ := ih _ z.2 (by omega)
          have a1 : 2 ^ (a (269 + 3 * p)).toNatClampNeg ≤ 2 ^ p := Nat.pow_le_pow_right (by omega) (by omega)
          have a2 : 2 ^ (a (270 + 3 * p)).toNatClampNeg ≤ 2 ^ p := Nat.pow_le_pow_right (by omega) (by omega)
          have a3 : 2 ^ p ≤ 2 ^ 24 := Nat.pow_le_pow_right (by omega) (by omega)
          obtain ⟨k, hk, ek⟩ := mn_nI (m := m) (n := n) (by omega) (by omega)
          exact ⟨k, by omega, by rw [em, en, ek]⟩
        · exact ⟨1, h1, rfl⟩
    · exact ⟨0, by omega, rfl⟩
theorem z_nn' (hnp : np ≤ 24) (hj : ∀ q, q < np → jn2 a q) {p : Nat} (hp : p < np) : ¬ tv (zF a l nl na) p < 0 := by
  obtain ⟨m, hm, em⟩ := z_nn (l := l) (nl := nl) (na := na) hnp hj p hp
  have a3 : 2 ^ p ≤ 2 ^ 24 := Nat.pow_le_pow_right (by omega) (by omega)
  rw [em]
  exact nI_pos (by omega)
theorem o_h0 (hnp : np ≤ 24) (hj : ∀ q, q < np → jn2 a q) {p : Nat} (hp : p < np) (hh : ¬ tv (hF a l nl na) p = 0) : tv (oF a l nl na) p = 0 ∧ tv (zF a l nl na) p = 0 := by
  rw [vO (hj p hp) (by omega), if_neg hh, vZ (hj p hp) (by omega), if_neg hh]
  exact ⟨rfl, rfl⟩
theorem cOZ (hnp : np ≤ 24) (hj : ∀ q, q < np → jn2 a q) {p u v : Nat} (hp : p < np) (hu : u < p) (hv : v < p) (eu : a (269 + 3 * p) = nI u) (ev : a (270 + 3 * p) = nI v) (hk : a (268 + 3 * p) = 3 ∨ a (268 + 3 * p) = 4) : tv (oF a l nl na) p = (if a (268 + 3 * p) = 3 then mxI (tv (oF a l nl na) u) (tv (oF a l nl na) v) else mnI (tv (oF a l nl na) u) (tv (oF a l nl na) v)) ∧ tv (zF a l nl na) p = (if a (268 + 3 * p) = 3 then tv (zF a l nl na) u + tv (zF a l nl na) v else mnI (tv (zF a l nl na) u) (tv (zF a l nl na) v)) := by
  have vo := vO (l := l) (nl := nl) (na := na) (hj p hp) (by omega)
  have vz := vZ (l := l) (nl := nl) (na := na) (hj p hp) (by omega)
  have vh := vH (l := l) (nl := nl) (na := na) (hj p hp) (by omega)
  rw [eu, ev, nI_clamp (by omega), nI_clamp (by omega)] at vo vz vh
  by_cases hh : tv (hF a l nl na) p = 0
  · rw [if_pos hh] at vo vz
    rcases hk with h3 | h4
    · rw [if_pos h3] at vo vz ⊢
      rw [if_pos h3]
      exact ⟨vo, vz⟩
    · have h3 : ¬ a (268 + 3 * p) = 3 := fun z => by rw [h4] at z; exact absurd z (by decide)
      rw [if_neg h3, if_pos h4] at vo vz
      rw [if_neg h3, if_neg h3]
      exact ⟨vo, vz⟩
  · rw [if_neg hh] at vo vz
    rw [vo, vz]
    rcases hk with h3 | h4
    · rw [if_pos h3] at vh
      have hb : ¬ tv (hF a l nl na) u = 0 ∧ ¬ tv (hF a l nl na) v = 0 := Classical.byContradiction (fun z => hh (by rw [vh, bz_f z]))
      obtain ⟨o1, z1⟩ := o_h0 hnp hj (by omega) hb.1
      obtain ⟨o2, z2⟩ := o_h0 hnp hj (by omega) hb.2
      rw [if_pos h3, if_pos h3, o1, o2, z1, z2]
      exact ⟨by decide, by decide⟩
    · have h3 : ¬ a (268 + 3 * p) = 3 := fun z => by rw [h4] at z; exact absurd z (by decide)
      rw [if_neg h3, if_pos h4] at vh
      have hb : ¬ tv (hF a l nl na) u = 0 ∨ ¬ tv (hF a l nl na) v = 0 := Classical.byContradiction (fun z => hh (by rw [vh, bz_f z]))
      rw [if_neg h3, if_neg h3]
      rcases hb with hb | hb
      · obtain ⟨o1, z1⟩ := o_h0 hnp hj (by omega) hb
        rw [o1, z1, mn_0l (o_nn hnp hj _ (by omega)), mn_0l (z_nn' hnp hj (by omega))]
        exact ⟨rfl, rfl⟩
      · obtain ⟨o1, z1⟩ := o_h0 hnp hj (by omega) hb
        rw [o1, z1, mn_0r (o_nn hnp hj _ (by omega)), mn_0r (z_nn' hnp hj (by omega))]
        exact ⟨rfl, rfl⟩
end JV
def J2 (X : IM) (p : Nat) (u v : Int32) : IM := wI (wI X 0 5 p u) 0 6 p v
theorem J2_eq (X : IM) (p : Nat) (u v : Int32) (b o k : Nat) : J2 X p u v b o k = if b = 0 ∧ o = 6 ∧ k = p then v else if b = 0 ∧ o = 5 ∧ k = p then u else X b o k := rfl
theorem J2_5 (X : IM) (p : Nat) (u v u' : Int32) : wI (J2 X p u v) 0 5 p u' = J2 X p u' v := by
  funext b o k
  rw [wI_eq, J2_eq, J2_eq]
  by_cases h5 : b = 0 ∧ o = 5 ∧ k = p
  · rw [if_pos h5, if_neg (fun z => by omega), if_pos h5]
  · rw [if_neg h5, if_neg h5, if_neg h5]
theorem J2_6 (X : IM) (p : Nat) (u v v' : Int32) : wI (J2 X p u v) 0 6 p v' = J2 X p u v' := by
  funext b o k
  rw [wI_eq, J2_eq, J2_eq]
  by_cases h6 : b = 0 ∧ o = 6 ∧ k = p
  · rw [if_pos h6, if_pos h6]
  · rw [if_neg h6, if_neg h6, if_neg h6]
section JW
variable {N d nl np na nk c : Nat} {X Z : IM} {F : FM} {a : Nat → Int32} {l : Int32}
theorem m43 (hc : 2 ≤ c) (hN : 20 ≤ N) {p : Nat} (hp : p < 24) (hnp : np ≤ 24) {x : Int32} (hx : X c 21 p = x) (hw : X 0 1 8 = nI np) (hn : X c 19 8 = nI na) (hna : na ≤ 8) (hq : ∀ i, i < na → X c 25 i = a (390 + 2 * i) ∧ X c 26 i = a (391 + 2 * i) ∧ ∃ q, q < np ∧ a (391 + 2 * i) = nI q) (h3 : ∀ q, q < np → X 0 3 q = tv (brF a l nl) q) (h4 : ∀ q, q < np → X 0 4 q = tv (eF a l nl) q) : sem N (d + 2) 43 [vR (some (0, 1)), vR (some (c, 19)), vI (nI p)] (J2 X p 0 (-1)) F = some (vI 0, J2 X p (bz (sgd a l nl na x = true)) (slt a l nl x na), F) := by
  obtain ⟨cc, rfl⟩ := blk hc
  have ip : inb (nI p) 24 := inb_nI hp (by decide)
  have cp : (nI p).toNatClampNeg = p := nI_clamp (by omega)
  have rc : ∀ u v o k, J2 X p u v (cc + 2) o k = X (cc + 2) o k := fun u v o k => by rw [J2_eq, if_neg (fun z => by omega), if_neg (fun z => by omega)]
  have r3 : ∀ u v k, J2 X p u v 0 3 k = X 0 3 k := fun u v k => by rw [J2_eq, if_neg (fun z => by omega), if_neg (fun z => by omega)]
  have r4 : ∀ u v k, J2 X p u v 0 4 k = X 0 4 k := fun u v k => by rw [J2_eq, if_neg (fun z => by omega), if_neg (fun z => by omega)]
  have r1 : ∀ u v k, J2 X p u v 0 1 k = X 0 1 k := fun u v k => by rw [J2_eq, if_neg (fun z => by omega), if_neg (fun z => by omega)]
  have r5 : ∀ u v, J2 X p u v 0 5 p = u := fun u v => by rw [J2_eq, if_neg (fun z => by omega), if_pos ⟨rfl, rfl, rfl⟩]
  have r6 : ∀ u v, J2 X p u v 0 6 p = v := fun u v => by rw [J2_eq, if_pos ⟨rfl, rfl, rfl⟩]
  have n0 : vp_nar .boolean (0 : Int32) = 0 := nar_01 (Or.inl rfl)
  have n1 : vp_nar .boolean (1 : Int32) = 1 := nar_01 (Or.inr rfl)
  rw [s43]; unfold b43
  rw [if_pos ip, cp, rc, hx]
  have h := lp (S := fun m i => sg (sem N (d + 1)) 0 zc43 m 10 [vR (some (0, 1)), vR (some (cc + 2, 19)), vI (nI p), vI x, vI (nI i)] (J2 X p (bz (sgd a l nl i x = true)) (slt a l nl x i)) F) (T := some (vI 0, J2 X p (bz (sgd a l nl na x = true)) (slt a l nl x na), F)) (m := na) ?_ ?_ na 0 N (by omega) (by omega)
  · try dsimp only at h
    rw [bz_f (p := sgd a l nl 0 x = true) Bool.false_ne_true] at h
    exact h
  · intro m i hi
    try dsimp only
    obtain ⟨q1, q2, q, hq1, eq1⟩ := hq i hi
    have ii : inb (nI i) 8 := inb_nI (by omega) (by decide)
    have ci : (nI i).toNatClampNeg = i := nI_clamp (by omega)
    have iq : inb (nI q) 24 := inb_nI (by omega) (by decide)
    have cq : (nI q).toNatClampNeg = q := nI_clamp (by omega)
    have q0 : ¬ nI q < 0 := nI_pos (by omega)
    have qn : ¬ nI np ≤ nI q := nI_ge hq1 (by omega)
    have es : sgd a l nl (i + 1) x = (decide (a (390 + 2 * i) = x ∧ ¬ tv (brF a l nl) (a (391 + 2 * i)).toNatClampNeg = 0) || sgd a l nl i x) := rfl
    have et : slt a l nl x (i + 1) = if a (390 + 2 * i) = x then mxI (slt a l nl x i) (tv (eF a l nl) (a (391 + 2 * i)).toNatClampNeg) else slt a l nl x i := rfl
    rw [u43_10]; unfold b43_10
    rw [rc, hn, if_neg (nI_ge hi (by omega)), if_neg (show ¬ (8 : Int32) ≤ nI i from nI_ge (show i < 8 by omega) (by decide)), es, et]
    simp only [eq_true ii, ↓reduceIte, ci, rc, q1, q2, eq1, cq, nI_1]
    by_cases hE : a (390 + 2 * i) = x
    · rw [if_pos hE, if_pos hE, if_neg q0, r1, hw, if_neg qn]
      simp only [eq_true ip, eq_true iq, ↓reduceIte, cp, cq, r5, r3, h3 q hq1, n0, n1, J2_5, J2_6, r6, r4, h4 q hq1, m308, bI_v]
      by_cases hS : sgd a l nl i x = true
      · rw [bz_t hS, if_neg (by decide), bz_t (by rw [hS, Bool.or_true])]
        rfl
      · have hS' : sgd a l nl i x = false := by simpa using hS
        rw [bz_f hS, if_pos rfl, hS', Bool.or_false]
        by_cases hb : tv (brF a l nl) q = 0
        · rw [if_pos hb, bz_f (by rw [decide_eq_true_iff]; exact fun z => z.2 hb)]
          rfl
        · rw [if_neg hb, bz_t (by rw [decide_eq_true_iff]; exact ⟨hE, hb⟩)]
          rfl
    · have ed : (decide (a (390 + 2 * i) = x ∧ ¬ tv (brF a l nl) q = 0)) = false := by rw [decide_eq_false_iff_not]; exact fun z => hE z.1
      rw [if_neg hE, if_neg hE, ed, Bool.false_or]
  · intro m
    try dsimp only
    rw [u43_10]; unfold b43_10
    rw [rc, hn, if_pos (nI_le (Nat.le_refl _) (by omega))]
theorem m44 (hc : 2 ≤ c) {p : Nat} (hok : plOK a nk p) (j2 : ∀ r, r < 8 → X c 2 r = a r) (hg : ∀ r, r < 8 → X 0 2 r = rtl (fun i => a (20 + 2 * i)) (fun i => a (20 + 2 * i + 1)) (nI r) (-1) (-1) nl) (hk : ¬ (a (268 + 3 * p) = 3 ∨ a (268 + 3 * p) = 4)) : sem N (d + 3) 44 [vR (some (0, 1)), vI (a (268 + 3 * p)), vI (a (269 + 3 * p)), vR (some (c, 2))] X F = some (vI (oV a nl (a (268 + 3 * p)) (a (269 + 3 * p))), X, F) := by
  obtain ⟨cc, rfl⟩ := blk hc
  rw [s44]; unfold b44 oV
  generalize hK : a (268 + 3 * p) = K at *
  generalize hx : a (269 + 3 * p) = x at *
  generalize hy : a (270 + 3 * p) = y at *
  unfold plOK at hok
  rw [hK, hx, hy] at hok
  rcases hok with ⟨rfl, h1⟩ | ⟨rfl, h1⟩ | rfl | ⟨h0, h1, h2⟩ | rfl | ⟨rfl, h1⟩ | ⟨rfl, h1⟩
  · rw [if_pos rfl, if_pos rfl]
    by_cases z : x &&& 63 = 0
    · rw [if_pos z, if_pos z]
    · rw [if_neg z, if_neg z]
  · rfl
  · rfl
  · exact absurd h0 hk
  · rfl
  · rfl
  · obtain ⟨r, hr, hr2, rfl, er⟩ := inb_get h1
    rw [if_neg (show ¬ (7 : Int32) = 0 by decide), if_neg (show ¬ (7 : Int32) = 1 by decide), if_neg (show ¬ (7 : Int32) = 2 by decide), if_neg (show ¬ (7 : Int32) = 3 by decide), if_neg (show ¬ (7 : Int32) = 4 by decide), if_neg (show ¬ (7 : Int32) = 5 by decide), if_neg (show ¬ (7 : Int32) = 6 by decide), if_pos rfl, if_neg (show ¬ (7 : Int32) = 0 by decide), if_neg (show ¬ (7 : Int32) = 1 by decide), if_neg (show ¬ (7 : Int32) = 2 by decide), if_neg (show ¬ (7 : Int32) = 5 by decide), if_neg (show ¬ (7 : Int32) = 6 by decide), if_pos rfl]
    by_cases h6 : (6 : Int32) ≤ nI r
    · rw [if_pos h6, if_pos h6]
    · rw [if_neg h6, if_neg h6, m42 (by omega) hr, bI_v, ite_bzif, hg r hr, j2 r hr, er]
      by_cases hq : rtl (fun i => a (20 + 2 * i)) (fun i => a (20 + 2 * i + 1)) (nI r) (-1) (-1) nl = a r
      · rw [if_pos hq, if_pos hq]
      · rw [if_neg hq, if_neg hq]
theorem l36 (hc : 2 ≤ c) (hN : 50 ≤ N) {p : Nat} (hp : p < np) (hj : jok (Z c) a nl np na nk) (hg : ∀ r, r < 8 → Z 0 2 r = rtl (fun i => a (20 + 2 * i)) (fun i => a (20 + 2 * i + 1)) (nI r) (-1) (-1) nl) : sem N (d + 4) 36 [vR (some (0, 1)), vR (some (c, 0)), vI l, vI (nI p)] (tz Z1 Z p 0 (jF a l nl na)) F = some (vI 0, tz Z1 Z (p + 1) 0 (jF a l nl na), F) := by
  have hj' := hj
  obtain ⟨j1, j2, j3, ⟨g1, g2, g3, g4⟩, ⟨v1, v2, v3, v4, v5, v6, v7, v8⟩⟩ := hj'
  obtain ⟨w1, w2, w3, -, -, hok⟩ := v4 p hp
  have hjn := jn_ok hok
  have ip : inb (nI p) 24 := inb_nI (by omega) (by decide)
  have cp : (nI p).toNatClampNeg = p := nI_clamp (by omega)
  have rc : ∀ j o k, tz Z1 Z p j (jF a l nl na) c o k = Z c o k := fun j o k => tz_b (by omega)
  have tc : tz Z1 Z p 0 (jF a l nl na) c = Z c := by
    funext o k
    exact rc 0 o k
  have w3' : wI (tz Z1 Z p 0 (jF a l nl na)) 0 3 p (tv (brF a l nl) p) = tz Z1 Z p 3 (jF a l nl na) := tz_w rfl (by omega) (fun o ho hle => by have := Z1_iff ho; omega) rfl
  have r3 : tz Z1 Z p 3 (jF a l nl na) 0 3 p = tv (brF a l nl) p := tz_c rfl (by omega)
  have fin : ∀ x, x = tv (eF a l nl) p → wI (tz Z1 Z p 3 (jF a l nl na)) 0 4 p x = tz Z1 Z (p + 1) 0 (jF a l nl na) := fun x hx => by
    rw [tz_w (o' := 4) rfl (by omega) (fun o ho hle => by have := Z1_iff ho; omega) (by rw [hx]; rfl)]
    exact tz_n (fun o ho => by have := Z1_iff ho; omega)
  have ve := vE (l := l) (nl := nl) hjn (by omega)
  obtain ⟨cc, rfl⟩ := blk hc
  rw [s36]; unfold b36
  simp only [eq_true ip, ↓reduceIte, cp, rc, w1, m82, bI_v, ite_bzif]
  by_cases hk : a (268 + 3 * p) = 3 ∨ a (268 + 3 * p) = 4
  · rw [if_pos hk]
    obtain ⟨u, v, hu, hv, eu, ev⟩ := hjn hk
    have vb : tv (brF a l nl) p = if a (268 + 3 * p) = 3 then bz (¬ tv (brF a l nl) u = 0 ∧ ¬ tv (brF a l nl) v = 0) else bz (¬ tv (brF a l nl) u = 0 ∨ ¬ tv (brF a l nl) v = 0) := by
      refine (tv_eq _ p).trans ?_
      show (if a (268 + 3 * p) = 3 then bz (¬ tabl (brF a l nl) p (a (269 + 3 * p)).toNatClampNeg = 0 ∧ ¬ tabl (brF a l nl) p (a (270 + 3 * p)).toNatClampNeg = 0) else if a (268 + 3 * p) = 4 then bz (¬ tabl (brF a l nl) p (a (269 + 3 * p)).toNatClampNeg = 0 ∨ ¬ tabl (brF a l nl) p (a (270 + 3 * p)).toNatClampNeg = 0) else brV a l nl (a (268 + 3 * p)) (a (269 + 3 * p)) (a (270 + 3 * p))) = _
      rw [eu, ev, nI_clamp (by omega), nI_clamp (by omega), tv_lt hu, tv_lt hv]
      rcases hk with h3 | h4
      · rw [if_pos h3, if_pos h3]
      · have h3 : ¬ a (268 + 3 * p) = 3 := fun z => by rw [h4] at z; exact absurd z (by decide)
        rw [if_neg h3, if_pos h4, if_neg h3]
    rw [m38a (q := u) (r := v) (by omega) (by omega) (by omega) hu hv (by rw [rc, w2, eu]) (by rw [rc, w3, ev]) (by rw [rc, w1]; exact hk), bV_v, rc, w1, tz_r rfl hu, tz_r rfl hv, tz_r rfl hu, tz_r rfl hv]
    show some (vI 0, wI (wI (tz Z1 Z p 0 (jF a l nl na)) 0 3 p (if a (268 + 3 * p) = 3 then bz (¬ tv (brF a l nl) u = 0 ∧ ¬ tv (brF a l nl) v = 0) else bz (¬ tv (brF a l nl) u = 0 ∨ ¬ tv (brF a l nl) v = 0))) 0 4 p (if a (268 + 3 * p) = 3 then mnI (tv (eF a l nl) u) (tv (eF a l nl) v) else mxI (tv (eF a l nl) u) (tv (eF a l nl) v)), F) = _
    rw [← vb, w3', fin]
    rw [ve, eu, ev, nI_clamp (by omega), nI_clamp (by omega)]
    rcases hk with h3 | h4
    · rw [if_pos h3, if_pos h3]
    · have h3 : ¬ a (268 + 3 * p) = 3 := fun z => by rw [h4] at z; exact absurd z (by decide)
      rw [if_neg h3, if_neg h3, if_pos h4]
  · rw [if_neg hk, m41 (nk := nk) (na := na) (a := a) (np := np) (nl := nl) (by omega) hN hp (by rw [tc]; exact hj) (fun r hr => by rw [tz_o rfl, hg r hr]) hk, bI_v]
    simp only [eq_true ip, ↓reduceIte, cp, nar_01 (br_01 a l nl p), w3', rc, w3, r3]
    rw [if_neg (fun z => hk (Or.inl z)), if_neg (fun z => hk (Or.inr z))] at ve
    by_cases h5 : a (268 + 3 * p) = 5
    · rw [if_pos h5] at ve
      rw [if_pos h5, fin _ ve.symm]
    · rw [if_neg h5] at ve
      rw [if_neg h5]
      by_cases h0 : tv (brF a l nl) p = 0
      · rw [if_pos h0] at ve
        rw [if_pos h0, fin _ ve.symm]
      · rw [if_neg h0] at ve
        rw [if_neg h0, fin _ ve.symm]
theorem Z2w {o' j : Nat} (h : (o' = 5 ∧ j = 0) ∨ (o' = 6 ∧ j = 5) ∨ (o' = 7 ∧ j = 6) ∨ (o' = 8 ∧ j = 7) ∨ (o' = 9 ∧ j = 8)) : Z2 o' = true ∧ j < o' ∧ ∀ o, Z2 o = true → o ≤ o' → o ≤ j ∨ o = o' := by
  rcases h with ⟨rfl, rfl⟩ | ⟨rfl, rfl⟩ | ⟨rfl, rfl⟩ | ⟨rfl, rfl⟩ | ⟨rfl, rfl⟩ <;> refine ⟨rfl, by omega, fun o ho hle => ?_⟩ <;> (have := Z2_iff ho; omega)
theorem wZ2 {o' j p : Nat} {I : IM} {f : Nat → Nat → Int32} (h : (o' = 5 ∧ j = 0) ∨ (o' = 6 ∧ j = 5) ∨ (o' = 7 ∧ j = 6) ∨ (o' = 8 ∧ j = 7) ∨ (o' = 9 ∧ j = 8)) {x : Int32} (hx : x = f o' p) : wI (tz Z2 I p j f) 0 o' p x = tz Z2 I p o' f := tz_w (Z2w h).1 (Z2w h).2.1 (Z2w h).2.2 hx
theorem fZ2 {p : Nat} {I : IM} {x : Int32} (hx : x = tv (yF a l nl na) p) : wI (tz Z2 I p 8 (jF a l nl na)) 0 9 p x = tz Z2 I (p + 1) 0 (jF a l nl na) := by
  rw [wZ2 (o' := 9) (j := 8) (by omega) (by rw [hx]; rfl)]
  exact tz_n (fun o ho => by have := Z2_iff ho; omega)
theorem l37 (hc : 2 ≤ c) (hN : 50 ≤ N) {p : Nat} (hp : p < np) (hj : jok (Z c) a nl np na nk) (hg : ∀ r, r < 8 → Z 0 2 r = rtl (fun i => a (20 + 2 * i)) (fun i => a (20 + 2 * i + 1)) (nI r) (-1) (-1) nl) (hw : Z 0 1 8 = nI np) (h3 : ∀ q, q < np → Z 0 3 q = tv (brF a l nl) q) (h4 : ∀ q, q < np → Z 0 4 q = tv (eF a l nl) q) : sem N (d + 4) 37 [vR (some (0, 1)), vR (some (c, 0)), vI (nI p)] (tz Z2 Z p 0 (jF a l nl na)) F = some (vI 0, tz Z2 Z (p + 1) 0 (jF a l nl na), F) := by
  have hj' := hj
  obtain ⟨j1, j2, j3, ⟨g1, g2, g3, g4⟩, ⟨v1, v2, v3, v4, v5, v6, v7, v8⟩⟩ := hj'
  obtain ⟨w1, w2, w3, -, -, hok⟩ := v4 p hp
  have hja : ∀ q, q < np → jn2 a q := fun q hq => jn_ok (v4 q hq).2.2.2.2.2
  have hjn := hja p hp
  have ip : inb (nI p) 24 := inb_nI (by omega) (by decide)
  have cp : (nI p).toNatClampNeg = p := nI_clamp (by omega)
  have rc : ∀ j o k, tz Z2 Z p j (jF a l nl na) c o k = Z c o k := fun j o k => tz_b (by omega)
  have vh := vH (l := l) (nl := nl) (na := na) hjn (by omega)
  have vg := vG (l := l) (nl := nl) (na := na) hjn (by omega)
  have vo := vO (l := l) (nl := nl) (na := na) hjn (by omega)
  have vz := vZ (l := l) (nl := nl) (na := na) hjn (by omega)
  have vy := vY (l := l) (nl := nl) (na := na) hjn (by omega)
  have k5 : ∀ x, x = tv (hF a l nl na) p → wI (tz Z2 Z p 0 (jF a l nl na)) 0 5 p x = tz Z2 Z p 5 (jF a l nl na) := fun x hx => wZ2 (by omega) (by rw [hx]; rfl)
  have k6 : ∀ x, x = tv (gF a l nl na) p → wI (tz Z2 Z p 5 (jF a l nl na)) 0 6 p x = tz Z2 Z p 6 (jF a l nl na) := fun x hx => wZ2 (by omega) (by rw [hx]; rfl)
  have k7 : ∀ x, x = tv (oF a l nl na) p → wI (tz Z2 Z p 6 (jF a l nl na)) 0 7 p x = tz Z2 Z p 7 (jF a l nl na) := fun x hx => wZ2 (by omega) (by rw [hx]; rfl)
  have k8 : ∀ x, x = tv (zF a l nl na) p → wI (tz Z2 Z p 7 (jF a l nl na)) 0 8 p x = tz Z2 Z p 8 (jF a l nl na) := fun x hx => wZ2 (by omega) (by rw [hx]; rfl)
  obtain ⟨cc, rfl⟩ := blk hc
  rw [s37]; unfold b37
  simp only [eq_true ip, ↓reduceIte, cp, rc, w1, m82, bI_v, ite_bzif]
  by_cases hk : a (268 + 3 * p) = 3 ∨ a (268 + 3 * p) = 4
  · rw [if_pos hk]
    obtain ⟨u, v, hu, hv, eu, ev⟩ := hjn hk
    obtain ⟨co, cz⟩ := cOZ (l := l) (nl := nl) (na := na) v3 hja hp hu hv eu ev hk
    rw [eu, ev, nI_clamp (by omega), nI_clamp (by omega)] at vh vg vy
    rw [if_pos hk] at vy
    have j5 : ∀ k, jF a l nl na 5 k = tv (hF a l nl na) k := fun k => rfl
    have j6 : ∀ k, jF a l nl na 6 k = tv (gF a l nl na) k := fun k => rfl
    have j7 : ∀ k, jF a l nl na 7 k = tv (oF a l nl na) k := fun k => rfl
    have j8 : ∀ k, jF a l nl na 8 k = tv (zF a l nl na) k := fun k => rfl
    have j9 : ∀ k, jF a l nl na 9 k = tv (yF a l nl na) k := fun k => rfl
    have vh' : tv (hF a l nl na) p = if a (268 + 3 * p) = 3 then bz (¬ tv (hF a l nl na) u = 0 ∧ ¬ tv (hF a l nl na) v = 0) else bz (¬ tv (hF a l nl na) u = 0 ∨ ¬ tv (hF a l nl na) v = 0) := by
      rcases hk with h3 | h4
      · rw [if_pos h3] at vh ⊢
        exact vh
      · have h3 : ¬ a (268 + 3 * p) = 3 := fun z => by rw [h4] at z; exact absurd z (by decide)
        rw [if_neg h3, if_pos h4] at vh
        rw [if_neg h3]
        exact vh
    have vg' : tv (gF a l nl na) p = if a (268 + 3 * p) = 3 then mnI (tv (gF a l nl na) u) (tv (gF a l nl na) v) else mxI (tv (gF a l nl na) u) (tv (gF a l nl na) v) := by
      rcases hk with h3 | h4
      · rw [if_pos h3] at vg ⊢
        exact vg
      · have h3 : ¬ a (268 + 3 * p) = 3 := fun z => by rw [h4] at z; exact absurd z (by decide)
        rw [if_neg h3, if_pos h4] at vg
        rw [if_neg h3]
        exact vg
    rw [m38b (q := u) (r := v) (by omega) (by omega) (by omega) hu hv (by rw [rc, w2, eu]) (by rw [rc, w3, ev]) (by rw [rc, w1]; exact hk), bV_v, rc, w1, tz_r rfl hu, tz_r rfl hv, tz_r rfl hu, tz_r rfl hv]
    simp only [j5, j6]
    rw [k5 _ vh'.symm, k6 _ vg'.symm, m39 (q := u) (r := v) (by omega) (by omega) (by omega) hu hv (by rw [rc, w2, eu]) (by rw [rc, w3, ev]) (by rw [rc, w1]; exact hk), bV_v, rc, w1, tz_r rfl hu, tz_r rfl hv, tz_r rfl hu, tz_r rfl hv, tz_r rfl hu, tz_r rfl hv, tz_c rfl (by omega)]
    simp only [j5, j7, j8, j9]
    rw [k7 _ co.symm, k8 _ cz.symm, fZ2 vy.symm]
  · rw [if_neg hk]
    rw [if_neg (fun z => hk (Or.inl z)), if_neg (fun z => hk (Or.inr z))] at vh vg
    rw [if_neg (fun z => hk (Or.inl z)), if_neg (fun z => hk (Or.inr z))] at vo vz
    rw [if_neg hk] at vy
    have e3 : tz Z2 Z p 0 (jF a l nl na) 0 3 p = tv (brF a l nl) p := by rw [tz_o rfl, h3 p hp]
    have e4 : ∀ x, wI (tz Z2 Z p 0 (jF a l nl na)) 0 5 p x 0 4 p = tv (eF a l nl) p := fun x => by rw [wI_eq, if_neg (fun z => by omega), tz_o rfl, h4 p hp]
    have eJ : J2 (tz Z2 Z p 0 (jF a l nl na)) p (tv (hF a l nl na) p) (tv (gF a l nl na) p) = tz Z2 Z p 6 (jF a l nl na) := by
      show wI (wI _ 0 5 p _) 0 6 p _ = _
      rw [k5 _ rfl, k6 _ rfl]
    have h5 : tz Z2 Z p 6 (jF a l nl na) 0 5 p = tv (hF a l nl na) p := tz_c rfl (by omega)
    have h57 : tz Z2 Z p 7 (jF a l nl na) 0 5 p = tv (hF a l nl na) p := tz_c rfl (by omega)
    have h58 : tz Z2 Z p 8 (jF a l nl na) 0 5 p = tv (hF a l nl na) p := tz_c rfl (by omega)
    obtain ⟨M, rfl⟩ : ∃ M, N = M + 1 := ⟨N - 1, by omega⟩
    have fin : ∀ x, x = tv (oF a l nl na) p → sg (sem (M + 1) (d + 3)) 0 zc37 (M + 1) 116 [vR (some (0, 1)), vI (nI p), vI x, vI (nI p), vR (some (0, 7))] (tz Z2 Z p 6 (jF a l nl na)) F = some (vI 0, tz Z2 Z (p + 1) 0 (jF a l nl na), F) := fun x hx => by
      rw [u37_116 (jc := cc)]; unfold b37_116
      simp only [eq_true ip, ↓reduceIte, cp, k7 x hx, h57]
      by_cases hh : tv (hF a l nl na) p = 0
      · rw [if_pos hh] at vz vy
        rw [if_pos hh]
        simp only [k8 _ vz.symm, h58, hh, ↓reduceIte, fZ2 vy.symm]
      · rw [if_neg hh] at vz vy
        rw [if_neg hh]
        simp only [k8 _ vz.symm, h58, hh, ↓reduceIte, fZ2 vy.symm]
    have fin2 : (if tv (hF a l nl na) p = 0 then bI (sem (M + 1) (d + 3) 44 [vR (some (0, 1)), vI (a (268 + 3 * p)), vI (a (269 + 3 * p)), vR (some (cc + 2, 2))] (tz Z2 Z p 6 (jF a l nl na)) F) (fun r6 I6 F6 => sg (sem (M + 1) (d + 3)) 0 zc37 (M + 1) 116 [vR (some (0, 1)), vI (nI p), vI r6, vI (nI p), vR (some (0, 7))] I6 F6) else sg (sem (M + 1) (d + 3)) 0 zc37 (M + 1) 116 [vR (some (0, 1)), vI (nI p), vI 0, vI (nI p), vR (some (0, 7))] (tz Z2 Z p 6 (jF a l nl na)) F) = some (vI 0, tz Z2 Z (p + 1) 0 (jF a l nl na), F) := by
      by_cases hh : tv (hF a l nl na) p = 0
      · rw [if_pos hh] at vo ⊢
        rw [m44 (nk := nk) (nl := nl) (by omega) hok (fun r hr => by rw [rc, j2 r hr]) (fun r hr => by rw [tz_o rfl, hg r hr]) hk, bI_v]
        exact fin _ vo.symm
      · rw [if_neg hh] at vo ⊢
        exact fin _ vo.symm
    have eJ1 : wI (wI (tz Z2 Z p 0 (jF a l nl na)) 0 5 p (tv (brF a l nl) p)) 0 6 p (tv (eF a l nl) p) = J2 (tz Z2 Z p 0 (jF a l nl na)) p (tv (brF a l nl) p) (tv (eF a l nl) p) := rfl
    simp only [eq_true ip, ↓reduceIte, cp, e3, nar_01 (br_01 a l nl p), e4, eJ1]
    by_cases h6 : a (268 + 3 * p) = 6
    · have hb0 : tv (brF a l nl) p = 0 := by
        rw [tv_eq]; unfold brF
        rw [if_neg (fun z => hk (Or.inl z)), if_neg (fun z => hk (Or.inr z)), h6]
        rfl
      have he1 : tv (eF a l nl) p = -1 := by
        rw [vE hjn (by omega), if_neg (fun z => hk (Or.inl z)), if_neg (fun z => hk (Or.inr z)), if_neg (fun z => by rw [h6] at z; exact absurd z (by decide)), if_pos hb0]
      rw [if_pos h6] at vh vg
      rw [if_pos h6, hb0, he1, m43 (np := np) (na := na) (nl := nl) (a := a) (l := l) (x := a (269 + 3 * p)) (by omega) (by omega) (by omega) v3 (by rw [rc, w2]) (by rw [tz_o rfl, hw]) (by rw [rc, v5]) v7 (fun i hi => by rw [rc, rc]; exact ⟨(v8 i hi).1, (v8 i hi).2.1, (v8 i hi).2.2.2⟩) (fun q hq => by rw [tz_o rfl, h3 q hq]) (fun q hq => by rw [tz_o rfl, h4 q hq]), bV_v, ← vh, ← vg, eJ, h5, rc, w2]
      exact fin2
    · rw [if_neg h6] at vh vg
      rw [if_neg h6, ← vh, ← vg, eJ, h5, rc, w2]
      exact fin2
end JW
/-- the class's store once its policies are weighed -/
def jdgI (I : IM) (a : Nat → Int32) (l : Int32) (nl np na : Nat) : IM := tz Z2 (tz Z1 (fl (wI I 0 1 8 (nI np)) 0 2 8 (fun r => rtl (fun i => a (20 + 2 * i)) (fun i => a (20 + 2 * i + 1)) (nI r) (-1) (-1) nl)) np 0 (jF a l nl na)) np 0 (jF a l nl na)
theorem m33 {N d nl np na nk c : Nat} {I : IM} {F : FM} {a : Nat → Int32} (l : Int32) (hc : 2 ≤ c) (hN : 300 ≤ N) (hj : jok (I c) a nl np na nk) : sem N (d + 5) 33 [vR (some (0, 1)), vR (some (c, 0)), vI l] I F = some (vI 0, jdgI I a l nl np na, F) := by
  have hj' := hj
  obtain ⟨j1, j2, j3, ⟨g1, g2, g3, g4⟩, ⟨v1, v2, v3, v4, v5, v6, v7, v8⟩⟩ := hj'
  obtain ⟨cc, rfl⟩ := blk hc
  have e24 : (24 : Int32) = nI 24 := rfl
  rw [s33]; unfold b33
  rw [v1, m309, bI_v]
  dsimp only
  have emn : (if (24 : Int32) < nI np then 24 else nI np) = nI np := by
    rw [if_neg]
    rw [e24, i_lt, i_nI (by omega), i_nI (by omega)]
    omega
  rw [emn]
  obtain ⟨M, rfl⟩ : ∃ M, N = M + 200 := ⟨N - 200, by omega⟩
  have lpA := lp (S := fun m r => sg (sem (M + 200) (d + 4)) 0 zc33 (m + 200) 18 [vR (some (0, 1)), vR (some (cc + 2, 0)), vI l, vI (nI r)] (fl (wI I 0 1 8 (nI np)) 0 2 r (fun r => rtl (fun i => a (20 + 2 * i)) (fun i => a (20 + 2 * i + 1)) (nI r) (-1) (-1) nl)) F) (T := some (vI 0, jdgI I a l nl np na, F)) (m := 8) ?_ ?_ 8 0 M rfl (by omega)
  · try dsimp only at lpA
    rw [fl_0] at lpA
    exact lpA
  · intro m r hr
    try dsimp only
    have rc : ∀ o k, fl (wI I 0 1 8 (nI np)) 0 2 r (fun r => rtl (fun i => a (20 + 2 * i)) (fun i => a (20 + 2 * i + 1)) (nI r) (-1) (-1) nl) (cc + 2) o k = I (cc + 2) o k := fun o k => by rw [fl_eq, if_neg (fun z => by omega), wI_eq, if_neg (fun z => by omega)]
    rw [show m + 1 + 200 = (m + 200) + 1 by omega, u33_18]; unfold b33_18
    rw [if_neg (show ¬ (8 : Int32) ≤ nI r from nI_ge hr (by decide)), rc, g1, m16 (by omega) (Or.inl rfl) (by omega) _ _ _ g3, bI_v, if_pos (inb_nI hr (by decide)), nI_clamp (by omega), nI_1]
    dsimp only
    rw [rtl_c (rg' := fun i => a (20 + 2 * i)) (nm' := fun i => a (20 + 2 * i + 1)) (fun i hi => ⟨by rw [rc, (g4 i hi).1], by rw [rc, (g4 i hi).2.1]⟩)]
    exact congrArg (fun Q => sg (sem (M + 200) (d + 4)) 0 zc33 (m + 200) 18 [vR (some (0, 1)), vR (some (cc + 2, 0)), vI l, vI (nI (r + 1))] Q F) (fl_s (wI I 0 1 8 (nI np)) 0 2 r (fun r => rtl (fun i => a (20 + 2 * i)) (fun i => a (20 + 2 * i + 1)) (nI r) (-1) (-1) nl))
  · intro m
    try dsimp only
    rw [show m + 1 + 200 = (m + 200) + 1 by omega, u33_18]; unfold b33_18
    rw [if_pos (show (8 : Int32) ≤ nI 8 from nI_le (Nat.le_refl _) (by decide))]
    unfold jdgI
    have yc : ∀ o k, fl (wI I 0 1 8 (nI np)) 0 2 8 (fun r => rtl (fun i => a (20 + 2 * i)) (fun i => a (20 + 2 * i + 1)) (nI r) (-1) (-1) nl) (cc + 2) o k = I (cc + 2) o k := fun o k => by rw [fl_eq, if_neg (fun z => by omega), wI_eq, if_neg (fun z => by omega)]
    have yw : fl (wI I 0 1 8 (nI np)) 0 2 8 (fun r => rtl (fun i => a (20 + 2 * i)) (fun i => a (20 + 2 * i + 1)) (nI r) (-1) (-1) nl) 0 1 8 = nI np := by rw [fl_eq, if_neg (fun z => by omega), wI_s]
    have yg : ∀ r, r < 8 → fl (wI I 0 1 8 (nI np)) 0 2 8 (fun r => rtl (fun i => a (20 + 2 * i)) (fun i => a (20 + 2 * i + 1)) (nI r) (-1) (-1) nl) 0 2 r = rtl (fun i => a (20 + 2 * i)) (fun i => a (20 + 2 * i + 1)) (nI r) (-1) (-1) nl := fun r hr => by rw [fl_eq, if_pos ⟨rfl, rfl, hr⟩]
    generalize fl (wI I 0 1 8 (nI np)) 0 2 8 (fun r => rtl (fun i => a (20 + 2 * i)) (fun i => a (20 + 2 * i + 1)) (nI r) (-1) (-1) nl) = Y at yc yw yg ⊢
    have yj : jok (Y (cc + 2)) a nl np na nk := by
      rw [show Y (cc + 2) = I (cc + 2) from funext (fun o => funext (fun k => yc o k))]
      exact hj
    have lpB := lp (S := fun m p => sg (sem (M + 200) (d + 4)) 0 zc33 (m + 100) 55 [vR (some (0, 1)), vR (some (cc + 2, 0)), vI l, vI (nI p)] (tz Z1 Y p 0 (jF a l nl na)) F) (T := some (vI 0, tz Z2 (tz Z1 Y np 0 (jF a l nl na)) np 0 (jF a l nl na), F)) (m := np) ?_ ?_ np 0 (m + 100) (by omega) (by omega)
    · try dsimp only at lpB
      rw [tz_0 (fun o ho => by have := Z1_iff ho; omega), show m + 100 + 100 = m + 200 by omega] at lpB
      exact lpB
    · intro m p hp
      try dsimp only
      rw [show m + 1 + 100 = (m + 100) + 1 by omega, u33_55]; unfold b33_55
      rw [tz_o rfl, yw, if_neg (nI_ge hp (by omega)), l36 (np := np) (nk := nk) (by omega) (by omega) hp yj yg, bV_v, nI_1]
    · intro m
      try dsimp only
      rw [show m + 1 + 100 = (m + 100) + 1 by omega, u33_55]; unfold b33_55
      rw [tz_o rfl, yw, if_pos (nI_le (Nat.le_refl _) (by omega))]
      have zc' : ∀ o k, tz Z1 Y np 0 (jF a l nl na) (cc + 2) o k = Y (cc + 2) o k := fun o k => tz_b (by omega)
      have zw : tz Z1 Y np 0 (jF a l nl na) 0 1 8 = nI np := by rw [tz_o rfl, yw]
      have zg : ∀ r, r < 8 → tz Z1 Y np 0 (jF a l nl na) 0 2 r = rtl (fun i => a (20 + 2 * i)) (fun i => a (20 + 2 * i + 1)) (nI r) (-1) (-1) nl := fun r hr => by rw [tz_o rfl, yg r hr]
      have z3 : ∀ q, q < np → tz Z1 Y np 0 (jF a l nl na) 0 3 q = tv (brF a l nl) q := fun q hq => by rw [tz_r rfl hq]; rfl
      have z4 : ∀ q, q < np → tz Z1 Y np 0 (jF a l nl na) 0 4 q = tv (eF a l nl) q := fun q hq => by rw [tz_r rfl hq]; rfl
      generalize tz Z1 Y np 0 (jF a l nl na) = V at zc' zw zg z3 z4 ⊢
      have vj : jok (V (cc + 2)) a nl np na nk := by
        rw [show V (cc + 2) = Y (cc + 2) from funext (fun o => funext (fun k => zc' o k))]
        exact yj
      have lpC := lp (S := fun m p => sg (sem (M + 200) (d + 4)) 0 zc33 m 78 [vR (some (0, 1)), vR (some (cc + 2, 0)), vI (nI p)] (tz Z2 V p 0 (jF a l nl na)) F) (T := some (vI 0, tz Z2 V np 0 (jF a l nl na), F)) (m := np) ?_ ?_ np 0 (m + 100) (by omega) (by omega)
      · try dsimp only at lpC
        rw [tz_0 (fun o ho => by have := Z2_iff ho; omega)] at lpC
        exact lpC
      · intro m p hp
        try dsimp only
        rw [u33_78]; unfold b33_78
        rw [tz_o rfl, zw, if_neg (nI_ge hp (by omega)), l37 (np := np) (nk := nk) (by omega) (by omega) hp vj zg zw z3 z4, bV_v, nI_1]
      · intro m
        try dsimp only
        rw [u33_78]; unfold b33_78
        rw [tz_o rfl, zw, if_pos (nI_le (Nat.le_refl _) (by omega))]
/-! what is read of it -/
theorem jdg_b {I : IM} {a : Nat → Int32} {l : Int32} {nl np na b o k : Nat} (h : b ≠ 0) : jdgI I a l nl np na b o k = I b o k := by
  unfold jdgI
  rw [tz_b h, tz_b h, fl_eq, if_neg (fun z => h z.1), wI_eq, if_neg (fun z => h z.1)]
theorem jdg_w {I : IM} {a : Nat → Int32} {l : Int32} {nl np na : Nat} : jdgI I a l nl np na 0 1 8 = nI np := by
  unfold jdgI
  rw [tz_o rfl, tz_o rfl, fl_eq, if_neg (fun z => by omega), wI_s]
theorem jdg_t {I : IM} {a : Nat → Int32} {l : Int32} {nl np na o k : Nat} (hS : Z2 o = true) (hk : k < np) : jdgI I a l nl np na 0 o k = jF a l nl na o k := by
  unfold jdgI
  rw [tz_r hS hk]
theorem jdg_1 {I : IM} {a : Nat → Int32} {l : Int32} {nl np na o k : Nat} (h : ¬ (1 ≤ o ∧ o ≤ 9)) : jdgI I a l nl np na 0 o k = I 0 o k := by
  unfold jdgI
  have h2 : ¬ Z2 o = true := fun z => by have := Z2_iff z; omega
  have h1 : ¬ Z1 o = true := fun z => by have := Z1_iff z; omega
  rw [tz_eq, if_neg (fun z => h2 z.2.1), tz_eq, if_neg (fun z => h1 z.2.1), fl_eq, if_neg (fun z => by omega), wI_eq, if_neg (fun z => by omega)]
theorem sm_jdg {I J : IM} {F G : FM} {a : Nat → Int32} {l : Int32} {nl np na : Nat} (h : smI I J F G) : smI I (jdgI J a l nl np na) F G := by
  obtain ⟨q1, q2, q3, q4⟩ := h
  refine ⟨fun b o k z => ?_, fun o k => ?_, fun k => ?_, q4⟩
  · by_cases e : b = 0
    · subst e
      rw [jdg_1 (by unfold kpl at z; omega), q1 0 o k z]
    · rw [jdg_b e, q1 b o k z]
  · rw [jdg_b (by omega), q2]
  · rw [jdg_b (by omega), q3]
theorem jok_of {B : Nat → Nat → Int32} {f g : UInt32} {a : Nat → Int32} {nl nc nk nx np na ns : Nat} (h : CRep B f a g nl nc nk nx np na ns) : jok B a nl np na nk := by
  obtain ⟨-, ⟨p1, p2, p3, p4, p5, p6⟩, h2, -, -, h5, -, -⟩ := h
  exact ⟨p2, p4, fun c hc => (p5 c hc).1, h2, h5⟩
theorem m34 {N d np na nl : Nat} {I : IM} {F : FM} {a : Nat → Int32} {l : Int32} (x : Int32) (hnp : np ≤ 24) (hw : I 0 1 8 = nI np) (h5 : ∀ q, q < np → I 0 5 q = tv (hF a l nl na) q) : sem N (d + 1) 34 [vR (some (0, 1)), vI x] I F = some (vI (bz (x = -1 ∨ (inb x np ∧ ¬ tv (hF a l nl na) x.toNatClampNeg = 0))), I, F) := by
  rw [s34]; unfold b34
  by_cases h1 : x = -1
  · rw [if_pos h1, bz_t (Or.inl h1)]
  · rw [if_neg h1]
    by_cases hx : inb x np
    · obtain ⟨c, hc, hc2, rfl, ec⟩ := inb_get hx
      rw [if_neg (nI_pos hc2), hw, if_neg (nI_ge hc (by omega)), if_pos (inb_mono hnp hx), ite_bzn]
      refine congrArg (fun v => some (vI v, I, F)) (bz_congr ?_)
      have e5 : I 0 5 (nI c).toNatClampNeg = tv (hF a l nl na) (nI c).toNatClampNeg := by rw [ec, h5 c hc]
      rw [e5]
      exact ⟨fun z => Or.inr ⟨hx, z⟩, fun z => z.elim (fun y => absurd y h1) (fun y => y.2)⟩
    · rw [bz_f (fun z => z.elim h1 (fun y => hx y.1))]
      by_cases h0 : x < 0
      · rw [if_pos h0]
      · rw [if_neg h0, hw, if_pos]
        rw [inb_iff] at hx
        rw [i_lt, i_0] at h0
        rw [i_le, i_nI (by omega)]
        omega
