/-! FORESEEN -/
def fr0 (a : Nat → Int32) (L : Nat) : Nat → Int32 := fun k => if k < 8 then atF (nI k) else if k = 8 then nI L else if k = 11 then 0 else a k
abbrev okX (a : Nat → Int32) (L c : Nat) : Prop := a (100 + 2 * c) < 6 ∨ 0 < L
def nlA (a : Nat → Int32) (L : Nat) : Nat → Nat
  | 0 => 0
  | c + 1 => if okX a L c then nlA a L c + 1 else nlA a L c
def frr (a : Nat → Int32) (L : Nat) : Nat → Nat → Int32
  | 0 => fr0 a L
  | c + 1 => if okX a L c then (updR (updR (updR (updR (frr a L c) (a (100 + 2 * c)).toNatClampNeg (mixF (frr a L c (a (100 + 2 * c)).toNatClampNeg) (a (100 + 2 * c + 1)))) (20 + 2 * nlA a L c) (a (100 + 2 * c))) (20 + 2 * nlA a L c + 1) (a (100 + 2 * c + 1))) 11 (nI (nlA a L c + 1))) else frr a L c
theorem nlA_y {a : Nat → Int32} {L c : Nat} (h : okX a L c) : nlA a L (c + 1) = nlA a L c + 1 := by
  exact if_pos h
theorem nlA_n {a : Nat → Int32} {L c : Nat} (h : ¬ okX a L c) : nlA a L (c + 1) = nlA a L c := by
  exact if_neg h
theorem frr_y {a : Nat → Int32} {L c : Nat} (h : okX a L c) : frr a L (c + 1) = updR (updR (updR (updR (frr a L c) (a (100 + 2 * c)).toNatClampNeg (mixF (frr a L c (a (100 + 2 * c)).toNatClampNeg) (a (100 + 2 * c + 1)))) (20 + 2 * nlA a L c) (a (100 + 2 * c))) (20 + 2 * nlA a L c + 1) (a (100 + 2 * c + 1))) 11 (nI (nlA a L c + 1)) := by
  exact if_pos h
theorem frr_n {a : Nat → Int32} {L c : Nat} (h : ¬ okX a L c) : frr a L (c + 1) = frr a L c := by
  exact if_neg h
theorem updR_eq (f : Nat → Int32) (k : Nat) (x : Int32) (i : Nat) : updR f k x i = if i = k then x else f i := rfl
section FO
variable {a : Nat → Int32} {L nc : Nat}
theorem frr_p (hn : nc ≤ 40) (hr : ∀ i, i < nc → ∃ r, r < 8 ∧ a (100 + 2 * i) = nI r) : ∀ c, c ≤ nc → nlA a L c ≤ c ∧ (∀ k, ¬ k < 9 → ¬ k = 11 → ¬ (20 ≤ k ∧ k < 20 + 2 * nlA a L c) → frr a L c k = a k) ∧ frr a L c 8 = nI L ∧ frr a L c 11 = nI (nlA a L c) ∧ ∀ j, j < nlA a L c → ∃ r, r < 8 ∧ frr a L c (20 + 2 * j) = nI r := by
  intro c
  induction c with
  | zero =>
    intro _
    refine ⟨Nat.le_refl _, fun k h1 h2 h3 => ?_, rfl, rfl, fun j hj => absurd hj (Nat.not_lt_zero j)⟩
    show fr0 a L k = a k
    unfold fr0
    rw [if_neg (by omega), if_neg (by omega), if_neg h2]
  | succ c ih =>
    intro hc
    obtain ⟨h1, h2, h3, h4, h5⟩ := ih (by omega)
    by_cases ho : okX a L c
    · obtain ⟨r, hr8, er⟩ := hr c (by omega)
      rw [nlA_y ho, frr_y ho, er, nI_clamp (by omega)]
      refine ⟨by omega, fun k z1 z2 z3 => ?_, ?_, ?_, fun j hj => ?_⟩
      · rw [updR_eq, if_neg z2, updR_eq, if_neg (by omega), updR_eq, if_neg (by omega), updR_eq, if_neg (by omega), h2 k z1 z2 (by omega)]
      · rw [updR_eq, if_neg (by omega), updR_eq, if_neg (by omega), updR_eq, if_neg (by omega), updR_eq, if_neg (by omega), h3]
      · rw [updR_eq, if_pos rfl]
      · by_cases e : j = nlA a L c
        · subst e
          exact ⟨r, hr8, by rw [updR_eq, if_neg (by omega), updR_eq, if_neg (by omega), updR_eq, if_pos rfl]⟩
        · obtain ⟨r', hr', er'⟩ := h5 j (by omega)
          exact ⟨r', hr', by rw [updR_eq, if_neg (by omega), updR_eq, if_neg (by omega), updR_eq, if_neg (by omega), updR_eq, if_neg (by omega), er']⟩
    · rw [nlA_n ho, frr_n ho]
      exact ⟨by omega, h2, h3, h4, h5⟩
theorem rok_fr {nl np na nk : Nat} (hn : nc ≤ 40) (hr : ∀ i, i < nc → ∃ r, r < 8 ∧ a (100 + 2 * i) = nI r) (h : rok a nl np na nk) : rok (frr a L nc) (nlA a L nc) np na nk := by
  obtain ⟨h1, h2, h3, h4, h5⟩ := frr_p (L := L) hn hr nc (Nat.le_refl _)
  obtain ⟨r1, r2, r3, r4, r5, r6, r7, r8, r9⟩ := h
  refine ⟨h4, by omega, h5, by rw [h2 15 (by omega) (by omega) (by omega), r4], r5, fun p hp => ?_, by rw [h2 18 (by omega) (by omega) (by omega), r7], r8, fun i hi => ?_⟩
  · have := r6 p hp
    unfold plOK at this ⊢
    rw [h2 (268 + 3 * p) (by omega) (by omega) (by omega), h2 (269 + 3 * p) (by omega) (by omega) (by omega), h2 (270 + 3 * p) (by omega) (by omega) (by omega)]
    exact this
  · rw [h2 (391 + 2 * i) (by omega) (by omega) (by omega)]
    exact r9 i hi
end FO
noncomputable def cob (P : Nat → Prop) (n : Nat) : Int32 := @orb P (fun _ => Classical.propDecidable _) n
theorem cob_y {P : Nat → Prop} {n : Nat} (h : P n) : cob P (n + 1) = cob P n ||| sh1 n := if_pos h
theorem cob_n {P : Nat → Prop} {n : Nat} (h : ¬ P n) : cob P (n + 1) = cob P n := if_neg h
theorem cob_c {P Q : Nat → Prop} : ∀ {n : Nat}, (∀ i, i < n → (P i ↔ Q i)) → cob P n = cob Q n := by
  intro n h
  exact @orb_congr P Q (fun _ => Classical.propDecidable _) (fun _ => Classical.propDecidable _) n h
/-- what the paper is after some entries -/
def fRel (I X : IM) (L c : Nat) : Prop := (∀ b o k, b ≠ 3 → X b o k = I b o k) ∧ X 3 1 2 = nI L ∧ X 3 1 3 = I 1 2 9 ∧ (∀ r, r < 8 → X 3 2 r = frr (I 1 2) L c r) ∧ (∀ i, i < 4 → X 3 3 i = I 1 2 (386 + i)) ∧ X 3 4 2 = nI (nlA (I 1 2) L c) ∧ (∀ j, j < nlA (I 1 2) L c → X 3 5 j = frr (I 1 2) L c (20 + 2 * j) ∧ X 3 6 j = frr (I 1 2) L c (20 + 2 * j + 1)) ∧ ∀ o k, 19 ≤ o → o ≤ 26 → cpd o k → X 3 o k = I 2 o k
section FC
variable {N d nl nc nk nx np na ns L : Nat} {I : IM} {F : FM}
theorem l162a (hN : 50 ≤ N) (hL : L < 4) (hc2 : enR (I 2) (I 1 2) 7 12 100 nc) : ∀ k c m X, c + k = nc → fRel I X L c → ∃ X', fRel I X' L nc ∧ sg (sem N (d + 3)) 1 zc162 (m + k) 40 [vR (some (0, 0)), vI (nI L), vI (nI c)] X F = sg (sem N (d + 3)) 1 zc162 m 40 [vR (some (0, 0)), vI (nI L), vI (nI nc)] X' F := by
  obtain ⟨g1, g2, g3, g4⟩ := hc2
  have hr : ∀ i, i < nc → ∃ r, r < 8 ∧ I 1 2 (100 + 2 * i) = nI r := fun i hi => (g4 i hi).2.2
  intro k
  induction k with
  | zero =>
    intro c m X hc hX
    have e : c = nc := by omega
    subst e
    exact ⟨X, hX, rfl⟩
  | succ k ih =>
    intro c m X hc hX
    have hX' := hX
    obtain ⟨x1, x2, x3, x4, x5, x6, x7, x8⟩ := hX'
    obtain ⟨r, hr8, er⟩ := hr c (by omega)
    have e8 : X 2 8 c = nI r := by rw [x1 2 8 c (by omega), show I 2 8 c = I 1 2 (100 + 2 * c) from (g4 c (by omega)).1, er]
    have e9 : X 2 9 c = I 1 2 (100 + 2 * c + 1) := by rw [x1 2 9 c (by omega)]; exact (g4 c (by omega)).2.1
    have ic : inb (nI c) 40 := inb_nI (by omega) (by decide)
    have kc : (nI c).toNatClampNeg = c := nI_clamp (by omega)
    obtain ⟨h1, h2, h3, h4, h5⟩ := frr_p (a := I 1 2) (L := L) g3 hr c (by omega)
    have hst : sg (sem N (d + 3)) 1 zc162 (m + (k + 1)) 40 [vR (some (0, 0)), vI (nI L), vI (nI c)] X F = if okX (I 1 2) L c then sg (sem N (d + 3)) 1 zc162 (m + k) 40 [vR (some (0, 0)), vI (nI L), vI (nI (c + 1))] (wI (wI (wI (wI X 3 2 r (mixF (X 3 2 r) (I 1 2 (100 + 2 * c + 1)))) 3 5 (nlA (I 1 2) L c) (nI r)) 3 6 (nlA (I 1 2) L c) (I 1 2 (100 + 2 * c + 1))) 3 4 2 (nI (nlA (I 1 2) L c + 1))) F else sg (sem N (d + 3)) 1 zc162 (m + k) 40 [vR (some (0, 0)), vI (nI L), vI (nI (c + 1))] X F := by
      rw [show m + (k + 1) = (m + k) + 1 by omega, u162_40]; unfold b162_40
      rw [x1 2 7 2 (by omega), g1, if_neg (nI_ge (show c < nc by omega) (by omega)), if_neg (show ¬ (40 : Int32) ≤ nI c from nI_ge (show c < 40 by omega) (by decide))]
      simp only [eq_true ic, ↓reduceIte, kc, e8, e9, nI_1]
      rw [m4 (by omega), bI_v, ite_bzif, x2]
      have hiff : (nI r < 6 ∨ ¬ nI L < 1) ↔ okX (I 1 2) L c := by
        show _ ↔ (I 1 2 (100 + 2 * c) < 6 ∨ 0 < L)
        rw [er]
        have : (¬ nI L < 1) ↔ 0 < L := by
          rw [i_lt, i_nI (by omega), show (1 : Int32).toInt = 1 by decide]
          omega
        rw [this]
      by_cases ho : okX (I 1 2) L c
      · rw [if_pos (hiff.mpr ho), if_pos ho, m113 (by omega) hr8 _ x6 (by omega), bV_v, e9]
      · rw [if_neg (fun z => ho (hiff.mp z)), if_neg ho]
    by_cases ho : okX (I 1 2) L c
    · rw [hst, if_pos ho]
      refine ih (c + 1) m _ (by omega) ⟨fun b o i z => ?_, ?_, ?_, fun q hq => ?_, fun i hi => ?_, ?_, fun j hj => ?_, fun o i z1 z2 z3 => ?_⟩
      · rw [wI_eq, if_neg (fun y => z y.1), wI_eq, if_neg (fun y => z y.1), wI_eq, if_neg (fun y => z y.1), wI_eq, if_neg (fun y => z y.1), x1 b o i z]
      · rw [wI_eq, if_neg (fun z => by omega), wI_eq, if_neg (fun z => by omega), wI_eq, if_neg (fun z => by omega), wI_eq, if_neg (fun z => by omega), x2]
      · rw [wI_eq, if_neg (fun z => by omega), wI_eq, if_neg (fun z => by omega), wI_eq, if_neg (fun z => by omega), wI_eq, if_neg (fun z => by omega), x3]
      · rw [frr_y ho, er, nI_clamp (by omega), updR_eq, if_neg (by omega), updR_eq, if_neg (by omega), updR_eq, if_neg (by omega), updR_eq, wI_eq, if_neg (fun z => by omega), wI_eq, if_neg (fun z => by omega), wI_eq, if_neg (fun z => by omega), wI_eq, x4 r hr8]
        by_cases e : q = r
        · rw [if_pos ⟨rfl, rfl, e⟩, if_pos e]
        · rw [if_neg (fun y => e y.2.2), if_neg e, x4 q hq]
      · rw [wI_eq, if_neg (fun z => by omega), wI_eq, if_neg (fun z => by omega), wI_eq, if_neg (fun z => by omega), wI_eq, if_neg (fun z => by omega), x5 i hi]
      · rw [wI_s, nlA_y ho]
      · rw [nlA_y ho] at hj
        have f5 : frr (I 1 2) L (c + 1) (20 + 2 * j) = if j = nlA (I 1 2) L c then nI r else frr (I 1 2) L c (20 + 2 * j) := by
          rw [frr_y ho, er, nI_clamp (by omega), updR_eq, if_neg (by omega), updR_eq, if_neg (by omega), updR_eq]
          by_cases e : j = nlA (I 1 2) L c
          · rw [if_pos (by rw [e]), if_pos e]
          · rw [if_neg (by omega), if_neg e, updR_eq, if_neg (by omega)]
        have f6 : frr (I 1 2) L (c + 1) (20 + 2 * j + 1) = if j = nlA (I 1 2) L c then I 1 2 (100 + 2 * c + 1) else frr (I 1 2) L c (20 + 2 * j + 1) := by
          rw [frr_y ho, er, nI_clamp (by omega), updR_eq, if_neg (by omega), updR_eq]
          by_cases e : j = nlA (I 1 2) L c
          · rw [if_pos (by rw [e]), if_pos e]
          · rw [if_neg (by omega), if_neg e, updR_eq, if_neg (by omega), updR_eq, if_neg (by omega)]
        rw [f5, f6]
        by_cases e : j = nlA (I 1 2) L c
        · subst e
          rw [if_pos rfl, if_pos rfl]
          refine ⟨?_, ?_⟩
          · rw [wI_eq, if_neg (fun z => by omega), wI_eq, if_neg (fun z => by omega), wI_s]
          · rw [wI_eq, if_neg (fun z => by omega), wI_s]
        · rw [if_neg e, if_neg e]
          refine ⟨?_, ?_⟩
          · rw [wI_eq, if_neg (fun z => by omega), wI_eq, if_neg (fun z => by omega), wI_eq, if_neg (fun z => by omega), wI_eq, if_neg (fun z => by omega)]; exact (x7 j (by omega)).1
          · rw [wI_eq, if_neg (fun z => by omega), wI_eq, if_neg (fun z => by omega), wI_eq, if_neg (fun z => by omega), wI_eq, if_neg (fun z => by omega)]; exact (x7 j (by omega)).2
      · rw [wI_eq, if_neg (fun z => by omega), wI_eq, if_neg (fun z => by omega), wI_eq, if_neg (fun z => by omega), wI_eq, if_neg (fun z => by omega), x8 o i z1 z2 z3]
    · rw [hst, if_neg ho]
      refine ih (c + 1) m X (by omega) ⟨x1, x2, x3, fun q hq => ?_, x5, ?_, fun j hj => ?_, x8⟩
      · rw [frr_n ho]; exact x4 q hq
      · rw [nlA_n ho]; exact x6
      · rw [nlA_n ho] at hj
        rw [frr_n ho]; exact x7 j hj
/-- the seals that would be let -/
theorem l162c {M : Nat} (hM : 20 ≤ M) {X : IM} {ρ : Nat → Int32} {l : Int32} (hnp : np ≤ 24) (h27 : X 2 27 3 = nI ns) (hns : ns ≤ 10) (hsl : ∀ s, s < ns → X 2 30 s = ρ (342 + 3 * s) ∧ (ρ (342 + 3 * s) = -1 ∨ ∃ p, p < np ∧ ρ (342 + 3 * s) = nI p)) (h18 : X 0 1 8 = nI np) (h5 : ∀ q, q < np → X 0 5 q = tv (hF ρ l nl na) q) : sg (sem N (d + 1)) 1 zc162 M 129 [vR (some (0, 0)), vI 0, vI 0] X F = some (vI (cob (slH ρ l nl na) ns), X, F) := by
  refine lp (S := fun m c => sg (sem N (d + 1)) 1 zc162 m 129 [vR (some (0, 0)), vI (cob (slH ρ l nl na) c), vI (nI c)] X F) (m := ns) ?_ ?_ ns 0 M (by omega) (by omega)
  · intro m c hc
    try dsimp only
    obtain ⟨e30, hpol⟩ := hsl c hc
    have ic : inb (nI c) 10 := inb_nI (by omega) (by decide)
    have kc : (nI c).toNatClampNeg = c := nI_clamp (by omega)
    rw [u162_129]; unfold b162_129
    rw [h27, if_neg (nI_ge hc (by omega)), if_neg (show ¬ (10 : Int32) ≤ nI c from nI_ge (show c < 10 by omega) (by decide))]
    simp only [eq_true ic, ↓reduceIte, kc, e30, nI_1]
    rw [m34 (a := ρ) (l := l) (nl := nl) (na := na) (np := np) _ hnp h18 h5, bI_v, ite_bzif]
    by_cases h2 : ρ (342 + 3 * c) = -1 ∨ (inb (ρ (342 + 3 * c)) np ∧ ¬ tv (hF ρ l nl na) (ρ (342 + 3 * c)).toNatClampNeg = 0)
    · rw [if_pos h2, cob_y (show slH ρ l nl na c from h2.elim Or.inl (fun z => Or.inr z.2))]
    · rw [if_neg h2, cob_n (fun z => by
        rcases z with y | y
        · exact h2 (Or.inl y)
        · rcases hpol with q | ⟨p, hp, q⟩
          · exact h2 (Or.inl q)
          · exact h2 (Or.inr ⟨by rw [q]; exact inb_nI hp (by omega), y⟩))]
  · intro m
    try dsimp only
    rw [u162_129]; unfold b162_129
    rw [h27, if_pos (nI_le (Nat.le_refl _) (by omega))]
/-- the reference: entries -/
theorem l286a {J : IM} {a : Nat → Int32} (hL : L < 4) (hn : nc ≤ 40) (h12 : a 12 = nI nc) (hr : ∀ i, i < nc → ∃ r, r < 8 ∧ a (100 + 2 * i) = nI r) : ∀ k c m, c + k = nc → sg (sem N (d + 2)) 1 zc286 (m + k) 74 [vR (some (1, 0)), vI (nI c)] (sr J (frr a L c)) F = sg (sem N (d + 2)) 1 zc286 m 74 [vR (some (1, 0)), vI (nI nc)] (sr J (frr a L nc)) F := by
  intro k
  induction k with
  | zero =>
    intro c m hc
    rw [show c = nc by omega]
    rfl
  | succ k ih =>
    intro c m hc
    obtain ⟨r, hr8, er⟩ := hr c (by omega)
    obtain ⟨h1, h2, h3, h4, h5⟩ := frr_p (a := a) (L := L) hn hr c (by omega)
    have e0 : (100 : Int32) + 2 * nI c = nI (100 + 2 * c) := by rw [L100, L2, nI_mul, nI_add]
    have i0 : inb (nI (100 + 2 * c)) 406 := inb_nI (by omega) (by decide)
    have i1 : inb (nI (100 + 2 * c + 1)) 406 := inb_nI (by omega) (by decide)
    have k0 : (nI (100 + 2 * c)).toNatClampNeg = 100 + 2 * c := nI_clamp (by omega)
    have k1 : (nI (100 + 2 * c + 1)).toNatClampNeg = 100 + 2 * c + 1 := nI_clamp (by omega)
    have ir : inb (nI r) 406 := inb_nI (by omega) (by decide)
    have kr : (nI r).toNatClampNeg = r := nI_clamp (by omega)
    have row : ∀ i, sr J (frr a L c) 1 2 i = frr a L c i := fun i => by rw [sr_row]
    have rc : frr a L c (100 + 2 * c) = nI r := by rw [h2 _ (by omega) (by omega) (by omega), er]
    have rv : frr a L c (100 + 2 * c + 1) = a (100 + 2 * c + 1) := h2 _ (by omega) (by omega) (by omega)
    rw [show m + (k + 1) = (m + k) + 1 by omega, u286_74]; unfold b286_74
    rw [row 12, h2 12 (by omega) (by omega) (by omega), h12, if_neg (nI_ge (show c < nc by omega) (by omega))]
    simp only [e0, nI_1, eq_true i0, eq_true i1, ↓reduceIte, k0, k1, row, rc, rv]
    rw [m212l (l := L) (nI r) (by rw [row, h3]) hL, bI_v, ite_bzif]
    have hiff : (nI r < 6 ∨ 0 < L) ↔ okX a L c := by
      show _ ↔ (a (100 + 2 * c) < 6 ∨ 0 < L)
      rw [er]
    by_cases ho : okX a L c
    · rw [if_pos (hiff.mpr ho)]
      simp only [eq_true ir, ↓reduceIte, kr, row, m188, bI_v, sr_w]
      rw [m213a (n := nlA a L c) (by omega) (by rw [sr_row, updR_eq, if_neg (by omega), h4]), bI_v, sr_w, sr_w, sr_w]
      have ef : updR (updR (updR (updR (frr a L c) r (mixF (frr a L c r) (a (100 + 2 * c + 1)))) (20 + 2 * nlA a L c) (nI r)) (20 + 2 * nlA a L c + 1) (a (100 + 2 * c + 1))) 11 (nI (nlA a L c + 1)) = frr a L (c + 1) := by
        rw [frr_y ho, er, kr]
      rw [ef]
      exact ih (c + 1) m (by omega)
    · rw [if_neg (fun z => ho (hiff.mp z)), ← frr_n ho]
      exact ih (c + 1) m (by omega)
theorem l286b (hN : 20 ≤ N) {X : IM} {ρ : Nat → Int32} {l : Int32} (hnp : np ≤ 24) (hX : ∀ k, X 1 2 k = ρ k) (h16 : ρ 16 = nI ns) (hns : ns ≤ 10) (hsl : ∀ s, s < ns → (ρ (342 + 3 * s) = -1 ∨ ∃ p, p < np ∧ ρ (342 + 3 * s) = nI p)) (h10 : ∀ q, q < np → X 1 10 q = tv (hF ρ l nl na) q) {Y : Option Rs} (hY : sem N (d + 1) 189 [vR (some (1, 7)), vI 0, vR (some (1, 2)), vI 0] X F = Y) : ∀ k c m, c + k = ns → k < m → sg (sem N (d + 1)) 1 zc286 m 163 [vR (some (1, 0)), vI (cob (slH ρ l nl na) c), vI (nI c)] X F = bV Y (fun I1 F1 => some (vI (cob (slH ρ l nl na) ns), I1, F1)) := by
  intro k
  induction k with
  | zero =>
    intro c m hc hm
    obtain ⟨q, rfl⟩ : ∃ q, m = q + 1 := ⟨m - 1, by omega⟩
    have e : c = ns := by omega
    subst e
    rw [u286_163]; unfold b286_163
    rw [hX, h16, if_pos (nI_le (Nat.le_refl _) (by omega)), hY]
  | succ k ih =>
    intro c m hc hm
    obtain ⟨q, rfl⟩ : ∃ q, m = q + 1 := ⟨m - 1, by omega⟩
    have hpol := hsl c (by omega)
    have i2 : inb (nI (340 + 3 * c + 2)) 406 := inb_nI (by omega) (by decide)
    have k2 : (nI (340 + 3 * c + 2)).toNatClampNeg = 342 + 3 * c := by rw [nI_clamp (by omega)]; omega
    rw [u286_163]; unfold b286_163
    rw [hX, h16, if_neg (nI_ge (show c < ns by omega) (by omega))]
    simp only [m197, bI_v, nI_1, L2, nI_add, eq_true i2, ↓reduceIte, k2, hX, or0]
    by_cases h2 : ρ (342 + 3 * c) = -1
    · rw [if_pos h2, ← cob_y (P := slH ρ l nl na) (Or.inl h2)]
      exact ih (c + 1) q (by omega) (by omega)
    · rw [if_neg h2]
      obtain ⟨p, hp, e⟩ := hpol.resolve_left h2
      have ip : inb (nI p) 24 := inb_nI (by omega) (by decide)
      have cp : (nI p).toNatClampNeg = p := nI_clamp (by omega)
      simp only [e, eq_true ip, ↓reduceIte, cp, h10 p hp]
      by_cases h3 : tv (hF ρ l nl na) p = 0
      · rw [if_pos h3, ← cob_n (P := slH ρ l nl na) (n := c) (fun z => by
          rcases z with y | y
          · exact h2 y
          · rw [e, cp] at y
            exact y h3)]
        exact ih (c + 1) q (by omega) (by omega)
      · rw [if_neg h3, ← cob_y (P := slH ρ l nl na) (n := c) (Or.inr (by rw [e, cp]; exact h3))]
        exact ih (c + 1) q (by omega) (by omega)
end FC
theorem st162 : StpI InvC 162 286 1 := by
  intro as I F hl hI
  obtain ⟨x, rfl⟩ := len1 hl
  simp only [List.map_cons, List.map_nil]
  obtain ⟨nl, nc, nk, nx, np, na, ns, hR⟩ := hI.1
  have hok := rok_of hR
  obtain ⟨p1, p2, p3, p4, p5, p6⟩ := hR.2.1
  have hcl := hR.2.2.2.1
  obtain ⟨c1, c2, c3, c4⟩ := hR.2.2.2.1
  have hpl := hR.2.2.2.2.2.1
  obtain ⟨t1, t2, t3, t4⟩ := hR.2.2.2.2.2.2.1
  have hnp : np ≤ 24 := hpl.2.2.1
  have hr : ∀ i, i < nc → ∃ r, r < 8 ∧ I 1 2 (100 + 2 * i) = nI r := fun i hi => (c4 i hi).2.2
  have d184 := fun (J : IM) => m184 (h := 3) (n := 4) zN 7 (x := x) (by decide) J F
  by_cases hx : inb x 4
  · obtain ⟨L, hL, hL2, rfl, eL⟩ := inb_get hx
    obtain ⟨h1, h2, h3, h4, h5⟩ := frr_p (a := I 1 2) (L := L) c3 hr nc (Nat.le_refl _)
    obtain ⟨T, et, hT1, hT2⟩ := m111 (N := zN) (d := 6) (I := I) (F := F) (b := 3) (c := 2) (by omega) (by omega) (by omega)
    have rel0 : fRel I (wI (rsS T 3) 3 1 2 (nI L)) L 0 := by
      have hb : ∀ b o k, b ≠ 3 → rsS T 3 b o k = I b o k := fun b o k z => by
        unfold rsS
        rw [fl_eq, if_neg (fun y => z y.1), fl_eq, if_neg (fun y => z y.1), fl_eq, if_neg (fun y => z y.1), wI_eq, if_neg (fun y => z y.1), wI_eq, if_neg (fun y => z y.1), wI_eq, if_neg (fun y => z y.1), fl_eq, if_neg (fun y => z y.1), hT1 b o k z]
      refine ⟨fun b o k z => by rw [wI_eq, if_neg (fun y => z y.1), hb b o k z], wI_s _ _ _ _ _, ?_, fun r hr => ?_, fun i hi => ?_, ?_, fun j hj => absurd hj (Nat.not_lt_zero j), fun o k z1 z2 z3 => ?_⟩
      · unfold rsS
        rw [wI_eq, if_neg (fun z => by omega), fl_eq, if_neg (fun y => by omega), fl_eq, if_neg (fun y => by omega), fl_eq, if_neg (fun y => by omega), wI_eq, if_neg (fun z => by omega), wI_eq, if_neg (fun z => by omega), wI_eq, if_neg (fun z => by omega), fl_eq, if_neg (fun y => by omega), hT2 1 3 (cp1 (by omega)), p2]
      · unfold rsS
        rw [wI_eq, if_neg (fun z => by omega), fl_eq, if_neg (fun y => by omega), fl_eq, if_neg (fun y => by omega), fl_eq, if_neg (fun y => by omega), wI_eq, if_neg (fun z => by omega), wI_eq, if_neg (fun z => by omega), wI_eq, if_neg (fun z => by omega), fl_eq, if_pos ⟨rfl, rfl, hr⟩]
        show atF (nI r) = fr0 (I 1 2) L r
        unfold fr0
        rw [if_pos hr]
      · unfold rsS
        rw [wI_eq, if_neg (fun z => by omega), fl_eq, if_neg (fun y => by omega), fl_eq, if_neg (fun y => by omega), fl_eq, if_neg (fun y => by omega), wI_eq, if_neg (fun z => by omega), wI_eq, if_neg (fun z => by omega), wI_eq, if_neg (fun z => by omega), fl_eq, if_neg (fun y => by omega), hT2 3 i (cp3 hi), (p5 i hi).1]
      · unfold rsS
        rw [wI_eq, if_neg (fun z => by omega), fl_eq, if_neg (fun y => by omega), fl_eq, if_neg (fun y => by omega), fl_eq, if_neg (fun y => by omega), wI_s]
        rfl
      · unfold rsS
        rw [wI_eq, if_neg (fun z => by omega), fl_eq, if_neg (fun y => by omega), fl_eq, if_neg (fun y => by omega), fl_eq, if_neg (fun y => by omega), wI_eq, if_neg (fun z => by omega), wI_eq, if_neg (fun z => by omega), wI_eq, if_neg (fun z => by omega), fl_eq, if_neg (fun y => by omega), hT2 o k z3]
    obtain ⟨X, hX, eX⟩ := l162a (N := zN) (d := 5) (F := wF F 3 1 5 (F 2 1 5)) (nc := nc) (by decide) hL hcl nc 0 (zN - nc) _ (by omega) rel0
    have hzN : zN - nc + nc = zN := by rw [show zN = 20000 from rfl]; omega
    rw [hzN] at eX
    obtain ⟨x1, x2, x3, x4, x5, x6, x7, x8⟩ := hX
    have hjk : jok (X 3) (frr (I 1 2) L nc) (nlA (I 1 2) L nc) np na nk := by
      refine ⟨by rw [x3, h2 9 (by omega) (by omega) (by omega)], x4, fun c hc => by rw [x5 c hc, h2 (386 + c) (by omega) (by omega) (by omega)], ⟨x6, h4, by omega, fun k hk => ⟨(x7 k hk).1, (x7 k hk).2, h5 k hk⟩⟩, ?_⟩
      exact plR_congr hpl (Nat.le_refl _) (fun o k z1 z2 z3 => x8 o k z1 z2 z3) (h2 15 (by omega) (by omega) (by omega)) (h2 18 (by omega) (by omega) (by omega)) (fun k z1 z2 => h2 k (by omega) (by omega) (by omega)) (fun k z1 z2 => h2 k (by omega) (by omega) (by omega))
    have c33 := m33 (N := zN) (d := 3) (I := X) (F := wF F 3 1 5 (F 2 1 5)) (c := 3) (nk := nk) (np := np) (na := na) (nl := nlA (I 1 2) L nc) (a := frr (I 1 2) L nc) (nI L) (by omega) (by decide) hjk
    obtain ⟨Z, hZ⟩ : ∃ Z, jdgI X (frr (I 1 2) L nc) (nI L) (nlA (I 1 2) L nc) np na = Z := ⟨_, rfl⟩
    rw [hZ] at c33
    have Zb : ∀ b o k, b ≠ 0 → b ≠ 3 → Z b o k = I b o k := fun b o k z1 z2 => by rw [← hZ, jdg_b z1, x1 b o k z2]
    have hρ : ∀ s, s < ns → frr (I 1 2) L nc (342 + 3 * s) = I 1 2 (342 + 3 * s) := fun s hs => h2 _ (by omega) (by omega) (by omega)
    have cls : sem zN 9 162 [vR (some (0, 0)), vI (nI L)] I F = some (vI (cob (slH (frr (I 1 2) L nc) (nI L) (nlA (I 1 2) L nc) na) ns), Z, wF F 3 1 5 (F 2 1 5)) := by
      rw [s162]; unfold b162
      rw [m173, bI_v, ite_bzif, if_pos hx, et, bV_v, m112 (by omega) (by decide), bV_v]
      dsimp only
      refine Eq.trans eX ?_
      obtain ⟨M, hM⟩ : ∃ M, zN - nc = M + 1 := ⟨zN - nc - 1, by rw [show zN = 20000 from rfl]; omega⟩
      rw [hM, u162_40]; unfold b162_40
      rw [x1 2 7 2 (by omega), c1, if_pos (nI_le (Nat.le_refl _) (by omega)), c33, bV_v]
      exact l162c (M := M) (by rw [show zN = 20000 from rfl] at hM; omega) hnp (by rw [Zb 2 27 3 (by omega) (by omega), t1]) t3 (fun s hs => ⟨by rw [Zb 2 30 s (by omega) (by omega), (t4 s hs).2.2.1, hρ s hs], by rw [hρ s hs]; exact (t4 s hs).2.2.2.2⟩) (by rw [← hZ]; exact jdg_w) (fun q hq => by rw [← hZ, jdg_t rfl hq, j5])
    have Z1 : ∀ o k, Z 1 o k = I 1 o k := fun o k => Zb 1 o k (by omega) (by omega)
    obtain ⟨J0, hJ0⟩ : ∃ J0, flo (wI Z 1 0 0 0) 1 7 0 406 (fun k => wI Z 1 0 0 0 1 2 (0 + k)) = J0 := ⟨_, rfl⟩
    have J2 : ∀ k, J0 1 2 k = I 1 2 k := fun k => by rw [← hJ0, flo_eq, if_neg (fun z => by omega), w0_12, Z1]
    have J7 : ∀ k, k < 406 → J0 1 7 k = I 1 2 k := fun k hk => by rw [← hJ0, flo_eq, if_pos ⟨rfl, rfl, by omega, by omega⟩, w0_12, Z1, show 0 + (k - 0) = k by omega]
    have Jo : ∀ b o k, ¬ (b = 1 ∧ o = 7) → ¬ (b = 1 ∧ o = 0 ∧ k = 0) → J0 b o k = Z b o k := fun b o k z1 z2 => by rw [← hJ0, flo_eq, if_neg (fun z => z1 ⟨z.1, z.2.1⟩), wI_eq, if_neg z2]
    have srJ : ∀ k, sr J0 (frr (I 1 2) L nc) 1 2 k = frr (I 1 2) L nc k := fun k => by rw [sr_row]
    obtain ⟨l3, l4⟩ := rlay (J := sr J0 (frr (I 1 2) L nc)) (F := wF F 3 1 5 (F 2 1 5)) (a := frr (I 1 2) L nc) (N := zN) (d := 4) (nl := nlA (I 1 2) L nc) (np := np) (na := na) (nk := nk) (by decide) srJ (rok_fr c3 hr hok)
    rw [h3] at l4
    obtain ⟨Y, hY⟩ : ∃ Y, layI (sr J0 (frr (I 1 2) L nc)) (nlA (I 1 2) L nc) np na = Y := ⟨_, rfl⟩
    rw [hY] at l3 l4
    have Y2 : ∀ k, Y 1 2 k = frr (I 1 2) L nc k := fun k => by rw [← hY, lay_2, srJ]
    have hback := m189f (N := zN) (d := 7) (I := Y) (F := wF F 3 1 5 (F 2 1 5)) (by decide)
    have mdl : sem zN 9 286 [vR (some (1, 0)), vI (nI L)] Z (wF F 3 1 5 (F 2 1 5)) = some (vI (cob (slH (frr (I 1 2) L nc) (nI L) (nlA (I 1 2) L nc) na) ns), flo Y 1 2 0 406 (fun k => Y 1 7 (0 + k)), wF F 3 1 5 (F 2 1 5)) := by
      rw [s286]; unfold b286
      dsimp only
      rw [show sem zN 8 184 [vL (nI L).toInt64, vL 0, vL 3] (wI Z 1 0 0 0) (wF F 3 1 5 (F 2 1 5)) = some (vI (bz (inb (nI L) 4)), wI Z 1 0 0 0, wF F 3 1 5 (F 2 1 5)) from m184 (h := 3) (n := 4) zN 7 (x := nI L) (by decide) _ _, bI_v, ite_bzif, if_pos hx, m189e (by decide), bV_v, hJ0]
      have hs0 : J0 = sr J0 (fun k => if k < 0 then atF (nI k) else I 1 2 k) := by
        have e : J0 1 2 = (fun k => if k < 0 then atF (nI k) else I 1 2 k) := funext (fun k => by rw [if_neg (Nat.not_lt_zero k), J2])
        rw [← e, sr_id]
      have hlp := lp (S := fun m c => sg (sem zN 8) 1 zc286 (m + 200) 34 [vR (some (1, 0)), vI (nI L), vI (nI c)] (sr J0 (fun k => if k < c then atF (nI k) else I 1 2 k)) (wF F 3 1 5 (F 2 1 5))) (T := some (vI (cob (slH (frr (I 1 2) L nc) (nI L) (nlA (I 1 2) L nc) na) ns), flo Y 1 2 0 406 (fun k => Y 1 7 (0 + k)), wF F 3 1 5 (F 2 1 5))) (m := 8) ?_ ?_ 8 0 19800 rfl (by omega)
      · try dsimp only at hlp
        rw [← hs0] at hlp
        exact hlp
      · intro m c hc
        try dsimp only
        rw [show m + 1 + 200 = (m + 200) + 1 by omega, u286_34]; unfold b286_34
        rw [if_neg (show ¬ (8 : Int32) ≤ nI c from nI_ge hc (by decide)), m209, bI_v, if_pos (inb_nI (show c < 406 by omega) (by decide)), nI_clamp (by omega), nI_1]
        dsimp only
        rw [sr_w]
        have e : updR (fun k => if k < c then atF (nI k) else I 1 2 k) c (atF (nI c)) = (fun k => if k < c + 1 then atF (nI k) else I 1 2 k) := by
          funext k
          rw [updR_eq]
          by_cases e1 : k = c
          · rw [if_pos e1, if_pos (by omega), e1]
          · rw [if_neg e1]
            by_cases e2 : k < c
            · rw [if_pos e2, if_pos (by omega)]
            · rw [if_neg e2, if_neg (by omega)]
        rw [e]
      · intro m
        try dsimp only
        rw [show m + 1 + 200 = (m + 200) + 1 by omega, u286_34]; unfold b286_34
        rw [if_pos (show (8 : Int32) ≤ nI 8 from nI_le (Nat.le_refl _) (by decide))]
        dsimp only
        rw [sr_w, sr_w]
        have e : updR (updR (fun k => if k < 8 then atF (nI k) else I 1 2 k) 8 (nI L)) 11 0 = frr (I 1 2) L 0 := by
          funext k
          show _ = fr0 (I 1 2) L k
          unfold fr0
          rw [updR_eq, updR_eq]
          by_cases e1 : k < 8
          · rw [if_neg (by omega), if_neg (by omega), if_pos e1, if_pos e1]
          · rw [if_neg e1, if_neg e1]
            by_cases e2 : k = 8
            · rw [if_neg (by omega), if_pos e2, if_pos e2]
            · rw [if_neg e2, if_neg e2]
        have ha := l286a (N := zN) (d := 6) (F := wF F 3 1 5 (F 2 1 5)) (J := J0) (a := I 1 2) (L := L) hL c3 c2 hr nc 0 (m + 200 - nc) (by omega)
        rw [show m + 200 - nc + nc = m + 200 by omega] at ha
        rw [e]
        refine Eq.trans ha ?_
        obtain ⟨q, hq⟩ : ∃ q, m + 200 - nc = q + 1 := ⟨m + 200 - nc - 1, by omega⟩
        rw [hq, u286_74]; unfold b286_74
        rw [srJ, h2 12 (by omega) (by omega) (by omega), c2, if_pos (nI_le (Nat.le_refl _) (by omega)), l3, bV_v]
        have hb := l286b (N := zN) (d := 7) (F := wF F 3 1 5 (F 2 1 5)) (X := Y) (ρ := frr (I 1 2) L nc) (l := nI L) (nl := nlA (I 1 2) L nc) (na := na) (np := np) (ns := ns) (by decide) hnp Y2 (by rw [h2 16 (by omega) (by omega) (by omega), t2]) t3 (fun s hs => by rw [hρ s hs]; exact (t4 s hs).2.2.2.2) (fun q hq => by rw [l4 10 q rfl hq]; unfold tF; rw [if_pos rfl]) hback ns 0 q (by omega) (by omega)
        refine Eq.trans hb ?_
        rw [bV_v]
    refine qs_of hI cls mdl ?_ ?_
    · refine ⟨fun b o k z => ?_, fun o k => Zb 2 o k (by omega) (by omega), fun k => Z1 2 k, fun b o k z => by rw [wF_eq, if_neg (fun y => z y.1)]⟩
      by_cases e : b = 0
      · subst e
        rw [← hZ, jdg_1 (by unfold kpl at z; omega), x1 0 o k (by omega)]
      · exact Zb b o k e (by unfold kpl at z; omega)
    · have fY : ∀ b o k, ¬ (b = 1 ∧ o = 2) → ¬ (b = 1 ∧ o = 7) → ¬ (b = 1 ∧ ((o = 0 ∧ k = 22) ∨ (10 ≤ o ∧ o ≤ 19))) → ¬ (b = 1 ∧ o = 0 ∧ k = 0) → flo Y 1 2 0 406 (fun k => Y 1 7 (0 + k)) b o k = Z b o k := fun b o k z1 z2 z3 z4 => by
        rw [flo_eq, if_neg (fun y => z1 ⟨y.1, y.2.1⟩), ← hY]
        by_cases e : b = 1
        · subst e
          rw [lay_1 (fun y => z3 ⟨rfl, y⟩), sr_eq, if_neg z1, Jo 1 o k z2 z4]
        · rw [lay_b e, sr_eq, if_neg z1, Jo b o k z2 z4]
      refine ⟨fun b o k z => fY b o k (by unfold kpl at z; omega) (by unfold kpl at z; omega) (by unfold kpl at z; omega) (by unfold kpl at z; omega), fun o k => fY 2 o k (by omega) (by omega) (by omega) (by omega), fun k => ?_, fun b o k _ => rfl⟩
      rw [flo_eq, Z1]
      by_cases hk : k < 406
      · rw [if_pos ⟨rfl, rfl, by omega, by omega⟩, show 0 + (k - 0) = k by omega, ← hY, lay_1 (by omega), sr_eq, if_neg (by omega), J7 k hk]
      · rw [if_neg (fun z => by omega), Y2, h2 k (by omega) (by omega) (by omega)]
  · refine qs_0 (x := -1) hI ?_ ?_
    · rw [s162]; unfold b162
      rw [m173, bI_v, ite_bzif, if_neg hx]
    · rw [s286]; unfold b286
      dsimp only
      rw [d184, bI_v, ite_bzif, if_neg hx]
