/-! REACH: the class's keys on paper -/
def KSt (J : IM) (a : Nat → Int32) (nk nx : Nat) (w : Nat → Nat) (n : Nat) (tp : Bool) (c ts s : Nat) : Prop :=
  J 3 10 3 = nI nk ∧ J 3 10 9 = nI nx ∧ (∀ k, k < nk → J 3 11 k = a (180 + 4 * k)) ∧ (∀ t, t < 3 → J 3 14 t = pI (cs s t)) ∧
  (∀ i, i < n → (¬ J 3 13 (w i) = 0 ↔ (tp = true ∧ i + 1 = n ∧ cuu s = 0))) ∧ (1 ≤ n → tp = true → ltc (J 3 16) (nI (w (n - 1))) nx = nI c ∧ J 3 16 c = nI (w (n - 1)) ∧ J 3 17 c = nI ts)
theorem slk {S : Nat → Int32} {s k : Nat} (h : ∀ t, t < 3 → S t = pI (cs s t)) (hk : k < 2 ^ 20) : slOf S (nI k) = -1 ↔ ¬ cld s k := by
  have e := fun t => pI_e (c := cs s t) (k := k) (by have := cs_lt s t; omega) (by omega)
  unfold slOf
  rw [if_neg (fun z => nI_ne1 (by omega) z), h 0 (by omega), h 1 (by omega), h 2 (by omega)]
  by_cases h0 : cs s 0 = k + 1
  · rw [if_pos ((e 0).mpr h0)]
    exact ⟨fun z => absurd z (by decide), fun z => absurd (Or.inl h0) z⟩
  · rw [if_neg (fun z => h0 ((e 0).mp z))]
    by_cases h1 : cs s 1 = k + 1
    · rw [if_pos ((e 1).mpr h1)]
      exact ⟨fun z => absurd z (by decide), fun z => absurd (Or.inr (Or.inl h1)) z⟩
    · rw [if_neg (fun z => h1 ((e 1).mp z))]
      by_cases h2 : cs s 2 = k + 1
      · rw [if_pos ((e 2).mpr h2)]
        exact ⟨fun z => absurd z (by decide), fun z => absurd (Or.inr (Or.inr h2)) z⟩
      · rw [if_neg (fun z => h2 ((e 2).mp z))]
        exact ⟨fun _ z => by rcases z with z | z | z; exact h0 z; exact h1 z; exact h2 z, fun _ => rfl⟩
theorem frk {S : Nat → Int32} {s : Nat} (h : ∀ t, t < 3 → S t = pI (cs s t)) : frS S = lfI s := by
  have e := fun t => pI_m (c := cs s t) (by have := cs_lt s t; omega)
  unfold frS lfI lfN
  rw [h 0 (by omega), h 1 (by omega), h 2 (by omega)]
  by_cases h0 : cs s 0 = 0
  · rw [if_pos ((e 0).mpr h0), if_pos h0, if_neg (by omega), nI_0]
  · rw [if_neg (fun z => h0 ((e 0).mp z)), if_neg h0]
    by_cases h1 : cs s 1 = 0
    · rw [if_pos ((e 1).mpr h1), if_pos h1, if_neg (by omega)]; rfl
    · rw [if_neg (fun z => h1 ((e 1).mp z)), if_neg h1]
      by_cases h2 : cs s 2 = 0
      · rw [if_pos ((e 2).mpr h2), if_pos h2, if_neg (by omega)]; rfl
      · rw [if_neg (fun z => h2 ((e 2).mp z)), if_neg h2, if_pos rfl]
theorem cfr_3 (s : Nat) : cfr s ≤ 3 := by unfold cfr; split <;> split <;> split <;> omega
theorem mx1 : ∀ i, i < 12 → ∀ f, f < 4 → ∀ z, z < 2 → nI i + (if nI z < nI i - nI f then nI i - nI f else nI z) = nI (i + max z (i - f)) := by decide +kernel
section KD
variable {N d : Nat} {J : IM} {F : FM} {a : Nat → Int32} {nk nx key n c ts P s : Nat} {w : Nat → Nat} {tp hp : Bool}
theorem m58 (hN : 20 ≤ N) (h : ∀ t, t < 3 → J 3 14 t = pI (cs s t)) : sem N (d + 2) 58 [vR (some (3, 10))] J F = some (vI (nI (cfr s)), J, F) := by
  have e := fun t => pI_m (c := cs s t) (by have := cs_lt s t; omega)
  rw [show (3 : Nat) = 1 + 2 from rfl, s58]; unfold b58
  rw [m59 (by omega) (by omega), bI_v, m307, bI_v]
  have eo : orb (fun k => ¬ J (1 + 2) 14 k = -1) 3 = orb (fun k => ¬ cs s k = 0) 3 := orb_congr (fun i hi => by rw [h i hi, e i])
  rw [eo]
  have e3 : orb (fun k => ¬ cs s k = 0) 3 = if ¬ cs s 2 = 0 then (if ¬ cs s 1 = 0 then (if ¬ cs s 0 = 0 then 0 ||| sh1 0 else 0) ||| sh1 1 else (if ¬ cs s 0 = 0 then 0 ||| sh1 0 else 0)) ||| sh1 2 else (if ¬ cs s 1 = 0 then (if ¬ cs s 0 = 0 then 0 ||| sh1 0 else 0) ||| sh1 1 else (if ¬ cs s 0 = 0 then 0 ||| sh1 0 else 0)) := rfl
  rw [e3]
  unfold cfr
  by_cases h0 : cs s 0 = 0 <;> by_cases h1 : cs s 1 = 0 <;> by_cases h2 : cs s 2 = 0 <;> simp only [h0, h1, h2, not_true_eq_false, not_false_eq_true, ↓reduceIte] <;> rfl
theorem d_end (hN : 20 ≤ N) (h : ∀ t, t < 3 → J 3 14 t = pI (cs s t)) {i z : Nat} (hi : i < 12) (hz : z < 2) : bI (sem N (d + 2) 58 [vR (some (3, 10))] J F) (fun r1 I1 F1 => bI (sem N (d + 2) 308 [vI (nI z), vI (nI i - r1)] I1 F1) (fun r2 I2 F2 => some (vI (nI i + r2), I2, F2))) = some (vI (nI (i + max z (i - cfr s))), J, F) := by
  rw [m58 hN h, bI_v, m308, bI_v, mx1 i hi (cfr s) (by have := cfr_3 s; omega) z hz]
/-- wherever it stands -/
theorem dlb (hN : 20 ≤ N) (hnk : nk ≤ 10) (hnx : nx ≤ 12) (h1 : J 3 10 3 = nI nk) (h2 : J 3 10 9 = nI nx) (h3 : ∀ k, k < nk → J 3 11 k = a (180 + 4 * k)) (h : ∀ t, t < 3 → J 3 14 t = pI (cs s t)) (hpar : ∀ k, k < nk → a (180 + 4 * k) = -1 ∨ ∃ p, p < k ∧ a (180 + 4 * k) = nI p) : ∀ (k i q : Nat) (x : Int32), i + k = 10 → k < q → (x = -1 ∨ ∃ p, p < nk ∧ x = nI p) → ∃ v, sg (sem N (d + 2)) 1 zc93 q 4 [vR (some (3, 10)), vI (nI i), vI x] J F = some (vI (nI v), J, F) ∧ i + (i - cfr s) ≤ v ∧ v ≤ 30 ∧ ∀ p, x = nI p → p < nk → ¬ cld s p → i < 10 → i + 1 + (i + 1 - cfr s) ≤ v := by
  intro k
  induction k with
  | zero =>
    intro i q x hi hq hx
    obtain ⟨q, rfl⟩ : ∃ r, q = r + 1 := ⟨q - 1, by omega⟩
    obtain rfl : i = 10 := by omega
    have e := d_end (N := N) (d := d) (F := F) hN h (i := 10) (z := 0) (by omega) (by omega)
    refine ⟨10 + max 0 (10 - cfr s), ?_, by omega, by omega, fun p _ _ _ z => by omega⟩
    rw [show (3 : Nat) = 1 + 2 from rfl, u93_4]; unfold b93_4
    rcases hx with rfl | ⟨p, hp, rfl⟩
    · rw [if_pos rfl]; exact e
    · rw [if_neg (fun z => nI_ne1 (by omega) z), m56 (by omega) (by omega), bI_v]
      by_cases z : slOf (J (1 + 2) 14) (nI p) = -1
      · rw [if_pos z, if_pos (by decide)]; exact e
      · rw [if_neg z]; exact e
  | succ k ih =>
    intro i q x hi hq hx
    obtain ⟨q, rfl⟩ : ∃ r, q = r + 1 := ⟨q - 1, by omega⟩
    have e := d_end (N := N) (d := d) (F := F) hN h (i := i) (z := 0) (by omega) (by omega)
    rw [show (3 : Nat) = 1 + 2 from rfl, u93_4]; unfold b93_4
    rcases hx with rfl | ⟨p, hp, rfl⟩
    · refine ⟨i + max 0 (i - cfr s), ?_, by omega, by omega, fun p z hp _ _ => absurd z.symm (fun y => nI_ne1 (by omega) y)⟩
      rw [if_pos rfl]; exact e
    · by_cases z : cld s p
      · refine ⟨i + max 0 (i - cfr s), ?_, by omega, by omega, fun p' z1 z2 z3 _ => absurd z (by rw [nI_inj (by omega) (by omega) z1]; exact z3)⟩
        rw [if_neg (fun z => nI_ne1 (by omega) z), m56 (by omega) (by omega), bI_v, if_neg (fun y => (slk h (by omega)).mp y z)]
        exact e
      · have hne : ¬ (10 : Int32) ≤ nI i := nI_ge (show i < 10 by omega) (by decide)
        by_cases y : inb (nI p) nk ∧ ¬ J 3 13 (nI p).toNatClampNeg = 0
        · have e1 := fun z hz => d_end (N := N) (d := d) (F := F) hN h (i := i + 1) (z := z) (by omega) hz
          by_cases u : (if inb (if inb (ltc (J 3 16) (nI p) nx) nx then J 3 17 (ltc (J 3 16) (nI p) nx).toNatClampNeg else -1) 3 then J 3 14 (if inb (ltc (J 3 16) (nI p) nx) nx then J 3 17 (ltc (J 3 16) (nI p) nx).toNatClampNeg else -1).toNatClampNeg else -1) = -1
          · refine ⟨i + 1 + max 0 (i + 1 - cfr s), ?_, by omega, by omega, fun _ _ _ _ _ => by omega⟩
            rw [if_neg (fun z => nI_ne1 (by omega) z), m56 (by omega) (by omega), bI_v, if_pos ((slk h (by omega)).mpr z), if_neg hne, m53 (by omega) _ h1 hnk, bI_v, ite_bzif, if_pos y, m65 (by omega) (by omega) _ h2 hnx, bI_v, m66 (by omega) _ h2 hnx, bI_v, m55 (by omega), bI_v, if_pos u, nI_1]
            exact e1 0 (by omega)
          · refine ⟨i + 1 + max 1 (i + 1 - cfr s), ?_, by omega, by omega, fun _ _ _ _ _ => by omega⟩
            rw [if_neg (fun z => nI_ne1 (by omega) z), m56 (by omega) (by omega), bI_v, if_pos ((slk h (by omega)).mpr z), if_neg hne, m53 (by omega) _ h1 hnk, bI_v, ite_bzif, if_pos y, m65 (by omega) (by omega) _ h2 hnx, bI_v, m66 (by omega) _ h2 hnx, bI_v, m55 (by omega), bI_v, if_neg u, nI_1]
            exact e1 1 (by omega)
        · have hx' : a (180 + 4 * p) = -1 ∨ ∃ p', p' < nk ∧ a (180 + 4 * p) = nI p' := by
            rcases hpar p hp with u | ⟨p', u1, u2⟩
            · exact Or.inl u
            · exact Or.inr ⟨p', by omega, u2⟩
          obtain ⟨v, v1, v2, v3, -⟩ := ih (i + 1) q (a (180 + 4 * p)) (by omega) (by omega) hx'
          refine ⟨v, ?_, by omega, v3, fun _ _ _ _ _ => v2⟩
          rw [if_neg (fun z => nI_ne1 (by omega) z), m56 (by omega) (by omega), bI_v, if_pos ((slk h (by omega)).mpr z), if_neg hne, m53 (by omega) _ h1 hnk, bI_v, ite_bzif, if_neg y, m54 (by omega) _ h1 hnk, bI_v, if_pos (inb_nI hp (by omega)), nI_clamp (by omega), h3 p hp, nI_1]
          exact v1
/-- how far a key is, in the class -/
theorem m93 (hN : 20 ≤ N) (hW : WayR a nk nx key w n tp c ts hp P) (hnk : nk ≤ 10) (hnx : nx ≤ 12) (hk : key < nk) (hpar : ∀ k, k < nk → a (180 + 4 * k) = -1 ∨ ∃ p, p < k ∧ a (180 + 4 * k) = nI p) (hK : KSt J a nk nx w n tp c ts s) (hs : s < 8192) (hld : n = 0 → cld s key) : ∃ v, sem N (d + 3) 93 [vR (some (3, 10)), vI (nI key)] J F = some (vI (nI v), J, F) ∧ v ≤ 30 ∧ (n = 0 → v = 0) ∧ (1 ≤ n → ¬ cdd w n tp hp P s → v = cph w n tp ts hp P s) ∧ (1 ≤ n → cdd w n tp hp P s → n + (n - cfr s) ≤ v ∧ (tp = false → n + 1 + (n + 1 - cfr s) ≤ v)) := by
  obtain ⟨k1, k2, k3, k4, k5, k6⟩ := hK
  have hWW := hW
  obtain ⟨w1, w2, w3, w4, w5, w6, w7, w8⟩ := hW
  have lb := dlb (N := N) (d := d) (F := F) hN hnk hnx k1 k2 k3 k4 hpar
  obtain ⟨g1, g2, g3⟩ := fidx_p (P := fun i => cld s (w i)) n
  have g1 : cix w n s ≤ n := g1
  have g2 : ∀ i, i < cix w n s → ¬ cld s (w i) := g2
  have g3 : cix w n s < n → cld s (w (cix w n s)) := g3
  -- a key that is neither loaded nor swapped
  have stp : ∀ i q, i < n → i < 10 → ¬ cld s (w i) → ¬ (tp = true ∧ i + 1 = n ∧ cuu s = 0) → sg (sem N (d + 2)) 1 zc93 (q + 1) 4 [vR (some (3, 10)), vI (nI i), vI (nI (w i))] J F = sg (sem N (d + 2)) 1 zc93 q 4 [vR (some (3, 10)), vI (nI (i + 1)), vI (a (180 + 4 * w i))] J F := by
    intro i q hi h10 hl hs'
    have hw := (w5 i hi).1
    rw [show (3 : Nat) = 1 + 2 from rfl, u93_4]; unfold b93_4
    rw [if_neg (fun z => nI_ne1 (by omega) z), m56 (by omega) (by omega), bI_v, if_pos ((slk k4 (by omega)).mpr hl), if_neg (show ¬ (10 : Int32) ≤ nI i from nI_ge h10 (by decide)), m53 (by omega) _ k1 hnk, bI_v, ite_bzif, if_neg (fun y => hs' ((k5 i hi).mp (by have := y.2; rw [nI_clamp (by omega)] at this; exact this))), m54 (by omega) _ k1 hnk, bI_v, if_pos (inb_nI hw (by omega)), nI_clamp (by omega), k3 _ hw, nI_1]
  -- the end of a way
  have fin : ∀ i q x, i < 12 → (x = -1 ∨ ∃ p, p < nk ∧ x = nI p ∧ cld s p) → sg (sem N (d + 2)) 1 zc93 (q + 1) 4 [vR (some (3, 10)), vI (nI i), vI x] J F = some (vI (nI (i + (i - cfr s))), J, F) := by
    intro i q x hi hx
    have e := d_end (N := N) (d := d) (F := F) hN k4 (i := i) (z := 0) hi (by omega)
    rw [show max 0 (i - cfr s) = i - cfr s by omega] at e
    rw [show (3 : Nat) = 1 + 2 from rfl, u93_4]; unfold b93_4
    rcases hx with rfl | ⟨p, hp', rfl, hl⟩
    · rw [if_pos rfl]; exact e
    · rw [if_neg (fun z => nI_ne1 (by omega) z), m56 (by omega) (by omega), bI_v, if_neg (fun y => (slk k4 (by omega)).mp y hl)]
      exact e
  have hn10 : n ≤ 10 := by omega
  -- up to where it is not loaded
  have run : ∀ x, x ≤ cix w n s → (x < n ∨ x = n ∧ 1 ≤ n) → (∀ i, i < x → ¬ (tp = true ∧ i + 1 = n ∧ cuu s = 0)) → ∀ q, sg (sem N (d + 2)) 1 zc93 (q + x) 4 [vR (some (3, 10)), vI (nI 0), vI (nI (w 0))] J F = sg (sem N (d + 2)) 1 zc93 q 4 [vR (some (3, 10)), vI (nI x), vI (if x < n then nI (w x) else a (180 + 4 * w (n - 1)))] J F := by
    intro x
    induction x with
    | zero =>
      intro _ hx _ q
      rw [if_pos (by omega)]
      rfl
    | succ x ih =>
      intro h1 h2 h3 q
      rw [show q + (x + 1) = (q + 1) + x by omega, ih (by omega) (by omega) (fun i hi => h3 i (by omega)) (q + 1), if_pos (by omega), stp x q (by omega) (by omega) (g2 x (by omega)) (h3 x (by omega))]
      by_cases e : x + 1 < n
      · rw [if_pos e, (w6 x e).1]
      · rw [if_neg e, show n - 1 = x by omega]
  obtain ⟨M, rfl⟩ : ∃ M, N = M + 20 := ⟨N - 20, by omega⟩
  rw [show (3 : Nat) = 1 + 2 from rfl, s93]; unfold b93
  by_cases hn0 : n = 0
  · refine ⟨0, ?_, by omega, fun _ => rfl, fun z => by omega, fun z => by omega⟩
    have := fin 0 (M + 19) (nI key) (by omega) (Or.inr ⟨key, hk, rfl, hld hn0⟩)
    rw [show 0 + (0 - cfr s) = 0 by omega] at this
    exact this
  · have hn1 : 1 ≤ n := by omega
    rw [← w4 hn1]
    by_cases hc : cix w n s < n
    · refine ⟨cix w n s + (cix w n s - cfr s), ?_, by omega, fun z => absurd z hn0, fun _ hd => ?_, fun _ hd => by have := hd.1; omega⟩
      · have r := run (cix w n s) (Nat.le_refl _) (Or.inl hc) (fun i hi z => by omega) (M + 20 - cix w n s)
        rw [show M + 20 - cix w n s + cix w n s = M + 20 by omega, if_pos hc] at r
        refine Eq.trans r ?_
        rw [show M + 20 - cix w n s = (M + 19 - cix w n s) + 1 by omega]
        exact fin _ _ _ (by omega) (Or.inr ⟨_, (w5 _ hc).1, rfl, g3 hc⟩)
      · rw [cph_n hd, cwn_0 (by omega)]
        omega
    · have hcn : cix w n s = n := by omega
      by_cases hsw : tp = true ∧ cuu s = 0
      · have hd0 : ¬ cdd w n tp hp P s := fun z => by
          rcases z.2 with ⟨-, y⟩ | ⟨y, -⟩
          · omega
          · rw [hsw.1] at y; exact Bool.noConfusion y
        refine ⟨cph w n tp ts hp P s, ?_, ?_, fun z => absurd z hn0, fun _ _ => rfl, fun _ z => absurd z hd0⟩
        · have r := run (n - 1) (by omega) (Or.inl (by omega)) (fun i hi z => by omega) (M + 20 - (n - 1))
          rw [show M + 20 - (n - 1) + (n - 1) = M + 20 by omega, if_pos (show n - 1 < n by omega)] at r
          refine Eq.trans r ?_
          have hw := (w5 (n - 1) (by omega)).1
          obtain ⟨c1, c2, c3⟩ := k6 hn1 hsw.1
          have hcx := (w7 hn1 hsw.1).2.1
          rw [show M + 20 - (n - 1) = (M + 20 - n) + 1 by omega, show (3 : Nat) = 1 + 2 from rfl, u93_4]; unfold b93_4
          rw [if_neg (fun z => nI_ne1 (by omega) z), m56 (by omega) (by omega), bI_v, if_pos ((slk k4 (by omega)).mpr (g2 (n - 1) (by omega))), if_neg (show ¬ (10 : Int32) ≤ nI (n - 1) from nI_ge (show n - 1 < 10 by omega) (by decide)), m53 (by omega) _ k1 hnk, bI_v, ite_bzif, if_pos ⟨inb_nI hw (by omega), by rw [nI_clamp (by omega)]; exact (k5 (n - 1) (by omega)).mpr ⟨hsw.1, by omega, hsw.2⟩⟩, m65 (by omega) (by omega) _ k2 hnx, bI_v, c1, m66 (by omega) _ k2 hnx, bI_v, if_pos (inb_nI hcx (by omega)), nI_clamp (by omega), c3, m55 (by omega), bI_v, if_pos (inb_nI w2 (by decide)), nI_clamp (by omega), k4 ts w2, nI_1, show n - 1 + 1 = n by omega]
          have e1 := fun z hz => d_end (N := M + 20) (d := d) (F := F) hN k4 (i := n) (z := z) (by omega) hz
          rw [cph_n hd0, hcn]
          by_cases u : cs s ts = 0
          · rw [if_pos ((pI_m (by have := cs_lt s ts; omega)).mpr u), show cwn w n tp ts s = 0 by unfold cwn; rw [if_neg (fun z => z.2.2 u)]]
            exact e1 0 (by omega)
          · rw [if_neg (fun y => u ((pI_m (by have := cs_lt s ts; omega)).mp y)), show cwn w n tp ts s = 1 by unfold cwn; rw [if_pos ⟨hsw.1, hcn, u⟩]]
            exact e1 1 (by omega)
        · rw [cph_n hd0]
          have := cwn_le (w := w) (n := n) (tp := tp) (ts := ts) (s := s)
          omega
      · have r := run n (by omega) (Or.inr ⟨rfl, hn1⟩) (fun i hi z => hsw ⟨z.1, z.2.2⟩) (M + 20 - n)
        rw [show M + 20 - n + n = M + 20 by omega, if_neg (show ¬ n < n by omega)] at r
        have hx' : a (180 + 4 * w (n - 1)) = -1 ∨ ∃ p', p' < nk ∧ a (180 + 4 * w (n - 1)) = nI p' := by
          have hw := (w5 (n - 1) (by omega)).1
          rcases hpar _ hw with u | ⟨p', u1, u2⟩
          · exact Or.inl u
          · exact Or.inr ⟨p', by omega, u2⟩
        by_cases hd : cdd w n tp hp P s
        · obtain ⟨v, v1, v2, v3, v4⟩ := lb (10 - n) n (M + 20 - n) (a (180 + 4 * w (n - 1))) (by omega) (by omega) hx'
          refine ⟨v, Eq.trans r v1, v3, fun z => absurd z hn0, fun _ z => absurd hd z, fun _ _ => ⟨v2, fun htp => ?_⟩⟩
          rcases hd.2 with ⟨y, -⟩ | ⟨-, y2, y3⟩
          · rw [htp] at y; exact Bool.noConfusion y
          · rcases (w8 hn1 htp).2 with ⟨u, -⟩ | ⟨-, u1, u2, u3, u4⟩
            · rw [y2] at u; exact Bool.noConfusion u
            · have hn9 : n < 10 := by
                have : ∀ j, j < n → w j + j ≤ w 0 := by
                  intro j
                  induction j with
                  | zero => intro _; omega
                  | succ j ihj =>
                    intro hj
                    have h1 := ihj (by omega)
                    have h2 := (w6 j hj).2.1
                    omega
                have h1 := this (n - 1) (by omega)
                have h2 := (w5 0 (by omega)).1
                omega
              exact v4 P u3 u1 y3 hn9
        · refine ⟨n + (n - cfr s), Eq.trans r ?_, by omega, fun z => absurd z hn0, fun _ _ => ?_, fun _ z => absurd z hd⟩
          · rw [show M + 20 - n = (M + 19 - n) + 1 by omega]
            have htp : tp = false := by
              cases ht : tp with
              | false => rfl
              | true =>
                have hu : ¬ cuu s = 0 := fun z => hsw ⟨ht, z⟩
                have hu1 : cuu s = 1 := by unfold cuu at hu ⊢; omega
                exact absurd ⟨hcn, Or.inl ⟨ht, hu1⟩⟩ hd
            refine fin _ _ _ (by omega) ?_
            rcases (w8 hn1 htp).2 with ⟨-, u⟩ | ⟨u0, u1, u2, u3, u4⟩
            · exact Or.inl u
            · refine Or.inr ⟨P, u1, u3, ?_⟩
              by_cases hl : cld s P
              · exact hl
              · exact absurd ⟨hcn, Or.inr ⟨htp, u0, hl⟩⟩ hd
          · rw [cph_n hd, hcn]
            have : cwn w n tp ts s = 0 := by
              unfold cwn
              rw [if_neg (fun z => ?_)]
              have hu : ¬ cuu s = 0 := fun y => hsw ⟨z.1, y⟩
              have hu1 : cuu s = 1 := by unfold cuu at hu ⊢; omega
              exact hd ⟨hcn, Or.inl ⟨z.1, hu1⟩⟩
            omega
theorem dead_ge (hn1 : 1 ≤ n) {t v : Nat} (ht : t < 3) (h0 : ¬ cs s t = 0) (hd : ¬ cdd w n tp hp P s) (hd' : cdd w n tp hp P (fls s t)) (h1 : n + (n - cfr (fls s t)) ≤ v) (h2 : tp = false → n + 1 + (n + 1 - cfr (fls s t)) ≤ v) : cph w n tp ts hp P s ≤ v := by
  have hf := fls_fr ht h0
  have hl := cix_le (w := w) (n := n) (s := s)
  rw [cph_n hd]
  rcases hd'.2 with ⟨y1, y2⟩ | ⟨y1, -⟩
  · rw [fls_u ht] at y2
    have hi : ¬ cix w n s = n := fun z => hd ⟨z, Or.inl ⟨y1, y2⟩⟩
    rw [cwn_0 hi]
    omega
  · have := h2 y1
    rw [show cwn w n tp ts s = 0 by unfold cwn; rw [if_neg (fun z => by rw [y1] at z; exact Bool.noConfusion z.1)]]
    omega
end KD
