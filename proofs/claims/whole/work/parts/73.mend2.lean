/-! MENDED: the class, the reference, the call -/
theorem lpv {S : Nat → Nat → Option Rs} {P : Nat → Prop} {R : Nat → Int32} {D : Int32} {T : Int32 → Option Rs} {m : Nat} (h1 : ∀ n c, c < m → P c → S (n + 1) c = T (R c)) (h2 : ∀ n c, c < m → ¬ P c → S (n + 1) c = S n (c + 1)) (he : ∀ n, S (n + 1) m = T D) : ∀ k c n, c + k = m → k < n → S n c = T (fsv P R D c k) := by
  intro k
  induction k with
  | zero =>
    intro c n h hn
    obtain ⟨q, rfl⟩ : ∃ q, n = q + 1 := ⟨n - 1, by omega⟩
    rw [show c = m by omega]
    exact he q
  | succ k ih =>
    intro c n h hn
    obtain ⟨q, rfl⟩ : ∃ q, n = q + 1 := ⟨n - 1, by omega⟩
    by_cases hp : P c
    · rw [h1 q c (by omega) hp, fsv_p hp]
    · rw [h2 q c (by omega) hp, fsv_n hp]
      exact ih (c + 1) q (by omega) (by omega)
def mPA (rg nm dd : Nat → Int32) (n : Nat) (W : Int32) (i : Nat) : Prop := W = sh1 (rg i).toNatClampNeg ∧ dd (rg i).toNatClampNeg = rtl rg nm (rg i) (nI i) (-1) n
def mPB (rg nm dd : Nat → Int32) (n : Nat) (W : Int32) (i : Nat) : Prop := rg i = rg (i + 1) ∧ W = sh1 (rg i).toNatClampNeg ∧ dd (rg i).toNatClampNeg = gk rg nm (-1) (nI i) (-1) 0 (rg i) n
def mPC (rg nm dd : Nat → Int32) (n : Nat) (W : Int32) (i t : Nat) : Prop := dd (rg i).toNatClampNeg = rtl rg nm (rg i) (nI i) (-1) n ∧ W &&& ((sh1 (rg i).toNatClampNeg ||| sh1 t) ^^^ (-1)) = 0 ∧ ¬ nI t = rg i ∧ dd t = rtl rg nm (nI t) (-1) (nI i) n
section MC
variable {N d n : Nat} {I : IM} {F : FM}
theorem m23 {q : Nat} (hq : q < 8) (v : Int32) : sem N (d + 1) 23 [vR (some (2, 2)), vI (nI q), vI v] I F = some (vI (bz (I 2 2 q = v)), I, F) := by
  have h := s23 N d 0 (nI q) v I F
  rw [h]; unfold b23
  rw [if_neg (nI_pos (by omega)), if_neg (show ¬ (8 : Int32) ≤ nI q from nI_ge hq (by decide)), if_pos (inb_nI hq (by decide)), nI_clamp (by omega)]
  exact ite_bz I F
theorem m17 (hN : 50 ≤ N) (hs : I 2 7 2 = nI n) (hn : n ≤ 40) {i : Nat} (hi : i + 1 < n) (x : Int32) : sem N (d + 2) 17 [vR (some (2, 7)), vI x, vI (nI i)] I F = some (vI (gk (I 2 8) (I 2 9) (-1) (nI i) (-1) 0 x n), I, F) := by
  have h := s17v1 N (d + 1) 0 x (nI i) I F
  rw [h]; unfold b17
  rw [m1, bI_v]
  refine lp (S := fun m c => sg (sem N (d + 1)) 1 zc17 m 8 [vR (some (0 + 2, 7)), vI x, vI (nI i), vI (gk (I 2 8) (I 2 9) (-1) (nI i) (-1) 0 x c), vI (nI c)] I F) (m := n) ?_ ?_ n 0 N (by omega) (by omega)
  · intro m c hc
    try dsimp only
    have h1 : ¬ nI c = -1 := fun z => nI_ne1 (by omega) z
    have m12' : ∀ y : Nat, y < n → sem N (d + 1) 12 [vR (some (0 + 2, 7)), vI (nI y)] I F = some (vI 1, I, F) := fun y hy => by
      rw [m12 (n := n) (by omega) (Or.inr rfl) (nI y) hs hn, bz_t (inb_nI hy (by omega))]
    have st : ∀ g, gix (nI i) c = g → gk (I 2 8) (I 2 9) (-1) (nI i) (-1) 0 x (c + 1) = if I 2 8 g = x then mixF (gk (I 2 8) (I 2 9) (-1) (nI i) (-1) 0 x c) (I 2 9 g) else gk (I 2 8) (I 2 9) (-1) (nI i) (-1) 0 x c := fun g hg => by
      rw [gk_s, if_neg h1, hg]
      by_cases e : I 2 8 g = x
      · rw [if_pos ⟨e, h1⟩, if_pos e]
      · rw [if_neg (fun z => e z.1), if_neg e]
    have n10 : ((1 : Int32) = 0) = False := eq_false (by decide)
    rw [u17v1_8]; unfold b17_8
    rw [show I (0 + 2) 7 2 = nI n from hs, if_neg (nI_ge hc (by omega)), if_neg (show ¬ (40 : Int32) ≤ nI c from nI_ge (show c < 40 by omega) (by decide))]
    have hg := gix_t (i := i) (c := c) (by omega) (by omega)
    by_cases e1 : c = i
    · rw [if_pos e1] at hg
      have ig : inb (nI (i + 1)) 40 := inb_nI (by omega) (by decide)
      have kg : (nI (i + 1)).toNatClampNeg = i + 1 := nI_clamp (by omega)
      rw [if_pos (by rw [e1]), nI_1, m12' (i + 1) hi, bI_v, st _ hg, nI_1]
      simp only [n10, ↓reduceIte, eq_true ig, kg, m69, bI_v]
      by_cases e : I 2 8 (i + 1) = x
      · rw [if_pos e, if_pos e]
      · rw [if_neg e, if_neg e]
    · rw [if_neg (fun z => e1 (nI_inj (by omega) (by omega) z)), nI_1]
      rw [if_neg e1] at hg
      by_cases e2 : c = i + 1
      · rw [if_pos e2] at hg
        have ig : inb (nI i) 40 := inb_nI (by omega) (by decide)
        have kg : (nI i).toNatClampNeg = i := nI_clamp (by omega)
        rw [if_pos (by rw [e2]), m12' i (by omega), bI_v, st _ hg, nI_1]
        simp only [n10, ↓reduceIte, eq_true ig, kg, m69, bI_v]
        by_cases e : I 2 8 i = x
        · rw [if_pos e, if_pos e]
        · rw [if_neg e, if_neg e]
      · rw [if_neg e2] at hg
        have ig : inb (nI c) 40 := inb_nI (by omega) (by decide)
        have kg : (nI c).toNatClampNeg = c := nI_clamp (by omega)
        rw [if_neg (fun z => e2 (nI_inj (by omega) (by omega) z)), m12' c hc, bI_v, st _ hg, nI_1]
        simp only [n10, ↓reduceIte, eq_true ig, kg, m69, bI_v]
        by_cases e : I 2 8 c = x
        · rw [if_pos e, if_pos e]
        · rw [if_neg e, if_neg e]
  · intro m
    try dsimp only
    rw [u17v1_8]; unfold b17_8
    rw [show I (0 + 2) 7 2 = nI n from hs, if_pos (nI_le (Nat.le_refl _) (by omega))]
theorem m20 (hN : 60 ≤ N) (hs : I 2 7 2 = nI n) (hn : n ≤ 40) (hr : ∀ i, i < n → ∃ r, r < 8 ∧ I 2 8 i = nI r) (W : Int32) : sem N (d + 3) 20 [vR (some (2, 7)), vR (some (2, 2)), vI W] I F = some (vI (fsv (mPA (I 2 8) (I 2 9) (I 2 2) n W) (fun i => nI (100 + i)) (-1) 0 n), I, F) := by
  have h := s20v1 N (d + 2) 0 0 W I F
  rw [h]; unfold b20
  have step : ∀ m c, c < n → ∃ r, r < 8 ∧ I 2 8 c = nI r ∧ sg (sem N (d + 2)) 1 zc20 (m + 1) 2 [vR (some (0 + 2, 7)), vR (some (0 + 2, 2)), vI W, vI (nI c)] I F = if W = sh1 r then (if I 2 2 r = rtl (I 2 8) (I 2 9) (nI r) (nI c) (-1) n then some (vI (nI (100 + c)), I, F) else sg (sem N (d + 2)) 1 zc20 m 2 [vR (some (0 + 2, 7)), vR (some (0 + 2, 2)), vI W, vI (nI (c + 1))] I F) else sg (sem N (d + 2)) 1 zc20 m 2 [vR (some (0 + 2, 7)), vR (some (0 + 2, 2)), vI W, vI (nI (c + 1))] I F := fun m c hc => by
    obtain ⟨r, hr8, er⟩ := hr c hc
    refine ⟨r, hr8, er, ?_⟩
    have ic : inb (nI c) 40 := inb_nI (by omega) (by decide)
    have kc : (nI c).toNatClampNeg = c := nI_clamp (by omega)
    rw [u20v1_2]; unfold b20_2
    rw [show I (0 + 2) 7 2 = nI n from hs, if_neg (nI_ge hc (by omega)), if_neg (show ¬ (40 : Int32) ≤ nI c from nI_ge (show c < 40 by omega) (by decide))]
    simp only [eq_true ic, ↓reduceIte, kc]
    rw [show I (0 + 2) (7 + 1) c = nI r from er]
    by_cases hW : W = sh1 r
    · rw [if_pos hW, if_pos hW, m16 (by omega) (Or.inr rfl) (by omega) (nI r) (nI c) (-1) hn, bI_v, m23 hr8, bI_v, ite_bzif, nI_1, show (100 : Int32) + nI c = nI (100 + c) by rw [L100, nI_add]]
    · rw [if_neg hW, if_neg hW, nI_1]
  refine lpv (S := fun m c => sg (sem N (d + 2)) 1 zc20 m 2 [vR (some (0 + 2, 7)), vR (some (0 + 2, 2)), vI W, vI (nI c)] I F) (T := fun v => some (vI v, I, F)) (m := n) ?_ ?_ ?_ n 0 N (by omega) (by omega)
  · intro m c hc hP
    try dsimp only
    obtain ⟨r, hr8, er, e⟩ := step m c hc
    unfold mPA at hP
    rw [er, nI_clamp (by omega)] at hP
    rw [e, if_pos hP.1, if_pos hP.2]
  · intro m c hc hP
    try dsimp only
    obtain ⟨r, hr8, er, e⟩ := step m c hc
    unfold mPA at hP
    rw [er, nI_clamp (by omega)] at hP
    rw [e]
    by_cases hW : W = sh1 r
    · rw [if_pos hW, if_neg (fun z => hP ⟨hW, z⟩)]
    · rw [if_neg hW]
  · intro m
    try dsimp only
    rw [u20v1_2]; unfold b20_2
    rw [show I (0 + 2) 7 2 = nI n from hs, if_pos (nI_le (Nat.le_refl _) (by omega))]
theorem m21 (hN : 60 ≤ N) (hs : I 2 7 2 = nI n) (hn : n ≤ 40) (hr : ∀ i, i < n → ∃ r, r < 8 ∧ I 2 8 i = nI r) (W : Int32) : sem N (d + 3) 21 [vR (some (2, 7)), vR (some (2, 2)), vI W] I F = some (vI (fsv (mPB (I 2 8) (I 2 9) (I 2 2) n W) (fun i => nI (200 + i)) (-1) 0 (n - 1)), I, F) := by
  have h := s21v1 N (d + 2) 0 0 W I F
  rw [h]; unfold b21
  have n10 : ((1 : Int32) = 0) = False := eq_false (by decide)
  have step : ∀ m c, c + 1 < n → ∃ r, r < 8 ∧ I 2 8 c = nI r ∧ sg (sem N (d + 2)) 1 zc21 (m + 1) 2 [vR (some (0 + 2, 7)), vR (some (0 + 2, 2)), vI W, vI (nI c)] I F = if nI r = I 2 8 (c + 1) then (if W = sh1 r then (if I 2 2 r = gk (I 2 8) (I 2 9) (-1) (nI c) (-1) 0 (nI r) n then some (vI (nI (200 + c)), I, F) else sg (sem N (d + 2)) 1 zc21 m 2 [vR (some (0 + 2, 7)), vR (some (0 + 2, 2)), vI W, vI (nI (c + 1))] I F) else sg (sem N (d + 2)) 1 zc21 m 2 [vR (some (0 + 2, 7)), vR (some (0 + 2, 2)), vI W, vI (nI (c + 1))] I F) else sg (sem N (d + 2)) 1 zc21 m 2 [vR (some (0 + 2, 7)), vR (some (0 + 2, 2)), vI W, vI (nI (c + 1))] I F := fun m c hc => by
    obtain ⟨r, hr8, er⟩ := hr c (by omega)
    refine ⟨r, hr8, er, ?_⟩
    have ic : inb (nI c) 40 := inb_nI (by omega) (by decide)
    have kc : (nI c).toNatClampNeg = c := nI_clamp (by omega)
    have ic1 : inb (nI (c + 1)) 40 := inb_nI (by omega) (by decide)
    have kc1 : (nI (c + 1)).toNatClampNeg = c + 1 := nI_clamp (by omega)
    rw [u21v1_2]; unfold b21_2
    rw [show I (0 + 2) 7 2 = nI n from hs, nI_1, if_neg (nI_ge hc (by omega)), if_neg (show ¬ (40 : Int32) ≤ nI (c + 1) from nI_ge (show c + 1 < 40 by omega) (by decide))]
    simp only [eq_true ic, eq_true ic1, ↓reduceIte, kc, kc1, n10]
    rw [show I (0 + 2) (7 + 1) c = nI r from er, show I (0 + 2) (7 + 1) (c + 1) = I 2 8 (c + 1) from rfl]
    by_cases h1 : nI r = I 2 8 (c + 1)
    · rw [if_pos h1, if_pos h1]
      by_cases hW : W = sh1 r
      · rw [if_pos hW, if_pos hW, m17 (by omega) hs hn hc, bI_v, m23 hr8, bI_v, ite_bzif, show (200 : Int32) + nI c = nI (200 + c) by rw [show (200 : Int32) = nI 200 from rfl, nI_add]]
      · rw [if_neg hW, if_neg hW]
    · rw [if_neg h1, if_neg h1]
  by_cases h0 : n = 0
  · obtain ⟨M, rfl⟩ : ∃ M, N = M + 1 := ⟨N - 1, by omega⟩
    subst h0
    rw [u21v1_2]; unfold b21_2
    rw [show I (0 + 2) 7 2 = nI 0 from hs, if_pos (by decide)]
    rfl
  refine lpv (S := fun m c => sg (sem N (d + 2)) 1 zc21 m 2 [vR (some (0 + 2, 7)), vR (some (0 + 2, 2)), vI W, vI (nI c)] I F) (T := fun v => some (vI v, I, F)) (m := n - 1) ?_ ?_ ?_ (n - 1) 0 N (by omega) (by omega)
  · intro m c hc hP
    try dsimp only
    obtain ⟨r, hr8, er, e⟩ := step m c (by omega)
    unfold mPB at hP
    rw [er, nI_clamp (by omega)] at hP
    rw [e, if_pos hP.1, if_pos hP.2.1, if_pos hP.2.2]
  · intro m c hc hP
    try dsimp only
    obtain ⟨r, hr8, er, e⟩ := step m c (by omega)
    unfold mPB at hP
    rw [er, nI_clamp (by omega)] at hP
    rw [e]
    by_cases h1 : nI r = I 2 8 (c + 1)
    · rw [if_pos h1]
      by_cases hW : W = sh1 r
      · rw [if_pos hW, if_neg (fun z => hP ⟨h1, hW, z⟩)]
      · rw [if_neg hW]
    · rw [if_neg h1]
  · intro m
    try dsimp only
    rw [u21v1_2]; unfold b21_2
    rw [show I (0 + 2) 7 2 = nI n from hs, nI_1, if_pos (nI_le (by omega) (by omega))]
theorem m22 (hN : 500 ≤ N) (hs : I 2 7 2 = nI n) (hn : n ≤ 40) (hr : ∀ i, i < n → ∃ r, r < 8 ∧ I 2 8 i = nI r) (W : Int32) : sem N (d + 3) 22 [vR (some (2, 7)), vR (some (2, 2)), vI W] I F = some (vI (mvv (mPC (I 2 8) (I 2 9) (I 2 2) n W) 0 n), I, F) := by
  have h := s22v1 N (d + 2) 0 0 W I F
  rw [h]; unfold b22
  have n10 : ((1 : Int32) = 0) = False := eq_false (by decide)
  have main : ∀ k c m, c + k = n → 10 * k < m → sg (sem N (d + 2)) 1 zc22 m 2 [vR (some (0 + 2, 7)), vR (some (0 + 2, 2)), vI W, vI (nI c)] I F = some (vI (mvv (mPC (I 2 8) (I 2 9) (I 2 2) n W) c k), I, F) := by
    intro k
    induction k with
    | zero =>
      intro c m hc hm
      obtain ⟨q, rfl⟩ : ∃ q, m = q + 1 := ⟨m - 1, by omega⟩
      rw [u22v1_2]; unfold b22_2
      rw [show I (0 + 2) 7 2 = nI n from hs, if_pos (nI_le (by omega) (by omega))]
      rfl
    | succ k ih =>
      intro c m hc hm
      obtain ⟨q, rfl⟩ : ∃ q, m = q + 1 := ⟨m - 1, by omega⟩
      obtain ⟨r, hr8, er⟩ := hr c (by omega)
      have ic : inb (nI c) 40 := inb_nI (by omega) (by decide)
      have kc : (nI c).toNatClampNeg = c := nI_clamp (by omega)
      have kr : (nI r).toNatClampNeg = r := nI_clamp (by omega)
      show _ = some (vI (fsv (mPC (I 2 8) (I 2 9) (I 2 2) n W c) (fun r => nI (300 + 10 * c + r)) (mvv (mPC (I 2 8) (I 2 9) (I 2 2) n W) (c + 1) k) 0 8), I, F)
      rw [u22v1_2]; unfold b22_2
      rw [show I (0 + 2) 7 2 = nI n from hs, if_neg (nI_ge (show c < n by omega) (by omega)), if_neg (show ¬ (40 : Int32) ≤ nI c from nI_ge (show c < 40 by omega) (by decide))]
      simp only [eq_true ic, ↓reduceIte, kc]
      rw [show I (0 + 2) (7 + 1) c = nI r from er, m16 (by omega) (Or.inr rfl) (by omega) (nI r) (nI c) (-1) hn, bI_v, m23 hr8, bI_v, ite_bzif]
      by_cases hd : I 2 2 r = rtl (I 2 8) (I 2 9) (nI r) (nI c) (-1) n
      · rw [show rtl (I (0 + 2) (7 + 1)) (I (0 + 2) (7 + 2)) (nI r) (nI c) (-1) n = rtl (I 2 8) (I 2 9) (nI r) (nI c) (-1) n from rfl, if_pos hd]
        have hPC : ∀ t, mPC (I 2 8) (I 2 9) (I 2 2) n W c t ↔ (W &&& ((sh1 r ||| sh1 t) ^^^ (-1)) = 0 ∧ ¬ nI t = nI r ∧ I 2 2 t = rtl (I 2 8) (I 2 9) (nI t) (-1) (nI c) n) := fun t => by
          unfold mPC
          rw [er, kr]
          exact ⟨fun z => z.2, fun z => ⟨hd, z⟩⟩
        have inner : ∀ j t m, t + j = 8 → 10 * k + j + 1 < m → sg (sem N (d + 2)) 1 zc22 m 51 [vR (some (0 + 2, 7)), vR (some (0 + 2, 2)), vI W, vI (nI c), vI (nI r), vI (nI t)] I F = some (vI (fsv (mPC (I 2 8) (I 2 9) (I 2 2) n W c) (fun r => nI (300 + 10 * c + r)) (mvv (mPC (I 2 8) (I 2 9) (I 2 2) n W) (c + 1) k) t j), I, F) := by
          intro j
          induction j with
          | zero =>
            intro t m ht hm
            obtain ⟨p, rfl⟩ : ∃ p, m = p + 1 := ⟨m - 1, by omega⟩
            rw [u22v1_51]; unfold b22_51
            rw [if_pos (show (8 : Int32) ≤ nI t from nI_le (show 8 ≤ t by omega) (by omega)), nI_1]
            exact ih (c + 1) p (by omega) (by omega)
          | succ j ihj =>
            intro t m ht hm
            obtain ⟨p, rfl⟩ : ∃ p, m = p + 1 := ⟨m - 1, by omega⟩
            rw [u22v1_51]; unfold b22_51
            rw [if_neg (show ¬ (8 : Int32) ≤ nI t from nI_ge (show t < 8 by omega) (by decide))]
            simp only [n10, ↓reduceIte]
            by_cases hE : W &&& ((sh1 r ||| sh1 t) ^^^ (-1)) = 0
            · rw [if_pos hE]
              by_cases hT : nI t = nI r
              · rw [if_pos hT, fsv_n (fun z => ((hPC t).mp z).2.1 hT), nI_1]
                exact ihj (t + 1) p (by omega) (by omega)
              · rw [if_neg hT, show I (0 + 2) 7 2 = nI n from hs, m16 (by omega) (Or.inr rfl) (by omega) (nI t) (-1) (nI c) hn, bI_v, m23 (by omega), bI_v, ite_bzif, show rtl (I (0 + 2) (7 + 1)) (I (0 + 2) (7 + 2)) (nI t) (-1) (nI c) n = rtl (I 2 8) (I 2 9) (nI t) (-1) (nI c) n from rfl]
                by_cases hD : I 2 2 t = rtl (I 2 8) (I 2 9) (nI t) (-1) (nI c) n
                · rw [if_pos hD, fsv_p ((hPC t).mpr ⟨hE, hT, hD⟩), show (300 : Int32) + (10 : Int32) * nI c + nI t = nI (300 + 10 * c + t) by rw [show (300 : Int32) = nI 300 from rfl, L10, nI_mul, nI_add, nI_add]]
                · rw [if_neg hD, fsv_n (fun z => hD ((hPC t).mp z).2.2), nI_1]
                  exact ihj (t + 1) p (by omega) (by omega)
            · rw [if_neg hE, fsv_n (fun z => hE ((hPC t).mp z).1)]
              by_cases hT : nI t = nI r
              · rw [if_pos hT, nI_1]
                exact ihj (t + 1) p (by omega) (by omega)
              · rw [if_neg hT, nI_1]
                exact ihj (t + 1) p (by omega) (by omega)
        exact inner 8 0 q (by omega) (by omega)
      · rw [show rtl (I (0 + 2) (7 + 1)) (I (0 + 2) (7 + 2)) (nI r) (nI c) (-1) n = rtl (I 2 8) (I 2 9) (nI r) (nI c) (-1) n from rfl, if_neg hd, fsv_0 (fun t _ _ z => hd (by unfold mPC at z; rw [er, kr] at z; exact z.1)), nI_1]
        exact ih (c + 1) q (by omega) (by omega)
  exact main n 0 N (by omega) (by omega)
theorem m19 (hN : 500 ≤ N) (hs : I 2 7 2 = nI n) (hn : n ≤ 40) (hr : ∀ i, i < n → ∃ r, r < 8 ∧ I 2 8 i = nI r) {W : Int32} (hW : orb (fun r => ¬ rtl (I 2 8) (I 2 9) (nI r) (-1) (-1) n = I 2 2 r) 8 = W) : sem N (d + 4) 19 [vR (some (2, 7)), vR (some (2, 2))] I F = some (vI (if W = 0 then 0 else if bcF W ≤ 2 then fsv (mPA (I 2 8) (I 2 9) (I 2 2) n W) (fun i => nI (100 + i)) (fsv (mPB (I 2 8) (I 2 9) (I 2 2) n W) (fun i => nI (200 + i)) (mvv (mPC (I 2 8) (I 2 9) (I 2 2) n W) 0 n) 0 (n - 1)) 0 n else -1), I, F) := by
  have h := s19v1 N (d + 3) 0 0 I F
  rw [h]; unfold b19
  rw [m18 (by omega) (by omega) (Or.inr rfl) (by omega) hs hn, bI_v, show orb (fun r => ¬ rtl (I (0 + 2) (7 + 1)) (I (0 + 2) (7 + 2)) (nI r) (-1) (-1) n = I (0 + 2) 2 r) 8 = W from hW]
  by_cases h0 : W = 0
  · rw [if_pos h0, if_pos h0]
  · rw [if_neg h0, if_neg h0, m307, bI_v]
    by_cases h2 : bcF W ≤ 2
    · have eA := fsv_e (P := mPA (I 2 8) (I 2 9) (I 2 2) n W) (R := fun i => nI (100 + i)) (D := fsv (mPB (I 2 8) (I 2 9) (I 2 2) n W) (fun i => nI (200 + i)) (mvv (mPC (I 2 8) (I 2 9) (I 2 2) n W) 0 n) 0 (n - 1)) (k := n) (c := 0) (fun i hi z => nI_ne1 (by omega) z)
      have eB := fsv_e (P := mPB (I 2 8) (I 2 9) (I 2 2) n W) (R := fun i => nI (200 + i)) (D := mvv (mPC (I 2 8) (I 2 9) (I 2 2) n W) 0 n) (k := n - 1) (c := 0) (fun i hi z => nI_ne1 (by omega) z)
      rw [if_pos h2, if_pos h2, m20 (by omega) hs hn hr, bI_v, ← eA]
      by_cases hA : fsv (mPA (I 2 8) (I 2 9) (I 2 2) n W) (fun i => nI (100 + i)) (-1) 0 n = -1
      · rw [if_pos hA, if_pos hA, m21 (by omega) hs hn hr, bI_v, ← eB]
        by_cases hB : fsv (mPB (I 2 8) (I 2 9) (I 2 2) n W) (fun i => nI (200 + i)) (-1) 0 (n - 1) = -1
        · rw [if_pos hB, if_pos hB, m22 hN hs hn hr, bI_v]
        · rw [if_neg hB, if_neg hB]
      · rw [if_neg hA, if_neg hA, if_neg hA]
    · rw [if_neg h2, if_neg h2]
end MC
