/-! WHAT IS REMEMBERED: an act of the class and of the reference -/
def flF (F : FM) (b o n : Nat) (f : Nat → UInt32) : FM := fun b' o' k' => if b' = b ∧ o' = o ∧ k' < n then f k' else F b' o' k'
theorem flF_eq (F : FM) (b o n : Nat) (f : Nat → UInt32) (b' o' k' : Nat) : flF F b o n f b' o' k' = if b' = b ∧ o' = o ∧ k' < n then f k' else F b' o' k' := rfl
theorem flF_0 (F : FM) (b o : Nat) (f : Nat → UInt32) : flF F b o 0 f = F := by
  funext b' o' k'
  rw [flF_eq, if_neg (fun z => Nat.not_lt_zero _ z.2.2)]
theorem flF_s (F : FM) (b o n : Nat) (f : Nat → UInt32) : wF (flF F b o n f) b o n (f n) = flF F b o (n + 1) f := by
  funext b' o' k'
  rw [wF_eq, flF_eq, flF_eq]
  by_cases h : b' = b ∧ o' = o
  · obtain ⟨rfl, rfl⟩ := h
    by_cases hk : k' = n
    · subst hk
      rw [if_pos ⟨rfl, rfl, rfl⟩, if_pos ⟨rfl, rfl, by omega⟩]
    · rw [if_neg (fun z => hk z.2.2)]
      by_cases hl : k' < n
      · rw [if_pos ⟨rfl, rfl, hl⟩, if_pos ⟨rfl, rfl, by omega⟩]
      · rw [if_neg (fun z => hl z.2.2), if_neg (fun z => hl (by omega))]
  · rw [if_neg (fun z => h ⟨z.1, z.2.1⟩), if_neg (fun z => h ⟨z.1, z.2.1⟩), if_neg (fun z => h ⟨z.1, z.2.1⟩)]
/-- how far what is remembered moves -/
def shf (n : Nat) : Nat := if n < 8 then 0 else 1
/-- the class has kept an act -/
def KeptC (I J : IM) (q n : Nat) (act : Int32) : Prop := (∀ b o k, b ≠ q + 4 → ¬ (b = 0 ∧ o = 14 ∧ k = q) → ¬ (b = 0 ∧ o = 12 ∧ k = 2) → ¬ (b = 0 ∧ o = 12 ∧ k = 3) → J b o k = I b o k) ∧ (∀ o k, cpd o k → J (q + 4) o k = I 2 o k) ∧ J 0 14 q = act ∧ J 0 12 2 = nI ((q + 1) % 8) ∧ J 0 12 3 = nI (n - shf n + 1)
/-- the reference has remembered it -/
def Rem (I J : IM) (F G : FM) (n : Nat) (act : Int32) : Prop := (∀ b o k, ¬ (b = 1 ∧ (o = 3 ∨ o = 5 ∨ (o = 0 ∧ k = 8))) → J b o k = I b o k) ∧ (∀ b o k, ¬ (b = 1 ∧ o = 4) → G b o k = F b o k) ∧ J 1 0 8 = nI (n - shf n + 1) ∧ (∀ i, i < n - shf n → (∀ k, k < 406 → J 1 3 (406 * i + k) = I 1 3 (406 * (i + shf n) + k)) ∧ J 1 5 i = I 1 5 (i + shf n) ∧ G 1 4 i = F 1 4 (i + shf n)) ∧ (∀ k, k < 406 → J 1 3 (406 * (n - shf n) + k) = I 1 2 k) ∧ J 1 5 (n - shf n) = act ∧ G 1 4 (n - shf n) = F 1 0 4
theorem keepC {N d q n : Nat} {I : IM} {F : FM} (act : Int32) (hq : I 0 12 2 = nI q) (hq8 : q < 8) (hn : I 0 12 3 = nI n) (hn8 : n ≤ 8) : ∃ J, sem N (d + 3) 28 [vR (some (0, 12)), vR (some (2, 0)), vI act] I F = some (vI 0, J, wF F (q + 4) 1 5 (F 2 1 5)) ∧ KeptC I J q n act := by
  obtain ⟨J, e1, e2, e3, e4, e5, e6⟩ := m28 (N := N) (d := d) (F := F) act hq hq8 hn hn8
  refine ⟨J, e1, e2, e3, e4, e5, ?_⟩
  rw [e6]
  unfold shf
  by_cases h : n < 8
  · rw [if_pos h, if_pos h, Nat.sub_zero]
  · rw [if_neg h, if_neg h, show n - 1 + 1 = 8 by omega]
section RM
variable {N d n : Nat} {I : IM} {F : FM}
/-- the last steps: the row behind those that are remembered -/
theorem rem_end {i : Nat} (hN : 408 ≤ N) (hi : i < 8) (act : Int32) (hs : I 1 0 8 = nI i) : (bV (sem N (d + 1) 189 [vR (some (1, 2)), vI (0 : Int32), vR (some (1, 3)), vI ((406 : Int32) * (I 1 0 8))] I F) (fun I1 F1 => (if inb (I1 1 0 8) 8 then (let F2 : FM := wF F1 1 4 (I1 1 0 8).toNatClampNeg (F1 1 0 4); (if inb (I1 1 0 8) 8 then (let I3 : IM := wI I1 1 5 (I1 1 0 8).toNatClampNeg act; (let I4 : IM := wI I3 1 0 8 ((I3 1 0 8) + (1 : Int32)); some (vI 0, I4, F2))) else none)) else none))) = some (vI 0, wI (wI (flo I 1 3 (406 * i) 406 (fun k => I 1 2 k)) 1 5 i act) 1 0 8 (nI (i + 1)), wF F 1 4 i (F 1 0 4)) := by
  have hb : inb (nI i) 8 := inb_nI hi (by decide)
  have h := m189a (N := N) (d := d) (I := I) (F := F) hN hi
  simp only [Nat.zero_add] at h
  rw [hs, L406, nI_mul, h, bV_v]
  have a1 : flo I 1 3 (406 * i) 406 (fun k => I 1 2 k) 1 0 8 = nI i := by rw [flo_eq, if_neg (fun z => by omega), hs]
  have a2 : wI (flo I 1 3 (406 * i) 406 (fun k => I 1 2 k)) 1 5 i act 1 0 8 = nI i := by rw [wI_eq, if_neg (fun z => by omega), a1]
  simp only [a1, eq_true hb, ↓reduceIte, nI_clamp (show i < 2 ^ 31 by omega), a2, nI_1]
theorem rem_lt (hN : 408 ≤ N) (act : Int32) (hn : n < 8) (hs : I 1 0 8 = nI n) : ∃ J G, sem N (d + 2) 190 [vR (some (1, 0)), vI act] I F = some (vI 0, J, G) ∧ Rem I J F G n act := by
  have key := rem_end (N := N) (d := d) (I := I) (F := F) hN hn act hs
  refine ⟨_, _, Eq.trans ?_ key, ?_⟩
  · rw [s190]; unfold b190
    rw [if_neg (by rw [hs, L8, nI_eq (by omega) (by omega)]; omega)]
  · have e : shf n = 0 := if_pos hn
    refine ⟨?_, ?_, ?_, ?_, ?_, ?_, ?_⟩
    · intro b o k h
      rw [wI_eq, if_neg (fun z => h (by omega)), wI_eq, if_neg (fun z => h (by omega)), flo_eq, if_neg (fun z => h (by omega))]
    · intro b o k h
      rw [wF_eq, if_neg (fun z => h (by omega))]
    · rw [wI_s, e, Nat.sub_zero]
    · intro i hi
      rw [e] at hi ⊢
      refine ⟨fun k hk => ?_, ?_, ?_⟩
      · rw [wI_eq, if_neg (fun z => by omega), wI_eq, if_neg (fun z => by omega), flo_eq, if_neg (fun z => by omega), Nat.add_zero]
      · rw [wI_eq, if_neg (fun z => by omega), wI_eq, if_neg (fun z => by omega), flo_eq, if_neg (fun z => by omega), Nat.add_zero]
      · rw [wF_eq, if_neg (fun z => by omega), Nat.add_zero]
    · intro k hk
      rw [e, Nat.sub_zero, wI_eq, if_neg (fun z => by omega), wI_eq, if_neg (fun z => by omega), flo_eq, if_pos ⟨rfl, rfl, by omega, by omega⟩, show 406 * n + k - 406 * n = k by omega]
    · rw [e, Nat.sub_zero, wI_eq, if_neg (fun z => by omega), wI_s]
    · rw [e, Nat.sub_zero, wF_eq, if_pos ⟨rfl, rfl, rfl⟩]
/-- the eldest goes -/
def sh1F (F : FM) : FM := flF F 1 4 7 (fun k => F 1 4 (k + 1))
def shI (I : IM) (act : Int32) : IM := wI (wI (flo (wI (fl I 1 5 7 (fun k => I 1 5 (k + 1))) 1 0 8 (nI 7)) 1 3 (406 * 7) 406 (fun k => wI (fl I 1 5 7 (fun k => I 1 5 (k + 1))) 1 0 8 (nI 7) 1 2 k)) 1 5 7 act) 1 0 8 (nI (7 + 1))
def shF (F : FM) : FM := wF (sh1F F) 1 4 7 (sh1F F 1 0 4)
theorem rem_sh2 (hN : 408 ≤ N) (act : Int32) (hs : I 1 0 8 = nI 8) {m : Nat} (hm : 8 < m) : sg (sem N (d + 1)) 0 zc190 m 42 [vR (some (1, 0)), vI act, vI 0] I F = some (vI 0, shI I act, shF F) := by
  have h := lp (S := fun m c => sg (sem N (d + 1)) 0 zc190 m 42 [vR (some (1, 0)), vI act, vI (nI c)] (fl I 1 5 c (fun k => I 1 5 (k + 1))) (flF F 1 4 c (fun k => F 1 4 (k + 1)))) (T := some (vI 0, shI I act, shF F)) (m := 7) ?_ ?_ 7 0 m rfl (by omega)
  · try dsimp only at h
    rw [fl_0, flF_0] at h
    exact h
  · intro m c hc
    try dsimp only
    rw [u190_42]; unfold b190_42
    have a1 : fl I 1 5 c (fun k => I 1 5 (k + 1)) 1 5 (c + 1) = I 1 5 (c + 1) := by rw [fl_eq, if_neg (fun z => by omega)]
    have a2 : flF F 1 4 c (fun k => F 1 4 (k + 1)) 1 4 (c + 1) = F 1 4 (c + 1) := by rw [flF_eq, if_neg (fun z => by omega)]
    have b1 : inb (nI (c + 1)) 8 := inb_nI (by omega) (by decide)
    have b2 : inb (nI c) 8 := inb_nI (by omega) (by decide)
    rw [if_neg (show ¬ (7 : Int32) ≤ nI c from nI_ge hc (by decide))]
    simp only [nI_1, eq_true b1, eq_true b2, ↓reduceIte, nI_clamp (show c + 1 < 2 ^ 31 by omega), nI_clamp (show c < 2 ^ 31 by omega), a1, a2]
    have e1 := fl_s I 1 5 c (fun k => I 1 5 (k + 1))
    have e2 := flF_s F 1 4 c (fun k => F 1 4 (k + 1))
    try dsimp only at e1 e2
    rw [e1, e2]
  · intro m
    try dsimp only
    rw [u190_42]; unfold b190_42
    rw [if_pos (show (7 : Int32) ≤ nI 7 from nI_le (Nat.le_refl _) (by decide))]
    have a1 : fl I 1 5 7 (fun k => I 1 5 (k + 1)) 1 0 8 - 1 = nI 7 := by rw [fl_eq, if_neg (fun z => by omega), hs]; exact nI_pred 7
    rw [a1]
    exact rem_end (i := 7) hN (by decide) act (wI_s _ _ _ _ _)
theorem rem_8 (hN : 3000 ≤ N) (act : Int32) (hs : I 1 0 8 = nI 8) : ∃ J G, sem N (d + 2) 190 [vR (some (1, 0)), vI act] I F = some (vI 0, J, G) ∧ Rem I J F G 8 act := by
  refine ⟨shI (fl I 1 3 2842 (fun k => I 1 3 (k + 406))) act, shF F, ?_, ?_⟩
  · rw [s190]; unfold b190
    rw [if_pos (by rw [hs]; rfl)]
    obtain ⟨M, rfl⟩ : ∃ M, N = M + 9 := ⟨N - 9, by omega⟩
    have h := lp (S := fun m c => sg (sem (M + 9) (d + 1)) 0 zc190 (m + 9) 11 [vR (some (1, 0)), vI act, vI (nI c)] (fl I 1 3 c (fun k => I 1 3 (k + 406))) F) (T := some (vI 0, shI (fl I 1 3 2842 (fun k => I 1 3 (k + 406))) act, shF F)) (m := 2842) ?_ ?_ 2842 0 M rfl (by omega)
    · try dsimp only at h
      rw [fl_0] at h
      exact h
    · intro m c hc
      try dsimp only
      rw [show m + 1 + 9 = (m + 9) + 1 by omega, u190_11]; unfold b190_11
      have a1 : fl I 1 3 c (fun k => I 1 3 (k + 406)) 1 3 (c + 406) = I 1 3 (c + 406) := by rw [fl_eq, if_neg (fun z => by omega)]
      rw [if_neg (show ¬ (2842 : Int32) ≤ nI c from nI_ge hc (by decide)), L406, nI_add, if_pos (inb_nI (by omega) (by decide)), if_pos (inb_nI (by omega) (by decide)), nI_clamp (by omega), nI_clamp (by omega), a1, nI_1]
      have e1 := fl_s I 1 3 c (fun k => I 1 3 (k + 406))
      try dsimp only at e1
      rw [e1]
    · intro m
      try dsimp only
      rw [show m + 1 + 9 = (m + 9) + 1 by omega, u190_11]; unfold b190_11
      rw [if_pos (show (2842 : Int32) ≤ nI 2842 from nI_le (Nat.le_refl _) (by decide))]
      exact rem_sh2 (by omega) act (by rw [fl_eq, if_neg (fun z => by omega), hs]) (by omega)
  · unfold shI shF
    refine ⟨?_, ?_, ?_, ?_, ?_, ?_, ?_⟩
    · intro b o k h
      rw [wI_eq, if_neg (fun z => h (by omega)), wI_eq, if_neg (fun z => h (by omega)), flo_eq, if_neg (fun z => h (by omega)), wI_eq, if_neg (fun z => h (by omega)), fl_eq, if_neg (fun z => h (by omega)), fl_eq, if_neg (fun z => h (by omega))]
    · intro b o k h
      rw [wF_eq, if_neg (fun z => h (by omega)), sh1F, flF_eq, if_neg (fun z => h (by omega))]
    · rw [wI_s]; rfl
    · intro i hi
      have hi7 : i < 7 := hi
      refine ⟨fun k hk => ?_, ?_, ?_⟩
      · rw [wI_eq, if_neg (fun z => by omega), wI_eq, if_neg (fun z => by omega), flo_eq, if_neg (fun z => by omega), wI_eq, if_neg (fun z => by omega), fl_eq, if_neg (fun z => by omega), fl_eq, if_pos ⟨rfl, rfl, by omega⟩]
        show I 1 3 (406 * i + k + 406) = I 1 3 (406 * (i + 1) + k)
        congr 1
        omega
      · rw [wI_eq, if_neg (fun z => by omega), wI_eq, if_neg (fun z => by omega), flo_eq, if_neg (fun z => by omega), wI_eq, if_neg (fun z => by omega), fl_eq, if_pos ⟨rfl, rfl, by omega⟩, fl_eq, if_neg (fun z => by omega)]
        rfl
      · rw [wF_eq, if_neg (fun z => by omega), sh1F, flF_eq, if_pos ⟨rfl, rfl, by omega⟩]
        rfl
    · intro k hk
      show wI _ 1 0 8 _ 1 3 (406 * 7 + k) = _
      rw [wI_eq, if_neg (fun z => by omega), wI_eq, if_neg (fun z => by omega), flo_eq, if_pos ⟨rfl, rfl, by omega, by omega⟩, show 406 * 7 + k - 406 * 7 = k by omega, wI_eq, if_neg (fun z => by omega), fl_eq, if_neg (fun z => by omega), fl_eq, if_neg (fun z => by omega)]
    · show wI _ 1 0 8 _ 1 5 7 = _
      rw [wI_eq, if_neg (fun z => by omega), wI_s]
    · show wF _ 1 4 7 _ 1 4 7 = _
      rw [wF_eq, if_pos ⟨rfl, rfl, rfl⟩, sh1F, flF_eq, if_neg (fun z => by omega)]
theorem remember (hN : 3000 ≤ N) (act : Int32) (hn : n ≤ 8) (hs : I 1 0 8 = nI n) : ∃ J G, sem N (d + 2) 190 [vR (some (1, 0)), vI act] I F = some (vI 0, J, G) ∧ Rem I J F G n act := by
  by_cases h : n < 8
  · exact rem_lt (by omega) act h hs
  · have e : n = 8 := by omega
    subst e
    exact rem_8 hN act hs
end RM
theorem Hist_step {I X : IM} {F G : FM} {act : Int32} {q n : Nat} (hn8 : n ≤ 8) (hq8 : q < 8) (hH : ∀ i, i < n → HE I F ((q + 8 - n + i) % 8) i) (hN : Now I F)
    (x1 : X 0 12 2 = nI ((q + 1) % 8)) (x2 : X 0 12 3 = nI (n - shf n + 1)) (x3 : X 1 0 8 = nI (n - shf n + 1))
    (x4 : ∀ j, j < 8 → j ≠ q → X 0 14 j = I 0 14 j ∧ (∀ o k, cpd o k → X (4 + j) o k = I (4 + j) o k) ∧ G (4 + j) 1 5 = F (4 + j) 1 5)
    (x5 : X 0 14 q = act ∧ (∀ o k, cpd o k → X (4 + q) o k = I 2 o k) ∧ G (4 + q) 1 5 = F 2 1 5)
    (x6 : ∀ i, i < n - shf n → (∀ k, k < 406 → X 1 3 (406 * i + k) = I 1 3 (406 * (i + shf n) + k)) ∧ X 1 5 i = I 1 5 (i + shf n) ∧ G 1 4 i = F 1 4 (i + shf n))
    (x7 : (∀ k, k < 406 → X 1 3 (406 * (n - shf n) + k) = I 1 2 k) ∧ X 1 5 (n - shf n) = act ∧ G 1 4 (n - shf n) = F 1 0 4) : Hist X G := by
  have hsh : shf n = 0 ∧ n < 8 ∨ shf n = 1 ∧ n = 8 := by
    unfold shf
    by_cases h : n < 8
    · rw [if_pos h]; exact Or.inl ⟨rfl, h⟩
    · rw [if_neg h]; exact Or.inr ⟨rfl, by omega⟩
  generalize shf n = s at *
  refine ⟨n - s + 1, (q + 1) % 8, by omega, by omega, x3, x2, x1, fun i hi => ?_⟩
  by_cases e : i = n - s
  · have ej : ((q + 1) % 8 + 8 - (n - s + 1) + i) % 8 = q := by omega
    rw [ej, e]
    refine ⟨CR_congr hN x5.2.2 x7.2.2 x5.2.1 x7.1, by rw [x5.1, x7.2.1]⟩
  · have ej : ((q + 1) % 8 + 8 - (n - s + 1) + i) % 8 = (q + 8 - n + (i + s)) % 8 := by omega
    rw [ej]
    obtain ⟨z1, z2⟩ := hH (i + s) (by omega)
    obtain ⟨y1, y2, y3⟩ := x4 ((q + 8 - n + (i + s)) % 8) (by omega) (by omega)
    obtain ⟨w1, w2, w3⟩ := x6 i (by omega)
    exact ⟨CR_congr z1 y3 w3 y2 w1, by rw [y1, w2, z2]⟩
/-- what class and reference may write beside their states -/
def scC (b o : Nat) : Prop := b = 3 ∨ (b = 0 ∧ ¬ (o = 12 ∨ o = 14 ∨ o = 16 ∨ o = 17))
def scM (b o k : Nat) : Prop := b = 1 ∧ ((o = 0 ∧ k ≠ 1 ∧ k ≠ 8) ∨ o = 7 ∨ 9 < o)
/-- an act is over: class first (kept, then its own state changed), then the reference -/
theorem Inv_mut {I J C X R M : IM} {F FC FR FX : FM} {act : Int32} {q n : Nat} (hI : InvC I F) (hq8 : q < 8) (hn8 : n ≤ 8) (hq : I 0 12 2 = nI q) (hn : I 0 12 3 = nI n) (hn1 : I 1 0 8 = nI n)
    (hK : KeptC I J q n act) (hC : ∀ b o k, b ≠ 2 → ¬ scC b o → C b o k = J b o k) (hFC : ∀ b o k, b ≠ 2 → b ≠ 3 → FC b o k = wF F (q + 4) 1 5 (F 2 1 5) b o k)
    (hX : ∀ b o k, ¬ scM b o k → X b o k = C b o k) (hR : Rem X R FC FR n act) (hM : ∀ b o k, ¬ (b = 1 ∧ o = 2) → ¬ scM b o k → ¬ (b = 1 ∧ o = 0 ∧ k = 1) → M b o k = R b o k) (hFM : ∀ b o k, ¬ (b = 1 ∧ o = 0) → FX b o k = FR b o k)
    (hnow : CR (C 2) (FC 2 1 5) (M 1 2) (FX 1 0 4)) (hst : C 0 0 6 = M 1 0 1) : InvC M FX := by
  obtain ⟨i1, ⟨n', q', h1, h2, h3, h4, h5, h6⟩, i3, i4, i5⟩ := hI
  have en : n' = n := by rw [hn] at h4; exact ((nI_eq (by omega) (by omega)).mp h4).symm
  have eq' : q' = q := by rw [hq] at h5; exact ((nI_eq (by omega) (by omega)).mp h5).symm
  subst en
  subst eq'
  obtain ⟨k1, k2, k3, k4, k5⟩ := hK
  obtain ⟨r1, r2, r3, r4, r5, r6, r7⟩ := hR
  have hM0 : ∀ b o k, b ≠ 1 → b ≠ 2 → ¬ scC b o → M b o k = J b o k := fun b o k z1 z2 z3 => by
    rw [hM b o k (fun z => z1 z.1) (fun z => z1 z.1) (fun z => z1 z.1), r1 b o k (fun z => z1 z.1), hX b o k (fun z => z1 z.1), hC b o k z2 z3]
  have hF0 : ∀ b o k, b ≠ 1 → b ≠ 2 → b ≠ 3 → FX b o k = wF F (q' + 4) 1 5 (F 2 1 5) b o k := fun b o k z1 z2 z3 => by
    rw [hFM b o k (fun z => z1 z.1), r2 b o k (fun z => z1 z.1), hFC b o k z2 z3]
  have hC1 : ∀ o k, C 1 o k = I 1 o k := fun o k => by
    rw [hC 1 o k (by omega) (by unfold scC; omega), k1 1 o k (by omega) (by omega) (by omega) (by omega)]
  have hFC1 : ∀ o k, FC 1 o k = F 1 o k := fun o k => by
    rw [hFC 1 o k (by omega) (by omega), wF_eq, if_neg (fun z => by omega)]
  have hM2 : ∀ b, b = 2 → ∀ o k, M b o k = C b o k := fun b hb o k => by
    subst hb
    rw [hM 2 o k (by omega) (by unfold scM; omega) (by omega), r1 2 o k (by omega), hX 2 o k (by unfold scM; omega)]
  refine ⟨?_, ?_, ?_, ?_, ?_⟩
  · have e2 : M 2 = C 2 := by funext o k; exact hM2 2 rfl o k
    have e3 : FX 2 1 5 = FC 2 1 5 := by rw [hFM 2 1 5 (by omega), r2 2 1 5 (by omega)]
    unfold Now
    rw [e2, e3]
    exact hnow
  · refine Hist_step (I := I) (F := F) (act := act) h1 h2 h6 i1 ?_ ?_ ?_ ?_ ?_ ?_ ?_
    · rw [hM0 0 12 2 (by omega) (by omega) (by unfold scC; omega), k4]
    · rw [hM0 0 12 3 (by omega) (by omega) (by unfold scC; omega), k5]
    · rw [hM 1 0 8 (by omega) (by unfold scM; omega) (by omega), r3]
    · intro j hj hne
      refine ⟨?_, fun o k hc => ?_, ?_⟩
      · rw [hM0 0 14 j (by omega) (by omega) (by unfold scC; omega), k1 0 14 j (by omega) (by omega) (by omega) (by omega)]
      · rw [hM0 (4 + j) o k (by omega) (by omega) (by unfold scC; omega), k1 (4 + j) o k (by omega) (by omega) (by omega) (by omega)]
      · rw [hF0 (4 + j) 1 5 (by omega) (by omega) (by omega), wF_eq, if_neg (fun z => by omega)]
    · refine ⟨?_, fun o k hc => ?_, ?_⟩
      · rw [hM0 0 14 q' (by omega) (by omega) (by unfold scC; omega), k3]
      · rw [hM0 (4 + q') o k (by omega) (by omega) (by unfold scC; omega), Nat.add_comm 4 q', k2 o k hc]
      · rw [hF0 (4 + q') 1 5 (by omega) (by omega) (by omega), wF_eq, if_pos ⟨by omega, rfl, rfl⟩]
    · intro i hi
      obtain ⟨z1, z2, z3⟩ := r4 i hi
      refine ⟨fun k hk => ?_, ?_, ?_⟩
      · rw [hM 1 3 _ (by omega) (by unfold scM; omega) (by omega), z1 k hk, hX 1 3 _ (by unfold scM; omega), hC1]
      · rw [hM 1 5 _ (by omega) (by unfold scM; omega) (by omega), z2, hX 1 5 _ (by unfold scM; omega), hC1]
      · rw [hFM 1 4 _ (by omega), z3, hFC1]
    · refine ⟨fun k hk => ?_, ?_, ?_⟩
      · rw [hM 1 3 _ (by omega) (by unfold scM; omega) (by omega), r5 k hk, hX 1 2 k (by unfold scM; omega), hC1]
      · rw [hM 1 5 _ (by omega) (by unfold scM; omega) (by omega), r6]
      · rw [hFM 1 4 _ (by omega), r7, hFC1]
  · refine Img_congr i3 ⟨fun k hk => ⟨?_, ?_, ?_, ?_, fun o i hc => ?_⟩, fun k hk => ?_⟩
    · rw [hM0 0 16 k (by omega) (by omega) (by unfold scC; omega), k1 0 16 k (by omega) (by omega) (by omega) (by omega)]
    · rw [hM 1 9 k (by omega) (by unfold scM; omega) (by omega), r1 1 9 k (by omega), hX 1 9 k (by unfold scM; omega), hC1]
    · rw [hF0 (12 + k) 1 5 (by omega) (by omega) (by omega), wF_eq, if_neg (fun z => by omega)]
    · rw [hFM 1 8 k (by omega), r2 1 8 k (by omega), hFC1]
    · rw [hM0 (12 + k) o i (by omega) (by omega) (by unfold scC; omega), k1 (12 + k) o i (by omega) (by omega) (by omega) (by omega)]
    · rw [hM 1 6 k (by omega) (by unfold scM; omega) (by omega), r1 1 6 k (by omega), hX 1 6 k (by unfold scM; omega), hC1]
  · rw [hM 0 0 6 (by omega) (by unfold scM; omega) (by omega), r1 0 0 6 (by omega), hX 0 0 6 (by unfold scM; omega)]
    exact hst
  · intro i hi
    rw [hM0 0 17 i (by omega) (by omega) (by unfold scC; omega), k1 0 17 i (by omega) (by omega) (by omega) (by omega), hM 1 1 (i + 1) (by omega) (by unfold scM; omega) (by omega), r1 1 1 (i + 1) (by omega), hX 1 1 (i + 1) (by unfold scM; omega), hC1, i5 i hi]
