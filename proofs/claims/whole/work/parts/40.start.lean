/-! START -/
/-- the keys of a row, the lowest c of them no longer loaded nor swapped -/
def kS (a : Nat → Int32) : Nat → Nat → Int32
  | 0 => a
  | c + 1 => updR (ulc (kS a c) c 4) (183 + 4 * c) (-1)
theorem kS_s (a : Nat → Int32) (c i : Nat) : kS a (c + 1) i = if i = 183 + 4 * c then -1 else if i = 182 + 4 * c then -1 else if 370 ≤ i ∧ i < 370 + 4 * 4 ∧ (i - 370) % 4 = 0 ∧ kS a c (i + 1) = nI c then 0 else kS a c i := rfl
theorem kS_o (a : Nat → Int32) : ∀ {c : Nat}, c ≤ 10 → ∀ i, ¬ (180 ≤ i ∧ i < 220 ∧ 2 ≤ (i - 180) % 4) → ¬ (370 ≤ i ∧ i < 386 ∧ (i - 370) % 4 = 0) → kS a c i = a i := by
  intro c
  induction c with
  | zero => intro _ i _ _; rfl
  | succ c ih =>
    intro hc i h1 h2
    rw [kS_s, if_neg (fun z => h1 (by omega)), if_neg (fun z => h1 (by omega)), if_neg (fun z => h2 (by omega)), ih (by omega) i h1 h2]
theorem kS_k (a : Nat → Int32) : ∀ {c : Nat}, c ≤ 10 → ∀ k, k < c → kS a c (182 + 4 * k) = -1 ∧ kS a c (183 + 4 * k) = -1 := by
  intro c
  induction c with
  | zero => intro _ k hk; omega
  | succ c ih =>
    intro hc k hk
    by_cases e : k = c
    · subst e
      refine ⟨?_, ?_⟩
      · rw [kS_s, if_neg (fun z => by omega), if_pos rfl]
      · rw [kS_s, if_pos rfl]
    · obtain ⟨z1, z2⟩ := ih (by omega) k (by omega)
      refine ⟨?_, ?_⟩
      · rw [kS_s, if_neg (fun z => by omega), if_neg (fun z => by omega), if_neg (fun z => by omega), z1]
      · rw [kS_s, if_neg (fun z => by omega), if_neg (fun z => by omega), if_neg (fun z => by omega), z2]
theorem kS_h (a : Nat → Int32) {s : Nat} (hs : s < 4) : ∀ {c : Nat}, c ≤ 10 → (kS a c (370 + 4 * s) = a (370 + 4 * s) ∨ kS a c (370 + 4 * s) = 0) ∧ ∀ k, k < c → a (371 + 4 * s) = nI k → kS a c (370 + 4 * s) = 0 := by
  intro c
  induction c with
  | zero => intro _; exact ⟨Or.inl rfl, fun k hk => by omega⟩
  | succ c ih =>
    intro hc
    obtain ⟨z1, z2⟩ := ih (by omega)
    have e : kS a c (370 + 4 * s + 1) = a (371 + 4 * s) := by
      rw [show 370 + 4 * s + 1 = 371 + 4 * s by omega]
      exact kS_o a (by omega) _ (by omega) (by omega)
    rw [kS_s, if_neg (fun z => by omega), if_neg (fun z => by omega), e]
    by_cases h : a (371 + 4 * s) = nI c
    · rw [if_pos ⟨by omega, by omega, by omega, h⟩]
      exact ⟨Or.inr rfl, fun k hk z => rfl⟩
    · rw [if_neg (fun z => h z.2.2.2)]
      refine ⟨z1, fun k hk z => ?_⟩
      by_cases e2 : k = c
      · subst e2; exact absurd z h
      · exact z2 k (by omega) z
theorem sr_sr (I : IM) (f g : Nat → Int32) : sr (sr I f) g = sr I g := by
  funext b o k
  rw [sr_eq, sr_eq, sr_eq]
  by_cases h : b = 1 ∧ o = 2
  · rw [if_pos h, if_pos h]
  · rw [if_neg h, if_neg h, if_neg h]
def rgS (a : Nat → Int32) (c : Nat) : Nat → Int32 := fun i => if i < c then atF (nI i) else a i
theorem l208b {N d m nk : Nat} {I : IM} {F : FM} {a : Nat → Int32} (hN : 6 ≤ N) (ha : a 13 = nI nk) (hk : nk ≤ 10) (hm : 11 ≤ m) : sg (sem N (d + 2)) 1 zc208 m 52 [vR (some (1, 0)), vI 0] (sr I a) F = some (vI (a 10 + 1), wI (sr I (updR (kS a nk) 10 (a 10 + 1))) 1 0 1 0, F) := by
  refine lp (S := fun m c => sg (sem N (d + 2)) 1 zc208 m 52 [vR (some (1, 0)), vI (nI c)] (sr I (kS a c)) F) (m := nk) ?_ ?_ nk 0 m (by omega) (by omega)
  · intro m c hc
    try dsimp only
    rw [u208_52]; unfold b208_52
    have e13 : sr I (kS a c) 1 2 13 = nI nk := by rw [sr_row, kS_o a (by omega) 13 (by omega) (by omega), ha]
    have e1 : updR (ulc (kS a c) c 4) (180 + 4 * c + 3) (-1) = kS a (c + 1) := by rw [show 180 + 4 * c + 3 = 183 + 4 * c by omega]; rfl
    rw [e13, if_neg (nI_ge hc (by omega)), m207 hN (by omega), bV_v, sr_row, sr_sr, m194, bI_v, L3, nI_add, if_pos (inb_nI (by omega) (by decide)), nI_clamp (by omega), nI_1]
    try dsimp only
    rw [sr_w, e1]
  · intro m
    try dsimp only
    rw [u208_52]; unfold b208_52
    have e13 : sr I (kS a nk) 1 2 13 = nI nk := by rw [sr_row, kS_o a (by omega) 13 (by omega) (by omega), ha]
    have e10 : sr I (kS a nk) 1 2 10 = a 10 := by rw [sr_row, kS_o a (by omega) 10 (by omega) (by omega)]
    rw [e13, if_pos (nI_le (Nat.le_refl _) (by omega)), e10]
    try dsimp only
    rw [m185, bI_v, wI_s, sr_w]
theorem l208a {N d nk : Nat} {I : IM} {F : FM} (hN : 40 ≤ N) (ha : I 1 2 13 = nI nk) (hk : nk ≤ 10) : sg (sem N (d + 2)) 1 zc208 N 12 [vR (some (1, 0)), vI 0] I F = some (vI (I 1 2 10 + 1), wI (sr I (updR (kS (updR (updR (rgS (I 1 2) 8) 8 0) 11 0) nk) 10 (I 1 2 10 + 1))) 1 0 1 0, F) := by
  obtain ⟨M, rfl⟩ : ∃ M, N = M + 12 := ⟨N - 12, by omega⟩
  have h := lp (S := fun m c => sg (sem (M + 12) (d + 2)) 1 zc208 (m + 12) 12 [vR (some (1, 0)), vI (nI c)] (sr I (rgS (I 1 2) c)) F) (T := some (vI (I 1 2 10 + 1), wI (sr I (updR (kS (updR (updR (rgS (I 1 2) 8) 8 0) 11 0) nk) 10 (I 1 2 10 + 1))) 1 0 1 0, F)) (m := 8) ?_ ?_ 8 0 M rfl (by omega)
  · try dsimp only at h
    have e0 : rgS (I 1 2) 0 = I 1 2 := by funext i; show (if i < 0 then _ else _) = _; rw [if_neg (by omega)]
    rw [e0, sr_id] at h
    exact h
  · intro m c hc
    try dsimp only
    rw [show m + 1 + 12 = (m + 12) + 1 by omega, u208_12]; unfold b208_12
    have e1 : updR (rgS (I 1 2) c) c (atF (nI c)) = rgS (I 1 2) (c + 1) := by
      funext i
      show (if i = c then _ else if i < c then _ else _) = if i < c + 1 then _ else _
      by_cases h1 : i = c
      · rw [if_pos h1, if_pos (by omega), h1]
      · by_cases h2 : i < c
        · rw [if_neg h1, if_pos h2, if_pos (by omega)]
        · rw [if_neg h1, if_neg h2, if_neg (by omega)]
    rw [if_neg (show ¬ (8 : Int32) ≤ nI c from nI_ge hc (by decide)), m209, bI_v, if_pos (inb_nI (by omega) (by decide)), nI_clamp (by omega), nI_1]
    try dsimp only
    rw [sr_w, e1]
  · intro m
    try dsimp only
    rw [show m + 1 + 12 = (m + 12) + 1 by omega, u208_12]; unfold b208_12
    rw [if_pos (show (8 : Int32) ≤ nI 8 from nI_le (Nat.le_refl _) (by decide))]
    try dsimp only
    rw [sr_w, sr_w]
    exact l208b (a := updR (updR (rgS (I 1 2) 8) 8 0) 11 0) (by omega) ha hk (by omega)
theorem rsS_at (I : IM) (o k : Nat) : rsS I 2 2 o k = if o = 32 ∧ k < 4 then -1 else if o = 13 ∧ k < 10 then 0 else if o = 14 ∧ k < 3 then -1 else if o = 4 ∧ k = 2 then 0 else if o = 1 ∧ k = 4 then I 2 1 4 + 1 else if o = 1 ∧ k = 2 then 0 else if o = 2 ∧ k < 8 then atF (nI k) else I 2 o k := by
  unfold rsS
  simp only [fl_eq, wI_eq, true_and]
theorem op_start {B B' : Nat → Nat → Int32} {a a' : Nat → Int32} {f g : UInt32} {nl nc nk nx np na ns : Nat} (h : CRep B f a g nl nc nk nx np na ns) (e1 : ∀ o k, B' o k = if o = 32 ∧ k < 4 then -1 else if o = 13 ∧ k < 10 then 0 else if o = 14 ∧ k < 3 then -1 else if o = 4 ∧ k = 2 then 0 else if o = 1 ∧ k = 4 then B 1 4 + 1 else if o = 1 ∧ k = 2 then 0 else if o = 2 ∧ k < 8 then atF (nI k) else B o k) (e2 : ∀ i, a' i = updR (kS (updR (updR (rgS a 8) 8 0) 11 0) nk) 10 (a 10 + 1) i) : CRep B' f a' g 0 nc nk nx np na ns := by
  obtain ⟨h0, h1, h2, h3, h4, h5, h6, h7⟩ := h
  obtain ⟨p1, p2, p3, p4, p5, p6⟩ := h1
  obtain ⟨q1, q2, q3, q4, q5, q6, q7, q8, q9, q10, q11, q12⟩ := h4
  have hB : ∀ o k, cpd o k → ¬ (o = 32 ∨ o = 13 ∨ o = 14 ∨ (o = 4 ∧ k = 2) ∨ (o = 1 ∧ (k = 4 ∨ k = 2)) ∨ o = 2) → B' o k = B o k := fun o k z1 z2 => by
    rw [e1, if_neg (fun z => z2 (by omega)), if_neg (fun z => z2 (by omega)), if_neg (fun z => z2 (by omega)), if_neg (fun z => z2 (by omega)), if_neg (fun z => z2 (by omega)), if_neg (fun z => z2 (by omega)), if_neg (fun z => z2 (by omega))]
  have b0 : ∀ i, ¬ (i < 8 ∨ i = 8 ∨ i = 11) → updR (updR (rgS a 8) 8 0) 11 0 i = a i := fun i z => by
    show (if i = 11 then _ else if i = 8 then _ else if i < 8 then _ else a i) = a i
    rw [if_neg (fun y => z (by omega)), if_neg (fun y => z (by omega)), if_neg (fun y => z (by omega))]
  have ha0 : ∀ i, i ≠ 10 → a' i = kS (updR (updR (rgS a 8) 8 0) 11 0) nk i := fun i z => by
    rw [e2]
    show (if i = 10 then _ else _) = _
    rw [if_neg z]
  have ha : ∀ k, k < 406 → ¬ (k < 8 ∨ k = 8 ∨ k = 10 ∨ k = 11 ∨ (180 ≤ k ∧ k < 220 ∧ 2 ≤ (k - 180) % 4) ∨ (370 ≤ k ∧ k < 386 ∧ (k - 370) % 4 = 0)) → a' k = a k := fun k z1 z2 => by
    rw [ha0 k (by omega), kS_o _ q3 k (by omega) (by omega), b0 k (by omega)]
  have ha8 : a' 8 = 0 := by
    rw [ha0 8 (by omega), kS_o _ q3 8 (by omega) (by omega)]
    rfl
  have ha11 : a' 11 = 0 := by
    rw [ha0 11 (by omega), kS_o _ q3 11 (by omega) (by omega)]
    rfl
  have ha10 : a' 10 = a 10 + 1 := by rw [e2]; rfl
  have hb14 : ∀ s, s < 3 → B' 14 s = -1 := fun s hs => by
    rw [e1, if_neg (fun z => by omega), if_neg (fun z => by omega), if_pos ⟨rfl, hs⟩]
  have hb13 : ∀ s, s < 10 → B' 13 s = 0 := fun s hs => by
    rw [e1, if_neg (fun z => by omega), if_pos ⟨rfl, hs⟩]
  have hk := kS_k (updR (updR (rgS a 8) 8 0) 11 0) q3
  refine ⟨h0, ⟨?_, ?_, ?_, ?_, ?_, ⟨0, by omega, ha8⟩⟩, ⟨?_, ha11, by omega, fun k hk => by omega⟩, enR_congr h3 (fun o k z => hB o k (cpe7 z) (by omega)) (ha 12 (by omega) (by omega)) (fun k z1 z2 => ha k (by omega) (by omega)), ⟨?_, ?_, q3, ?_, ?_, q6, ?_, ?_, ?_, ?_, ?_, ?_⟩, plR_congr h5 (by omega) (fun o k z1 z2 z => hB o k z (by omega)) (ha 15 (by omega) (by omega)) (ha 18 (by omega) (by omega)) (fun k z1 z2 => ha k (by omega) (by omega)) (fun k z1 z2 => ha k (by omega) (by omega)), slR_congr h6 (by omega) (by omega) (fun o k z1 z2 z => hB o k z (by omega)) (ha 16 (by omega) (by omega)) (fun k z1 z2 => ha k (by omega) (by omega)), ⟨?_, fun s hs => ⟨?_, ?_, Or.inr ⟨?_, ?_⟩⟩⟩⟩
  · rw [e1, if_neg (fun z => by omega), if_neg (fun z => by omega), if_neg (fun z => by omega), if_neg (fun z => by omega), if_neg (fun z => by omega), if_pos ⟨rfl, rfl⟩, ha8]
  · rw [hB 1 3 (cp1 (by omega)) (by omega), ha 9 (by omega) (by omega), p2]
  · rw [e1, if_neg (fun z => by omega), if_neg (fun z => by omega), if_neg (fun z => by omega), if_neg (fun z => by omega), if_pos ⟨rfl, rfl⟩, ha10, p3]
  · intro r hr
    rw [e1, if_neg (fun z => by omega), if_neg (fun z => by omega), if_neg (fun z => by omega), if_neg (fun z => by omega), if_neg (fun z => by omega), if_neg (fun z => by omega), if_pos ⟨rfl, hr⟩, ha0 r (by omega), kS_o _ q3 r (by omega) (by omega)]
    show _ = (if r = 11 then _ else if r = 8 then _ else if r < 8 then _ else a r)
    rw [if_neg (by omega), if_neg (by omega), if_pos hr]
  · intro c hc
    rw [hB 3 c (cp3 (by omega)) (by omega), ha (386 + c) (by omega) (by omega)]
    exact p5 c hc
  · rw [e1, if_neg (fun z => by omega), if_neg (fun z => by omega), if_neg (fun z => by omega), if_pos ⟨rfl, rfl⟩]
    rfl
  · rw [hB 10 3 (cp10 (by omega)) (by omega), q1]
  · rw [ha 13 (by omega) (by omega), q2]
  · rw [hB 10 9 (cp10 (by omega)) (by omega), q4]
  · rw [ha 14 (by omega) (by omega), q5]
  · intro k hk
    rw [hB 11 k (cp11 (by omega)) (by omega), hB 12 k (cp12 (by omega)) (by omega), ha (180 + 4 * k) (by omega) (by omega), ha (181 + 4 * k) (by omega) (by omega)]
    exact q7 k hk
  · intro s hs
    exact Or.inl (hb14 s hs)
  · intro k hk2
    refine Or.inl ?_
    rw [ha0 _ (by omega), (hk k hk2).1]
  · intro k s hk2 hs
    rw [ha0 _ (by omega), (hk k hk2).1, hb14 s hs, m1_nI (by omega), m1_nI (by omega)]
  · intro k hk2
    refine Or.inl ⟨hb13 k (by omega), ?_⟩
    rw [ha0 _ (by omega), (hk k hk2).2]
  · intro c hc
    rw [hB 16 c (cp16 (by omega)) (by omega), hB 17 c (cp17 (by omega)) (by omega), ha (221 + 4 * c) (by omega) (by omega), ha (222 + 4 * c) (by omega) (by omega)]
    exact q12 c hc
  · rw [hB 31 3 (cp31 (by omega)) (by omega), ha 17 (by omega) (by omega), h7.1]
  · rw [hB 33 s (cp33 (by omega)) (by omega), ha (372 + 4 * s) (by omega) (by omega), (h7.2 s hs).1]
  · rw [hB 34 s (cp34 (by omega)) (by omega), ha (373 + 4 * s) (by omega) (by omega), (h7.2 s hs).2.1]
  · obtain ⟨y1, y2⟩ := kS_h (updR (updR (rgS a 8) 8 0) 11 0) hs q3
    rw [ha0 _ (by omega)]
    rcases (h7.2 s hs).2.2 with ⟨-, -, k, z1, z2⟩ | ⟨z1, -⟩
    · exact y2 k z1 (by rw [b0 _ (by omega), z2])
    · rcases y1 with y | y
      · rw [y, b0 _ (by omega), z1]
      · exact y
  · rw [e1, if_pos ⟨rfl, hs⟩]
theorem st116 : StpI InvC 116 208 0 := by
  intro as I F hl hI
  obtain rfl := len0 hl
  simp only [List.map_nil]
  obtain ⟨nl, nc, nk, nx, np, na, ns, hR⟩ := hI.1
  have q2 := hR.2.2.2.2.1.2.1
  have q3 := hR.2.2.2.2.1.2.2.1
  have p3 := hR.2.1.2.2.1
  apply act_of (x := I 2 1 4 + 1) 0 (fun J => wI (rsS J 2) 0 0 6 0) (fun R => wI (sr R (updR (kS (updR (updR (rgS (R 1 2) 8) 8 0) 11 0) nk) 10 (R 1 2 10 + 1))) 1 0 1 0) (fun J => wI J 1 0 0 0) (fun G => G) (fun H => H) hI
  · rw [s116]; unfold b116
    try rfl
  · intro J G hJ hG
    rw [s208]; unfold b208
    dsimp only
    try rfl
  · exact ex0
  · intro J G aC
    refine ⟨?_, okC_of (pC_fl (pC_fl (pC_fl (pC_w (pC_w (pC_w (pC_fl pC_rfl)))))))⟩
    try dsimp only
    rw [m112 (by omega) (by decide), bV_v, m168, bI_v, rsS_at, if_neg (fun z => by omega), if_neg (fun z => by omega), if_neg (fun z => by omega), if_neg (fun z => by omega), if_pos ⟨rfl, rfl⟩, aC.1]
  · intro R H aM
    refine ⟨?_, okM_of (pM_sr pM_rfl)⟩
    try dsimp only
    rw [l208a (d := 6) (nk := nk) (by decide) (by rw [aM.1, q2]) q3, aM.1, p3]
  · intro J R G H aC aM
    try dsimp only
    rw [aC.2.2.1, aM.2]
    refine ⟨_, _, _, _, _, _, _, op_start hR ?_ ?_⟩
    · intro o k
      rw [wI_eq, if_neg (fun z => by omega), rsS_at, aC.1, aC.1]
    · intro i
      have eR : R 1 2 = I 1 2 := funext aM.1
      rw [wI_eq, if_neg (fun z => by omega), sr_row, eR]
