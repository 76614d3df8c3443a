/-! UNDO, IMAGE, BACK; the questions that read one place -/
theorem qs_of {I I1 I2 : IM} {F F1 F2 : FM} {yC yM : Nat} {as bs : List Vl} {x : Int32} (hI : InvC I F) (ec : sem zN 9 yC as I F = some (vI x, I1, F1)) (em : sem zN 9 yM bs I1 F1 = some (vI x, I2, F2)) (h1 : smI I I1 F F1) (h2 : smI I1 I2 F1 F2) :
    ∃ (x : Int32) (I1 : IM) (F1 : FM) (I2 : IM) (F2 : FM), sem zN 9 yC as I F = some (vI x, I1, F1) ∧ sem zN 9 yM bs I1 F1 = some (vI x, I2, F2) ∧ InvC I2 F2 :=
  ⟨x, I1, F1, I2, F2, ec, em, Inv_sm hI (sm_trans h1 h2)⟩
theorem qs_0 {I : IM} {F : FM} {yC yM : Nat} {as bs : List Vl} {x : Int32} (hI : InvC I F) (ec : sem zN 9 yC as I F = some (vI x, I, F)) (em : sem zN 9 yM bs I F = some (vI x, wI I 1 0 0 0, F)) :
    ∃ (x : Int32) (I1 : IM) (F1 : FM) (I2 : IM) (F2 : FM), sem zN 9 yC as I F = some (vI x, I1, F1) ∧ sem zN 9 yM bs I1 F1 = some (vI x, I2, F2) ∧ InvC I2 F2 :=
  qs_of hI ec em sm_rfl (sm_0 sm_rfl)
theorem st167 : StpI InvC 167 302 0 := by
  intro as I F hl hI
  obtain rfl := len0 hl
  simp only [List.map_nil]
  refine qs_0 (x := I 0 0 6) hI ?_ ?_
  · rw [s167]; rfl
  · rw [s302]; unfold b302
    dsimp only
    rw [wI_eq, if_neg (fun z => by omega), hI.2.2.2.1]
theorem st143 : StpI InvC 143 256 1 := by
  intro as I F hl hI
  obtain ⟨x, rfl⟩ := len1 hl
  simp only [List.map_cons, List.map_nil]
  obtain ⟨nl, nc, nk, nx, np, na, ns, hR⟩ := hI.1
  have p4 := hR.2.1.2.2.2.1
  by_cases hx : inb x 8
  · obtain ⟨r, hr, hr2, rfl, er⟩ := inb_get hx
    have hi : inb (nI r) 406 := inb_mono (by omega) hx
    refine qs_0 (x := I 2 2 r) hI ?_ ?_
    · rw [s143]; unfold b143
      rw [m171, bI_v, ite_bzif, if_pos hx, if_pos hx, er]
    · rw [s256]; unfold b256
      dsimp only
      rw [m203, bI_v, ite_bzif, if_pos hx, if_pos hi, er, w0_12, p4 r hr]
  · refine qs_0 (x := 0) hI ?_ ?_
    · rw [s143]; unfold b143
      rw [m171, bI_v, ite_bzif, if_neg hx]
    · rw [s256]; unfold b256
      dsimp only
      rw [m203, bI_v, ite_bzif, if_neg hx]
theorem st140 : StpI InvC 140 191 0 := by
  intro as I F hl hI
  obtain rfl := len0 hl
  simp only [List.map_nil]
  have hI' := hI
  obtain ⟨i1, ⟨n, q, h1, h2, h3, h4, h5, h6⟩, i3, i4, i5⟩ := hI'
  have c0 : (nI n = 0) ↔ n = 0 := nI_z (by omega)
  by_cases hn : n = 0
  · refine rf_of (x := -4) (y := -4) (j := 3) hI (by omega) ?_ ?_
    · rw [s140]; unfold b140
      rw [h4, if_pos (c0.mpr hn), r169_4, bI_v]
    · rw [s191]; unfold b191
      dsimp only
      rw [show wI (rC I (-4) 3) 1 0 0 0 1 0 8 = nI n by rw [wI_eq, if_neg (fun z => by omega), rC_1, h3], if_pos (c0.mpr hn), r186_4, bI_v]
  · obtain ⟨m, rfl⟩ : ∃ m, n = m + 1 := ⟨n - 1, by omega⟩
    obtain ⟨J, e1, e2, e3, e4, e5⟩ := m29 (N := zN) (d := 5) (I := I) (F := F) (n := m) h5 h2 h4 (by omega)
    have hE := h6 m (by omega)
    rw [show (q + 8 - (m + 1) + m) % 8 = (q + 7) % 8 by omega] at hE
    obtain ⟨hE1, hE2⟩ := hE
    have f1 : ∀ o k, J 1 o k = I 1 o k := fun o k => e2 1 o k (by omega) (by omega) (by omega)
    have f0 : ∀ b o k, b ≠ 2 → ¬ (b = 0 ∧ o = 12) → J b o k = I b o k := fun b o k z1 z2 => e2 b o k z1 (by omega) (by omega)
    have im : inb (nI m) 8 := inb_nI (by omega) (by decide)
    refine ⟨I 0 14 ((q + 7) % 8), wI J 0 0 6 0, wF F 2 1 5 (F ((q + 7) % 8 + 4) 1 5), wI (flo (wI (wI (wI J 0 0 6 0) 1 0 0 0) 1 0 8 (nI m)) 1 2 0 406 (fun k => wI (wI (wI J 0 0 6 0) 1 0 0 0) 1 0 8 (nI m) 1 3 (406 * m + k))) 1 0 1 0, wF (wF F 2 1 5 (F ((q + 7) % 8 + 4) 1 5)) 1 0 4 (wF F 2 1 5 (F ((q + 7) % 8 + 4) 1 5) 1 4 m), ?_, ?_, ?_⟩
    · rw [s140]; unfold b140
      rw [h4, if_neg (fun z => hn (c0.mp z)), e1, bI_v, m168, bI_v]
    · rw [s191]; unfold b191
      dsimp only
      rw [show wI (wI J 0 0 6 0) 1 0 0 0 1 0 8 = nI (m + 1) by rw [wI_eq, if_neg (fun z => by omega), wI_eq, if_neg (fun z => by omega), f1, h3], if_neg (fun z => hn (c0.mp z)), nI_pred, wI_s, L406, nI_mul, m189b (by decide) (by omega), bV_v]
      rw [show flo (wI (wI (wI J 0 0 6 0) 1 0 0 0) 1 0 8 (nI m)) 1 2 0 406 (fun k => wI (wI (wI J 0 0 6 0) 1 0 0 0) 1 0 8 (nI m) 1 3 (406 * m + k)) 1 0 8 = nI m by rw [flo_eq, if_neg (fun z => by omega), wI_s], if_pos im, if_pos im, m185, bI_v, nI_clamp (by omega)]
      rw [show flo (wI (wI (wI J 0 0 6 0) 1 0 0 0) 1 0 8 (nI m)) 1 2 0 406 (fun k => wI (wI (wI J 0 0 6 0) 1 0 0 0) 1 0 8 (nI m) 1 3 (406 * m + k)) 1 5 m = I 0 14 ((q + 7) % 8) by rw [flo_eq, if_neg (fun z => by omega), wI_eq, if_neg (fun z => by omega), wI_eq, if_neg (fun z => by omega), wI_eq, if_neg (fun z => by omega), f1, hE2]]
    · have g0 : ∀ b o k, b ≠ 1 → ¬ (b = 0 ∧ o = 0 ∧ k = 6) → wI (flo (wI (wI (wI J 0 0 6 0) 1 0 0 0) 1 0 8 (nI m)) 1 2 0 406 (fun k => wI (wI (wI J 0 0 6 0) 1 0 0 0) 1 0 8 (nI m) 1 3 (406 * m + k))) 1 0 1 0 b o k = J b o k := fun b o k z1 z2 => by
        rw [wI_eq, if_neg (fun z => by omega), flo_eq, if_neg (fun z => by omega), wI_eq, if_neg (fun z => by omega), wI_eq, if_neg (fun z => by omega), wI_eq, if_neg (fun z => by omega)]
      have g1 : ∀ o k, o ≠ 0 → o ≠ 2 → wI (flo (wI (wI (wI J 0 0 6 0) 1 0 0 0) 1 0 8 (nI m)) 1 2 0 406 (fun k => wI (wI (wI J 0 0 6 0) 1 0 0 0) 1 0 8 (nI m) 1 3 (406 * m + k))) 1 0 1 0 1 o k = I 1 o k := fun o k z1 z2 => by
        rw [wI_eq, if_neg (fun z => by omega), flo_eq, if_neg (fun z => by omega), wI_eq, if_neg (fun z => by omega), wI_eq, if_neg (fun z => by omega), wI_eq, if_neg (fun z => by omega), f1]
      have gF : ∀ b o k, ¬ (b = 2 ∧ o = 1 ∧ k = 5) → ¬ (b = 1 ∧ o = 0 ∧ k = 4) → wF (wF F 2 1 5 (F ((q + 7) % 8 + 4) 1 5)) 1 0 4 (wF F 2 1 5 (F ((q + 7) % 8 + 4) 1 5) 1 4 m) b o k = F b o k := fun b o k z1 z2 => by
        rw [wF_eq, if_neg z2, wF_eq, if_neg z1]
      refine ⟨?_, ⟨m, (q + 7) % 8, by omega, by omega, ?_, ?_, ?_, fun i hi => ?_⟩, ?_, ?_, ?_⟩
      · refine CR_congr hE1 ?_ ?_ (fun o k hc => ?_) (fun k hk => ?_)
        · rw [wF_eq, if_neg (fun z => by omega), wF_eq, if_pos ⟨rfl, rfl, rfl⟩, Nat.add_comm]
        · rw [wF_eq, if_pos ⟨rfl, rfl, rfl⟩, wF_eq, if_neg (fun z => by omega)]
        · rw [g0 2 o k (by omega) (by omega), e3 o k hc, Nat.add_comm]
        · rw [wI_eq, if_neg (fun z => by omega), flo_eq, if_pos ⟨rfl, rfl, by omega, by omega⟩, Nat.sub_zero, wI_eq, if_neg (fun z => by omega), wI_eq, if_neg (fun z => by omega), wI_eq, if_neg (fun z => by omega), f1]
      · rw [wI_eq, if_neg (fun z => by omega), flo_eq, if_neg (fun z => by omega), wI_s]
      · rw [g0 0 12 3 (by omega) (by omega), e5]
      · rw [g0 0 12 2 (by omega) (by omega), e4]
      · rw [show ((q + 7) % 8 + 8 - m + i) % 8 = (q + 8 - (m + 1) + i) % 8 by omega]
        obtain ⟨z1, z2⟩ := h6 i (by omega)
        have hj : (q + 8 - (m + 1) + i) % 8 < 8 := by omega
        generalize (q + 8 - (m + 1) + i) % 8 = j at z1 z2 hj ⊢
        refine ⟨CR_congr z1 ?_ ?_ (fun o k hc => ?_) (fun k hk => ?_), ?_⟩
        · rw [gF _ _ _ (by omega) (by omega)]
        · rw [gF _ _ _ (by omega) (by omega)]
        · rw [g0 _ _ _ (by omega) (by omega), f0 _ _ _ (by omega) (by omega)]
        · rw [g1 _ _ (by omega) (by omega)]
        · rw [g0 _ _ _ (by omega) (by omega), f0 _ _ _ (by omega) (by omega), g1 _ _ (by omega) (by omega), z2]
      · refine Img_congr i3 ⟨fun k hk => ⟨?_, ?_, ?_, ?_, fun o i hc => ?_⟩, fun k hk => ?_⟩
        · rw [g0 _ _ _ (by omega) (by omega), f0 _ _ _ (by omega) (by omega)]
        · rw [g1 _ _ (by omega) (by omega)]
        · rw [gF _ _ _ (by omega) (by omega)]
        · rw [gF _ _ _ (by omega) (by omega)]
        · rw [g0 _ _ _ (by omega) (by omega), f0 _ _ _ (by omega) (by omega)]
        · rw [g1 _ _ (by omega) (by omega)]
      · rw [wI_s, wI_eq, if_neg (fun z => by omega), flo_eq, if_neg (fun z => by omega), wI_eq, if_neg (fun z => by omega), wI_eq, if_neg (fun z => by omega), wI_s]
      · intro i hi
        rw [g0 _ _ _ (by omega) (by omega), f0 _ _ _ (by omega) (by omega), g1 _ _ (by omega) (by omega), i5 i hi]
theorem nar1 : vp_nar .boolean (1 : Int32) = 1 := by decide
theorem m30 {N d k : Nat} {I : IM} {F : FM} (hk : k < 2) : ∃ J, sem N (d + 3) 30 [vR (some (0, 12)), vI (nI k), vR (some (2, 0))] I F = some (vI 0, wI J 0 16 k 1, wF F (k + 12) 1 5 (F 2 1 5)) ∧ (∀ b o i, b ≠ k + 12 → J b o i = I b o i) ∧ ∀ o i, cpd o i → J (k + 12) o i = I 2 o i := by
  obtain ⟨J, e1, e2, e3⟩ := m111 (N := N) (d := d) (I := I) (F := F) (b := k + 12) (c := 2) (by omega) (by omega) (by omega)
  refine ⟨J, ?_, e2, e3⟩
  have hi : inb (nI k) 2 := inb_nI hk (by decide)
  have ec : (nI k).toNatClampNeg = k := nI_clamp (by omega)
  have hs := s30 N (d + 2) 0 (nI k) I F
  simp only [Nat.zero_add] at hs
  rw [hs]
  unfold b30
  simp only [ec, m174, bI_v, ite_bzif, eq_true hi, ↓reduceIte, e1, bV_v, nar1]
theorem m31 {N d k : Nat} {I : IM} {F : FM} (hk : k < 2) : ∃ J, sem N (d + 3) 31 [vR (some (0, 12)), vI (nI k), vR (some (2, 0))] I F = some (vI 0, wI J 0 12 3 0, wF F 2 1 5 (F (k + 12) 1 5)) ∧ (∀ b o i, b ≠ 2 → J b o i = I b o i) ∧ ∀ o i, cpd o i → J 2 o i = I (k + 12) o i := by
  obtain ⟨J, e1, e2, e3⟩ := m111 (N := N) (d := d) (I := I) (F := F) (b := 2) (c := k + 12) (by omega) (by omega) (by omega)
  refine ⟨J, ?_, e2, e3⟩
  have hi : inb (nI k) 2 := inb_nI hk (by decide)
  have ec : (nI k).toNatClampNeg = k := nI_clamp (by omega)
  have hs := s31 N (d + 2) 0 (nI k) I F
  simp only [Nat.zero_add] at hs
  rw [hs]
  unfold b31
  simp only [ec, m174, bI_v, ite_bzif, eq_true hi, ↓reduceIte, e1, bV_v]
theorem st141 : StpI InvC 141 192 1 := by
  intro as I F hl hI
  obtain ⟨x, rfl⟩ := len1 hl
  simp only [List.map_cons, List.map_nil]
  have hI' := hI
  obtain ⟨i1, ⟨n, q, h1, h2, h3, h4, h5, h6⟩, i3, i4, i5⟩ := hI'
  have i1' := i1
  obtain ⟨nl, nc, nk, nx, np, na, ns, hR⟩ := i1'
  have p2 := hR.2.1.2.1
  by_cases hx : inb x 2
  · obtain ⟨k, hk, hk2, rfl, ek⟩ := inb_get hx
    obtain ⟨J, e1, e2, e3⟩ := m30 (N := zN) (d := 5) (I := I) (F := F) hk
    have f1 : ∀ o i, J 1 o i = I 1 o i := fun o i => e2 1 o i (by omega)
    refine ⟨I 2 1 3, wI (wI J 0 16 k 1) 0 0 6 0, wF F (k + 12) 1 5 (F 2 1 5), wI (wI (flo (wI (wI (wI J 0 16 k 1) 0 0 6 0) 1 0 0 0) 1 6 (406 * k) 406 (fun i => wI (wI (wI J 0 16 k 1) 0 0 6 0) 1 0 0 0 1 2 (0 + i))) 1 9 k 1) 1 0 1 0, wF (wF F (k + 12) 1 5 (F 2 1 5)) 1 8 k (wF F (k + 12) 1 5 (F 2 1 5) 1 0 4), ?_, ?_, ?_⟩
    · rw [s141]; unfold b141
      rw [m174, bI_v, ite_bzif, if_pos hx, e1, bV_v, m168, bI_v, wI_eq, if_neg (fun z => by omega), e2 2 1 3 (by omega)]
    · rw [s192]; unfold b192
      dsimp only
      rw [m184 (h := 1) (n := 2) _ _ (by decide), bI_v, ite_bzif, if_pos hx, L406, nI_mul, m189c (by decide) hk, bV_v, if_pos hx, if_pos hx, nar1, m185, bI_v, ek]
      rw [wI_eq, if_neg (fun z => by omega), flo_eq, if_neg (fun z => by omega), wI_eq, if_neg (fun z => by omega), wI_eq, if_neg (fun z => by omega), wI_eq, if_neg (fun z => by omega), f1, p2]
    · have g0 : ∀ b o i, b ≠ 1 → ¬ (b = 0 ∧ o = 0 ∧ i = 6) → ¬ (b = 0 ∧ o = 16 ∧ i = k) → wI (wI (flo (wI (wI (wI J 0 16 k 1) 0 0 6 0) 1 0 0 0) 1 6 (406 * k) 406 (fun i => wI (wI (wI J 0 16 k 1) 0 0 6 0) 1 0 0 0 1 2 (0 + i))) 1 9 k 1) 1 0 1 0 b o i = J b o i := fun b o i z1 z2 z3 => by
        rw [wI_eq, if_neg (fun z => by omega), wI_eq, if_neg (fun z => by omega), flo_eq, if_neg (fun z => by omega), wI_eq, if_neg (fun z => by omega), wI_eq, if_neg (fun z => by omega), wI_eq, if_neg (fun z => by omega)]
      have g1 : ∀ o i, ¬ (o = 0 ∧ i < 2) → ¬ (o = 6 ∧ 406 * k ≤ i ∧ i < 406 * k + 406) → ¬ (o = 9 ∧ i = k) → wI (wI (flo (wI (wI (wI J 0 16 k 1) 0 0 6 0) 1 0 0 0) 1 6 (406 * k) 406 (fun i => wI (wI (wI J 0 16 k 1) 0 0 6 0) 1 0 0 0 1 2 (0 + i))) 1 9 k 1) 1 0 1 0 1 o i = I 1 o i := fun o i z1 z2 z3 => by
        rw [wI_eq, if_neg (fun z => by omega), wI_eq, if_neg (fun z => by omega), flo_eq, if_neg (fun z => by omega), wI_eq, if_neg (fun z => by omega), wI_eq, if_neg (fun z => by omega), wI_eq, if_neg (fun z => by omega), f1]
      have gF : ∀ b o i, ¬ (b = k + 12 ∧ o = 1 ∧ i = 5) → ¬ (b = 1 ∧ o = 8 ∧ i = k) → wF (wF F (k + 12) 1 5 (F 2 1 5)) 1 8 k (wF F (k + 12) 1 5 (F 2 1 5) 1 0 4) b o i = F b o i := fun b o i z1 z2 => by
        rw [wF_eq, if_neg z2, wF_eq, if_neg z1]
      refine ⟨CR_congr i1 ?_ ?_ (fun o i hc => ?_) (fun i hi => ?_), Hist_congr (F := F) (I := I) ⟨n, q, h1, h2, h3, h4, h5, h6⟩ ⟨?_, ?_, ?_, fun j hj => ⟨?_, ?_, fun o i hc => ?_⟩, fun i hi => ⟨?_, ?_⟩, fun i hi => ?_⟩, fun j hj => ?_, ?_, fun i hi => ?_⟩
      · rw [gF _ _ _ (by omega) (by omega)]
      · rw [gF _ _ _ (by omega) (by omega)]
      · rw [g0 _ _ _ (by omega) (by omega) (by omega), e2 _ _ _ (by omega)]
      · rw [g1 _ _ (by omega) (by omega) (by omega)]
      · rw [g1 _ _ (by omega) (by omega) (by omega)]
      · rw [g0 _ _ _ (by omega) (by omega) (by omega), e2 _ _ _ (by omega)]
      · rw [g0 _ _ _ (by omega) (by omega) (by omega), e2 _ _ _ (by omega)]
      · rw [g0 _ _ _ (by omega) (by omega) (by omega), e2 _ _ _ (by omega)]
      · rw [gF _ _ _ (by omega) (by omega)]
      · rw [g0 _ _ _ (by omega) (by omega) (by omega), e2 _ _ _ (by omega)]
      · rw [g1 _ _ (by omega) (by omega) (by omega)]
      · rw [gF _ _ _ (by omega) (by omega)]
      · rw [g1 _ _ (by omega) (by omega) (by omega)]
      · by_cases ej : j = k
        · subst ej
          refine Or.inr ⟨?_, ?_, CR_congr i1 ?_ ?_ (fun o i hc => ?_) (fun i hi => ?_)⟩
          · rw [wI_eq, if_neg (fun z => by omega), wI_eq, if_neg (fun z => by omega), flo_eq, if_neg (fun z => by omega), wI_eq, if_neg (fun z => by omega), wI_eq, if_neg (fun z => by omega), wI_s]
          · rw [wI_eq, if_neg (fun z => by omega), wI_s]
          · rw [wF_eq, if_neg (fun z => by omega), wF_eq, if_pos ⟨by omega, rfl, rfl⟩]
          · rw [wF_eq, if_pos ⟨rfl, rfl, rfl⟩, wF_eq, if_neg (fun z => by omega)]
          · rw [g0 _ _ _ (by omega) (by omega) (by omega), Nat.add_comm, e3 o i hc]
          · rw [wI_eq, if_neg (fun z => by omega), wI_eq, if_neg (fun z => by omega), flo_eq, if_pos ⟨rfl, rfl, by omega, by omega⟩, wI_eq, if_neg (fun z => by omega), wI_eq, if_neg (fun z => by omega), wI_eq, if_neg (fun z => by omega), f1, show 0 + (406 * j + i - 406 * j) = i by omega]
        · have hz := i3 j hj
          have y1 : ∀ i, i < 406 → wI (wI (flo (wI (wI (wI J 0 16 k 1) 0 0 6 0) 1 0 0 0) 1 6 (406 * k) 406 (fun i => wI (wI (wI J 0 16 k 1) 0 0 6 0) 1 0 0 0 1 2 (0 + i))) 1 9 k 1) 1 0 1 0 1 6 (406 * j + i) = I 1 6 (406 * j + i) := fun i hi => g1 _ _ (by omega) (by omega) (by omega)
          rw [g0 _ _ _ (by omega) (by omega) (by omega), e2 _ _ _ (by omega), g1 9 j (by omega) (by omega) (by omega), gF _ _ _ (by omega) (by omega), gF 1 8 j (by omega) (by omega)]
          rcases hz with z | ⟨z1, z2, z3⟩
          · exact Or.inl z
          · refine Or.inr ⟨z1, z2, CR_congr z3 rfl rfl (fun o i hc => ?_) (fun i hi => y1 i hi)⟩
            rw [g0 _ _ _ (by omega) (by omega) (by omega), e2 _ _ _ (by omega)]
      · rw [wI_s, wI_eq, if_neg (fun z => by omega), wI_eq, if_neg (fun z => by omega), flo_eq, if_neg (fun z => by omega), wI_eq, if_neg (fun z => by omega), wI_s]
      · rw [g0 _ _ _ (by omega) (by omega) (by omega), e2 _ _ _ (by omega), g1 _ _ (by omega) (by omega) (by omega), i5 i hi]
  · refine rf_of (x := -1) (y := -1) (j := 0) hI (by omega) ?_ ?_
    · rw [s141]; unfold b141
      rw [m174, bI_v, ite_bzif, if_neg hx, r169_1, bI_v]
    · rw [s192]; unfold b192
      dsimp only
      rw [m184 (h := 1) (n := 2) _ _ (by decide), bI_v, ite_bzif, if_neg hx, r186_1, bI_v]
theorem st142 : StpI InvC 142 193 1 := by
  intro as I F hl hI
  obtain ⟨x, rfl⟩ := len1 hl
  simp only [List.map_cons, List.map_nil]
  have hI' := hI
  obtain ⟨i1, ⟨n, q, h1, h2, h3, h4, h5, h6⟩, i3, i4, i5⟩ := hI'
  by_cases hx : inb x 2
  · obtain ⟨k, hk, hk2, rfl, ek⟩ := inb_get hx
    have h16 : ∀ v, I 0 16 k = v → I 0 16 (nI k).toNatClampNeg = v := fun v e => by rw [ek, e]
    rcases i3 k hk with ⟨z1, z2⟩ | ⟨z1, z2, z3⟩
    · refine rf_of (x := -4) (y := -4) (j := 3) hI (by omega) ?_ ?_
      · rw [s142]; unfold b142
        rw [m174, bI_v, ite_bzif, if_pos hx, if_pos hx, if_pos (h16 _ z1), r169_4, bI_v]
      · rw [s193]; unfold b193
        dsimp only
        rw [m184 (h := 1) (n := 2) _ _ (by decide), bI_v, ite_bzif, if_pos hx, if_pos hx, if_pos (show wI (rC I (-4) 3) 1 0 0 0 1 9 (nI k).toNatClampNeg = 0 by rw [ek, wI_eq, if_neg (fun z => by omega), rC_1, z2]), r186_4, bI_v]
    · obtain ⟨J, e1, e2, e3⟩ := m31 (N := zN) (d := 5) (I := I) (F := F) hk
      have f1 : ∀ o i, J 1 o i = I 1 o i := fun o i => e2 1 o i (by omega)
      have p2 : I (12 + k) 1 3 = I 1 6 (406 * k + 9) := by
        obtain ⟨nl, nc, nk, nx, np, na, ns, hR⟩ := z3
        exact hR.2.1.2.1
      have n1 : ¬ ((1 : Int32) = 0) := by decide
      refine ⟨I (12 + k) 1 3, wI (wI J 0 12 3 0) 0 0 6 0, wF F 2 1 5 (F (k + 12) 1 5), wI (wI (flo (wI (wI (wI J 0 12 3 0) 0 0 6 0) 1 0 0 0) 1 2 0 406 (fun i => wI (wI (wI J 0 12 3 0) 0 0 6 0) 1 0 0 0 1 6 (406 * k + i))) 1 0 8 0) 1 0 1 0, wF (wF F 2 1 5 (F (k + 12) 1 5)) 1 0 4 (wF F 2 1 5 (F (k + 12) 1 5) 1 8 k), ?_, ?_, ?_⟩
      · rw [s142]; unfold b142
        rw [m174, bI_v, ite_bzif, if_pos hx, if_pos hx, if_neg (fun z => n1 (by rw [h16 _ z1] at z; exact z)), e1, bV_v, m168, bI_v, wI_eq, if_neg (fun z => by omega), e3 1 3 (cp1 (by omega)), Nat.add_comm]
      · rw [s193]; unfold b193
        dsimp only
        rw [m184 (h := 1) (n := 2) _ _ (by decide), bI_v, ite_bzif, if_pos hx, if_pos hx, if_neg (fun z => n1 (by rw [ek, wI_eq, if_neg (fun z => by omega), wI_eq, if_neg (fun z => by omega), wI_eq, if_neg (fun z => by omega), f1, z2] at z; exact z)), L406, nI_mul, m189d (by decide) hk, bV_v, if_pos hx, m185, bI_v, ek]
        rw [wI_eq, if_neg (fun z => by omega), flo_eq, if_pos ⟨rfl, rfl, by omega, by omega⟩, wI_eq, if_neg (fun z => by omega), wI_eq, if_neg (fun z => by omega), wI_eq, if_neg (fun z => by omega), f1, p2]
      · have g0 : ∀ b o i, b ≠ 1 → ¬ (b = 0 ∧ o = 0 ∧ i = 6) → ¬ (b = 0 ∧ o = 12 ∧ i = 3) → wI (wI (flo (wI (wI (wI J 0 12 3 0) 0 0 6 0) 1 0 0 0) 1 2 0 406 (fun i => wI (wI (wI J 0 12 3 0) 0 0 6 0) 1 0 0 0 1 6 (406 * k + i))) 1 0 8 0) 1 0 1 0 b o i = J b o i := fun b o i z1 z2 z3 => by
          rw [wI_eq, if_neg (fun z => by omega), wI_eq, if_neg (fun z => by omega), flo_eq, if_neg (fun z => by omega), wI_eq, if_neg (fun z => by omega), wI_eq, if_neg (fun z => by omega), wI_eq, if_neg (fun z => by omega)]
        have g1 : ∀ o i, o ≠ 0 → o ≠ 2 → wI (wI (flo (wI (wI (wI J 0 12 3 0) 0 0 6 0) 1 0 0 0) 1 2 0 406 (fun i => wI (wI (wI J 0 12 3 0) 0 0 6 0) 1 0 0 0 1 6 (406 * k + i))) 1 0 8 0) 1 0 1 0 1 o i = I 1 o i := fun o i z1 z2 => by
          rw [wI_eq, if_neg (fun z => by omega), wI_eq, if_neg (fun z => by omega), flo_eq, if_neg (fun z => by omega), wI_eq, if_neg (fun z => by omega), wI_eq, if_neg (fun z => by omega), wI_eq, if_neg (fun z => by omega), f1]
        have gF : ∀ b o i, ¬ (b = 2 ∧ o = 1 ∧ i = 5) → ¬ (b = 1 ∧ o = 0 ∧ i = 4) → wF (wF F 2 1 5 (F (k + 12) 1 5)) 1 0 4 (wF F 2 1 5 (F (k + 12) 1 5) 1 8 k) b o i = F b o i := fun b o i z1 z2 => by
          rw [wF_eq, if_neg z2, wF_eq, if_neg z1]
        refine ⟨CR_congr z3 ?_ ?_ (fun o i hc => ?_) (fun i hi => ?_), ⟨0, q, by omega, h2, ?_, ?_, ?_, fun i hi => by omega⟩, Img_congr i3 ⟨fun j hj => ⟨?_, ?_, ?_, ?_, fun o i hc => ?_⟩, fun i hi => ?_⟩, ?_, fun i hi => ?_⟩
        · rw [wF_eq, if_neg (fun z => by omega), wF_eq, if_pos ⟨rfl, rfl, rfl⟩, Nat.add_comm]
        · rw [wF_eq, if_pos ⟨rfl, rfl, rfl⟩, wF_eq, if_neg (fun z => by omega)]
        · rw [g0 _ _ _ (by omega) (by omega) (by omega), e3 o i hc, Nat.add_comm]
        · rw [wI_eq, if_neg (fun z => by omega), wI_eq, if_neg (fun z => by omega), flo_eq, if_pos ⟨rfl, rfl, by omega, by omega⟩, wI_eq, if_neg (fun z => by omega), wI_eq, if_neg (fun z => by omega), wI_eq, if_neg (fun z => by omega), f1, Nat.sub_zero]
        · rw [wI_eq, if_neg (fun z => by omega), wI_s]
          rfl
        · rw [wI_eq, if_neg (fun z => by omega), wI_eq, if_neg (fun z => by omega), flo_eq, if_neg (fun z => by omega), wI_eq, if_neg (fun z => by omega), wI_eq, if_neg (fun z => by omega), wI_s]
          rfl
        · rw [g0 _ _ _ (by omega) (by omega) (by omega), e2 _ _ _ (by omega), h5]
        · rw [g0 _ _ _ (by omega) (by omega) (by omega), e2 _ _ _ (by omega)]
        · rw [g1 _ _ (by omega) (by omega)]
        · rw [gF _ _ _ (by omega) (by omega)]
        · rw [gF _ _ _ (by omega) (by omega)]
        · rw [g0 _ _ _ (by omega) (by omega) (by omega), e2 _ _ _ (by omega)]
        · rw [g1 _ _ (by omega) (by omega)]
        · rw [wI_s, wI_eq, if_neg (fun z => by omega), wI_eq, if_neg (fun z => by omega), flo_eq, if_neg (fun z => by omega), wI_eq, if_neg (fun z => by omega), wI_s]
        · rw [g0 _ _ _ (by omega) (by omega) (by omega), e2 _ _ _ (by omega), g1 _ _ (by omega) (by omega), i5 i hi]
  · refine rf_of (x := -1) (y := -1) (j := 0) hI (by omega) ?_ ?_
    · rw [s142]; unfold b142
      rw [m174, bI_v, ite_bzif, if_neg hx, r169_1, bI_v]
    · rw [s193]; unfold b193
      dsimp only
      rw [m184 (h := 1) (n := 2) _ _ (by decide), bI_v, ite_bzif, if_neg hx, r186_1, bI_v]
