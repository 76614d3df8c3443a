/-! A STRAIN MORE; TICK -/
theorem fok_add {f : UInt32} (h : fok f) (hs : (Op.cmpValue (FP.fcmp f (1077936128 : UInt32)) CmpOp.l) < 0) : fok (FP.fadd f FP.fconst1) ∧ (FP.fadd f FP.fconst1) &&& 0x7fffffff ≤ 0x7f800000 := by
  obtain ⟨c, n, e, hc, hn⟩ := dec_ok h
  have e3 : FP.Core.decode FP.Core.b32 (1077936128 : UInt32).toNat = .fin false 12582912 (-22) := by decide
  have e1 : FP.Core.decode FP.Core.b32 FP.fconst1.toNat = .fin false 8388608 (-23) := by decide
  -- below 3
  have hlt : c * 2 ^ (151 - n) < 3 * 2 ^ 149 := by
    have hcmp : FP.fcmp f (1077936128 : UInt32) = FP.Core.order (.fin false c (2 - (n : Int))) (.fin false 12582912 (-22)) := by
      show FP.Core.order (FP.Core.decode FP.Core.b32 f.toNat) (FP.Core.decode FP.Core.b32 (1077936128 : UInt32).toNat) = _
      rw [e, e3]
    rw [hcmp] at hs
    have ho : FP.Core.order (.fin false c (2 - (n : Int))) (.fin false 12582912 (-22)) = some (compare ((FP.Core.inUnits c (2 - (n : Int)) (min (2 - (n : Int)) (-22)) : Nat) : Int) ((FP.Core.inUnits 12582912 (-22) (min (2 - (n : Int)) (-22)) : Nat) : Int)) := rfl
    rw [ho] at hs
    have hl : ((FP.Core.inUnits c (2 - (n : Int)) (min (2 - (n : Int)) (-22)) : Nat) : Int) < ((FP.Core.inUnits 12582912 (-22) (min (2 - (n : Int)) (-22)) : Nat) : Int) := by
      generalize ((FP.Core.inUnits c (2 - (n : Int)) (min (2 - (n : Int)) (-22)) : Nat) : Int) = u at hs ⊢
      generalize ((FP.Core.inUnits 12582912 (-22) (min (2 - (n : Int)) (-22)) : Nat) : Int) = v at hs ⊢
      by_cases hu : u < v
      · exact hu
      · exfalso
        have hne : compare u v ≠ .lt := fun z => hu (Int.compare_eq_lt.mp z)
        revert hs
        generalize compare u v = r at hne
        cases r
        · exact absurd rfl hne
        · decide
        · decide
    have hl2 : FP.Core.inUnits c (2 - (n : Int)) (min (2 - (n : Int)) (-22)) < FP.Core.inUnits 12582912 (-22) (min (2 - (n : Int)) (-22)) := by omega
    unfold FP.Core.inUnits at hl2
    by_cases hm : n ≤ 24
    · rw [show min (2 - (n : Int)) (-22) = -22 by omega, show (2 - (n : Int) - -22).toNat = 24 - n by omega, show ((-22 : Int) - -22).toNat = 0 by omega] at hl2
      have h3 : c * 2 ^ (24 - n) * 2 ^ 127 < 12582912 * 2 ^ 0 * 2 ^ 127 := (Nat.mul_lt_mul_right (Nat.two_pow_pos 127)).mpr hl2
      rw [Nat.mul_assoc, ← Nat.pow_add, show 24 - n + 127 = 151 - n by omega] at h3
      exact Nat.lt_of_lt_of_le h3 (by decide)
    · rw [show min (2 - (n : Int)) (-22) = 2 - (n : Int) by omega, show (2 - (n : Int) - (2 - (n : Int))).toNat = 0 by omega, show ((-22 : Int) - (2 - (n : Int))).toNat = n - 24 by omega] at hl2
      have h3 : c * 2 ^ 0 * 2 ^ (151 - n) < 12582912 * 2 ^ (n - 24) * 2 ^ (151 - n) := (Nat.mul_lt_mul_right (Nat.two_pow_pos _)).mpr hl2
      rw [Nat.pow_zero, Nat.mul_one, Nat.mul_assoc, ← Nat.pow_add, show n - 24 + (151 - n) = 127 by omega] at h3
      exact Nat.lt_of_lt_of_le h3 (by decide)
  refine u32_le ?_
  show FP.Core.add FP.Core.b32 f.toNat FP.fconst1.toNat ≤ 1082130432
  unfold FP.Core.add
  rw [e, e1]
  -- the sum in units of 2^m
  have hS : FP.Core.sumUnits false c (2 - (n : Int)) false 8388608 (-23) (min (2 - (n : Int)) (-23)) = ((FP.Core.inUnits c (2 - (n : Int)) (min (2 - (n : Int)) (-23)) + FP.Core.inUnits 8388608 (-23) (min (2 - (n : Int)) (-23)) : Nat) : Int) := rfl
  have hX : FP.Core.exactSum (.fin false c (2 - (n : Int))) (.fin false 8388608 (-23)) = .fin (FP.Core.sumSign false false (FP.Core.sumUnits false c (2 - (n : Int)) false 8388608 (-23) (min (2 - (n : Int)) (-23)))) (FP.Core.sumUnits false c (2 - (n : Int)) false 8388608 (-23) (min (2 - (n : Int)) (-23))).natAbs (min (2 - (n : Int)) (-23)) := rfl
  rw [hX, hS]
  generalize hT : FP.Core.inUnits c (2 - (n : Int)) (min (2 - (n : Int)) (-23)) + FP.Core.inUnits 8388608 (-23) (min (2 - (n : Int)) (-23)) = T
  have hsg : FP.Core.sumSign false false (T : Int) = false := by
    unfold FP.Core.sumSign
    by_cases hz : (T : Int) = 0
    · rw [if_pos hz]; rfl
    · rw [if_neg hz]
      exact decide_eq_false (by omega)
  rw [hsg, Int.natAbs_natCast]
  show FP.Core.encode FP.Core.b32 (FP.Core.roundRatio FP.Core.b32 false T 1 (min (2 - (n : Int)) (-23))) ≤ 1082130432
  unfold FP.Core.inUnits at hT
  by_cases hm : n ≤ 25
  · rw [show min (2 - (n : Int)) (-23) = -23 by omega] at hT ⊢
    rw [show (2 - (n : Int) - -23).toNat = 25 - n by omega, show ((-23 : Int) - -23).toNat = 0 by omega, Nat.pow_zero, Nat.mul_one] at hT
    rw [show (-23 : Int) = 2 - ((25 : Nat) : Int) by omega]
    refine rnd_le ?_
    have h3 : c * 2 ^ (25 - n) * 2 ^ 126 < 3 * 2 ^ 23 * 2 ^ 126 := by
      rw [Nat.mul_assoc, ← Nat.pow_add, show 25 - n + 126 = 151 - n by omega]
      exact Nat.lt_of_lt_of_le hlt (by decide)
    have h4 : c * 2 ^ (25 - n) < 3 * 2 ^ 23 := Nat.lt_of_mul_lt_mul_right h3
    have e23 : (2 : Nat) ^ 23 = 8388608 := by decide
    have e25 : (2 : Nat) ^ 25 = 33554432 := by decide
    rw [e23] at h4
    rw [e25]
    omega
  · rw [show min (2 - (n : Int)) (-23) = 2 - (n : Int) by omega] at hT ⊢
    rw [show (2 - (n : Int) - (2 - (n : Int))).toNat = 0 by omega, show ((-23 : Int) - (2 - (n : Int))).toNat = n - 25 by omega, Nat.pow_zero, Nat.mul_one] at hT
    refine rnd_le ?_
    have h3 : T * 2 ^ (151 - n) ≤ 2 ^ n * 2 ^ (151 - n) := by
      rw [← hT, Nat.add_mul, Nat.mul_assoc, ← Nat.pow_add, ← Nat.pow_add, show n - 25 + (151 - n) = 126 by omega, show n + (151 - n) = 151 by omega]
      have e4 : 3 * 2 ^ 149 + 8388608 * 2 ^ 126 ≤ 2 ^ 151 := by decide
      omega
    exact Nat.le_of_mul_le_mul_right h3 (Nat.two_pow_pos _)
/-- a strain that fades, c ticks long -/
noncomputable def fde (f : UInt32) : Nat → UInt32
  | 0 => f
  | c + 1 => FP.fmul (fde f c) 1061158912
theorem fde_ok {f : UInt32} (h : fok f) : ∀ c, fok (fde f c) := by
  intro c
  induction c with
  | zero => exact h
  | succ c ih => exact (fok_mul ih).1
theorem wF_wF (F : FM) (b o k : Nat) (x y : UInt32) : wF (wF F b o k x) b o k y = wF F b o k y := by
  funext b' o' k'
  rw [wF_eq, wF_eq, wF_eq]
  by_cases h : b' = b ∧ o' = o ∧ k' = k
  · rw [if_pos h, if_pos h]
  · rw [if_neg h, if_neg h, if_neg h]
theorem wI_wI (I : IM) (b o k : Nat) (x y : Int32) : wI (wI I b o k x) b o k y = wI I b o k y := by
  funext b' o' k'
  rw [wI_eq, wI_eq, wI_eq]
  by_cases h : b' = b ∧ o' = o ∧ k' = k
  · rw [if_pos h, if_pos h]
  · rw [if_neg h, if_neg h, if_neg h]
theorem wI_id (I : IM) (b o k : Nat) : wI I b o k (I b o k) = I := by
  funext b' o' k'
  rw [wI_eq]
  by_cases h : b' = b ∧ o' = o ∧ k' = k
  · obtain ⟨rfl, rfl, rfl⟩ := h
    rw [if_pos ⟨rfl, rfl, rfl⟩]
  · rw [if_neg h]
theorem wF_s (F : FM) (b o k : Nat) (x : UInt32) : wF F b o k x b o k = x := by rw [wF_eq, if_pos ⟨rfl, rfl, rfl⟩]
theorem l118 {N d m : Nat} {I : IM} {F : FM} (hN : 200 ≤ N) (hm : m ≤ 100) (hf : fok (F 2 1 5)) : sg (sem N (d + 1)) 1 zc118 N 55 [vR (some (0, 0)), vI (nI m), vI 0] I F = some (vI (I 2 1 3 + nI m), wI (wI I 2 1 3 (I 2 1 3 + nI m)) 0 0 6 0, wF F 2 1 5 (fde (F 2 1 5) m)) := by
  have h := lp (S := fun n c => sg (sem N (d + 1)) 1 zc118 n 55 [vR (some (0, 0)), vI (nI m), vI (nI c)] (wI I 2 1 3 (I 2 1 3 + nI c)) (wF F 2 1 5 (fde (F 2 1 5) c))) (T := some (vI (I 2 1 3 + nI m), wI (wI I 2 1 3 (I 2 1 3 + nI m)) 0 0 6 0, wF F 2 1 5 (fde (F 2 1 5) m))) (m := m) ?_ ?_ m 0 N (by omega) (by omega)
  · try dsimp only at h
    rw [show I 2 1 3 + nI 0 = I 2 1 3 from rz0 _, wI_id, show fde (F 2 1 5) 0 = F 2 1 5 from rfl, wF_id] at h
    exact h
  · intro n c hc
    try dsimp only
    rw [u118_55]; unfold b118_55
    have hs := s7 N d 0 (wI I 2 1 3 (I 2 1 3 + nI c)) (wF F 2 1 5 (fde (F 2 1 5) c))
    simp only [Nat.zero_add] at hs
    rw [if_neg (nI_ge hc (by omega)), hs]
    unfold b7
    dsimp only
    rw [wI_s, wF_s, if_pos (fok_mul (fde_ok hf c)).2, bV_v, wI_wI, wF_wF, nI_1, show I 2 1 3 + nI c + 1 = I 2 1 3 + nI (c + 1) by rw [← nI_1, Int32.add_assoc]]
    rfl
  · intro n
    try dsimp only
    rw [u118_55]; unfold b118_55
    rw [if_pos (nI_le (Nat.le_refl _) (by omega)), m168, bI_v, wI_s]
theorem l211 {N d m : Nat} {I : IM} {F : FM} (hN : 200 ≤ N) (hm : m ≤ 100) (hf : fok (F 1 0 4)) : sg (sem N (d + 1)) 1 zc211 N 51 [vR (some (1, 0)), vI (nI m), vI 0] I F = some (vI (I 1 2 9 + nI m), wI (wI I 1 2 9 (I 1 2 9 + nI m)) 1 0 1 0, wF F 1 0 4 (fde (F 1 0 4) m)) := by
  have h := lp (S := fun n c => sg (sem N (d + 1)) 1 zc211 n 51 [vR (some (1, 0)), vI (nI m), vI (nI c)] I (wF F 1 0 4 (fde (F 1 0 4) c))) (T := some (vI (I 1 2 9 + nI m), wI (wI I 1 2 9 (I 1 2 9 + nI m)) 1 0 1 0, wF F 1 0 4 (fde (F 1 0 4) m))) (m := m) ?_ ?_ m 0 N (by omega) (by omega)
  · try dsimp only at h
    rw [show fde (F 1 0 4) 0 = F 1 0 4 from rfl, wF_id] at h
    exact h
  · intro n c hc
    try dsimp only
    rw [u211_51]; unfold b211_51
    dsimp only
    rw [if_neg (nI_ge hc (by omega)), wF_s, if_pos (fok_mul (fde_ok hf c)).2, wF_wF, nI_1]
    rfl
  · intro n
    try dsimp only
    rw [u211_51]; unfold b211_51
    dsimp only
    rw [if_pos (nI_le (Nat.le_refl _) (by omega)), m185, bI_v, wI_s]
theorem st118 : StpI InvC 118 211 1 := by
  intro as I F hl hI
  obtain ⟨x, rfl⟩ := len1 hl
  simp only [List.map_cons, List.map_nil]
  obtain ⟨nl, nc, nk, nx, np, na, ns, hR⟩ := hI.1
  have p2 := hR.2.1.2.1
  obtain ⟨ff, hfo⟩ := hR.1
  have d184 := fun (J : IM) (G : FM) => m184g zN 7 (x := x) (l := 1) (h := 100) 1 100 (by decide) (by decide) J G
  have e1 : (x < 1) ↔ x.toInt < 1 := by rw [i_lt, show (1 : Int32).toInt = 1 by decide]
  have e100 : (x ≤ 100) ↔ x.toInt ≤ 100 := by rw [i_le, show (100 : Int32).toInt = 100 by decide]
  have d9 := fun (J : IM) (hJ : ∀ o k, J 1 o k = I 1 o k) => show wI J 1 0 0 0 1 2 9 = I 2 1 3 by rw [w0_12, hJ, p2]
  by_cases hx : 1 ≤ x.toInt ∧ x.toInt ≤ 100
  · by_cases ht : I 2 1 3 + x ≤ 99999
    · obtain ⟨m, hm, hm2, rfl, -⟩ : ∃ m, m < 101 ∧ m < 2 ^ 31 ∧ x = nI m ∧ x.toNatClampNeg = m := inb_get (by rw [inb_iff]; omega)
      apply act_of (x := I 2 1 3 + nI m) 2 (fun J => wI (wI J 2 1 3 (J 2 1 3 + nI m)) 0 0 6 0) (fun R => wI (wI R 1 2 9 (R 1 2 9 + nI m)) 1 0 1 0) (fun J => wI J 1 0 0 0) (fun G => wF G 2 1 5 (fde (G 2 1 5) m)) (fun H => wF H 1 0 4 (fde (H 1 0 4) m)) hI
      · rw [s118]; unfold b118
        rw [if_neg (fun z => by have := e1.mp z; omega), if_pos (e100.mpr hx.2), if_pos ht]
        try rfl
      · intro J G hJ hG
        rw [s211]; unfold b211
        dsimp only
        rw [d184, bI_v, ite_bzif, if_pos hx, d9 J hJ, if_pos ht]
        try rfl
      · exact ex0
      · intro J G aC
        refine ⟨?_, okC_of (pC_wF (pC_w pC_rfl))⟩
        try dsimp only
        rw [l118 (d := 7) (by decide) (by omega) (by rw [aC.2.2.1]; exact hfo), aC.1]
      · intro R H aM
        refine ⟨?_, okM_of (pM_wF (pM_w pM_rfl))⟩
        try dsimp only
        rw [l211 (d := 7) (by decide) (by omega) (by rw [aM.2, ← ff]; exact hfo), aM.1, p2]
      · intro J R G H aC aM
        try dsimp only
        rw [wF_s, wF_s, aC.2.2.1, aM.2]
        exact ⟨_, _, _, _, _, _, _, op_time hR (x := I 2 1 3 + nI m) (by rw [ff]) (fde_ok hfo m) (by rw [wI_eq, if_neg (fun z => by omega), wI_s, aC.1]) (by rw [wI_eq, if_neg (fun z => by omega), wI_s, aM.1, p2]) (fun o k z1 z2 => by rw [wI_eq, if_neg (fun z => by omega), wI_eq, if_neg (fun z => by omega), aC.1]) (fun k z1 z2 => by rw [wI_eq, if_neg (fun z => by omega), wI_eq, if_neg (fun z => by omega), aM.1])⟩
    · refine rf_of (x := -4) (y := -4) (j := 3) hI (by omega) ?_ ?_
      · rw [s118]; unfold b118
        rw [if_neg (fun z => by have := e1.mp z; omega), if_pos (e100.mpr hx.2), if_neg ht, r169_4, bI_v]
      · rw [s211]; unfold b211
        dsimp only
        rw [d184, bI_v, ite_bzif, if_pos hx, d9 _ rC_1, if_neg ht, r186_4, bI_v]
  · refine rf_of (x := -1) (y := -1) (j := 0) hI (by omega) ?_ ?_
    · rw [s118]; unfold b118
      by_cases h1 : x < 1
      · rw [if_pos h1, r169_1, bI_v]
      · rw [if_neg h1, if_neg (fun z => hx ⟨Int.not_lt.mp (fun w => h1 (e1.mpr w)), e100.mp z⟩), r169_1, bI_v]
    · rw [s211]; unfold b211
      dsimp only
      rw [d184, bI_v, ite_bzif, if_neg hx, r186_1, bI_v]
