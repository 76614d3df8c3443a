/-! FRESH, LOCKED: the calls -/
def fsm (x : Int32) (A : Nat → Nat) : Nat → UInt32
  | 0 => FP.fconst0
  | r + 1 => if x &&& sh1 r = 0 then fsm x A r else FP.fadd (fsm x A r) (FP.fdiv FP.fconst1 (FP.i2f (nI (A r + 1))))
def fcn (x : Int32) : Nat → Nat
  | 0 => 0
  | r + 1 => if x &&& sh1 r = 0 then fcn x r else fcn x r + 1
theorem fcn_le (x : Int32) : ∀ r, fcn x r ≤ r := by
  intro r
  induction r with
  | zero => exact Nat.le_refl _
  | succ r ih =>
    show (if x &&& sh1 r = 0 then fcn x r else fcn x r + 1) ≤ r + 1
    split <;> omega
theorem fr1_b : ∀ k, k < 41 → (FP.fdiv FP.fconst1 (FP.i2f (nI (k + 1)))).toNat ≤ 1065353216 := by decide +kernel
theorem nn32' {y : UInt32} (h : y.toNat ≤ 2139095040) : y &&& 0x7fffffff ≤ 0x7f800000 := by
  have := nn32 h
  rw [UInt32.ofNat_toNat] at this
  exact this
theorem fsm_b {x : Int32} {A : Nat → Nat} (hA : ∀ r, A r ≤ 40) : ∀ r, r ≤ 8 → (fsm x A r).toNat < (2 * r + 1 + 127) * 8388608 := by
  intro r
  induction r with
  | zero =>
    intro _
    show (0 : UInt32).toNat < _
    rw [show (0 : UInt32).toNat = 0 by decide]
    omega
  | succ r ih =>
    intro hr
    have ih := ih (by omega)
    have e0 : fsm x A (r + 1) = if x &&& sh1 r = 0 then fsm x A r else FP.fadd (fsm x A r) (FP.fdiv FP.fconst1 (FP.i2f (nI (A r + 1)))) := rfl
    rw [e0]
    split
    · exact Nat.lt_of_lt_of_le ih (Nat.mul_le_mul_right _ (by omega))
    · have h1 := fr1_b (A r) (by have := hA r; omega)
      generalize FP.fdiv FP.fconst1 (FP.i2f (nI (A r + 1))) = y at h1
      generalize fsm x A r = w at ih
      have h2 := add_b (j := 2 * r + 1) (n := w.toNat) (m := y.toNat) (by omega) ih (by omega)
      have e : FP.fadd w y = UInt32.ofNat (FP.Core.add FP.Core.b32 w.toNat y.toNat) := rfl
      rw [e, u32_t (by omega)]
      omega
theorem i2f_b {c : Nat} (h1 : 1 ≤ c) (h2 : c ≤ 8) : ∃ d r, FP.Core.decode FP.Core.b32 (FP.i2f (nI c)).toNat = .fin false d r ∧ 8388608 ≤ d ∧ -23 ≤ r := by
  have h : c = 1 ∨ c = 2 ∨ c = 3 ∨ c = 4 ∨ c = 5 ∨ c = 6 ∨ c = 7 ∨ c = 8 := by omega
  rcases h with rfl | rfl | rfl | rfl | rfl | rfl | rfl | rfl
  · exact ⟨8388608, -23, by decide +kernel, by decide, by decide⟩
  · exact ⟨8388608, -22, by decide +kernel, by decide, by decide⟩
  · exact ⟨12582912, -22, by decide +kernel, by decide, by decide⟩
  · exact ⟨8388608, -21, by decide +kernel, by decide, by decide⟩
  · exact ⟨10485760, -21, by decide +kernel, by decide, by decide⟩
  · exact ⟨12582912, -21, by decide +kernel, by decide, by decide⟩
  · exact ⟨14680064, -21, by decide +kernel, by decide, by decide⟩
  · exact ⟨8388608, -20, by decide +kernel, by decide, by decide⟩
theorem fdv_b {x : Int32} {A : Nat → Nat} (hA : ∀ r, A r ≤ 40) (hc : ¬ fcn x 8 = 0) : (FP.fdiv (fsm x A 8) (FP.i2f (nI (fcn x 8)))).toNat < 2139095040 := by
  have h1 := fsm_b (x := x) hA 8 (by omega)
  have h2 := fcn_le x 8
  obtain ⟨d, r, e, hd, hr⟩ := i2f_b (c := fcn x 8) (by omega) h2
  have h3 := div_b (j := 17) (by omega) (by omega) e hd hr (n := (fsm x A 8).toNat)
  show (UInt32.ofNat (FP.Core.div FP.Core.b32 (fsm x A 8).toNat (FP.i2f (nI (fcn x 8))).toNat)).toNat < _
  rw [u32_t (by omega)]
  omega
section FR
variable {N d n : Nat} {I : IM} {F : FM}
theorem nIz {c : Nat} (h : c < 2 ^ 31) : (nI c = 0) = (c = 0) := propext (nI_z h)
theorem m25 (hN : 50 ≤ N) (x : Int32) (hs : I 2 4 2 = nI n) (hn : n ≤ 40) : sem N (d + 3) 25 [vR (some (2, 4)), vI x] I F = some (vF (if fcn x 8 = 0 then FP.fconst0 else FP.fdiv (fsm x (fun r => ag (I 2 5) (nI r) n) 8) (FP.i2f (nI (fcn x 8)))), I, F) := by
  have hA : ∀ r, (fun r => ag (I 2 5) (nI r) n) r ≤ 40 := fun r => Nat.le_trans (ag_le _ _ _) hn
  have h25 := s25v0 N (d + 2) 0 x I F
  rw [h25]; unfold b25
  refine lp (S := fun m c => sg (sem N (d + 2)) 3 zc25 m 7 [vR (some (0 + 2, 4)), vI x, vF (fsm x (fun r => ag (I 2 5) (nI r) n) c), vI (nI (fcn x c)), vI (nI c)] I F) (m := 8) ?_ ?_ 8 0 N rfl (by omega)
  · intro m c hc
    try dsimp only
    rw [u25v0_7]; unfold b25_7
    rw [if_neg (show ¬ (8 : Int32) ≤ nI c from nI_ge hc (by decide))]
    have hb := fsm_b (x := x) hA (c + 1) (by omega)
    have hb0 := fr1_b (ag (I 2 5) (nI c) n) (by have := hA c; dsimp only at this; omega)
    by_cases h : x &&& sh1 c = 0
    · rw [if_pos h, nI_1, show fsm x (fun r => ag (I 2 5) (nI r) n) (c + 1) = fsm x (fun r => ag (I 2 5) (nI r) n) c from if_pos h, show fcn x (c + 1) = fcn x c from if_pos h]
    · have e1 : fsm x (fun r => ag (I 2 5) (nI r) n) (c + 1) = FP.fadd (fsm x (fun r => ag (I 2 5) (nI r) n) c) (FP.fdiv FP.fconst1 (FP.i2f (nI (ag (I 2 5) (nI c) n + 1)))) := if_neg h
      rw [if_neg h, m24 (by omega) (by omega) (nI c) hs hn, bI_v, nI_1, if_pos (nn32' (by omega)), ← e1, if_pos (nn32' (by omega)), nI_1, nI_1, show fcn x (c + 1) = fcn x c + 1 from if_neg h]
  · intro m
    try dsimp only
    rw [u25v0_7]; unfold b25_7
    rw [if_pos (show (8 : Int32) ≤ nI 8 from nI_le (Nat.le_refl _) (by decide))]
    simp only [nIz (Nat.lt_of_le_of_lt (fcn_le x 8) (by decide))]
    by_cases h0 : fcn x 8 = 0
    · rw [if_pos h0, if_pos h0]
    · have hd := fdv_b hA h0
      rw [if_neg h0, if_neg h0, if_pos (nn32' (by omega))]
theorem l296 (hN : 50 ≤ N) (x : Int32) (hs : I 1 2 11 = nI n) (hn : n ≤ 40) : sg (sem N (d + 2)) 1 zc296 N 39 [vR (some (1, 0)), vI x, vF FP.fconst0, vI 0, vI 0] I F = some (vI (nI (if fcn x 8 = 0 then 0 else (FP.fdiv (fsm x (fun r => ag (fun i => I 1 2 (20 + 2 * i)) (nI r) n) 8) (FP.i2f (nI (fcn x 8)))).toNat)), I, F) := by
  have hA : ∀ r, (fun r => ag (fun i => I 1 2 (20 + 2 * i)) (nI r) n) r ≤ 40 := fun r => Nat.le_trans (ag_le _ _ _) hn
  refine lp (S := fun m c => sg (sem N (d + 2)) 1 zc296 m 39 [vR (some (1, 0)), vI x, vF (fsm x (fun r => ag (fun i => I 1 2 (20 + 2 * i)) (nI r) n) c), vI (nI (fcn x c)), vI (nI c)] I F) (m := 8) ?_ ?_ 8 0 N rfl (by omega)
  · intro m c hc
    try dsimp only
    rw [u296_39]; unfold b296_39
    rw [if_neg (show ¬ (8 : Int32) ≤ nI c from nI_ge hc (by decide))]
    have hb := fsm_b (x := x) hA (c + 1) (by omega)
    have hb0 := fr1_b (ag (fun i => I 1 2 (20 + 2 * i)) (nI c) n) (by have := hA c; dsimp only at this; omega)
    by_cases h : x &&& sh1 c = 0
    · rw [if_neg ((bit_c (by omega) x).mp h), nI_1, show fsm x (fun r => ag (fun i => I 1 2 (20 + 2 * i)) (nI r) n) (c + 1) = fsm x (fun r => ag (fun i => I 1 2 (20 + 2 * i)) (nI r) n) c from if_pos h, show fcn x (c + 1) = fcn x c from if_pos h]
    · have e1 : fsm x (fun r => ag (fun i => I 1 2 (20 + 2 * i)) (nI r) n) (c + 1) = FP.fadd (fsm x (fun r => ag (fun i => I 1 2 (20 + 2 * i)) (nI r) n) c) (FP.fdiv FP.fconst1 (FP.i2f (nI (ag (fun i => I 1 2 (20 + 2 * i)) (nI c) n + 1)))) := if_neg h
      rw [if_pos (Decidable.not_not.mp (fun z => h ((bit_c (by omega) x).mpr z))), m294 (by omega) (nI c) hs hn, bI_v, nI_1, if_pos (nn32' (by omega)), ← e1, if_pos (nn32' (by omega)), nI_1, nI_1, show fcn x (c + 1) = fcn x c + 1 from if_neg h]
  · intro m
    try dsimp only
    rw [u296_39]; unfold b296_39
    rw [if_pos (show (8 : Int32) ≤ nI 8 from nI_le (Nat.le_refl _) (by decide))]
    simp only [nIz (Nat.lt_of_le_of_lt (fcn_le x 8) (by decide))]
    by_cases h0 : fcn x 8 = 0
    · rw [if_pos h0, if_pos h0, show FP.fconst0 = UInt32.ofNat 0 from rfl, m306 (by omega), bI_v]
    · have hd := fdv_b hA h0
      have em := m306 (N := N) (d := d) (I := I) (F := F) hd
      rw [UInt32.ofNat_toNat] at em
      rw [if_neg h0, if_neg h0, if_pos (nn32' (by omega)), em, bI_v]
end FR
theorem fsm_c {x : Int32} {A A' : Nat → Nat} : ∀ {m : Nat}, (∀ r, r < m → A r = A' r) → fsm x A m = fsm x A' m := by
  intro m
  induction m with
  | zero => intro _; rfl
  | succ m ih =>
    intro h
    show (if x &&& sh1 m = 0 then fsm x A m else FP.fadd (fsm x A m) (FP.fdiv FP.fconst1 (FP.i2f (nI (A m + 1))))) = (if x &&& sh1 m = 0 then fsm x A' m else FP.fadd (fsm x A' m) (FP.fdiv FP.fconst1 (FP.i2f (nI (A' m + 1)))))
    rw [ih (fun r hr => h r (by omega)), h m (by omega)]
theorem st150 : StpI InvC 150 296 2 := by
  intro as I F hl hI
  obtain ⟨x, y, rfl⟩ := len2 hl
  simp only [List.map_cons, List.map_nil]
  obtain ⟨nl, nc, nk, nx, np, na, ns, hR⟩ := hI.1
  obtain ⟨ff, hfo⟩ := hR.1
  obtain ⟨g1, g2, g3, g4⟩ := hR.2.2.1
  by_cases h1 : y = 1
  · have hn : (F 2 1 5).toNat ≤ 1082130432 := by
      have := UInt32.le_iff_toNat_le.mp hfo
      simpa using this
    have e7 := m77 (N := zN) (d := 7) (I := I) (F := F) (by decide) (n := (F 2 1 5).toNat) (by omega)
    have e6 := m306 (N := zN) (d := 6) (I := wI I 1 0 0 0) (F := F) (n := (F 2 1 5).toNat) (by omega)
    rw [UInt32.ofNat_toNat] at e7 e6
    refine qs_0 (x := nI (F 2 1 5).toNat) hI ?_ ?_
    · rw [s150]; unfold b150
      rw [if_pos h1, e7, bI_v]
    · rw [s296]; unfold b296
      dsimp only
      rw [if_pos h1, ← ff, e6, bI_v]
  · by_cases h0 : y = 0
    · by_cases hx : inb x 256
      · have hA : ∀ r, (fun r => ag (I 2 5) (nI r) nl) r ≤ 40 := fun r => Nat.le_trans (ag_le _ _ _) g3
        have eA : fsm x (fun r => ag (fun i => wI I 1 0 0 0 1 2 (20 + 2 * i)) (nI r) nl) 8 = fsm x (fun r => ag (I 2 5) (nI r) nl) 8 := fsm_c (fun r _ => by
          refine ag_c (fun i hi => ?_)
          rw [w0_12]
          exact (g4 i hi).1.symm)
        refine qs_0 (x := nI (if fcn x 8 = 0 then 0 else (FP.fdiv (fsm x (fun r => ag (I 2 5) (nI r) nl) 8) (FP.i2f (nI (fcn x 8)))).toNat)) hI ?_ ?_
        · rw [s150]; unfold b150
          rw [if_neg h1, if_pos h0, m172, bI_v, ite_bzif, if_pos hx, m25 (by decide) x g1 g3, bF_v]
          by_cases hc : fcn x 8 = 0
          · rw [if_pos hc, if_pos hc, show FP.fconst0 = UInt32.ofNat 0 from rfl, m77 (by decide) (by omega), bI_v]
          · have e7 := m77 (N := zN) (d := 7) (I := I) (F := F) (by decide) (fdv_b (x := x) hA hc)
            rw [UInt32.ofNat_toNat] at e7
            rw [if_neg hc, if_neg hc, e7, bI_v]
        · rw [s296]; unfold b296
          dsimp only
          rw [if_neg h1, if_pos h0, m204, bI_v, ite_bzif, if_pos hx, l296 (d := 6) (n := nl) (by decide) x (by rw [w0_12, g2]) g3, eA]
      · refine qs_0 (x := -1) hI ?_ ?_
        · rw [s150]; unfold b150
          rw [if_neg h1, if_pos h0, m172, bI_v, ite_bzif, if_neg hx]
        · rw [s296]; unfold b296
          dsimp only
          rw [if_neg h1, if_pos h0, m204, bI_v, ite_bzif, if_neg hx]
    · refine qs_0 (x := -1) hI ?_ ?_
      · rw [s150]; unfold b150
        rw [if_neg h1, if_neg h0]
      · rw [s296]; unfold b296
        dsimp only
        rw [if_neg h1, if_neg h0]
/-! in how many ticks it is free -/
theorem lck1 {n : Nat} (h : n ≤ 1082130432) (h3 : fV 1077936128 ≤ fV n) : FP.Core.mul FP.Core.b32 n 1061158912 ≤ 1077936128 := by
  have hE : 128 ≤ n / 8388608 := Nat.le_of_not_lt (fun z => by
    have h1 := fV_lt (n := n) (E := 128) (by omega) z
    have h2 := fV_ge (n := 1077936128) (E := 128) (by omega) (by decide)
    omega)
  by_cases e4 : n = 1082130432
  · subst e4
    decide +kernel
  obtain ⟨f1, f2, f3, f4, f5⟩ := fmt_c
  obtain ⟨c, q, e1, v1, hc, hcase⟩ := dec32 (n := n) (by omega)
  obtain ⟨hE', hq, hcc⟩ := hcase.resolve_left (fun z => by omega)
  have hq2 : q = 127 := by omega
  subst hq2
  have hc3 : 12582912 ≤ c := by
    have e3 : fV 1077936128 = 12582912 * 2 ^ 127 := by decide +kernel
    rw [e3, v1] at h3
    exact Nat.le_of_mul_le_mul_right h3 (Nat.two_pow_pos _)
  have e2 : FP.Core.decode FP.Core.b32 1061158912 = .fin false 12582912 (-24) := by decide
  unfold FP.Core.mul
  rw [e1, e2]
  show FP.Core.encode FP.Core.b32 (FP.Core.roundRatio FP.Core.b32 false (c * 12582912) 1 (((127 : Nat) : Int) - 149 + -24)) ≤ 1077936128
  unfold FP.Core.roundRatio
  rw [if_neg (by omega)]
  have hl : Nat.log2 (c * 12582912) = 47 := by
    rw [Nat.log2_eq_iff (by omega)]
    omega
  have hqq : FP.Core.quantum FP.Core.b32 (c * 12582912) 1 (((127 : Nat) : Int) - 149 + -24) = -22 := by
    unfold FP.Core.quantum
    rw [ld_1 (by omega), hl, f1, f5]
    decide
  unfold FP.Core.roundAt FP.Core.settle FP.Core.bound FP.Core.unitsNum FP.Core.unitsDen
  rw [hqq, f2, f3, f5, show ((((127 : Nat) : Int) - 149 + -24) - -22).toNat = 0 by decide, show (-22 - (((127 : Nat) : Int) - 149 + -24)).toNat = 24 by decide, Nat.pow_zero, Nat.mul_one, Nat.one_mul]
  have hn : FP.Core.nearest (c * 12582912) (2 ^ 24) ≤ 12582912 := nr_le (by decide) (by omega)
  generalize FP.Core.nearest (c * 12582912) (2 ^ 24) = w at hn
  rw [if_pos (by omega), if_pos (by decide), enc_x]
  split
  · omega
  · rw [show ((-22 : Int) + 149).toNat = 127 by decide]
    omega
theorem lck2 {n : Nat} (h : n ≤ 1077936128) (h3 : fV 1077936128 ≤ fV n) : n = 1077936128 := by
  have hE : 128 ≤ n / 8388608 := Nat.le_of_not_lt (fun z => by
    have h1 := fV_lt (n := n) (E := 128) (by omega) z
    have h2 := fV_ge (n := 1077936128) (E := 128) (by omega) (by decide)
    omega)
  have e3 : fV 1077936128 = 12582912 * 2 ^ 127 := by decide +kernel
  have e4 : fV n = (8388608 + n % 8388608) * 2 ^ 127 := by
    unfold fV
    rw [if_neg (by omega), show n / 8388608 - 1 = 127 by omega]
  rw [e3, e4] at h3
  have := Nat.le_of_mul_le_mul_right h3 (Nat.two_pow_pos 127)
  omega
theorem c3 {n : Nat} (h : n < 2139095040) : (Op.cmpValue (FP.fcmp (UInt32.ofNat n) (1077936128 : UInt32)) CmpOp.l < 0) ↔ fV n < fV 1077936128 := by
  rw [fc_n (m := 1077936128) _ (by decide) h (by omega), cv_lt]
theorem st157 : StpI InvC 157 298 0 := by
  intro as I F hl hI
  obtain rfl := len0 hl
  simp only [List.map_nil]
  obtain ⟨nl, nc, nk, nx, np, na, ns, hR⟩ := hI.1
  obtain ⟨ff, hfo⟩ := hR.1
  obtain ⟨n, hn⟩ : ∃ n, (F 2 1 5).toNat = n := ⟨_, rfl⟩
  have hn4 : n ≤ 1082130432 := by
    have := UInt32.le_iff_toNat_le.mp hfo
    rw [← hn]
    simpa using this
  have ef : F 2 1 5 = UInt32.ofNat n := by rw [← hn, UInt32.ofNat_toNat]
  have ef1 : F 1 0 4 = UInt32.ofNat n := by rw [← ff, ef]
  have n3 : ∀ k, k < 3 → ¬ (1000 : Int32) ≤ nI k := fun k hk => nI_ge (show k < 1000 by omega) (by decide)
  have hz : zN = 19997 + 1 + 1 + 1 := rfl
  have cls : sem zN 9 157 [vR (some (0, 0))] I F = bI (sg (sem zN 7) 1 zc9 (19997 + 1 + 1 + 1) 7 [vF (UInt32.ofNat n), vI (nI 0)] I F) (fun r1 I1 F1 => some (vI r1, I1, F1)) := by
    rw [s157]; unfold b157
    have h9 := s9 zN 7 0 I F
    rw [h9]; unfold b9
    rw [show F (0 + 2) 1 5 = UInt32.ofNat n from ef]
    rfl
  have mdl : sem zN 9 298 [vR (some (1, 0))] I F = sg (sem zN 8) 1 zc298 (19997 + 1 + 1 + 1) 12 [vI (nI 0), vF (UInt32.ofNat n)] (wI I 1 0 0 0) F := by
    rw [s298]; unfold b298
    dsimp only
    rw [ef1]
    rfl
  by_cases h3 : fV n < fV 1077936128
  · refine qs_0 (x := nI 0) hI ?_ ?_
    · rw [cls, u9_7 (jb := 0)]; unfold b9_7
      rw [if_pos ((c3 (by omega)).mpr h3), bI_v]
    · rw [mdl, u298_12]; unfold b298_12
      rw [if_pos ((c3 (by omega)).mpr h3)]
  · have g1 := lck1 hn4 (by omega)
    obtain ⟨m, hm⟩ : ∃ m, FP.Core.mul FP.Core.b32 n 1061158912 = m := ⟨_, rfl⟩
    have em : FP.fmul (UInt32.ofNat n) (1061158912 : UInt32) = UInt32.ofNat m := by
      show UInt32.ofNat (FP.Core.mul FP.Core.b32 (UInt32.ofNat n).toNat (1061158912 : UInt32).toNat) = _
      rw [u32_t (by omega), show (1061158912 : UInt32).toNat = 1061158912 by decide, hm]
    rw [hm] at g1
    have nl3 : ¬ (Op.cmpValue (FP.fcmp (UInt32.ofNat n) (1077936128 : UInt32)) CmpOp.l < 0) := fun z => h3 ((c3 (by omega)).mp z)
    by_cases h4 : fV m < fV 1077936128
    · refine qs_0 (x := nI 1) hI ?_ ?_
      · rw [cls, u9_7 (jb := 0)]; unfold b9_7
        rw [if_neg nl3, if_neg (n3 0 (by omega)), em, if_pos (nn32 (by omega)), nI_1, u9_7 (jb := 0)]; unfold b9_7
        rw [if_pos ((c3 (by omega)).mpr h4), bI_v]
      · rw [mdl, u298_12]; unfold b298_12
        rw [if_neg nl3, em, if_pos (nn32 (by omega)), nI_1, u298_12]; unfold b298_12
        rw [if_pos ((c3 (by omega)).mpr h4)]
    · have nl4 : ¬ (Op.cmpValue (FP.fcmp (UInt32.ofNat m) (1077936128 : UInt32)) CmpOp.l < 0) := fun z => h4 ((c3 (by omega)).mp z)
      have e5 := lck2 g1 (by omega)
      subst e5
      have em2 : FP.fmul (UInt32.ofNat 1077936128) (1061158912 : UInt32) = UInt32.ofNat 1074790400 := by decide +kernel
      have h6 : fV 1074790400 < fV 1077936128 := by decide +kernel
      refine qs_0 (x := nI 2) hI ?_ ?_
      · rw [cls, u9_7 (jb := 0)]; unfold b9_7
        rw [if_neg nl3, if_neg (n3 0 (by omega)), em, if_pos (nn32 (by omega)), nI_1, u9_7 (jb := 0)]; unfold b9_7
        rw [if_neg nl4, if_neg (n3 1 (by omega)), em2, if_pos (nn32 (by omega)), nI_1, u9_7 (jb := 0)]; unfold b9_7
        rw [if_pos ((c3 (by omega)).mpr h6), bI_v]
      · rw [mdl, u298_12]; unfold b298_12
        rw [if_neg nl3, em, if_pos (nn32 (by omega)), nI_1, u298_12]; unfold b298_12
        rw [if_neg nl4, em2, if_pos (nn32 (by omega)), nI_1, u298_12]; unfold b298_12
        rw [if_pos ((c3 (by omega)).mpr h6)]
