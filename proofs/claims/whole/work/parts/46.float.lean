/-! STRAINS: what a float that is at most 4 becomes -/
theorem ld_1 {A : Nat} (hA : A ≠ 0) : FP.Core.leading A 1 = (A.log2 : Int) := by
  unfold FP.Core.leading
  have h1 : Nat.log2 1 = 0 := by decide
  have h2 := Nat.log2_self_le hA
  rw [h1]
  have e1 : ((A.log2 : Int) - (0 : Nat)).toNat = A.log2 := by omega
  have e2 : (-((A.log2 : Int) - (0 : Nat))).toNat = 0 := by omega
  simp only [e1, e2]
  rw [if_pos (by omega)]
  omega
theorem nr_le {A B M : Nat} (hB : 0 < B) (h : A ≤ M * B) : FP.Core.nearest A B ≤ M := by
  by_cases heq : A = M * B
  · subst heq
    unfold FP.Core.nearest
    rw [Nat.mul_mod_left, Nat.mul_div_cancel _ hB, if_pos (by omega)]
    exact Nat.le_refl _
  · have h3 : A / B < M := (Nat.div_lt_iff_lt_mul hB).mpr (by omega)
    unfold FP.Core.nearest
    split
    · omega
    · split <;> omega
theorem fmt_c : FP.Core.b32.qmin = -149 ∧ FP.Core.b32.qmax = 104 ∧ FP.Core.b32.tails = 8388608 ∧ FP.Core.b32.exps = 256 ∧ FP.Core.b32.p = 24 := by decide
theorem enc_fin {c : Nat} {q : Int} (hc : c < 16777216) (hq : -149 ≤ q) (hu : q ≤ -22 ∨ (q = -21 ∧ c ≤ 8388608)) : FP.Core.encode FP.Core.b32 (.fin false c q) ≤ 1082130432 := by
  obtain ⟨f1, f2, f3, f4, f5⟩ := fmt_c
  unfold FP.Core.encode FP.Core.assemble
  rw [f1, f3, f4]
  dsimp only
  by_cases h : c < 8388608
  · rw [if_pos h]
    simp only [Bool.toNat_false]
    omega
  · rw [if_neg h]
    simp only [Bool.toNat_false]
    have e : (q - -149).toNat ≤ 128 := by omega
    rcases hu with hu | ⟨hu, hc2⟩
    · have e : (q - -149).toNat ≤ 127 := by omega
      generalize (q - -149).toNat = w at e
      omega
    · have e : (q - -149).toNat = 128 := by omega
      rw [e]
      omega
theorem pow_le_c {m n : Nat} (h : m ≤ n) : 2 ^ m ≤ 2 ^ n := Nat.pow_le_pow_right (by omega) h
/-- a number that is at most 4, rounded -/
theorem rnd_le {A n : Nat} (hA : A ≤ 2 ^ n) : FP.Core.encode FP.Core.b32 (FP.Core.roundRatio FP.Core.b32 false A 1 (2 - (n : Int))) ≤ 1082130432 := by
  obtain ⟨f1, f2, f3, f4, f5⟩ := fmt_c
  unfold FP.Core.roundRatio
  by_cases h0 : A = 0
  · rw [if_pos h0, f1]
    exact enc_fin (by omega) (by omega) (Or.inl (by omega))
  rw [if_neg h0]
  have l1 := Nat.log2_self_le h0
  have l2 : A < 2 ^ (A.log2 + 1) := Nat.lt_log2_self
  have hL : A.log2 ≤ n := by
    have h3 : 2 ^ A.log2 ≤ 2 ^ n := Nat.le_trans l1 hA
    exact (Nat.pow_le_pow_iff_right (by omega)).mp h3
  have hq : FP.Core.quantum FP.Core.b32 A 1 (2 - (n : Int)) = max (-149) ((A.log2 : Int) + (2 - (n : Int)) - 23) := by
    unfold FP.Core.quantum
    rw [ld_1 h0, f1, f5]
    rfl
  unfold FP.Core.roundAt FP.Core.settle FP.Core.bound
  rw [hq, f2, f3, f5]
  generalize hqq : max (-149) ((A.log2 : Int) + (2 - (n : Int)) - 23) = q
  have q1 : -149 ≤ q := by omega
  have q2 : (A.log2 : Int) + (2 - (n : Int)) - 23 ≤ q := by omega
  have q3 : q ≤ -21 := by omega
  have hden : 0 < FP.Core.unitsDen 1 (2 - (n : Int)) q := Nat.mul_pos (by omega) (Nat.two_pow_pos _)
  have hc : FP.Core.nearest (FP.Core.unitsNum A (2 - (n : Int)) q) (FP.Core.unitsDen 1 (2 - (n : Int)) q) ≤ 2 ^ 24 := by
    refine nr_le hden ?_
    unfold FP.Core.unitsNum FP.Core.unitsDen
    rw [Nat.one_mul]
    have h1 : A * 2 ^ (2 - (n : Int) - q).toNat ≤ 2 ^ (A.log2 + 1) * 2 ^ (2 - (n : Int) - q).toNat := Nat.mul_le_mul_right _ (Nat.le_of_lt l2)
    refine Nat.le_trans h1 ?_
    rw [← Nat.pow_add, ← Nat.pow_add]
    exact pow_le_c (by omega)
  by_cases hn : A.log2 = n
  · -- it is 4 itself
    have hAe : A = 2 ^ n := by rw [hn] at l1; omega
    have hq21 : q = -21 := by omega
    have hc2 : FP.Core.nearest (FP.Core.unitsNum A (2 - (n : Int)) q) (FP.Core.unitsDen 1 (2 - (n : Int)) q) ≤ 8388608 := by
      refine nr_le hden ?_
      unfold FP.Core.unitsNum FP.Core.unitsDen
      rw [Nat.one_mul, hAe, hq21, show 8388608 = 2 ^ 23 by decide, ← Nat.pow_add, ← Nat.pow_add]
      exact pow_le_c (by omega)
    generalize FP.Core.nearest (FP.Core.unitsNum A (2 - (n : Int)) q) (FP.Core.unitsDen 1 (2 - (n : Int)) q) = c at hc2
    rw [if_pos (by omega), if_pos (by omega)]
    exact enc_fin (by omega) (by omega) (Or.inr ⟨hq21, hc2⟩)
  · have q4 : q ≤ -22 := by omega
    generalize FP.Core.nearest (FP.Core.unitsNum A (2 - (n : Int)) q) (FP.Core.unitsDen 1 (2 - (n : Int)) q) = c at hc
    by_cases h24 : c < 2 ^ 24
    · rw [if_pos h24, if_pos (by omega)]
      exact enc_fin (by omega) q1 (Or.inl q4)
    · rw [if_neg h24, if_pos (by omega)]
      exact enc_fin (by omega) (by omega) (by omega)
/-- what a strain stands for -/
theorem dec_ok {f : UInt32} (h : fok f) : ∃ c n : Nat, FP.Core.decode FP.Core.b32 f.toNat = .fin false c (2 - (n : Int)) ∧ c ≤ 2 ^ n ∧ n ≤ 151 := by
  obtain ⟨f1, f2, f3, f4, f5⟩ := fmt_c
  have hn : f.toNat ≤ 1082130432 := by
    have := UInt32.le_iff_toNat_le.mp h
    simpa using this
  unfold FP.Core.decode FP.Core.fieldE FP.Core.fieldT FP.Core.fieldS
  rw [f1, f3, f4]
  generalize f.toNat = m at hn
  have hE : m / 8388608 % 256 = m / 8388608 := by omega
  have hS : (m / 8388608 / 256 % 2 == 1) = false := by
    have : m / 8388608 / 256 % 2 = 0 := by omega
    rw [this]; rfl
  rw [hE, hS, if_neg (by omega)]
  by_cases h0 : m / 8388608 = 0
  · rw [if_pos h0]
    refine ⟨m % 8388608, 151, rfl, ?_, by omega⟩
    have : (2 : Nat) ^ 23 ≤ 2 ^ 151 := pow_le_c (by omega)
    have e : (2 : Nat) ^ 23 = 8388608 := by decide
    omega
  · rw [if_neg h0]
    refine ⟨8388608 + m % 8388608, 152 - m / 8388608, ?_, ?_, by omega⟩
    · congr 1
      omega
    · by_cases h1 : m / 8388608 = 129
      · rw [h1]
        have : m % 8388608 = 0 := by omega
        rw [this]
        decide
      · have : (2 : Nat) ^ 24 ≤ 2 ^ (152 - m / 8388608) := pow_le_c (by omega)
        have e : (2 : Nat) ^ 24 = 16777216 := by decide
        omega
theorem u32_le {x : Nat} (h : x ≤ 1082130432) : fok (UInt32.ofNat x) ∧ (UInt32.ofNat x) &&& 0x7fffffff ≤ 0x7f800000 := by
  have e : (UInt32.ofNat x).toNat = x := UInt32.toNat_ofNat_of_lt' (by show x < 4294967296; omega)
  refine ⟨?_, ?_⟩
  · show UInt32.ofNat x ≤ 1082130432
    rw [UInt32.le_iff_toNat_le, e]
    exact h
  · rw [UInt32.le_iff_toNat_le, UInt32.toNat_and, e]
    have : x &&& (0x7fffffff : UInt32).toNat ≤ x := Nat.and_le_left
    have e2 : (0x7f800000 : UInt32).toNat = 2139095040 := by decide
    omega
theorem fok_mul {f : UInt32} (h : fok f) : fok (FP.fmul f 1061158912) ∧ (FP.fmul f 1061158912) &&& 0x7fffffff ≤ 0x7f800000 := by
  obtain ⟨c, n, e, hc, hn⟩ := dec_ok h
  refine u32_le ?_
  show FP.Core.mul FP.Core.b32 f.toNat (1061158912 : UInt32).toNat ≤ 1082130432
  unfold FP.Core.mul
  have e2 : FP.Core.decode FP.Core.b32 (1061158912 : UInt32).toNat = .fin false 12582912 (-24) := by decide
  rw [e, e2]
  show FP.Core.encode FP.Core.b32 (FP.Core.roundRatio FP.Core.b32 false (c * 12582912) 1 (2 - (n : Int) + -24)) ≤ 1082130432
  rw [show 2 - (n : Int) + -24 = 2 - ((n + 24 : Nat) : Int) by omega]
  refine rnd_le ?_
  rw [Nat.pow_add]
  exact Nat.mul_le_mul hc (by decide)
