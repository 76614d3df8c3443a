/-! FLOATS AND DOUBLES: exact halves and doubles, sums that are not too much -/
/-! what a float stands for, in units of its least -/
def fV (n : Nat) : Nat := if n / 8388608 = 0 then n else (8388608 + n % 8388608) * 2 ^ (n / 8388608 - 1)
theorem nr_x {M B : Nat} (hB : 0 < B) : FP.Core.nearest (M * B) B = M := by
  unfold FP.Core.nearest
  rw [Nat.mul_mod_left, Nat.mul_div_cancel _ hB, if_pos (by omega)]
theorem dec32 {n : Nat} (h : n < 2139095040) : ∃ c q, FP.Core.decode FP.Core.b32 n = .fin false c ((q : Nat) - 149 : Int) ∧ fV n = c * 2 ^ q ∧ c < 16777216 ∧ ((n / 8388608 = 0 ∧ q = 0 ∧ c = n ∧ c < 8388608) ∨ (0 < n / 8388608 ∧ q = n / 8388608 - 1 ∧ c = 8388608 + n % 8388608)) := by
  obtain ⟨f1, f2, f3, f4, f5⟩ := fmt_c
  unfold FP.Core.decode FP.Core.fieldE FP.Core.fieldT FP.Core.fieldS fV
  rw [f1, f3, f4]
  have hE : n / 8388608 % 256 = n / 8388608 := by omega
  have hS : (n / 8388608 / 256 % 2 == 1) = false := by
    have : n / 8388608 / 256 % 2 = 0 := by omega
    rw [this]; rfl
  rw [hE, hS, if_neg (by omega)]
  by_cases h0 : n / 8388608 = 0
  · rw [if_pos h0, if_pos h0]
    have hm : n % 8388608 = n := by omega
    exact ⟨n, 0, by rw [hm]; rfl, by rw [Nat.pow_zero, Nat.mul_one], by omega, Or.inl ⟨h0, rfl, rfl, by omega⟩⟩
  · rw [if_neg h0, if_neg h0]
    refine ⟨8388608 + n % 8388608, n / 8388608 - 1, ?_, rfl, by omega, Or.inr ⟨by omega, rfl, rfl⟩⟩
    congr 1
    omega
theorem cmp_k {a b k : Nat} (hk : 0 < k) : compare (((a * k : Nat)) : Int) ((b * k : Nat) : Int) = compare (a : Int) (b : Int) := by
  show (if ((a * k : Nat) : Int) < ((b * k : Nat) : Int) then Ordering.lt else if ((a * k : Nat) : Int) = ((b * k : Nat) : Int) then Ordering.eq else Ordering.gt) = (if (a : Int) < (b : Int) then Ordering.lt else if (a : Int) = (b : Int) then Ordering.eq else Ordering.gt)
  have h1 : (((a * k : Nat) : Int) < ((b * k : Nat) : Int)) ↔ ((a : Int) < (b : Int)) := by
    rw [Int.ofNat_lt, Int.ofNat_lt]
    exact Nat.mul_lt_mul_right hk
  have h2 : (((a * k : Nat) : Int) = ((b * k : Nat) : Int)) ↔ ((a : Int) = (b : Int)) := by
    rw [Int.ofNat_inj, Int.ofNat_inj]
    exact Nat.mul_left_inj (by omega)
  simp only [h1, h2]
/-- two floats that are not below 0 -/
theorem cmp32 {n m : Nat} (hn : n < 2139095040) (hm : m < 2139095040) : FP.Core.cmp FP.Core.b32 n m = some (compare ((fV n : Nat) : Int) ((fV m : Nat) : Int)) := by
  obtain ⟨c, q, e1, v1, -, -⟩ := dec32 hn
  obtain ⟨d, r, e2, v2, -, -⟩ := dec32 hm
  unfold FP.Core.cmp
  rw [e1, e2, v1, v2]
  show some (compare (FP.Core.signed false (FP.Core.inUnits c ((q : Nat) - 149 : Int) (min ((q : Nat) - 149 : Int) ((r : Nat) - 149 : Int)))) (FP.Core.signed false (FP.Core.inUnits d ((r : Nat) - 149 : Int) (min ((q : Nat) - 149 : Int) ((r : Nat) - 149 : Int))))) = _
  unfold FP.Core.signed FP.Core.inUnits
  rw [if_neg (by decide), if_neg (by decide)]
  congr 1
  by_cases hqr : q ≤ r
  · have z1 : (((q : Nat) - 149 : Int) - min ((q : Nat) - 149 : Int) ((r : Nat) - 149 : Int)).toNat = 0 := by omega
    have z2 : (((r : Nat) - 149 : Int) - min ((q : Nat) - 149 : Int) ((r : Nat) - 149 : Int)).toNat = r - q := by omega
    rw [z1, z2]
    have hp : d * 2 ^ r = d * 2 ^ (r - q) * 2 ^ q := by rw [Nat.mul_assoc, ← Nat.pow_add]; congr 2; omega
    rw [hp, Nat.pow_zero, Nat.mul_one, cmp_k (Nat.two_pow_pos q)]
  · have z1 : (((q : Nat) - 149 : Int) - min ((q : Nat) - 149 : Int) ((r : Nat) - 149 : Int)).toNat = q - r := by omega
    have z2 : (((r : Nat) - 149 : Int) - min ((q : Nat) - 149 : Int) ((r : Nat) - 149 : Int)).toNat = 0 := by omega
    rw [z1, z2]
    have hp : c * 2 ^ q = c * 2 ^ (q - r) * 2 ^ r := by rw [Nat.mul_assoc, ← Nat.pow_add]; congr 2; omega
    rw [hp, Nat.pow_zero, Nat.mul_one, cmp_k (Nat.two_pow_pos r)]
/-- twice as much -/
def dbl (n : Nat) : Nat := if n / 8388608 = 0 then 2 * n else n + 8388608
theorem log_c {c : Nat} (h1 : 8388608 ≤ c) (h2 : c < 16777216) (j : Nat) : Nat.log2 (c * 2 ^ j) = 23 + j := by
  have hp : 0 < 2 ^ j := Nat.two_pow_pos j
  have h0 : c * 2 ^ j ≠ 0 := by
    have := Nat.mul_pos (show 0 < c by omega) hp
    omega
  rw [Nat.log2_eq_iff h0]
  constructor
  · rw [Nat.pow_add]
    exact Nat.mul_le_mul_right _ h1
  · rw [show 23 + j + 1 = 24 + j by omega, Nat.pow_add]
    exact (Nat.mul_lt_mul_right hp).mpr h2
/-- exact -/
theorem rr_x {c j : Nat} {e : Int} (h1 : 8388608 ≤ c) (h2 : c < 16777216) (hq : -149 ≤ e + j) (hq2 : e + j ≤ 104) : FP.Core.roundRatio FP.Core.b32 false (c * 2 ^ j) 1 e = .fin false c (e + j) := by
  obtain ⟨f1, f2, f3, f4, f5⟩ := fmt_c
  have hp : 0 < 2 ^ j := Nat.two_pow_pos j
  have h0 : c * 2 ^ j ≠ 0 := by
    have := Nat.mul_pos (show 0 < c by omega) hp
    omega
  unfold FP.Core.roundRatio
  rw [if_neg h0]
  have hqq : FP.Core.quantum FP.Core.b32 (c * 2 ^ j) 1 e = e + j := by
    unfold FP.Core.quantum
    rw [ld_1 h0, log_c h1 h2, f1, f5]
    omega
  unfold FP.Core.roundAt FP.Core.settle FP.Core.bound FP.Core.unitsNum FP.Core.unitsDen
  rw [hqq, f2, f3, f5, show (e - (e + j)).toNat = 0 by omega, show (e + j - e).toNat = j by omega, Nat.pow_zero, Nat.mul_one, Nat.one_mul, nr_x hp, if_pos (by omega), if_pos (by omega)]
theorem enc_x {c : Nat} {q : Int} : FP.Core.encode FP.Core.b32 (.fin false c q) = if c < 8388608 then c else ((q + 149).toNat + 1) * 8388608 + (c - 8388608) := by
  obtain ⟨f1, f2, f3, f4, f5⟩ := fmt_c
  unfold FP.Core.encode FP.Core.assemble
  rw [f1, f3, f4]
  by_cases h : c < 8388608
  · rw [if_pos h]
    simp [h]
  · rw [if_neg h]
    simp [h]
theorem mul2 {n : Nat} (h : n < 2130706432) : FP.Core.mul FP.Core.b32 n 1073741824 = dbl n := by
  obtain ⟨f1, f2, f3, f4, f5⟩ := fmt_c
  obtain ⟨c, q, e1, v1, hc, hcase⟩ := dec32 (n := n) (by omega)
  have e2 : FP.Core.decode FP.Core.b32 1073741824 = .fin false 8388608 (-22) := by decide
  unfold FP.Core.mul
  rw [e1, e2]
  show FP.Core.encode FP.Core.b32 (FP.Core.roundRatio FP.Core.b32 false (c * 8388608) 1 ((q : Nat) - 149 + -22)) = dbl n
  unfold dbl
  rcases hcase with ⟨hE, rfl, rfl, hc2⟩ | ⟨hE, hq, hcc⟩
  · rw [if_pos hE]
    by_cases h0 : c = 0
    · subst h0
      decide
    · unfold FP.Core.roundRatio
      rw [if_neg (by omega)]
      have hl : Nat.log2 (c * 8388608) ≤ 45 := by
        have : Nat.log2 (c * 8388608) < 46 := (Nat.log2_lt (by omega)).mpr (by omega)
        omega
      have hqq : FP.Core.quantum FP.Core.b32 (c * 8388608) 1 (((0 : Nat) : Int) - 149 + -22) = -149 := by
        unfold FP.Core.quantum
        rw [ld_1 (by omega), f1, f5]
        omega
      unfold FP.Core.roundAt FP.Core.settle FP.Core.bound FP.Core.unitsNum FP.Core.unitsDen
      rw [hqq, f2, f3, f5, show (((0 : Nat) : Int) - 149 + -22 - -149).toNat = 0 by omega, show (-149 - (((0 : Nat) : Int) - 149 + -22)).toNat = 22 by omega, Nat.pow_zero, Nat.mul_one, Nat.one_mul, show c * 8388608 = (2 * c) * 2 ^ 22 by omega, nr_x (by omega), if_pos (by omega), if_pos (by omega), enc_x]
      split <;> omega
  · rw [if_neg (by omega), show (8388608 : Nat) = 2 ^ 23 by decide, rr_x (by omega) hc (by omega) (by omega), enc_x, if_neg (by omega)]
    omega
theorem div2 {n : Nat} (h : n < 2139095040) (h2 : 1073741824 ≤ n) : FP.Core.div FP.Core.b32 n 1073741824 = n - 8388608 := by
  obtain ⟨f1, f2, f3, f4, f5⟩ := fmt_c
  obtain ⟨c, q, e1, v1, hc, hcase⟩ := dec32 h
  have e2 : FP.Core.decode FP.Core.b32 1073741824 = .fin false 8388608 (-22) := by decide
  obtain ⟨hE, hq, hcc⟩ := hcase.resolve_left (fun z => by omega)
  unfold FP.Core.div FP.Core.quotient
  rw [e1, e2]
  dsimp only
  rw [if_neg (by decide)]
  show FP.Core.encode FP.Core.b32 (FP.Core.roundRatio FP.Core.b32 false c 8388608 ((q : Nat) - 149 - -22)) = n - 8388608
  unfold FP.Core.roundRatio
  rw [if_neg (by omega)]
  have lc : Nat.log2 c = 23 := by
    have := log_c (c := c) (by omega) hc 0
    simpa using this
  have hld : FP.Core.leading c 8388608 = 0 := by
    unfold FP.Core.leading
    rw [lc, show Nat.log2 8388608 = 23 by decide]
    simp
    omega
  have hqq : FP.Core.quantum FP.Core.b32 c 8388608 ((q : Nat) - 149 - -22) = (q : Nat) - 150 := by
    unfold FP.Core.quantum
    rw [hld, f1, f5]
    omega
  unfold FP.Core.roundAt FP.Core.settle FP.Core.bound FP.Core.unitsNum FP.Core.unitsDen
  rw [hqq, f2, f3, f5, show (((q : Nat) : Int) - 149 - -22 - ((q : Nat) - 150)).toNat = 23 by omega, show (((q : Nat) : Int) - 150 - ((q : Nat) - 149 - -22)).toNat = 0 by omega, Nat.pow_zero, Nat.mul_one, show (8388608 : Nat) = 2 ^ 23 by decide, nr_x (by decide), if_pos (by omega), if_pos (by omega), enc_x, if_neg (by omega)]
  omega
theorem fV_dbl {n : Nat} : fV (dbl n) = 2 * fV n := by
  unfold dbl
  by_cases h : n / 8388608 = 0
  · rw [if_pos h]
    unfold fV
    rw [if_pos h]
    by_cases h2 : 2 * n / 8388608 = 0
    · rw [if_pos h2]
    · rw [if_neg h2, show 2 * n / 8388608 = 1 by omega]
      simp
      omega
  · rw [if_neg h]
    unfold fV
    rw [if_neg h, if_neg (by omega), show (n + 8388608) % 8388608 = n % 8388608 by omega, show (n + 8388608) / 8388608 - 1 = (n / 8388608 - 1) + 1 by omega, Nat.pow_succ]
    rw [Nat.mul_comm 2, Nat.mul_assoc]
/-- a whole number of it -/
theorem whl {n : Nat} (h : n < 1073741824) (h2 : 8388608 ≤ n) : FP.Core.toInt (-2 ^ 31) (2 ^ 31 - 1) (FP.Core.decode FP.Core.b32 (FP.Core.mul FP.Core.b32 n 1258291200)) = ((fV n / 2 ^ 126 : Nat) : Int) ∧ FP.Core.mul FP.Core.b32 n 1258291200 < 2139095040 := by
  obtain ⟨f1, f2, f3, f4, f5⟩ := fmt_c
  obtain ⟨c, q, e1, v1, hc, hcase⟩ := dec32 (n := n) (by omega)
  obtain ⟨hE, hq, hcc⟩ := hcase.resolve_left (fun z => by omega)
  have e2 : FP.Core.decode FP.Core.b32 1258291200 = .fin false 8388608 0 := by decide
  have em : FP.Core.mul FP.Core.b32 n 1258291200 = n + 23 * 8388608 := by
    unfold FP.Core.mul
    rw [e1, e2]
    show FP.Core.encode FP.Core.b32 (FP.Core.roundRatio FP.Core.b32 false (c * 8388608) 1 ((q : Nat) - 149 + 0)) = _
    rw [show (8388608 : Nat) = 2 ^ 23 by decide, rr_x (by omega) hc (by omega) (by omega), enc_x, if_neg (by omega)]
    omega
  rw [em]
  refine ⟨?_, by omega⟩
  obtain ⟨c', q', e3, v3, hc', hcase'⟩ := dec32 (n := n + 23 * 8388608) (by omega)
  obtain ⟨hE', hq', hcc'⟩ := hcase'.resolve_left (fun z => by omega)
  have ecc : c' = c := by omega
  have eqq : q' = q + 23 := by omega
  subst ecc
  subst eqq
  rw [e3, v1]
  show max (-2 ^ 31) (min (2 ^ 31 - 1) (FP.Core.truncate false c' (((q + 23 : Nat) : Int) - 149))) = _
  unfold FP.Core.truncate FP.Core.signed
  rw [if_neg (by decide), show (((q + 23 : Nat) : Int) - 149).toNat = 0 by omega, show (-(((q + 23 : Nat) : Int) - 149)).toNat = 126 - q by omega, Nat.pow_zero, Nat.mul_one]
  have hd : c' * 2 ^ q / 2 ^ 126 = c' / 2 ^ (126 - q) := by
    rw [show 126 = (126 - q) + q by omega, Nat.pow_add, Nat.mul_div_mul_right _ _ (Nat.two_pow_pos q)]
    congr 2
    omega
  rw [hd]
  have hle : c' / 2 ^ (126 - q) ≤ c' := Nat.div_le_self _ _
  generalize c' / 2 ^ (126 - q) = w at hle
  omega
/-- not too much -/
theorem rr_b {A B j : Nat} {e : Int} (hB : 0 < B) (hj : j ≤ 100) (h : (Nat.log2 A : Int) - (Nat.log2 B : Int) + e ≤ j) : FP.Core.encode FP.Core.b32 (FP.Core.roundRatio FP.Core.b32 false A B e) < (j + 129) * 8388608 := by
  obtain ⟨f1, f2, f3, f4, f5⟩ := fmt_c
  unfold FP.Core.roundRatio
  by_cases h0 : A = 0
  · rw [if_pos h0, f1, enc_x, if_pos (by omega)]
    omega
  · rw [if_neg h0]
    have hl : FP.Core.leading A B ≤ (Nat.log2 A : Int) - (Nat.log2 B : Int) := by
      unfold FP.Core.leading
      dsimp only
      split
      · exact Int.le_refl _
      · omega
    have hq : FP.Core.quantum FP.Core.b32 A B e ≤ (j : Int) - 23 := by
      unfold FP.Core.quantum
      rw [f1, f5]
      omega
    have hq2 : -149 ≤ FP.Core.quantum FP.Core.b32 A B e := by
      unfold FP.Core.quantum
      rw [f1, f5]
      omega
    unfold FP.Core.roundAt FP.Core.settle FP.Core.bound
    generalize FP.Core.quantum FP.Core.b32 A B e = q at hq hq2
    rw [f2, f3, f5]
    generalize FP.Core.nearest (FP.Core.unitsNum A e q) (FP.Core.unitsDen B e q) = c
    by_cases hc : c < 2 ^ 24
    · rw [if_pos hc, if_pos (by omega), enc_x]
      split
      · omega
      · have : (q + 149).toNat ≤ j + 126 := by omega
        generalize (q + 149).toNat = z at this
        omega
    · rw [if_neg hc, if_pos (by omega), enc_x, if_neg (by omega)]
      have : (q + 1 + 149).toNat ≤ j + 127 := by omega
      generalize (q + 1 + 149).toNat = z at this
      omega
theorem add_b {n m j : Nat} (hj : j ≤ 100) (hn : n < (j + 127) * 8388608) (hm : m < (j + 127) * 8388608) : FP.Core.add FP.Core.b32 n m < (j + 129) * 8388608 := by
  obtain ⟨c, q, e1, v1, hc, hcase⟩ := dec32 (n := n) (by omega)
  obtain ⟨d, r, e2, v2, hd, hcase2⟩ := dec32 (n := m) (by omega)
  have hq : q ≤ j + 125 := by rcases hcase with ⟨_, rfl, _⟩ | ⟨_, rfl, _⟩ <;> omega
  have hr : r ≤ j + 125 := by rcases hcase2 with ⟨_, rfl, _⟩ | ⟨_, rfl, _⟩ <;> omega
  unfold FP.Core.add
  rw [e1, e2]
  have hv : FP.Core.sumUnits false c ((q : Nat) - 149 : Int) false d ((r : Nat) - 149 : Int) (min ((q : Nat) - 149 : Int) ((r : Nat) - 149 : Int)) = ((c * 2 ^ (q - min q r) + d * 2 ^ (r - min q r) : Nat) : Int) := by
    unfold FP.Core.sumUnits FP.Core.signed FP.Core.inUnits
    rw [if_neg (by decide), if_neg (by decide)]
    have z1 : (((q : Nat) - 149 : Int) - min ((q : Nat) - 149 : Int) ((r : Nat) - 149 : Int)).toNat = q - min q r := by omega
    have z2 : (((r : Nat) - 149 : Int) - min ((q : Nat) - 149 : Int) ((r : Nat) - 149 : Int)).toNat = r - min q r := by omega
    rw [z1, z2]
    omega
  show FP.Core.encode FP.Core.b32 (FP.Core.roundRatio FP.Core.b32 (FP.Core.sumSign false false (FP.Core.sumUnits false c ((q : Nat) - 149 : Int) false d ((r : Nat) - 149 : Int) (min ((q : Nat) - 149 : Int) ((r : Nat) - 149 : Int)))) (FP.Core.sumUnits false c ((q : Nat) - 149 : Int) false d ((r : Nat) - 149 : Int) (min ((q : Nat) - 149 : Int) ((r : Nat) - 149 : Int))).natAbs 1 (min ((q : Nat) - 149 : Int) ((r : Nat) - 149 : Int))) < _
  rw [hv]
  have hs : FP.Core.sumSign false false ((c * 2 ^ (q - min q r) + d * 2 ^ (r - min q r) : Nat) : Int) = false := by
    unfold FP.Core.sumSign
    split
    · rfl
    · rw [decide_eq_false_iff_not]
      omega
  rw [hs, Int.natAbs_natCast]
  refine rr_b (by omega) hj ?_
  have hA : c * 2 ^ (q - min q r) + d * 2 ^ (r - min q r) < 2 ^ (25 + (max q r - min q r)) := by
    have b1 : 2 ^ (q - min q r) ≤ 2 ^ (max q r - min q r) := Nat.pow_le_pow_right (by omega) (by omega)
    have b2 : 2 ^ (r - min q r) ≤ 2 ^ (max q r - min q r) := Nat.pow_le_pow_right (by omega) (by omega)
    have b3 : c * 2 ^ (q - min q r) ≤ c * 2 ^ (max q r - min q r) := Nat.mul_le_mul_left _ b1
    have b4 : d * 2 ^ (r - min q r) ≤ d * 2 ^ (max q r - min q r) := Nat.mul_le_mul_left _ b2
    have hp : 0 < 2 ^ (max q r - min q r) := Nat.two_pow_pos _
    rw [Nat.pow_add]
    generalize 2 ^ (max q r - min q r) = W at *
    have b5 : c * W ≤ 16777215 * W := Nat.mul_le_mul_right _ (by omega)
    have b6 : d * W ≤ 16777215 * W := Nat.mul_le_mul_right _ (by omega)
    omega
  have hl : Nat.log2 (c * 2 ^ (q - min q r) + d * 2 ^ (r - min q r)) ≤ 24 + (max q r - min q r) := by
    by_cases h0 : c * 2 ^ (q - min q r) + d * 2 ^ (r - min q r) = 0
    · rw [h0]
      simp [Nat.log2_zero]
    · have := (Nat.log2_lt h0).mpr hA
      omega
  have h1 : Nat.log2 1 = 0 := by decide
  rw [h1]
  generalize Nat.log2 (c * 2 ^ (q - min q r) + d * 2 ^ (r - min q r)) = L at hl
  omega
theorem div_b {n m d j : Nat} {r : Int} (hj : j ≤ 100) (hn : n < (j + 127) * 8388608) (hm : FP.Core.decode FP.Core.b32 m = .fin false d r) (hd : 8388608 ≤ d) (hr : -23 ≤ r) : FP.Core.div FP.Core.b32 n m < (j + 129) * 8388608 := by
  obtain ⟨c, q, e1, v1, hc, hcase⟩ := dec32 (n := n) (by omega)
  have hq : q ≤ j + 125 := by rcases hcase with ⟨_, rfl, _⟩ | ⟨_, rfl, _⟩ <;> omega
  unfold FP.Core.div FP.Core.quotient
  rw [e1, hm]
  dsimp only
  rw [if_neg (by omega)]
  refine rr_b (by omega) hj ?_
  have h1 : Nat.log2 c ≤ 23 := by
    by_cases h0 : c = 0
    · rw [h0]
      simp [Nat.log2_zero]
    · have := (Nat.log2_lt h0 (k := 24)).mpr (by omega)
      omega
  have h2 : 23 ≤ Nat.log2 d := (Nat.le_log2 (by omega)).mpr (by omega)
  generalize Nat.log2 c = L1 at h1
  generalize Nat.log2 d = L2 at h2
  omega
