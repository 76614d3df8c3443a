/-! doubles -/
theorem fmt_d : FP.Core.b64.qmin = -1074 ∧ FP.Core.b64.qmax = 971 ∧ FP.Core.b64.tails = 4503599627370496 ∧ FP.Core.b64.exps = 2048 ∧ FP.Core.b64.p = 53 := by decide
def sgD (s : Bool) : Nat := match s with
  | true => 9223372036854775808
  | false => 0
theorem enc_d {s : Bool} {c : Nat} {q : Int} (h : ¬ c < 4503599627370496) : FP.Core.encode FP.Core.b64 (.fin s c q) = sgD s + (((q + 1074).toNat + 1) * 4503599627370496 + (c - 4503599627370496)) := by
  obtain ⟨f1, f2, f3, f4, f5⟩ := fmt_d
  unfold FP.Core.encode FP.Core.assemble
  rw [f1, f3, f4]
  dsimp only
  rw [if_neg h, show q - -1074 = q + 1074 by omega]
  generalize (q + 1074).toNat = z
  cases s
  · show (0 * 2048 + (z + 1)) * 4503599627370496 + _ = 0 + _
    omega
  · show (1 * 2048 + (z + 1)) * 4503599627370496 + _ = 9223372036854775808 + _
    omega
theorem dec_d {s : Bool} {c : Nat} {q : Int} (h1 : 4503599627370496 ≤ c) (h2 : c < 9007199254740992) (hq : -1074 ≤ q) (hq2 : q ≤ 971) : FP.Core.decode FP.Core.b64 (sgD s + (((q + 1074).toNat + 1) * 4503599627370496 + (c - 4503599627370496))) = .fin s c q := by
  obtain ⟨f1, f2, f3, f4, f5⟩ := fmt_d
  obtain ⟨z, hz⟩ : ∃ z : Nat, (q + 1074).toNat = z := ⟨_, rfl⟩
  have hz2 : z ≤ 2045 := by omega
  have eq1 : q = (z : Int) - 1074 := by omega
  subst eq1
  rw [hz]
  have hs : (s = true ∧ sgD s = 9223372036854775808) ∨ (s = false ∧ sgD s = 0) := by
    cases s
    · exact Or.inr ⟨rfl, rfl⟩
    · exact Or.inl ⟨rfl, rfl⟩
  unfold FP.Core.decode FP.Core.fieldE FP.Core.fieldT FP.Core.fieldS
  rw [f1, f3, f4]
  generalize sgD s = W at hs
  have hT : (W + ((z + 1) * 4503599627370496 + (c - 4503599627370496))) % 4503599627370496 = c - 4503599627370496 := by omega
  have hE : (W + ((z + 1) * 4503599627370496 + (c - 4503599627370496))) / 4503599627370496 % 2048 = z + 1 := by omega
  rw [hE, hT, if_neg (by omega), if_neg (by omega)]
  have ec : 4503599627370496 + (c - 4503599627370496) = c := by omega
  have ez : (-1074 : Int) + (((z + 1 : Nat) : Int) - 1) = (z : Int) - 1074 := by omega
  rcases hs with ⟨rfl, rfl⟩ | ⟨rfl, rfl⟩
  · rw [show (9223372036854775808 + ((z + 1) * 4503599627370496 + (c - 4503599627370496))) / 4503599627370496 / 2048 % 2 = 1 by omega]
    show FP.Core.Datum.fin true _ _ = _
    rw [ec, ez]
  · rw [show (0 + ((z + 1) * 4503599627370496 + (c - 4503599627370496))) / 4503599627370496 / 2048 % 2 = 0 by omega]
    show FP.Core.Datum.fin false _ _ = _
    rw [ec, ez]
theorem dec_n {n : Nat} (h1 : 4503599627370496 ≤ n) (h2 : n < 9218868437227405312) (s : Bool) : FP.Core.decode FP.Core.b64 (sgD s + n) = .fin s (4503599627370496 + n % 4503599627370496) ((n / 4503599627370496 : Nat) - 1075 : Int) := by
  have h := dec_d (s := s) (c := 4503599627370496 + n % 4503599627370496) (q := ((n / 4503599627370496 : Nat) - 1075 : Int)) (by omega) (by omega) (by omega) (by omega)
  have e1 : ((n / 4503599627370496 : Nat) - 1075 + 1074 : Int).toNat = n / 4503599627370496 - 1 := by omega
  have e2 : (n / 4503599627370496 - 1 + 1) * 4503599627370496 + (4503599627370496 + n % 4503599627370496 - 4503599627370496) = n := by omega
  rw [e1, e2] at h
  exact h
theorem log_d {c : Nat} (h1 : 4503599627370496 ≤ c) (h2 : c < 9007199254740992) : Nat.log2 c = 52 := by
  rw [Nat.log2_eq_iff (by omega)]
  omega
theorem log_m {a j : Nat} (h : a ≠ 0) : Nat.log2 (a * 2 ^ j) = Nat.log2 a + j := by
  have hp : 0 < 2 ^ j := Nat.two_pow_pos j
  have h0 : a * 2 ^ j ≠ 0 := by
    have := Nat.mul_pos (show 0 < a by omega) hp
    omega
  rw [Nat.log2_eq_iff h0]
  constructor
  · rw [Nat.pow_add]
    exact Nat.mul_le_mul_right _ (Nat.log2_self_le h)
  · rw [show Nat.log2 a + j + 1 = (Nat.log2 a + 1) + j by omega, Nat.pow_add]
    exact (Nat.mul_lt_mul_right hp).mpr Nat.lt_log2_self
theorem big_d {a : Nat} (h : a ≠ 0) (h2 : a < 9007199254740992) : Nat.log2 a ≤ 52 ∧ 4503599627370496 ≤ a * 2 ^ (52 - Nat.log2 a) ∧ a * 2 ^ (52 - Nat.log2 a) < 9007199254740992 := by
  have hl : Nat.log2 a < 53 := (Nat.log2_lt h).mpr (by omega)
  have hm := log_m (j := 52 - Nat.log2 a) h
  have h0 : a * 2 ^ (52 - Nat.log2 a) ≠ 0 := by
    have := Nat.mul_pos (show 0 < a by omega) (Nat.two_pow_pos (52 - Nat.log2 a))
    omega
  rw [show Nat.log2 a + (52 - Nat.log2 a) = 52 by omega, Nat.log2_eq_iff h0] at hm
  omega
/-- a whole number, whatever its unit -/
theorem rz {s : Bool} {a j : Nat} (h : a ≠ 0) (h2 : a < 9007199254740992) : FP.Core.roundRatio FP.Core.b64 s (a * 2 ^ j) 1 (-(j : Int)) = .fin s (a * 2 ^ (52 - Nat.log2 a)) ((Nat.log2 a : Int) - 52) := by
  obtain ⟨f1, f2, f3, f4, f5⟩ := fmt_d
  obtain ⟨b1, b2, b3⟩ := big_d h h2
  have hp : 0 < 2 ^ j := Nat.two_pow_pos j
  have h0 : a * 2 ^ j ≠ 0 := by
    have := Nat.mul_pos (show 0 < a by omega) hp
    omega
  unfold FP.Core.roundRatio
  rw [if_neg h0]
  have hqq : FP.Core.quantum FP.Core.b64 (a * 2 ^ j) 1 (-(j : Int)) = (Nat.log2 a : Int) - 52 := by
    unfold FP.Core.quantum
    rw [ld_1 h0, log_m h, f1, f5]
    omega
  unfold FP.Core.roundAt FP.Core.settle FP.Core.bound
  rw [hqq]
  have hn : FP.Core.nearest (FP.Core.unitsNum (a * 2 ^ j) (-(j : Int)) ((Nat.log2 a : Int) - 52)) (FP.Core.unitsDen 1 (-(j : Int)) ((Nat.log2 a : Int) - 52)) = a * 2 ^ (52 - Nat.log2 a) := by
    unfold FP.Core.unitsNum FP.Core.unitsDen
    generalize Nat.log2 a = L at *
    by_cases hj : j ≤ 52 - L
    · rw [show (((L : Int) - 52) - -(j : Int)).toNat = 0 by omega, Nat.pow_zero, Nat.one_mul, show (-(j : Int) - ((L : Int) - 52)).toNat = 52 - L - j by omega, Nat.mul_assoc, ← Nat.pow_add, show j + (52 - L - j) = 52 - L by omega]
      have := nr_x (M := a * 2 ^ (52 - L)) (B := 1) (by omega)
      rwa [Nat.mul_one] at this
    · rw [show (-(j : Int) - ((L : Int) - 52)).toNat = 0 by omega, Nat.pow_zero, Nat.mul_one, show (((L : Int) - 52) - -(j : Int)).toNat = j - (52 - L) by omega, Nat.one_mul, show a * 2 ^ j = a * 2 ^ (52 - L) * 2 ^ (j - (52 - L)) by rw [Nat.mul_assoc, ← Nat.pow_add]; congr 2; omega]
      exact nr_x (Nat.two_pow_pos _)
  rw [hn, f2, f5, if_pos (by omega), if_pos (by omega)]
def dZ (z : Int) : Nat := FP.Core.fromInt FP.Core.b64 z
theorem dZ_0 : dZ 0 = 0 := by decide
theorem dZ_z {z : Int} (h : z ≠ 0) (h2 : z.natAbs < 9007199254740992) : dZ z = sgD (decide (z < 0)) + ((Nat.log2 z.natAbs + 1023) * 4503599627370496 + (z.natAbs * 2 ^ (52 - Nat.log2 z.natAbs) - 4503599627370496)) ∧ FP.Core.decode FP.Core.b64 (dZ z) = .fin (decide (z < 0)) (z.natAbs * 2 ^ (52 - Nat.log2 z.natAbs)) ((Nat.log2 z.natAbs : Int) - 52) := by
  have hn : z.natAbs ≠ 0 := by omega
  obtain ⟨b1, b2, b3⟩ := big_d hn h2
  have hr := rz (s := decide (z < 0)) (j := 0) hn h2
  rw [Nat.pow_zero, Nat.mul_one] at hr
  have e1 : dZ z = FP.Core.encode FP.Core.b64 (.fin (decide (z < 0)) (z.natAbs * 2 ^ (52 - Nat.log2 z.natAbs)) ((Nat.log2 z.natAbs : Int) - 52)) := by
    rw [← hr]
    rfl
  have e2 := enc_d (s := decide (z < 0)) (c := z.natAbs * 2 ^ (52 - Nat.log2 z.natAbs)) (q := (Nat.log2 z.natAbs : Int) - 52) (by omega)
  have e3 := dec_d (s := decide (z < 0)) (c := z.natAbs * 2 ^ (52 - Nat.log2 z.natAbs)) (q := (Nat.log2 z.natAbs : Int) - 52) b2 b3 (by omega) (by omega)
  refine ⟨?_, ?_⟩
  · rw [e1, e2, show ((Nat.log2 z.natAbs : Int) - 52 + 1074).toNat + 1 = Nat.log2 z.natAbs + 1023 by omega]
  · rw [e1, e2, e3]
/-- what a whole number is, in units -/
theorem dZ_u {z e : Int} (h2 : z.natAbs < 9007199254740992) : ∃ s c q, FP.Core.decode FP.Core.b64 (dZ z) = .fin s c q ∧ (s = true → z < 0) ∧ q ≤ 0 ∧ (e ≤ q → FP.Core.signed s (FP.Core.inUnits c q e) = z * (2 ^ (-e).toNat : Nat)) := by
  by_cases h : z = 0
  · subst h
    rw [dZ_0]
    refine ⟨false, 0, -1074, by decide, by decide, by decide, fun _ => ?_⟩
    unfold FP.Core.signed FP.Core.inUnits
    simp
  · obtain ⟨b1, b2, b3⟩ := big_d (a := z.natAbs) (by omega) h2
    refine ⟨_, _, _, (dZ_z h h2).2, fun hs => by simpa using hs, by omega, fun he => ?_⟩
    unfold FP.Core.signed FP.Core.inUnits
    rw [Nat.mul_assoc, ← Nat.pow_add, show 52 - Nat.log2 z.natAbs + ((Nat.log2 z.natAbs : Int) - 52 - e).toNat = (-e).toNat by omega]
    generalize 2 ^ (-e).toNat = W
    by_cases hz : z < 0
    · rw [if_pos (by simpa using hz)]
      obtain ⟨m, rfl⟩ : ∃ m : Nat, z = -(m : Int) := ⟨z.natAbs, by omega⟩
      rw [Int.natAbs_neg, Int.natAbs_natCast, Int.natCast_mul, Int.neg_mul]
    · rw [if_neg (by simpa using hz)]
      obtain ⟨m, rfl⟩ : ∃ m : Nat, z = (m : Int) := ⟨z.natAbs, by omega⟩
      rw [Int.natAbs_natCast, Int.natCast_mul]
theorem add_d {a b : Int} (ha : a.natAbs < 9007199254740992) (hb : b.natAbs < 9007199254740992) (hab : (a + b).natAbs < 9007199254740992) : FP.Core.add FP.Core.b64 (dZ a) (dZ b) = dZ (a + b) := by
  obtain ⟨f1, f2, f3, f4, f5⟩ := fmt_d
  obtain ⟨s, c, q, e1, s1, q1, u1⟩ := dZ_u (z := a) (e := 0) ha
  obtain ⟨t, d, r, e2, s2, r1, u2⟩ := dZ_u (z := b) (e := 0) hb
  obtain ⟨s', c', q', e1', -, -, u1'⟩ := dZ_u (z := a) (e := min q r) ha
  obtain ⟨t', d', r', e2', -, -, u2'⟩ := dZ_u (z := b) (e := min q r) hb
  rw [e1] at e1'
  rw [e2] at e2'
  injection e1' with i1 i2 i3
  injection e2' with k1 k2 k3
  subst i1 i2 i3 k1 k2 k3
  have v1 := u1' (by omega)
  have v2 := u2' (by omega)
  obtain ⟨j, hj⟩ : ∃ j : Nat, min q r = -(j : Int) := ⟨(-(min q r)).toNat, by omega⟩
  have hv : FP.Core.sumUnits s c q t d r (min q r) = (a + b) * (2 ^ j : Nat) := by
    unfold FP.Core.sumUnits
    rw [v1, v2, hj, show (- -(j : Int)).toNat = j by omega, Int.add_mul]
  unfold FP.Core.add
  rw [e1, e2]
  show FP.Core.encode FP.Core.b64 (FP.Core.roundRatio FP.Core.b64 (FP.Core.sumSign s t (FP.Core.sumUnits s c q t d r (min q r))) (FP.Core.sumUnits s c q t d r (min q r)).natAbs 1 (min q r)) = _
  rw [hv, hj, Int.natAbs_mul, Int.natAbs_natCast]
  have hp : 0 < 2 ^ j := Nat.two_pow_pos j
  by_cases h0 : a + b = 0
  · rw [h0, dZ_0]
    have hs : FP.Core.sumSign s t (0 * ((2 ^ j : Nat) : Int)) = false := by
      unfold FP.Core.sumSign
      rw [Int.zero_mul, if_pos rfl]
      cases s
      · rfl
      · cases t
        · rfl
        · have z1 := s1 rfl
          have z2 := s2 rfl
          omega
    rw [hs]
    unfold FP.Core.roundRatio
    rw [if_pos (by simp), f1]
    decide
  · have hne : (a + b) * ((2 ^ j : Nat) : Int) ≠ 0 := Int.mul_ne_zero h0 (by omega)
    have hs : FP.Core.sumSign s t ((a + b) * ((2 ^ j : Nat) : Int)) = decide (a + b < 0) := by
      unfold FP.Core.sumSign
      rw [if_neg hne]
      congr 1
      rw [eq_iff_iff]
      have hpi : (0 : Int) < ((2 ^ j : Nat) : Int) := by omega
      constructor
      · intro h
        exact Int.lt_of_not_ge (fun z => by
          have := Int.mul_nonneg z (Int.le_of_lt hpi)
          omega)
      · intro h
        exact Int.mul_neg_of_neg_of_pos h hpi
    obtain ⟨b1, b2, b3⟩ := big_d (a := (a + b).natAbs) (by omega) hab
    rw [hs, rz (by omega) hab, enc_d (by omega), (dZ_z h0 hab).1, show ((Nat.log2 (a + b).natAbs : Int) - 52 + 1074).toNat + 1 = Nat.log2 (a + b).natAbs + 1023 by omega]
/-- the mean -/
theorem mean_x {S : Int} {n : Nat} (hS : S ≠ 0) (hS2 : S.natAbs ≤ 137438953472) (hn : 0 < n) (hn2 : n ≤ 40) : ∃ N, 4503599627370496 * 900 ≤ N ∧ N < 4503599627370496 * 1100 ∧ FP.Core.div FP.Core.b64 (dZ S) (dZ (n : Int)) = sgD (decide (S < 0)) + N := by
  obtain ⟨f1, f2, f3, f4, f5⟩ := fmt_d
  have e1 := (dZ_z hS (by omega)).2
  have e2 := (dZ_z (z := (n : Int)) (by omega) (by omega)).2
  obtain ⟨b1, b2, b3⟩ := big_d (a := S.natAbs) (by omega) (by omega)
  obtain ⟨g1, g2, g3⟩ := big_d (a := n) (by omega) (by omega)
  rw [Int.natAbs_natCast] at e2
  have lS : Nat.log2 S.natAbs ≤ 38 := by
    have := (Nat.log2_lt (n := S.natAbs) (k := 39) (by omega)).mpr (by omega)
    omega
  have ln : Nat.log2 n ≤ 6 := by
    have := (Nat.log2_lt (n := n) (k := 7) (by omega)).mpr (by omega)
    omega
  unfold FP.Core.div FP.Core.quotient
  rw [e1, e2]
  dsimp only
  rw [if_neg (by omega)]
  generalize S.natAbs * 2 ^ (52 - Nat.log2 S.natAbs) = c at *
  generalize n * 2 ^ (52 - Nat.log2 n) = d at *
  generalize Nat.log2 S.natAbs = L1 at *
  generalize Nat.log2 n = L2 at *
  have hsg : (decide (S < 0) != decide ((n : Int) < 0)) = decide (S < 0) := by
    have : decide ((n : Int) < 0) = false := by
      rw [decide_eq_false_iff_not]
      omega
    rw [this]
    cases decide (S < 0) <;> rfl
  rw [hsg]
  unfold FP.Core.roundRatio
  rw [if_neg (by omega)]
  have hld : (FP.Core.leading c d = 0 ∧ d ≤ c) ∨ (FP.Core.leading c d = -1 ∧ c < d) := by
    unfold FP.Core.leading
    rw [log_d b2 b3, log_d g2 g3]
    by_cases hcd : d ≤ c
    · left
      simp [hcd]
    · right
      simp [hcd]
      omega
  obtain ⟨E, hE⟩ : ∃ E : Int, (L1 : Int) - 52 - ((L2 : Int) - 52) = E := ⟨_, rfl⟩
  rw [hE]
  have hE1 : -10 ≤ E ∧ E ≤ 40 := by omega
  have hqq : FP.Core.quantum FP.Core.b64 c d E = FP.Core.leading c d + E - 52 := by
    unfold FP.Core.quantum
    rw [f1, f5]
    omega
  unfold FP.Core.roundAt FP.Core.settle FP.Core.bound
  rw [hqq, f2, f3, f5]
  have hnear : 4503599627370496 ≤ FP.Core.nearest (FP.Core.unitsNum c E (FP.Core.leading c d + E - 52)) (FP.Core.unitsDen d E (FP.Core.leading c d + E - 52)) := by
    unfold FP.Core.unitsNum FP.Core.unitsDen
    have hge : ∀ {A B M : Nat}, 0 < B → M * B ≤ A → M ≤ FP.Core.nearest A B := by
      intro A B M hB h
      have : M ≤ A / B := (Nat.le_div_iff_mul_le hB).mpr h
      unfold FP.Core.nearest
      split
      · exact this
      · split <;> omega
    rcases hld with ⟨h1, h2⟩ | ⟨h1, h2⟩
    · rw [h1, show (E - (0 + E - 52)).toNat = 52 by omega, show (0 + E - 52 - E).toNat = 0 by omega]
      refine hge (by omega) ?_
      omega
    · rw [h1, show (E - (-1 + E - 52)).toNat = 53 by omega, show (-1 + E - 52 - E).toNat = 0 by omega]
      refine hge (by omega) ?_
      omega
  have hq1 : -80 ≤ FP.Core.leading c d + E - 52 ∧ FP.Core.leading c d + E - 52 ≤ 0 := by omega
  generalize FP.Core.leading c d + E - 52 = q at *
  generalize FP.Core.nearest (FP.Core.unitsNum c E q) (FP.Core.unitsDen d E q) = m at *
  by_cases hm : m < 2 ^ 53
  · rw [if_pos hm, if_pos (by omega), enc_d (by omega)]
    refine ⟨((q + 1074).toNat + 1) * 4503599627370496 + (m - 4503599627370496), ?_, ?_, ?_⟩
    · have : 900 ≤ (q + 1074).toNat := by omega
      generalize (q + 1074).toNat = z at *
      omega
    · have : (q + 1074).toNat ≤ 1080 := by omega
      generalize (q + 1074).toNat = z at *
      omega
    · rfl
  · rw [if_neg hm, if_pos (by omega), enc_d (by omega)]
    refine ⟨((q + 1 + 1074).toNat + 1) * 4503599627370496 + (4503599627370496 - 4503599627370496), ?_, ?_, ?_⟩
    · have : 900 ≤ (q + 1 + 1074).toNat := by omega
      generalize (q + 1 + 1074).toNat = z at *
      omega
    · have : (q + 1 + 1074).toNat ≤ 1080 := by omega
      generalize (q + 1 + 1074).toNat = z at *
      omega
    · rfl
theorem rr_d {s : Bool} {c j : Nat} {e : Int} (h1 : 4503599627370496 ≤ c) (h2 : c < 9007199254740992) (hq : -1074 ≤ e + j) (hq2 : e + j ≤ 971) : FP.Core.roundRatio FP.Core.b64 s (c * 2 ^ j) 1 e = .fin s c (e + j) := by
  obtain ⟨f1, f2, f3, f4, f5⟩ := fmt_d
  have hp : 0 < 2 ^ j := Nat.two_pow_pos j
  have h0 : c * 2 ^ j ≠ 0 := by
    have := Nat.mul_pos (show 0 < c by omega) hp
    omega
  unfold FP.Core.roundRatio
  rw [if_neg h0]
  have hqq : FP.Core.quantum FP.Core.b64 (c * 2 ^ j) 1 e = e + j := by
    unfold FP.Core.quantum
    rw [ld_1 h0, log_m (by omega), log_d h1 h2, f1, f5]
    omega
  unfold FP.Core.roundAt FP.Core.settle FP.Core.bound FP.Core.unitsNum FP.Core.unitsDen
  rw [hqq, f2, f3, f5, show (e - (e + j)).toNat = 0 by omega, show (e + j - e).toNat = j by omega, Nat.pow_zero, Nat.mul_one, Nat.one_mul, nr_x hp, if_pos (by omega), if_pos (by omega)]
theorem dec_p {n : Nat} (h1 : 4503599627370496 ≤ n) (h2 : n < 9218868437227405312) : FP.Core.decode FP.Core.b64 n = .fin false (4503599627370496 + n % 4503599627370496) ((n / 4503599627370496 : Nat) - 1075 : Int) := by
  have h := dec_n h1 h2 false
  rw [show sgD false + n = n by show 0 + n = n; omega] at h
  exact h
theorem dmul2 {n : Nat} (h1 : 4503599627370496 ≤ n) (h2 : n < 9214364837600034816) : FP.Core.mul FP.Core.b64 n 4611686018427387904 = n + 4503599627370496 := by
  have e2 : FP.Core.decode FP.Core.b64 4611686018427387904 = .fin false 4503599627370496 (-51) := by decide
  unfold FP.Core.mul
  rw [dec_p h1 (by omega), e2]
  show FP.Core.encode FP.Core.b64 (FP.Core.roundRatio FP.Core.b64 false ((4503599627370496 + n % 4503599627370496) * 4503599627370496) 1 (((n / 4503599627370496 : Nat) - 1075 : Int) + -51)) = _
  have hr := rr_d (s := false) (c := 4503599627370496 + n % 4503599627370496) (j := 52) (e := ((n / 4503599627370496 : Nat) - 1075 : Int) + -51) (by omega) (by omega) (by omega) (by omega)
  rw [show (2 : Nat) ^ 52 = 4503599627370496 by decide] at hr
  rw [hr, enc_d (by omega)]
  show 0 + _ = _
  omega
theorem ddiv2 {n : Nat} (h1 : 9007199254740992 ≤ n) (h2 : n < 9218868437227405312) : FP.Core.div FP.Core.b64 n 4611686018427387904 = n - 4503599627370496 := by
  obtain ⟨f1, f2, f3, f4, f5⟩ := fmt_d
  have e2 : FP.Core.decode FP.Core.b64 4611686018427387904 = .fin false 4503599627370496 (-51) := by decide
  unfold FP.Core.div FP.Core.quotient
  rw [dec_p (by omega) h2, e2]
  dsimp only
  rw [if_neg (by decide)]
  obtain ⟨c, hc⟩ : ∃ c, 4503599627370496 + n % 4503599627370496 = c := ⟨_, rfl⟩
  obtain ⟨E, hE⟩ : ∃ E, n / 4503599627370496 = E := ⟨_, rfl⟩
  rw [hc, hE]
  show FP.Core.encode FP.Core.b64 (FP.Core.roundRatio FP.Core.b64 false c 4503599627370496 (((E : Nat) : Int) - 1075 - -51)) = _
  unfold FP.Core.roundRatio
  rw [if_neg (by omega)]
  have hld : FP.Core.leading c 4503599627370496 = 0 := by
    unfold FP.Core.leading
    rw [log_d (by omega) (by omega), show Nat.log2 4503599627370496 = 52 by decide]
    simp
    omega
  have hqq : FP.Core.quantum FP.Core.b64 c 4503599627370496 (((E : Nat) : Int) - 1075 - -51) = ((E : Nat) : Int) - 1076 := by
    unfold FP.Core.quantum
    rw [hld, f1, f5]
    omega
  unfold FP.Core.roundAt FP.Core.settle FP.Core.bound FP.Core.unitsNum FP.Core.unitsDen
  have hx := nr_x (M := c) (B := 4503599627370496) (by omega)
  rw [hqq, f2, f3, f5, show (((E : Nat) : Int) - 1075 - -51 - (((E : Nat) : Int) - 1076)).toNat = 52 by omega, show (((E : Nat) : Int) - 1076 - (((E : Nat) : Int) - 1075 - -51)).toNat = 0 by omega, Nat.pow_zero, Nat.mul_one, show (2 : Nat) ^ 52 = 4503599627370496 by decide, hx, if_pos (by omega), if_pos (by omega), enc_d (by omega)]
  show 0 + _ = _
  omega
theorem dwhl {n : Nat} (h : n / 4503599627370496 = 1023) : FP.Core.toInt (-2 ^ 63) (2 ^ 63 - 1) (FP.Core.decode FP.Core.b64 (FP.Core.mul FP.Core.b64 n 4841369599423283200)) = ((4503599627370496 + n % 4503599627370496 : Nat) : Int) ∧ FP.Core.mul FP.Core.b64 n 4841369599423283200 < 9218868437227405312 := by
  have e2 : FP.Core.decode FP.Core.b64 4841369599423283200 = .fin false 4503599627370496 0 := by decide
  have em : FP.Core.mul FP.Core.b64 n 4841369599423283200 = n + 52 * 4503599627370496 := by
    unfold FP.Core.mul
    rw [dec_p (by omega) (by omega), e2]
    show FP.Core.encode FP.Core.b64 (FP.Core.roundRatio FP.Core.b64 false ((4503599627370496 + n % 4503599627370496) * 4503599627370496) 1 (((n / 4503599627370496 : Nat) - 1075 : Int) + 0)) = _
    have hr := rr_d (s := false) (c := 4503599627370496 + n % 4503599627370496) (j := 52) (e := ((n / 4503599627370496 : Nat) - 1075 : Int) + 0) (by omega) (by omega) (by omega) (by omega)
    rw [show (2 : Nat) ^ 52 = 4503599627370496 by decide] at hr
    rw [hr, enc_d (by omega)]
    show 0 + _ = _
    omega
  rw [em]
  refine ⟨?_, by omega⟩
  rw [dec_p (by omega) (by omega), show (n + 52 * 4503599627370496) % 4503599627370496 = n % 4503599627370496 by omega, show (n + 52 * 4503599627370496) / 4503599627370496 = 1075 by omega]
  show max (-2 ^ 63) (min (2 ^ 63 - 1) (FP.Core.truncate false (4503599627370496 + n % 4503599627370496) (((1075 : Nat) : Int) - 1075))) = _
  unfold FP.Core.truncate FP.Core.signed
  rw [if_neg (by decide), show (((1075 : Nat) : Int) - 1075).toNat = 0 by decide, show (-(((1075 : Nat) : Int) - 1075)).toNat = 0 by decide, Nat.pow_zero, Nat.mul_one, Nat.div_one]
  omega
/-- beside a power of two -/
theorem dcmp_p {n r : Nat} (h1 : 4503599627370496 ≤ n) (h2 : n < 9218868437227405312) (hr : 1 ≤ r) (hr2 : r < 2047) : (n / 4503599627370496 < r → FP.Core.cmp FP.Core.b64 n (r * 4503599627370496) = some .lt) ∧ (r ≤ n / 4503599627370496 → FP.Core.cmp FP.Core.b64 n (r * 4503599627370496) = some .gt ∨ FP.Core.cmp FP.Core.b64 n (r * 4503599627370496) = some .eq) := by
  unfold FP.Core.cmp
  rw [dec_p h1 h2, dec_p (n := r * 4503599627370496) (by omega) (by omega), show r * 4503599627370496 % 4503599627370496 = 0 by omega, show r * 4503599627370496 / 4503599627370496 = r by omega]
  obtain ⟨c, hc⟩ : ∃ c, 4503599627370496 + n % 4503599627370496 = c := ⟨_, rfl⟩
  obtain ⟨E, hE⟩ : ∃ E, n / 4503599627370496 = E := ⟨_, rfl⟩
  rw [hc, hE]
  have hco : ∀ A B : Nat, FP.Core.order (.fin false c ((E : Nat) - 1075 : Int)) (.fin false (4503599627370496 + 0) ((r : Nat) - 1075 : Int)) = some (compare (A : Int) (B : Int)) → ((A < B → FP.Core.order (.fin false c ((E : Nat) - 1075 : Int)) (.fin false (4503599627370496 + 0) ((r : Nat) - 1075 : Int)) = some .lt) ∧ (B ≤ A → FP.Core.order (.fin false c ((E : Nat) - 1075 : Int)) (.fin false (4503599627370496 + 0) ((r : Nat) - 1075 : Int)) = some .gt ∨ FP.Core.order (.fin false c ((E : Nat) - 1075 : Int)) (.fin false (4503599627370496 + 0) ((r : Nat) - 1075 : Int)) = some .eq)) := by
    intro A B h
    rw [h]
    have hcm : compare (A : Int) (B : Int) = if (A : Int) < (B : Int) then Ordering.lt else if (A : Int) = (B : Int) then Ordering.eq else Ordering.gt := rfl
    rw [hcm]
    constructor
    · intro z
      rw [if_pos (by omega)]
    · intro z
      rw [if_neg (by omega)]
      by_cases e : (A : Int) = (B : Int)
      · rw [if_pos e]
        exact Or.inr rfl
      · rw [if_neg e]
        exact Or.inl rfl
  by_cases hEr : E ≤ r
  · obtain ⟨g1, g2⟩ := hco c (4503599627370496 * 2 ^ (r - E)) (by
      show some (compare (FP.Core.signed false (FP.Core.inUnits c ((E : Nat) - 1075 : Int) (min ((E : Nat) - 1075 : Int) ((r : Nat) - 1075 : Int)))) (FP.Core.signed false (FP.Core.inUnits (4503599627370496 + 0) ((r : Nat) - 1075 : Int) (min ((E : Nat) - 1075 : Int) ((r : Nat) - 1075 : Int))))) = _
      unfold FP.Core.signed FP.Core.inUnits
      rw [if_neg (by decide), if_neg (by decide), show (((E : Nat) - 1075 : Int) - min ((E : Nat) - 1075 : Int) ((r : Nat) - 1075 : Int)).toNat = 0 by omega, show (((r : Nat) - 1075 : Int) - min ((E : Nat) - 1075 : Int) ((r : Nat) - 1075 : Int)).toNat = r - E by omega, Nat.pow_zero, Nat.mul_one, Nat.add_zero])
    refine ⟨fun z => g1 ?_, fun z => g2 ?_⟩
    · obtain ⟨w, hw⟩ : ∃ w, r - E = w + 1 := ⟨r - E - 1, by omega⟩
      rw [hw, Nat.pow_succ]
      have := Nat.two_pow_pos w
      have : 4503599627370496 * 1 ≤ 4503599627370496 * 2 ^ w := Nat.mul_le_mul_left _ this
      omega
    · rw [show r - E = 0 by omega]
      omega
  · obtain ⟨g1, g2⟩ := hco (c * 2 ^ (E - r)) 4503599627370496 (by
      show some (compare (FP.Core.signed false (FP.Core.inUnits c ((E : Nat) - 1075 : Int) (min ((E : Nat) - 1075 : Int) ((r : Nat) - 1075 : Int)))) (FP.Core.signed false (FP.Core.inUnits (4503599627370496 + 0) ((r : Nat) - 1075 : Int) (min ((E : Nat) - 1075 : Int) ((r : Nat) - 1075 : Int))))) = _
      unfold FP.Core.signed FP.Core.inUnits
      rw [if_neg (by decide), if_neg (by decide), show (((E : Nat) - 1075 : Int) - min ((E : Nat) - 1075 : Int) ((r : Nat) - 1075 : Int)).toNat = E - r by omega, show (((r : Nat) - 1075 : Int) - min ((E : Nat) - 1075 : Int) ((r : Nat) - 1075 : Int)).toNat = 0 by omega, Nat.pow_zero, Nat.mul_one, Nat.add_zero])
    refine ⟨fun z => by omega, fun z => g2 ?_⟩
    have := Nat.two_pow_pos (E - r)
    have : c * 1 ≤ c * 2 ^ (E - r) := Nat.mul_le_mul_left _ this
    omega
/-- beside nought -/
theorem dcmp_0 {n : Nat} (h1 : 4503599627370496 ≤ n) (h2 : n < 9218868437227405312) (s : Bool) : FP.Core.cmp FP.Core.b64 (sgD s + n) 0 = some (if s then .lt else .gt) := by
  have e2 : FP.Core.decode FP.Core.b64 0 = .fin false 0 (-1074) := by decide
  unfold FP.Core.cmp
  rw [dec_n h1 h2, e2]
  obtain ⟨c, hc⟩ : ∃ c, 4503599627370496 + n % 4503599627370496 = c := ⟨_, rfl⟩
  obtain ⟨E, hE⟩ : ∃ E, n / 4503599627370496 = E := ⟨_, rfl⟩
  rw [hc, hE]
  show some (compare (FP.Core.signed s (FP.Core.inUnits c ((E : Nat) - 1075 : Int) (min ((E : Nat) - 1075 : Int) (-1074)))) (FP.Core.signed false (FP.Core.inUnits 0 (-1074) (min ((E : Nat) - 1075 : Int) (-1074))))) = _
  unfold FP.Core.signed FP.Core.inUnits
  rw [Nat.zero_mul]
  have hp : 0 < c * 2 ^ (((E : Nat) - 1075 : Int) - min ((E : Nat) - 1075 : Int) (-1074)).toNat := Nat.mul_pos (by omega) (Nat.two_pow_pos _)
  generalize c * 2 ^ (((E : Nat) - 1075 : Int) - min ((E : Nat) - 1075 : Int) (-1074)).toNat = A at hp
  cases s
  · show some (if (A : Int) < 0 then Ordering.lt else if (A : Int) = 0 then Ordering.eq else Ordering.gt) = some Ordering.gt
    rw [if_neg (by omega), if_neg (by omega)]
  · show some (if -(A : Int) < 0 then Ordering.lt else if -(A : Int) = 0 then Ordering.eq else Ordering.gt) = some Ordering.lt
    rw [if_pos (by omega)]
theorem dneg_n {n : Nat} (h1 : 4503599627370496 ≤ n) (h2 : n < 9218868437227405312) : FP.Core.neg FP.Core.b64 (9223372036854775808 + n) = n := by
  have h := dec_n h1 h2 true
  unfold FP.Core.neg
  rw [show sgD true + n = 9223372036854775808 + n from rfl] at h
  rw [h]
  show FP.Core.encode FP.Core.b64 (.fin false _ _) = _
  rw [enc_d (by omega)]
  show 0 + _ = _
  omega
