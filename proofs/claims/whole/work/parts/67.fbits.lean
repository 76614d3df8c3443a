/-! FRESH, LOCKED: the bits of a float -/
theorem cv_lt {A B : Nat} : (Op.cmpValue (some (compare (A : Int) (B : Int))) CmpOp.l < 0) ↔ A < B := by
  show (Op.cmpValue (some (if (A : Int) < (B : Int) then Ordering.lt else if (A : Int) = (B : Int) then Ordering.eq else Ordering.gt)) CmpOp.l < 0) ↔ A < B
  by_cases h : (A : Int) < (B : Int)
  · rw [if_pos h]
    exact ⟨fun _ => by omega, fun _ => (by decide : (-1 : Int32) < 0)⟩
  · rw [if_neg h]
    by_cases e : (A : Int) = (B : Int)
    · rw [if_pos e]
      exact ⟨fun z => absurd z (by decide : ¬ (0 : Int32) < 0), fun z => by omega⟩
    · rw [if_neg e]
      exact ⟨fun z => absurd z (by decide : ¬ (1 : Int32) < 0), fun z => by omega⟩
theorem cv_gt {A B : Nat} : (0 < Op.cmpValue (some (compare (A : Int) (B : Int))) CmpOp.l) ↔ B < A := by
  show (0 < Op.cmpValue (some (if (A : Int) < (B : Int) then Ordering.lt else if (A : Int) = (B : Int) then Ordering.eq else Ordering.gt)) CmpOp.l) ↔ B < A
  by_cases h : (A : Int) < (B : Int)
  · rw [if_pos h]
    exact ⟨fun z => absurd z (by decide : ¬ (0 : Int32) < -1), fun _ => by omega⟩
  · rw [if_neg h]
    by_cases e : (A : Int) = (B : Int)
    · rw [if_pos e]
      exact ⟨fun z => absurd z (by decide : ¬ (0 : Int32) < 0), fun z => by omega⟩
    · rw [if_neg e]
      exact ⟨fun z => by omega, fun z => (by decide : (0 : Int32) < 1)⟩
theorem cv_ge {A B : Nat} : (0 ≤ Op.cmpValue (some (compare (A : Int) (B : Int))) CmpOp.g) ↔ B ≤ A := by
  show (0 ≤ Op.cmpValue (some (if (A : Int) < (B : Int) then Ordering.lt else if (A : Int) = (B : Int) then Ordering.eq else Ordering.gt)) CmpOp.g) ↔ B ≤ A
  by_cases h : (A : Int) < (B : Int)
  · rw [if_pos h]
    exact ⟨fun z => absurd z (by decide : ¬ (0 : Int32) ≤ -1), fun _ => by omega⟩
  · rw [if_neg h]
    by_cases e : (A : Int) = (B : Int)
    · rw [if_pos e]
      exact ⟨fun z => by omega, fun z => (by decide : (0 : Int32) ≤ 0)⟩
    · rw [if_neg e]
      exact ⟨fun z => by omega, fun z => (by decide : (0 : Int32) ≤ 1)⟩
theorem u32_t {n : Nat} (h : n < 4294967296) : (UInt32.ofNat n).toNat = n := UInt32.toNat_ofNat_of_lt' h
theorem fc_n {n m : Nat} (y : UInt32) (hy : y.toNat = m) (hn : n < 2139095040) (hm : m < 2139095040) : FP.fcmp (UInt32.ofNat n) y = some (compare ((fV n : Nat) : Int) ((fV m : Nat) : Int)) := by
  show FP.Core.cmp FP.Core.b32 (UInt32.ofNat n).toNat y.toNat = _
  rw [u32_t (by omega), hy, cmp32 hn hm]
theorem nn32 {n : Nat} (h : n ≤ 2139095040) : (UInt32.ofNat n) &&& 0x7fffffff ≤ 0x7f800000 := by
  rw [UInt32.le_iff_toNat_le, UInt32.toNat_and, u32_t (by omega)]
  have : n &&& (0x7fffffff : UInt32).toNat ≤ n := Nat.and_le_left
  have e2 : (0x7f800000 : UInt32).toNat = 2139095040 := by decide
  omega
theorem fm_2 {n : Nat} (h : n < 2130706432) : FP.fmul (UInt32.ofNat n) FP.fconst2 = UInt32.ofNat (dbl n) := by
  show UInt32.ofNat (FP.Core.mul FP.Core.b32 (UInt32.ofNat n).toNat (1073741824 : UInt32).toNat) = _
  rw [u32_t (by omega), show (1073741824 : UInt32).toNat = 1073741824 by decide, mul2 h]
theorem fd_2 {n : Nat} (h : n < 2139095040) (h2 : 1073741824 ≤ n) : FP.fdiv (UInt32.ofNat n) FP.fconst2 = UInt32.ofNat (n - 8388608) := by
  show UInt32.ofNat (FP.Core.div FP.Core.b32 (UInt32.ofNat n).toNat (1073741824 : UInt32).toNat) = _
  rw [u32_t (by omega), show (1073741824 : UInt32).toNat = 1073741824 by decide, div2 h h2]
theorem fm_w {n : Nat} (h : n < 1073741824) (h2 : 8388608 ≤ n) : FP.f2i (FP.fmul (UInt32.ofNat n) 1258291200) = nI (fV n / 2 ^ 126) ∧ (FP.fmul (UInt32.ofNat n) 1258291200) &&& 0x7fffffff ≤ 0x7f800000 := by
  obtain ⟨e1, e2⟩ := whl h h2
  have e3 : FP.fmul (UInt32.ofNat n) 1258291200 = UInt32.ofNat (FP.Core.mul FP.Core.b32 n 1258291200) := by
    show UInt32.ofNat (FP.Core.mul FP.Core.b32 (UInt32.ofNat n).toNat (1258291200 : UInt32).toNat) = _
    rw [u32_t (by omega), show (1258291200 : UInt32).toNat = 1258291200 by decide]
  rw [e3]
  refine ⟨?_, nn32 (by omega)⟩
  show Int32.ofInt (FP.Core.toInt (-2 ^ 31) (2 ^ 31 - 1) (FP.Core.decode FP.Core.b32 (UInt32.ofNat (FP.Core.mul FP.Core.b32 n 1258291200)).toNat)) = _
  rw [u32_t (by omega), e1]
  rfl
theorem fV_lt {n E : Nat} (hE : 1 ≤ E) (h : n / 8388608 < E) : fV n < 8388608 * 2 ^ (E - 1) := by
  have hp := Nat.two_pow_pos (E - 1)
  unfold fV
  by_cases h0 : n / 8388608 = 0
  · rw [if_pos h0]
    have : 8388608 * 1 ≤ 8388608 * 2 ^ (E - 1) := Nat.mul_le_mul_left _ hp
    omega
  · rw [if_neg h0]
    have h1 : (8388608 + n % 8388608) * 2 ^ (n / 8388608 - 1) < 16777216 * 2 ^ (n / 8388608 - 1) := (Nat.mul_lt_mul_right (Nat.two_pow_pos _)).mpr (by omega)
    have h2 : 16777216 * 2 ^ (n / 8388608 - 1) = 8388608 * 2 ^ (n / 8388608) := by
      rw [show n / 8388608 = (n / 8388608 - 1) + 1 by omega, Nat.pow_succ, Nat.add_sub_cancel]
      omega
    have h3 : 8388608 * 2 ^ (n / 8388608) ≤ 8388608 * 2 ^ (E - 1) := Nat.mul_le_mul_left _ (Nat.pow_le_pow_right (by omega) (by omega))
    omega
theorem fV_ge {n E : Nat} (hE : 1 ≤ E) (h : E ≤ n / 8388608) : 8388608 * 2 ^ (E - 1) ≤ fV n := by
  unfold fV
  rw [if_neg (by omega)]
  exact Nat.mul_le_mul (by omega) (Nat.pow_le_pow_right (by omega) (by omega))
def dbk (n : Nat) : Nat → Nat
  | 0 => n
  | k + 1 => dbl (dbk n k)
theorem fV_dbk (n : Nat) : ∀ k, fV (dbk n k) = 2 ^ k * fV n := by
  intro k
  induction k with
  | zero => rw [Nat.pow_zero, Nat.one_mul]; rfl
  | succ k ih =>
    show fV (dbl (dbk n k)) = _
    rw [fV_dbl, ih, Nat.pow_succ, ← Nat.mul_assoc, Nat.mul_comm 2]
def ngk : Nat → Int32
  | 0 => 0
  | k + 1 => ngk k + (-1)
theorem ngk_a : ∀ k, k ≤ 127 → ngk k + 127 = nI (127 - k) := by
  intro k
  induction k with
  | zero => intro _; rfl
  | succ k ih =>
    intro hk
    show ngk k + (-1) + 127 = _
    rw [Int32.add_assoc, Int32.add_comm (-1) 127, ← Int32.add_assoc, ih (by omega), show 127 - k = (127 - (k + 1)) + 1 by omega, ← Int32.sub_eq_add_neg, nI_pred]
theorem sh_23 {E T : Nat} (hE : E < 256) (hT : T < 8388608) : (nI E <<< ((23 : Int32) &&& 31)) ||| (nI (8388608 + T) - 8388608) = nI (E * 8388608 + T) := by
  have e1 : nI (8388608 + T) - 8388608 = nI T := by
    rw [show 8388608 + T = T + 8388608 by omega, ← nI_add]
    exact Int32.add_sub_cancel _ _
  rw [e1, ← Int32.toBitVec_inj]
  show (BitVec.ofNat 32 E <<< 23) ||| BitVec.ofNat 32 T = BitVec.ofNat 32 (E * 8388608 + T)
  apply BitVec.eq_of_toNat_eq
  rw [BitVec.toNat_or, BitVec.toNat_shiftLeft, BitVec.toNat_ofNat, BitVec.toNat_ofNat, BitVec.toNat_ofNat, Nat.mod_eq_of_lt (a := E) (by omega), Nat.mod_eq_of_lt (a := T) (by omega), Nat.mod_eq_of_lt (a := E <<< 23) (by rw [Nat.shiftLeft_eq]; omega), ← Nat.shiftLeft_add_eq_or_of_lt (by omega), Nat.shiftLeft_eq, Nat.mod_eq_of_lt (by omega)]
section FB
variable {N d : Nat} {I : IM} {F : FM}
/-- the end: a float from 1 on, or 126 times doubled -/
theorem f77_end {n k m w : Nat} {x2 : Int32} (h : n < 1073741824) (h2 : 8388608 ≤ n) (hk : 126 ≤ k ∨ 127 ≤ n / 8388608) (hk2 : k < 2 ^ 31) (hw : fV n / 2 ^ 126 = w) (hw2 : w < 2 ^ 31) : sg (sem N d) 1 zc77 (m + 1) 42 [vF (UInt32.ofNat n), vI x2, vI (nI k)] I F = if 8388608 ≤ w then some (vI (((x2 + 127) <<< ((23 : Int32) &&& 31)) ||| (nI w - 8388608)), I, F) else some (vI (nI w), I, F) := by
  obtain ⟨e1, e2⟩ := fm_w h h2
  rw [hw] at e1
  have e8 : ((8388608 : Int32) ≤ nI w) ↔ 8388608 ≤ w := by
    rw [show (8388608 : Int32) = nI 8388608 from rfl, nI_leI (by decide) hw2]
  have fin : (if (FP.fmul (UInt32.ofNat n) (1258291200 : UInt32)) &&& 0x7fffffff ≤ 0x7f800000 then (if (8388608 : Int32) ≤ (FP.f2i (FP.fmul (UInt32.ofNat n) (1258291200 : UInt32))) then some (vI (((x2 + (127 : Int32)) <<< ((23 : Int32) &&& 31)) ||| ((FP.f2i (FP.fmul (UInt32.ofNat n) (1258291200 : UInt32))) - (8388608 : Int32))), I, F) else some (vI (FP.f2i (FP.fmul (UInt32.ofNat n) (1258291200 : UInt32))), I, F)) else none) = if 8388608 ≤ w then some (vI (((x2 + 127) <<< ((23 : Int32) &&& 31)) ||| (nI w - 8388608)), I, F) else some (vI (nI w), I, F) := by
    rw [if_pos e2, e1]
    by_cases hw8 : 8388608 ≤ w
    · rw [if_pos (e8.mpr hw8), if_pos hw8]
    · rw [if_neg (fun z => hw8 (e8.mp z)), if_neg hw8]
  rw [u77_42]; unfold b77_42
  by_cases hk1 : 126 ≤ k
  · rw [if_pos (show (126 : Int32) ≤ nI k by rw [L126, nI_leI (by decide) hk2]; exact hk1)]
    exact fin
  · have h127 : 127 ≤ n / 8388608 := by omega
    have hv := fV_ge (n := n) (E := 127) (by omega) h127
    rw [if_neg (show ¬ (126 : Int32) ≤ nI k by rw [L126, nI_leI (by decide) hk2]; exact hk1), fc_n (m := 1065353216) FP.fconst1 (by decide) (by omega) (by omega), if_pos (cv_ge.mpr (by rw [show fV 1065353216 = 8388608 * 2 ^ (127 - 1) by decide]; exact hv))]
    exact fin
/-- doublings -/
theorem f77_dbl {n K : Nat} (hn : 0 < n) (hK : K ≤ 126) (hlt : ∀ k, k < K → fV (dbk n k) < 8388608 * 2 ^ 126) : ∀ j k m, k + j = K → sg (sem N d) 1 zc77 (m + j) 42 [vF (UInt32.ofNat (dbk n k)), vI (ngk k), vI (nI k)] I F = sg (sem N d) 1 zc77 m 42 [vF (UInt32.ofNat (dbk n K)), vI (ngk K), vI (nI K)] I F := by
  intro j
  induction j with
  | zero =>
    intro k m h
    rw [show k = K by omega, Nat.add_zero]
  | succ j ih =>
    intro k m h
    have hl := hlt k (by omega)
    have hs : dbk n k / 8388608 < 127 := Nat.lt_of_not_le (fun z => by
      have := fV_ge (n := dbk n k) (E := 127) (by omega) z
      omega)
    have hd : dbl (dbk n k) ≤ 2139095040 := by
      unfold dbl
      split <;> omega
    rw [show m + (j + 1) = (m + j) + 1 by omega, u77_42]; unfold b77_42
    rw [if_neg (show ¬ (126 : Int32) ≤ nI k by rw [L126, nI_leI (by decide) (by omega)]; omega), fc_n (m := 1065353216) FP.fconst1 (by decide) (by omega) (by omega), if_neg (fun z => by
      have := cv_ge.mp z
      rw [show fV 1065353216 = 8388608 * 2 ^ 126 by decide] at this
      omega), fm_2 (by omega), if_pos (nn32 hd), nI_1]
    exact ih (k + 1) m (by omega)
/-- halvings -/
theorem f77_half : ∀ j n i m, n < 2139095040 → n / 8388608 = 127 + j → i + j ≤ 127 → sg (sem N d) 1 zc77 (m + j + 1) 14 [vF (UInt32.ofNat n), vI (nI i), vI (nI i)] I F = sg (sem N d) 1 zc77 m 42 [vF (UInt32.ofNat (n - 8388608 * j)), vI (nI (i + j)), vI 0] I F := by
  intro j
  induction j with
  | zero =>
    intro n i m h1 h2 h3
    have hv := fV_lt (n := n) (E := 128) (by omega) (by omega)
    rw [Nat.add_zero, u77_14]; unfold b77_14
    rw [if_neg (show ¬ (128 : Int32) ≤ nI i by rw [L128, nI_leI (by decide) (by omega)]; omega), fc_n (m := 1073741824) FP.fconst2 (by decide) h1 (by omega), if_pos (cv_lt.mpr (by rw [show fV 1073741824 = 8388608 * 2 ^ (128 - 1) by decide]; exact hv)), Nat.mul_zero, Nat.sub_zero, Nat.add_zero]
  | succ j ih =>
    intro n i m h1 h2 h3
    have hv := fV_ge (n := n) (E := 128) (by omega) (by omega)
    rw [show m + (j + 1) + 1 = (m + j + 1) + 1 by omega, u77_14]; unfold b77_14
    rw [if_neg (show ¬ (128 : Int32) ≤ nI i by rw [L128, nI_leI (by decide) (by omega)]; omega), fc_n (m := 1073741824) FP.fconst2 (by decide) h1 (by omega), if_neg (fun z => by
      have := cv_lt.mp z
      rw [show fV 1073741824 = 8388608 * 2 ^ (128 - 1) by decide] at this
      omega), fd_2 h1 (by omega), if_pos (nn32 (by omega)), nI_1]
    rw [ih (n - 8388608) (i + 1) m (by omega) (by omega) (by omega), show n - 8388608 - 8388608 * j = n - 8388608 * (j + 1) by omega, show i + 1 + j = i + (j + 1) by omega]
theorem m77 (hN : 300 ≤ N) {n : Nat} (h : n < 2139095040) : sem N (d + 1) 77 [vF (UInt32.ofNat n)] I F = some (vI (nI n), I, F) := by
  rw [s77]; unfold b77
  rw [fc_n (m := 0) FP.fconst0 (by decide) h (by omega)]
  by_cases h0 : n = 0
  · subst h0
    rw [if_neg (fun z => absurd (cv_gt.mp z) (Nat.lt_irrefl _))]
    rfl
  have hpos : fV 0 < fV n := by
    rw [show fV 0 = 0 by decide]
    unfold fV
    split
    · omega
    · exact Nat.mul_pos (by omega) (Nat.two_pow_pos _)
  rw [if_pos (cv_gt.mpr hpos)]
  by_cases h128 : 128 ≤ n / 8388608
  · obtain ⟨j, hj⟩ : ∃ j, n / 8388608 = 127 + j := ⟨n / 8388608 - 127, by omega⟩
    obtain ⟨M, rfl⟩ : ∃ M, N = (M + 1) + j + 1 := ⟨N - j - 2, by omega⟩
    have ew : fV (n - 8388608 * j) / 2 ^ 126 = 8388608 + n % 8388608 := by
      unfold fV
      rw [if_neg (by omega), show (n - 8388608 * j) % 8388608 = n % 8388608 by omega, show (n - 8388608 * j) / 8388608 - 1 = 126 by omega, Nat.mul_div_cancel _ (Nat.two_pow_pos _)]
    have hh := f77_half (N := M + 1 + j + 1) (d := d) (I := I) (F := F) j n 0 (M + 1) h hj (by omega)
    rw [nI_0] at hh
    rw [hh, ← nI_0, f77_end (k := 0) (by omega) (by omega) (Or.inr (by omega)) (by omega) ew (by omega), if_pos (by omega), show nI (0 + j) + 127 = nI (127 + j) by rw [show (127 : Int32) = nI 127 from rfl, nI_add]; congr 1; omega, sh_23 (by omega) (by omega), show (127 + j) * 8388608 + n % 8388608 = n by omega]
  · obtain ⟨M, rfl⟩ : ∃ M, N = M + 1 := ⟨N - 1, by omega⟩
    have hlt2 : fV n < fV 1073741824 := by
      have := fV_lt (n := n) (E := 128) (by omega) (by omega)
      rw [show fV 1073741824 = 8388608 * 2 ^ (128 - 1) by decide]
      exact this
    rw [u77_14]; unfold b77_14
    rw [if_neg (by decide), fc_n (m := 1073741824) FP.fconst2 (by decide) h (by omega), if_pos (cv_lt.mpr hlt2)]
    by_cases hE : n / 8388608 = 0
    · have hfn : fV n = n := by unfold fV; rw [if_pos hE]
      have hv : ∀ k, fV (dbk n k) = 2 ^ k * n := fun k => by rw [fV_dbk, hfn]
      have ek := hv 126
      have hp126 : 2 ^ 126 * n < 8388608 * 2 ^ 126 := by
        rw [Nat.mul_comm]
        exact (Nat.mul_lt_mul_right (Nat.two_pow_pos _)).mpr (by omega)
      have hd := f77_dbl (N := M + 1) (d := d) (I := I) (F := F) (n := n) (K := 126) (by omega) (by omega) (fun k hk => by
        rw [hv]
        have : 2 ^ k * n ≤ 2 ^ 126 * n := Nat.mul_le_mul_right _ (Nat.pow_le_pow_right (by omega) (by omega))
        omega) 126 0 (M - 126) (by omega)
      rw [show M - 126 + 126 = M by omega] at hd
      have hs : dbk n 126 / 8388608 < 127 := Nat.lt_of_not_le (fun z => by
        have := fV_ge (n := dbk n 126) (E := 127) (by omega) z
        omega)
      have hs2 : 8388608 ≤ dbk n 126 := Nat.le_of_not_lt (fun z => by
        have h1 : fV (dbk n 126) = dbk n 126 := by unfold fV; rw [if_pos (by omega)]
        have h2 : 2 ^ 126 * 1 ≤ 2 ^ 126 * n := Nat.mul_le_mul_left _ (by omega)
        omega)
      have ew : fV (dbk n 126) / 2 ^ 126 = n := by
        rw [ek, Nat.mul_comm, Nat.mul_div_cancel _ (Nat.two_pow_pos _)]
      rw [show M - 126 = (M - 127) + 1 by omega] at hd
      rw [show (0 : Int32) = ngk 0 from rfl, show n = dbk n 0 from rfl]
      refine Eq.trans hd ?_
      rw [f77_end (by omega) hs2 (Or.inl (by omega)) (by omega) ew (by omega), if_neg (by omega)]
      rfl
    · have hfn : fV n = (8388608 + n % 8388608) * 2 ^ (n / 8388608 - 1) := by unfold fV; rw [if_neg hE]
      obtain ⟨K, hK⟩ : ∃ K, n / 8388608 + K = 127 := ⟨127 - n / 8388608, by omega⟩
      have hv : ∀ k, fV (dbk n k) = (8388608 + n % 8388608) * 2 ^ (n / 8388608 - 1 + k) := fun k => by
        rw [fV_dbk, hfn, Nat.pow_add, Nat.mul_comm, Nat.mul_assoc]
      have ek := hv K
      rw [show n / 8388608 - 1 + K = 126 by omega] at ek
      have hd := f77_dbl (N := M + 1) (d := d) (I := I) (F := F) (n := n) (K := K) (by omega) (by omega) (fun k hk => by
        rw [hv]
        have h1 : (8388608 + n % 8388608) * 2 ^ (n / 8388608 - 1 + k) < 16777216 * 2 ^ (n / 8388608 - 1 + k) := (Nat.mul_lt_mul_right (Nat.two_pow_pos _)).mpr (by omega)
        have h2 : 16777216 * 2 ^ (n / 8388608 - 1 + k) = 8388608 * 2 ^ (n / 8388608 + k) := by
          rw [show n / 8388608 + k = (n / 8388608 - 1 + k) + 1 by omega, Nat.pow_succ]
          omega
        have h3 : 8388608 * 2 ^ (n / 8388608 + k) ≤ 8388608 * 2 ^ 126 := Nat.mul_le_mul_left _ (Nat.pow_le_pow_right (by omega) (by omega))
        omega) K 0 (M - K) (by omega)
      rw [show M - K + K = M by omega] at hd
      have hb1 : fV (dbk n K) < 8388608 * 2 ^ 127 := by
        rw [ek]
        have h1 : (8388608 + n % 8388608) * 2 ^ 126 < 16777216 * 2 ^ 126 := (Nat.mul_lt_mul_right (Nat.two_pow_pos _)).mpr (by omega)
        omega
      have hs : dbk n K / 8388608 < 128 := Nat.lt_of_not_le (fun z => by
        have := fV_ge (n := dbk n K) (E := 128) (by omega) z
        omega)
      have hs2 : 127 ≤ dbk n K / 8388608 := Nat.le_of_not_lt (fun z => by
        have h1 := fV_lt (n := dbk n K) (E := 127) (by omega) z
        rw [ek] at h1
        have h2 : 8388608 * 2 ^ 126 ≤ (8388608 + n % 8388608) * 2 ^ 126 := Nat.mul_le_mul_right _ (by omega)
        omega)
      have ew : fV (dbk n K) / 2 ^ 126 = 8388608 + n % 8388608 := by
        rw [ek, Nat.mul_div_cancel _ (Nat.two_pow_pos _)]
      rw [show M - K = (M - K - 1) + 1 by omega] at hd
      rw [show (0 : Int32) = ngk 0 from rfl, show n = dbk n 0 from rfl]
      refine Eq.trans hd ?_
      rw [f77_end (by omega) (by omega) (Or.inr hs2) (by omega) ew (by omega), if_pos (by omega), ngk_a K (by omega), sh_23 (by omega) (by omega)]
      show some (vI (nI ((127 - K) * 8388608 + n % 8388608)), I, F) = some (vI (nI n), I, F)
      rw [show (127 - K) * 8388608 + n % 8388608 = n by omega]
theorem m306 {n : Nat} (h : n < 2139095040) : sem N (d + 2) 306 [vF (UInt32.ofNat n)] I F = some (vI (nI n), I, F) := by
  rw [s306]; unfold b306
  have e : sem N (d + 1) 305 [vF (UInt32.ofNat n)] I F = some (vI 0, I, F) := by
    rw [s305]; unfold b305
    rw [fc_n (n := n) (m := n) _ (u32_t (by omega)) h h, if_pos]
    show Op.cmpValue (some (if ((fV n : Nat) : Int) < ((fV n : Nat) : Int) then Ordering.lt else if ((fV n : Nat) : Int) = ((fV n : Nat) : Int) then Ordering.eq else Ordering.gt)) CmpOp.l = 0
    rw [if_neg (by omega), if_pos rfl]
    rfl
  rw [e, bI_v, if_pos rfl]
  rfl
end FB
