/-! MEAN: the bits of a double -/
theorem cw_l {o : Ordering} : Op.cmpValue (some o) CmpOp.l = match o with | .gt => 1 | .eq => 0 | .lt => -1 := by cases o <;> rfl
theorem cw_g {o : Ordering} : Op.cmpValue (some o) CmpOp.g = match o with | .gt => 1 | .eq => 0 | .lt => -1 := by cases o <;> rfl
theorem u64_t {n : Nat} (h : n < 18446744073709551616) : (UInt64.ofNat n).toNat = n := UInt64.toNat_ofNat_of_lt' h
theorem nn64 {n : Nat} (h : n ≤ 9218868437227405312) : (UInt64.ofNat n) &&& 0x7fffffffffffffff ≤ 0x7ff0000000000000 := by
  rw [UInt64.le_iff_toNat_le, UInt64.toNat_and, u64_t (by omega)]
  have : n &&& (0x7fffffffffffffff : UInt64).toNat ≤ n := Nat.and_le_left
  have e2 : (0x7ff0000000000000 : UInt64).toNat = 9218868437227405312 := by decide
  omega
theorem nn64s {n : Nat} (s : Bool) (h : n ≤ 9218868437227405312) : (UInt64.ofNat (sgD s + n)) &&& 0x7fffffffffffffff ≤ 0x7ff0000000000000 := by
  cases s
  · rw [show sgD false + n = n by show 0 + n = n; omega]
    exact nn64 h
  · rw [show sgD true + n = 9223372036854775808 + n from rfl, UInt64.le_iff_toNat_le, UInt64.toNat_and, u64_t (by omega), show (0x7fffffffffffffff : UInt64).toNat = 2 ^ 63 - 1 by decide, Nat.and_two_pow_sub_one_eq_mod]
    have e2 : (0x7ff0000000000000 : UInt64).toNat = 9218868437227405312 := by decide
    omega
theorem dm_2 {n : Nat} (h1 : 4503599627370496 ≤ n) (h2 : n < 9214364837600034816) : FP.dmul (UInt64.ofNat n) 4611686018427387904 = UInt64.ofNat (n + 4503599627370496) := by
  have e : FP.dmul (UInt64.ofNat n) 4611686018427387904 = UInt64.ofNat (FP.Core.mul FP.Core.b64 (UInt64.ofNat n).toNat (4611686018427387904 : UInt64).toNat) := rfl
  rw [e, u64_t (by omega), show (4611686018427387904 : UInt64).toNat = 4611686018427387904 by decide, dmul2 h1 h2]
theorem dd_2 {n : Nat} (h1 : 9007199254740992 ≤ n) (h2 : n < 9218868437227405312) : FP.ddiv (UInt64.ofNat n) 4611686018427387904 = UInt64.ofNat (n - 4503599627370496) := by
  have e : FP.ddiv (UInt64.ofNat n) 4611686018427387904 = UInt64.ofNat (FP.Core.div FP.Core.b64 (UInt64.ofNat n).toNat (4611686018427387904 : UInt64).toNat) := rfl
  rw [e, u64_t (by omega), show (4611686018427387904 : UInt64).toNat = 4611686018427387904 by decide, ddiv2 h1 h2]
theorem dm_w {n : Nat} (h : n / 4503599627370496 = 1023) : FP.d2l (FP.dmul (UInt64.ofNat n) 4841369599423283200) = Int64.ofNat (4503599627370496 + n % 4503599627370496) ∧ (FP.dmul (UInt64.ofNat n) 4841369599423283200) &&& 0x7fffffffffffffff ≤ 0x7ff0000000000000 := by
  obtain ⟨e1, e2⟩ := dwhl h
  have e3 : FP.dmul (UInt64.ofNat n) 4841369599423283200 = UInt64.ofNat (FP.Core.mul FP.Core.b64 n 4841369599423283200) := by
    have e : FP.dmul (UInt64.ofNat n) 4841369599423283200 = UInt64.ofNat (FP.Core.mul FP.Core.b64 (UInt64.ofNat n).toNat (4841369599423283200 : UInt64).toNat) := rfl
    rw [e, u64_t (by omega), show (4841369599423283200 : UInt64).toNat = 4841369599423283200 by decide]
  rw [e3]
  refine ⟨?_, nn64 (by omega)⟩
  have e4 : FP.d2l (UInt64.ofNat (FP.Core.mul FP.Core.b64 n 4841369599423283200)) = Int64.ofInt (FP.Core.toInt (-2 ^ 63) (2 ^ 63 - 1) (FP.Core.decode FP.Core.b64 (UInt64.ofNat (FP.Core.mul FP.Core.b64 n 4841369599423283200)).toNat)) := rfl
  rw [e4, u64_t (by omega), e1]
  rfl
/-- beside 2 and 1 -/
theorem dc_2 {n : Nat} (h1 : 4503599627370496 ≤ n) (h2 : n < 9218868437227405312) : (Op.cmpValue (FP.dcmp (UInt64.ofNat n) (4611686018427387904 : UInt64)) CmpOp.l < 0) ↔ n / 4503599627370496 < 1024 := by
  obtain ⟨g1, g2⟩ := dcmp_p (r := 1024) h1 h2 (by omega) (by omega)
  have e : FP.dcmp (UInt64.ofNat n) (4611686018427387904 : UInt64) = FP.Core.cmp FP.Core.b64 n (1024 * 4503599627370496) := by
    have e0 : FP.dcmp (UInt64.ofNat n) (4611686018427387904 : UInt64) = FP.Core.cmp FP.Core.b64 (UInt64.ofNat n).toNat (4611686018427387904 : UInt64).toNat := rfl
    rw [e0, u64_t (by omega), show (4611686018427387904 : UInt64).toNat = 1024 * 4503599627370496 by decide]
  rw [e]
  by_cases h : n / 4503599627370496 < 1024
  · rw [g1 h, cw_l]
    exact ⟨fun _ => h, fun _ => by decide⟩
  · rcases g2 (by omega) with z | z
    · rw [z, cw_l]
      exact ⟨fun y => absurd y (by decide), fun y => absurd y h⟩
    · rw [z, cw_l]
      exact ⟨fun y => absurd y (by decide), fun y => absurd y h⟩
theorem dc_1 {n : Nat} (h1 : 4503599627370496 ≤ n) (h2 : n < 9218868437227405312) : (0 ≤ Op.cmpValue (FP.dcmp (UInt64.ofNat n) FP.dconst1) CmpOp.g) ↔ 1023 ≤ n / 4503599627370496 := by
  obtain ⟨g1, g2⟩ := dcmp_p (r := 1023) h1 h2 (by omega) (by omega)
  have e : FP.dcmp (UInt64.ofNat n) FP.dconst1 = FP.Core.cmp FP.Core.b64 n (1023 * 4503599627370496) := by
    have e0 : FP.dcmp (UInt64.ofNat n) FP.dconst1 = FP.Core.cmp FP.Core.b64 (UInt64.ofNat n).toNat FP.dconst1.toNat := rfl
    rw [e0, u64_t (by omega), show FP.dconst1.toNat = 1023 * 4503599627370496 by decide]
  rw [e]
  by_cases h : n / 4503599627370496 < 1023
  · rw [g1 h, cw_g]
    exact ⟨fun y => absurd y (by decide), fun y => by omega⟩
  · rcases g2 (by omega) with z | z
    · rw [z, cw_g]
      exact ⟨fun _ => by omega, fun _ => by decide⟩
    · rw [z, cw_g]
      exact ⟨fun _ => by omega, fun _ => by decide⟩
theorem dc_0 {n : Nat} (h1 : 4503599627370496 ≤ n) (h2 : n < 9218868437227405312) (s : Bool) : FP.dcmp (UInt64.ofNat (sgD s + n)) FP.dconst0 = some (if s then .lt else .gt) := by
  have hs : sgD s ≤ 9223372036854775808 := by cases s <;> decide
  have e0 : FP.dcmp (UInt64.ofNat (sgD s + n)) FP.dconst0 = FP.Core.cmp FP.Core.b64 (UInt64.ofNat (sgD s + n)).toNat FP.dconst0.toNat := rfl
  rw [e0, u64_t (by omega), show FP.dconst0.toNat = 0 by decide, dcmp_0 h1 h2]
theorem or_63 {n : Nat} (h : n < 9223372036854775808) : BitVec.ofNat 64 n ||| BitVec.ofNat 64 9223372036854775808 = BitVec.ofNat 64 (9223372036854775808 + n) := by
  apply BitVec.eq_of_toNat_eq
  rw [BitVec.toNat_or, BitVec.toNat_ofNat, BitVec.toNat_ofNat, BitVec.toNat_ofNat, Nat.mod_eq_of_lt (a := n) (by omega), Nat.mod_eq_of_lt (a := 9223372036854775808) (by omega), Nat.mod_eq_of_lt (a := 9223372036854775808 + n) (by omega), Nat.or_comm, show 9223372036854775808 = 1 <<< 63 by decide, ← Nat.shiftLeft_add_eq_or_of_lt (by omega)]
theorem dn_n {n : Nat} (h1 : 4503599627370496 ≤ n) (h2 : n < 9218868437227405312) : FP.dneg (UInt64.ofNat (9223372036854775808 + n)) = UInt64.ofNat n := by
  rw [← UInt64.toBitVec_inj]
  show BitVec.ofNat 64 (9223372036854775808 + n) ^^^ BitVec.ofNat 64 9223372036854775808 = BitVec.ofNat 64 n
  rw [← or_63 (by omega)]
  have h63 : (BitVec.ofNat 64 n).getLsbD 63 = false := by
    rw [BitVec.getLsbD_ofNat]
    have : n.testBit 63 = false := Nat.testBit_lt_two_pow (by omega)
    simp [this]
  have ht : BitVec.ofNat 64 9223372036854775808 = BitVec.twoPow 64 63 := by decide
  rw [ht]
  generalize BitVec.ofNat 64 n = x at h63
  apply BitVec.eq_of_getLsbD_eq
  intro i hi
  rw [BitVec.getLsbD_xor, BitVec.getLsbD_or, BitVec.getLsbD_twoPow]
  by_cases e : 63 = i
  · subst e
    rw [h63]
    decide
  · simp [e]
def lgk : Nat → Int64
  | 0 => 0
  | k + 1 => lgk k - 1
theorem lgk_a : ∀ k, k ≤ 1023 → lgk k + 1023 = Int64.ofNat (1023 - k) := by
  intro k
  induction k with
  | zero => intro _; rfl
  | succ k ih =>
    intro hk
    show lgk k - 1 + 1023 = _
    rw [Int64.sub_eq_add_neg, Int64.add_assoc, Int64.add_comm (-1) 1023, ← Int64.add_assoc, ih (by omega), ← Int64.sub_eq_add_neg, show 1023 - k = (1023 - (k + 1)) + 1 by omega, Int64.ofNat_add]
    exact Int64.add_sub_cancel _ _
theorem lo_1 (j : Nat) : Int64.ofNat j + 1 = Int64.ofNat (j + 1) := (Int64.ofNat_add j 1).symm
theorem sh_52 {E T : Nat} (hE : E < 2047) (hT : T < 4503599627370496) : ((Int64.ofNat E) <<< (((52 : Int32)).toInt64 &&& 63)) ||| (Int64.ofNat (4503599627370496 + T) - 4503599627370496) = (UInt64.ofNat (E * 4503599627370496 + T)).toInt64 := by
  have e1 : Int64.ofNat (4503599627370496 + T) - 4503599627370496 = Int64.ofNat T := by
    rw [show 4503599627370496 + T = T + 4503599627370496 by omega, Int64.ofNat_add]
    exact Int64.add_sub_cancel _ _
  rw [e1, ← Int64.toBitVec_inj]
  show (BitVec.ofNat 64 E <<< 52) ||| BitVec.ofNat 64 T = BitVec.ofNat 64 (E * 4503599627370496 + T)
  apply BitVec.eq_of_toNat_eq
  rw [BitVec.toNat_or, BitVec.toNat_shiftLeft, BitVec.toNat_ofNat, BitVec.toNat_ofNat, BitVec.toNat_ofNat, Nat.mod_eq_of_lt (a := E) (by omega), Nat.mod_eq_of_lt (a := T) (by omega), Nat.mod_eq_of_lt (a := E <<< 52) (by rw [Nat.shiftLeft_eq]; omega), ← Nat.shiftLeft_add_eq_or_of_lt (by omega), Nat.shiftLeft_eq, Nat.mod_eq_of_lt (by omega)]
theorem sg_63 {n : Nat} (h : n < 9223372036854775808) : ((UInt64.ofNat n).toInt64) ||| (-9223372036854775808 : Int64) = (UInt64.ofNat (9223372036854775808 + n)).toInt64 := by
  rw [← Int64.toBitVec_inj]
  exact or_63 h
section DB
variable {N d : Nat} {I : IM} {F : FM}
theorem d78_end {n0 n k m : Nat} {s : Bool} {x4 : Int64} {E : Nat} (h01 : 4503599627370496 ≤ n0) (h02 : n0 < 9218868437227405312) (h : n / 4503599627370496 = 1023) (hk : k < 1022) (hx : x4 + 1023 = Int64.ofNat E) (hE : E < 2047) (hn0 : E * 4503599627370496 + n % 4503599627370496 = n0) : sg (sem N d) 2 zc78 (m + 1) 64 [vD (UInt64.ofNat (sgD s + n0)), vD (UInt64.ofNat n), vL x4, vI (nI k)] I F = some (vL (UInt64.ofNat (sgD s + n0)).toInt64, I, F) := by
  obtain ⟨e1, e2⟩ := dm_w h
  rw [u78_64]; unfold b78_64
  rw [if_neg (show ¬ (1022 : Int32) ≤ nI k from nI_ge hk (by decide)), if_pos ((dc_1 (by omega) (by omega)).mpr (by omega)), if_pos e2, e1, dc_0 h01 h02, cw_g, hx, sh_52 hE (by omega), hn0]
  cases s
  · rw [if_pos (by decide), show sgD false + n0 = n0 by show 0 + n0 = n0; omega]
  · rw [if_neg (by decide), sg_63 (by omega)]
    rfl
theorem d78_dbl {x : UInt64} : ∀ j n k m, n / 4503599627370496 + j = 1023 → 0 < n / 4503599627370496 → k + j < 1022 → sg (sem N d) 2 zc78 (m + j) 64 [vD x, vD (UInt64.ofNat n), vL (lgk k), vI (nI k)] I F = sg (sem N d) 2 zc78 m 64 [vD x, vD (UInt64.ofNat (n + 4503599627370496 * j)), vL (lgk (k + j)), vI (nI (k + j))] I F := by
  intro j
  induction j with
  | zero =>
    intro n k m h1 h2 h3
    rw [Nat.mul_zero, Nat.add_zero, Nat.add_zero, Nat.add_zero]
  | succ j ih =>
    intro n k m h1 h2 h3
    rw [show m + (j + 1) = (m + j) + 1 by omega, u78_64]; unfold b78_64
    rw [if_neg (show ¬ (1022 : Int32) ≤ nI k from nI_ge (show k < 1022 by omega) (by decide)), if_neg (fun z => by have := (dc_1 (by omega) (by omega)).mp z; omega), dm_2 (by omega) (by omega), if_pos (nn64 (by omega)), nI_1]
    have hh := ih (n + 4503599627370496) (k + 1) m (by omega) (by omega) (by omega)
    rw [show n + 4503599627370496 + 4503599627370496 * j = n + 4503599627370496 * (j + 1) by omega, show k + 1 + j = k + (j + 1) by omega] at hh
    exact hh
theorem d78_half {x : UInt64} : ∀ j n i m, n < 9218868437227405312 → n / 4503599627370496 = 1023 + j → i + j < 1023 → sg (sem N d) 2 zc78 (m + j + 1) 27 [vD x, vD (UInt64.ofNat n), vL (Int64.ofNat i), vI (nI i)] I F = sg (sem N d) 2 zc78 m 64 [vD x, vD (UInt64.ofNat (n - 4503599627370496 * j)), vL (Int64.ofNat (i + j)), vI 0] I F := by
  intro j
  induction j with
  | zero =>
    intro n i m h1 h2 h3
    rw [Nat.add_zero, u78_27]; unfold b78_27
    rw [if_neg (show ¬ (1023 : Int32) ≤ nI i from nI_ge (show i < 1023 by omega) (by decide)), if_pos ((dc_2 (by omega) h1).mpr (by omega)), Nat.mul_zero, Nat.sub_zero, Nat.add_zero]
  | succ j ih =>
    intro n i m h1 h2 h3
    rw [show m + (j + 1) + 1 = (m + j + 1) + 1 by omega, u78_27]; unfold b78_27
    rw [if_neg (show ¬ (1023 : Int32) ≤ nI i from nI_ge (show i < 1023 by omega) (by decide)), if_neg (fun z => by have := (dc_2 (by omega) h1).mp z; omega), dd_2 (by omega) h1, if_pos (nn64 (by omega)), nI_1, lo_1]
    rw [ih (n - 4503599627370496) (i + 1) m (by omega) (by omega) (by omega), show n - 4503599627370496 - 4503599627370496 * j = n - 4503599627370496 * (j + 1) by omega, show i + 1 + j = i + (j + 1) by omega]
theorem m78 (hN : 3000 ≤ N) {n : Nat} (s : Bool) (h1 : 4503599627370496 * 900 ≤ n) (h2 : n < 4503599627370496 * 1100) : sem N (d + 1) 78 [vD (UInt64.ofNat (sgD s + n))] I F = some (vL (UInt64.ofNat (sgD s + n)).toInt64, I, F) := by
  rw [s78]; unfold b78
  have e27 : (if (Op.cmpValue (FP.dcmp (UInt64.ofNat (sgD s + n)) FP.dconst0) CmpOp.l) = 0 then some (vL (0 : Int64), I, F) else (if 0 ≤ (Op.cmpValue (FP.dcmp (UInt64.ofNat (sgD s + n)) FP.dconst0) CmpOp.g) then (sg (sem N d) 2 zc78 N 27 [vD (UInt64.ofNat (sgD s + n)), vD (UInt64.ofNat (sgD s + n)), vL (0 : Int64), vI (0 : Int32)] I F) else (sg (sem N d) 2 zc78 N 27 [vD (UInt64.ofNat (sgD s + n)), vD (FP.dneg (UInt64.ofNat (sgD s + n))), vL (0 : Int64), vI (0 : Int32)] I F))) = sg (sem N d) 2 zc78 N 27 [vD (UInt64.ofNat (sgD s + n)), vD (UInt64.ofNat n), vL (0 : Int64), vI (0 : Int32)] I F := by
    rw [dc_0 (by omega) (by omega), cw_l, cw_g]
    cases s
    · rw [if_neg (by decide), if_pos (by decide), show sgD false + n = n by show 0 + n = n; omega]
    · rw [if_neg (by decide), if_neg (by decide)]
      have := dn_n (n := n) (by omega) (by omega)
      rw [show sgD true + n = 9223372036854775808 + n from rfl, this]
  refine Eq.trans e27 ?_
  by_cases hE : 1023 ≤ n / 4503599627370496
  · obtain ⟨j, hj⟩ : ∃ j, n / 4503599627370496 = 1023 + j := ⟨n / 4503599627370496 - 1023, by omega⟩
    obtain ⟨M, rfl⟩ : ∃ M, N = (M + 1) + j + 1 := ⟨N - j - 2, by omega⟩
    refine Eq.trans (d78_half (N := M + 1 + j + 1) (d := d) (I := I) (F := F) (x := UInt64.ofNat (sgD s + n)) j n 0 (M + 1) (by omega) hj (by omega)) ?_
    exact d78_end (k := 0) (E := 1023 + j) (by omega) (by omega) (by omega) (by omega) (by rw [Nat.zero_add, show (1023 : Int64) = Int64.ofNat 1023 from rfl, ← Int64.ofNat_add, Nat.add_comm]) (by omega) (by omega)
  · obtain ⟨K, hK⟩ : ∃ K, n / 4503599627370496 + K = 1023 := ⟨1023 - n / 4503599627370496, by omega⟩
    obtain ⟨M, rfl⟩ : ∃ M, N = ((M + 1) + K) + 1 := ⟨N - K - 2, by omega⟩
    rw [u78_27]; unfold b78_27
    rw [if_neg (by decide), if_pos ((dc_2 (by omega) (by omega)).mpr (by omega))]
    refine Eq.trans (d78_dbl (N := M + 1 + K + 1) (d := d) (I := I) (F := F) (x := UInt64.ofNat (sgD s + n)) K n 0 (M + 1) (by omega) (by omega) (by omega)) ?_
    exact d78_end (E := 1023 - (0 + K)) (by omega) (by omega) (by omega) (by omega) (lgk_a _ (by omega)) (by omega) (by omega)
theorem m304 {n : Nat} (s : Bool) (h1 : 4503599627370496 ≤ n) (h2 : n < 9218868437227405312) : sem N (d + 2) 304 [vD (UInt64.ofNat (sgD s + n))] I F = some (vL (UInt64.ofNat (sgD s + n)).toInt64, I, F) := by
  have hs : sgD s ≤ 9223372036854775808 := by cases s <;> decide
  rw [s304]; unfold b304
  have e : sem N (d + 1) 303 [vD (UInt64.ofNat (sgD s + n))] I F = some (vI 0, I, F) := by
    rw [s303]; unfold b303
    have e0 : FP.dcmp (UInt64.ofNat (sgD s + n)) (UInt64.ofNat (sgD s + n)) = FP.Core.cmp FP.Core.b64 (UInt64.ofNat (sgD s + n)).toNat (UInt64.ofNat (sgD s + n)).toNat := rfl
    have e1 : FP.Core.cmp FP.Core.b64 (sgD s + n) (sgD s + n) = some .eq := by
      unfold FP.Core.cmp
      rw [dec_n h1 h2]
      obtain ⟨c, hc⟩ : ∃ c, 4503599627370496 + n % 4503599627370496 = c := ⟨_, rfl⟩
      obtain ⟨q, hq⟩ : ∃ q : Int, ((n / 4503599627370496 : Nat) - 1075 : Int) = q := ⟨_, rfl⟩
      rw [hc, hq]
      show some (compare (FP.Core.signed s (FP.Core.inUnits c q (min q q))) (FP.Core.signed s (FP.Core.inUnits c q (min q q)))) = some .eq
      congr 1
      generalize FP.Core.signed s (FP.Core.inUnits c q (min q q)) = z
      show (if z < z then Ordering.lt else if z = z then Ordering.eq else Ordering.gt) = Ordering.eq
      rw [if_neg (Int.lt_irrefl z), if_pos rfl]
    rw [e0, u64_t (by omega), e1, cw_l, if_pos rfl]
  rw [e, bI_v, if_pos rfl]
theorem m304z : sem N (d + 2) 304 [vD FP.dconst0] I F = some (vL 0, I, F) := by
  rw [s304]; unfold b304
  have e : sem N (d + 1) 303 [vD FP.dconst0] I F = some (vI 0, I, F) := by
    rw [s303]; unfold b303
    rw [if_pos (by decide +kernel)]
  rw [e, bI_v, if_pos rfl]
  rfl
end DB
/-- sums of numbers -/
def sZ (f : Nat → Int32) : Nat → Int
  | 0 => 0
  | k + 1 => sZ f k + (f k).toInt
theorem sZ_b (f : Nat → Int32) : ∀ k, (sZ f k).natAbs ≤ 2147483648 * k := by
  intro k
  induction k with
  | zero => exact Nat.le_refl _
  | succ k ih =>
    show (sZ f k + (f k).toInt).natAbs ≤ _
    have h1 := i_lo (f k)
    have h2 := i_hi (f k)
    omega
theorem sZ_c {f g : Nat → Int32} : ∀ {k : Nat}, (∀ i, i < k → f i = g i) → sZ f k = sZ g k := by
  intro k
  induction k with
  | zero => intro _; rfl
  | succ k ih =>
    intro h
    show sZ f k + (f k).toInt = sZ g k + (g k).toInt
    rw [ih (fun i hi => h i (by omega)), h k (by omega)]
def dU (z : Int) : UInt64 := UInt64.ofNat (dZ z)
theorem dZ_s {z : Int} (h : z.natAbs < 9007199254740992) : dZ z = 0 ∨ ∃ s n, dZ z = sgD s + n ∧ 4503599627370496 ≤ n ∧ n < 4503599627370496 * 1100 := by
  by_cases h0 : z = 0
  · exact Or.inl (by rw [h0, dZ_0])
  · obtain ⟨b1, b2, b3⟩ := big_d (a := z.natAbs) (by omega) h
    exact Or.inr ⟨_, _, (dZ_z h0 h).1, by omega, by omega⟩
theorem dU_n {z : Int} (h : z.natAbs < 9007199254740992) : dU z &&& 0x7fffffffffffffff ≤ 0x7ff0000000000000 := by
  unfold dU
  rcases dZ_s h with e | ⟨s, n, e, h1, h2⟩
  · rw [e]
    exact nn64 (by omega)
  · rw [e]
    exact nn64s s (by omega)
theorem dU_t {z : Int} (h : z.natAbs < 9007199254740992) : (dU z).toNat = dZ z := by
  unfold dU
  rcases dZ_s h with e | ⟨s, n, e, h1, h2⟩
  · rw [e, u64_t (by omega)]
  · have hs : sgD s ≤ 9223372036854775808 := by cases s <;> decide
    rw [e, u64_t (by omega)]
theorem dU_0 : dU 0 = FP.dconst0 := by decide +kernel
theorem dU_i (x : Int32) : FP.i2d x = dU x.toInt := rfl
theorem dU_add {a b : Int} (ha : a.natAbs < 9007199254740992) (hb : b.natAbs < 9007199254740992) (hab : (a + b).natAbs < 9007199254740992) : FP.dadd (dU a) (dU b) = dU (a + b) := by
  have e : FP.dadd (dU a) (dU b) = UInt64.ofNat (FP.Core.add FP.Core.b64 (dU a).toNat (dU b).toNat) := rfl
  rw [e, dU_t ha, dU_t hb, add_d ha hb hab]
  rfl
theorem dU_div {S : Int} {n : Nat} (hS : S ≠ 0) (hS2 : S.natAbs ≤ 137438953472) (hn : 0 < n) (hn2 : n ≤ 40) : ∃ m, 4503599627370496 * 900 ≤ m ∧ m < 4503599627370496 * 1100 ∧ FP.ddiv (dU S) (FP.i2d (nI n)) = UInt64.ofNat (sgD (decide (S < 0)) + m) := by
  obtain ⟨m, h1, h2, h3⟩ := mean_x hS hS2 hn hn2
  refine ⟨m, h1, h2, ?_⟩
  have e : FP.ddiv (dU S) (FP.i2d (nI n)) = UInt64.ofNat (FP.Core.div FP.Core.b64 (dU S).toNat (FP.i2d (nI n)).toNat) := rfl
  rw [e, dU_i, i_nI (by omega), dU_t (by omega), dU_t (by omega), h3]
theorem dU_div0 {n : Nat} (hn : 0 < n) (hn2 : n ≤ 40) : FP.ddiv (dU 0) (FP.i2d (nI n)) = FP.dconst0 := by
  have h : ∀ k, k < 40 → FP.ddiv (dU 0) (FP.i2d (nI (k + 1))) = FP.dconst0 := by decide +kernel
  obtain ⟨k, rfl⟩ : ∃ k, n = k + 1 := ⟨n - 1, by omega⟩
  exact h k (by omega)
section MN
variable {N d n : Nat} {I : IM} {F : FM}
def mnV (f : Nat → Int32) (n : Nat) : UInt64 := if n = 0 then FP.dconst0 else FP.ddiv (dU (sZ f n)) (FP.i2d (nI n))
theorem mnV_ok (f : Nat → Int32) (hn : n ≤ 40) : mnV f n = FP.dconst0 ∨ ∃ s m, mnV f n = UInt64.ofNat (sgD s + m) ∧ 4503599627370496 * 900 ≤ m ∧ m < 4503599627370496 * 1100 := by
  unfold mnV
  by_cases h0 : n = 0
  · rw [if_pos h0]; exact Or.inl rfl
  · rw [if_neg h0]
    have hb := sZ_b f n
    by_cases hz : sZ f n = 0
    · rw [hz, dU_div0 (by omega) hn]; exact Or.inl rfl
    · obtain ⟨m, h1, h2, h3⟩ := dU_div (n := n) hz (by omega) (by omega) hn
      exact Or.inr ⟨_, m, h3, h1, h2⟩
theorem mnV_n (f : Nat → Int32) (hn : n ≤ 40) : mnV f n &&& 0x7fffffffffffffff ≤ 0x7ff0000000000000 := by
  rcases mnV_ok f hn with e | ⟨s, m, e, h1, h2⟩
  · rw [e]; decide
  · rw [e]; exact nn64s s (by omega)
theorem m26 (hN : 50 ≤ N) (hs : I 2 4 2 = nI n) (hn : n ≤ 40) : sem N (d + 1) 26 [vR (some (2, 4))] I F = some (vD (mnV (I 2 6) n), I, F) := by
  have h26 := s26v0 N d 0 I F
  rw [h26]; unfold b26
  have hlp := lp (S := fun m c => sg (sem N d) 4 zc26 m 4 [vR (some (0 + 2, 4)), vD (dU (sZ (I 2 6) c)), vI (nI c)] I F) (T := some (vD (mnV (I 2 6) n), I, F)) (m := n) ?_ ?_ n 0 N (by omega) (by omega)
  · try dsimp only at hlp
    rw [show sZ (I 2 6) 0 = 0 from rfl, dU_0] at hlp
    exact hlp
  · intro m c hc
    try dsimp only
    have hb := sZ_b (I 2 6) c
    have hb2 := sZ_b (I 2 6) (c + 1)
    have hb3 : (sZ (I 2 6) c + (I 2 6 c).toInt).natAbs < 9007199254740992 := by
      have e3 : sZ (I 2 6) (c + 1) = sZ (I 2 6) c + (I 2 6 c).toInt := rfl
      rw [e3] at hb2
      generalize (sZ (I 2 6) c + (I 2 6 c).toInt).natAbs = w at hb2
      omega
    have hb4 : (sZ (I 2 6) (c + 1)).natAbs < 9007199254740992 := hb3
    have hb5 : (sZ (I 2 6) c).natAbs < 9007199254740992 := by
      generalize (sZ (I 2 6) c).natAbs = w at hb
      omega
    have h1 := i_lo (I 2 6 c)
    have h2 := i_hi (I 2 6 c)
    have ic : inb (nI c) 40 := inb_nI (by omega) (by decide)
    have cc : (nI c).toNatClampNeg = c := nI_clamp (by omega)
    rw [u26v0_4]; unfold b26_4
    rw [show I (0 + 2) 4 2 = nI n from hs, if_neg (nI_ge hc (by omega)), if_neg (show ¬ (40 : Int32) ≤ nI c from nI_ge (show c < 40 by omega) (by decide))]
    simp only [eq_true ic, ↓reduceIte, cc]
    rw [show I (0 + 2) (4 + 2) c = I 2 6 c from rfl, dU_i, dU_add hb5 (by omega) hb3, show sZ (I 2 6) c + (I 2 6 c).toInt = sZ (I 2 6) (c + 1) from rfl, if_pos (dU_n hb4), nI_1]
  · intro m
    try dsimp only
    rw [u26v0_4]; unfold b26_4
    rw [show I (0 + 2) 4 2 = nI n from hs, if_pos (nI_le (Nat.le_refl _) (by omega))]
    by_cases h0 : n = 0
    · subst h0
      rw [if_neg (by decide)]
      rfl
    · have e : mnV (I 2 6) n = FP.ddiv (dU (sZ (I 2 6) n)) (FP.i2d (nI n)) := if_neg h0
      rw [if_pos ((nI_gt0 (by omega)).mpr (by omega)), ← e, if_pos (mnV_n _ hn)]
theorem l297 (hN : 50 ≤ N) (hs : I 1 2 11 = nI n) (hn : n ≤ 40) {x : Int64} (hx : ∀ (J : IM), sem N d 304 [vD (mnV (fun i => I 1 2 (20 + 2 * i + 1)) n)] J F = some (vL x, J, F)) : sg (sem N d) 2 zc297 N 9 [vR (some (1, 0)), vD FP.dconst0, vI 0] I F = some (vL x, I, F) := by
  have hlp := lp (S := fun m c => sg (sem N d) 2 zc297 m 9 [vR (some (1, 0)), vD (dU (sZ (fun i => I 1 2 (20 + 2 * i + 1)) c)), vI (nI c)] I F) (T := some (vL x, I, F)) (m := n) ?_ ?_ n 0 N (by omega) (by omega)
  · try dsimp only at hlp
    rw [show sZ (fun i => I 1 2 (20 + 2 * i + 1)) 0 = 0 from rfl, dU_0] at hlp
    exact hlp
  · intro m c hc
    try dsimp only
    have hb := sZ_b (fun i => I 1 2 (20 + 2 * i + 1)) c
    have hb2 := sZ_b (fun i => I 1 2 (20 + 2 * i + 1)) (c + 1)
    have hb3 : (sZ (fun i => I 1 2 (20 + 2 * i + 1)) c + (I 1 2 (20 + 2 * c + 1)).toInt).natAbs < 9007199254740992 := by
      have e3 : sZ (fun i => I 1 2 (20 + 2 * i + 1)) (c + 1) = sZ (fun i => I 1 2 (20 + 2 * i + 1)) c + (I 1 2 (20 + 2 * c + 1)).toInt := rfl
      rw [e3] at hb2
      generalize (sZ (fun i => I 1 2 (20 + 2 * i + 1)) c + (I 1 2 (20 + 2 * c + 1)).toInt).natAbs = w at hb2
      omega
    have hb4 : (sZ (fun i => I 1 2 (20 + 2 * i + 1)) (c + 1)).natAbs < 9007199254740992 := hb3
    have hb5 : (sZ (fun i => I 1 2 (20 + 2 * i + 1)) c).natAbs < 9007199254740992 := by
      generalize (sZ (fun i => I 1 2 (20 + 2 * i + 1)) c).natAbs = w at hb
      omega
    have h1 := i_lo (I 1 2 (20 + 2 * c + 1))
    have h2 := i_hi (I 1 2 (20 + 2 * c + 1))
    have e0 : (20 : Int32) + 2 * nI c = nI (20 + 2 * c) := by rw [L20, L2, nI_mul, nI_add]
    have i1 : inb (nI (20 + 2 * c + 1)) 406 := inb_nI (by omega) (by decide)
    have c1 : (nI (20 + 2 * c + 1)).toNatClampNeg = 20 + 2 * c + 1 := nI_clamp (by omega)
    rw [u297_9]; unfold b297_9
    rw [hs, if_neg (nI_ge hc (by omega))]
    simp only [e0, nI_1, eq_true i1, ↓reduceIte, c1]
    rw [dU_i, dU_add hb5 (by omega) hb3, show sZ (fun i => I 1 2 (20 + 2 * i + 1)) c + (I 1 2 (20 + 2 * c + 1)).toInt = sZ (fun i => I 1 2 (20 + 2 * i + 1)) (c + 1) from rfl, if_pos (dU_n hb4)]
  · intro m
    try dsimp only
    rw [u297_9]; unfold b297_9
    rw [hs, if_pos (nI_le (Nat.le_refl _) (by omega))]
    by_cases h0 : n = 0
    · subst h0
      have e : mnV (fun i => I 1 2 (20 + 2 * i + 1)) 0 = FP.dconst0 := if_pos rfl
      rw [e] at hx
      rw [if_pos (by decide), hx, bL_v]
    · have e : mnV (fun i => I 1 2 (20 + 2 * i + 1)) n = FP.ddiv (dU (sZ (fun i => I 1 2 (20 + 2 * i + 1)) n)) (FP.i2d (nI n)) := if_neg h0
      rw [if_neg (nI_ne0 (by omega) (by omega)), ← e, if_pos (mnV_n _ hn), hx, bL_v]
end MN
theorem m78z {N d : Nat} {I : IM} {F : FM} : sem N (d + 1) 78 [vD FP.dconst0] I F = some (vL 0, I, F) := by
  rw [s78]; unfold b78
  rw [if_pos (by decide +kernel)]
theorem st151 : StpL InvC 151 297 0 := by
  intro as I F hl hI
  obtain rfl := len0 hl
  simp only [List.map_nil]
  obtain ⟨nl, nc, nk, nx, np, na, ns, hR⟩ := hI.1
  obtain ⟨g1, g2, g3, g4⟩ := hR.2.2.1
  have eV : mnV (fun i => wI I 1 0 0 0 1 2 (20 + 2 * i + 1)) nl = mnV (I 2 6) nl := by
    unfold mnV
    rw [sZ_c (g := I 2 6) (fun i hi => by rw [w0_12]; exact (g4 i hi).2.1.symm)]
  have hfin : ∃ x : Int64, (∀ J : IM, sem zN 8 78 [vD (mnV (I 2 6) nl)] J F = some (vL x, J, F)) ∧ (∀ J : IM, sem zN 8 304 [vD (mnV (I 2 6) nl)] J F = some (vL x, J, F)) := by
    rcases mnV_ok (I 2 6) g3 with e | ⟨s, m, e, h1, h2⟩
    · rw [e]
      exact ⟨0, fun J => m78z, fun J => m304z⟩
    · rw [e]
      exact ⟨_, fun J => m78 (by decide) s h1 h2, fun J => m304 s (by omega) (by omega)⟩
  obtain ⟨x, hx1, hx2⟩ := hfin
  refine ⟨x, I, F, wI I 1 0 0 0, F, ?_, ?_, Inv_sm hI (sm_0 sm_rfl)⟩
  · rw [s151]; unfold b151
    rw [m26 (by decide) g1 g3, bD_v, hx1, bL_v]
  · rw [s297]; unfold b297
    dsimp only
    exact l297 (by decide) (by rw [w0_12, g2]) g3 (fun J => by rw [eV]; exact hx2 J)
