/-! GUESS: MIX turned round; LOCKED -/
def rotL (b : Int32) : Int32 := (b <<< ((7 : Int32) &&& 31)) ||| ((b).toUInt32 >>> (((25 : Int32)).toUInt32 &&& Int32.toUInt32 31)).toInt32
def rotR (b : Int32) : Int32 := ((b).toUInt32 >>> (((7 : Int32)).toUInt32 &&& Int32.toUInt32 31)).toInt32 ||| (b <<< ((25 : Int32) &&& 31))
def xs (x : Int32) : Int32 := x ^^^ ((x).toUInt32 >>> (((15 : Int32)).toUInt32 &&& Int32.toUInt32 31)).toInt32
def xt (x : Int32) : Int32 := (x ^^^ ((x).toUInt32 >>> (((15 : Int32)).toUInt32 &&& Int32.toUInt32 31)).toInt32) ^^^ ((x).toUInt32 >>> (((30 : Int32)).toUInt32 &&& Int32.toUInt32 31)).toInt32
theorem xs_b (x : Int32) : (xs x).toBitVec = x.toBitVec ^^^ (x.toBitVec >>> 15) := rfl
theorem xt_b (x : Int32) : (xt x).toBitVec = (x.toBitVec ^^^ (x.toBitVec >>> 15)) ^^^ (x.toBitVec >>> 30) := rfl
theorem rL_b (x : Int32) : (rotL x).toBitVec = (x.toBitVec <<< 7) ||| (x.toBitVec >>> 25) := rfl
theorem rR_b (x : Int32) : (rotR x).toBitVec = (x.toBitVec >>> 7) ||| (x.toBitVec <<< 25) := rfl
theorem xt_xs (x : Int32) : xt (xs x) = x := by
  rw [← Int32.toBitVec_inj, xt_b, xs_b]
  apply BitVec.eq_of_getLsbD_eq
  intro i hi
  simp only [BitVec.getLsbD_xor, BitVec.getLsbD_ushiftRight]
  have h : x.toBitVec.getLsbD (15 + (30 + i)) = false := BitVec.getLsbD_of_ge _ _ (by omega)
  have e1 : 15 + (15 + i) = 30 + i := by omega
  rw [h, e1]
  cases x.toBitVec.getLsbD i <;> cases x.toBitVec.getLsbD (15 + i) <;> cases x.toBitVec.getLsbD (30 + i) <;> rfl
theorem xs_xt (x : Int32) : xs (xt x) = x := by
  rw [← Int32.toBitVec_inj, xs_b, xt_b]
  apply BitVec.eq_of_getLsbD_eq
  intro i hi
  simp only [BitVec.getLsbD_xor, BitVec.getLsbD_ushiftRight]
  have h : x.toBitVec.getLsbD (30 + (15 + i)) = false := BitVec.getLsbD_of_ge _ _ (by omega)
  have e1 : 15 + (15 + i) = 30 + i := by omega
  rw [h, e1]
  cases x.toBitVec.getLsbD i <;> cases x.toBitVec.getLsbD (15 + i) <;> cases x.toBitVec.getLsbD (30 + i) <;> rfl
theorem rR_rL (x : Int32) : rotR (rotL x) = x := by
  rw [← Int32.toBitVec_inj, rR_b, rL_b]
  apply BitVec.eq_of_getLsbD_eq
  intro i hi
  simp only [BitVec.getLsbD_or, BitVec.getLsbD_ushiftRight, BitVec.getLsbD_shiftLeft]
  by_cases h : i < 25
  · have a1 : 7 + i < 32 := by omega
    have a2 : ¬ 7 + i < 7 := by omega
    have a3 : 7 + i - 7 = i := by omega
    have a4 : x.toBitVec.getLsbD (25 + (7 + i)) = false := BitVec.getLsbD_of_ge _ _ (by omega)
    simp [a1, a2, a3, a4, h]
  · have a1 : ¬ 7 + i < 32 := by omega
    have a2 : i - 25 < 7 := by omega
    have a3 : 25 + (i - 25) = i := by omega
    have a4 : x.toBitVec.getLsbD (25 + (7 + i)) = false := BitVec.getLsbD_of_ge _ _ (by omega)
    simp [a1, a2, a3, a4, h, hi]
theorem rL_rR (x : Int32) : rotL (rotR x) = x := by
  rw [← Int32.toBitVec_inj, rL_b, rR_b]
  apply BitVec.eq_of_getLsbD_eq
  intro i hi
  simp only [BitVec.getLsbD_or, BitVec.getLsbD_ushiftRight, BitVec.getLsbD_shiftLeft]
  by_cases h : i < 7
  · have a1 : 25 + i < 32 := by omega
    have a2 : 25 + i - 25 = i := by omega
    have a3 : ¬ 25 + i < 25 := by omega
    have a4 : x.toBitVec.getLsbD (7 + (25 + i)) = false := BitVec.getLsbD_of_ge _ _ (by omega)
    simp [a1, a2, a3, a4, h, hi]
  · have a1 : i - 7 < 25 := by omega
    have a2 : 7 + (i - 7) = i := by omega
    have a3 : ¬ 25 + i < 32 := by omega
    have a4 : x.toBitVec.getLsbD (7 + (25 + i)) = false := BitVec.getLsbD_of_ge _ _ (by omega)
    simp [a1, a2, a3, a4, h, hi]
theorem mu1 (x : Int32) : (x * (-1640531535 : Int32)) * (244002641 : Int32) = x := by
  rw [Int32.mul_assoc, show (-1640531535 : Int32) * 244002641 = 1 by decide, Int32.mul_one]
theorem mu2 (x : Int32) : (x * (244002641 : Int32)) * (-1640531535 : Int32) = x := by
  rw [Int32.mul_assoc, show (244002641 : Int32) * (-1640531535) = 1 by decide, Int32.mul_one]
theorem xor_c (x y : Int32) : (x ^^^ y) ^^^ y = x := by
  rw [Int32.xor_assoc, Int32.xor_self, Int32.xor_zero]
def mixG (a b : Int32) : Int32 := xs ((a ^^^ rotL b) * (-1640531535 : Int32) + 97)
def unm (x : Int32) : Int32 := (xt x - 97) * 244002641
theorem unm_mix (a b : Int32) : unm (mixG a b) = a ^^^ rotL b := by
  unfold unm mixG
  rw [xt_xs, Int32.add_sub_cancel, mu1]
theorem mix_unm (q : Int32) : xs (unm q * (-1640531535 : Int32) + 97) = q := by
  unfold unm
  rw [mu2, Int32.sub_add_cancel, xs_xt]
/-- by the first -/
theorem mix_f (a b q : Int32) : mixG a b = q ↔ a = unm q ^^^ rotL b := by
  constructor
  · intro h
    rw [← h, unm_mix, xor_c]
  · intro h
    unfold mixG
    rw [h, xor_c, mix_unm]
theorem mix_s (a b q : Int32) : mixG a b = q ↔ b = rotR (unm q ^^^ a) := by
  constructor
  · intro h
    rw [← h, unm_mix, Int32.xor_comm a, xor_c, rR_rL]
  · intro h
    unfold mixG
    rw [h, rL_rR, Int32.xor_comm a, xor_c, mix_unm]
theorem mixF_G (a b : Int32) : mixF a b = mixG a b := rfl
theorem m70 {N d : Nat} {I : IM} {F : FM} (x : Int32) : sem N (d + 1) 70 [vI x] I F = some (vI (unm x), I, F) := by rw [s70]; rfl
theorem m71 {N d : Nat} {I : IM} {F : FM} (x y : Int32) : sem N (d + 2) 71 [vI x, vI y] I F = some (vI (unm x ^^^ rotL y), I, F) := by
  rw [s71]; unfold b71
  rw [m70, bI_v]
  rfl
theorem m72 {N d : Nat} {I : IM} {F : FM} (x y : Int32) : sem N (d + 2) 72 [vI x, vI y] I F = some (vI (rotR (unm x ^^^ y)), I, F) := by
  rw [s72]; unfold b72
  rw [m70, bI_v]
  rfl
theorem quo_i (q s t r u n : Int32) : mixF (mixF (mixF (mixF (mixF 17 u) n) r) t) s = q ↔ n = rotR (unm (unm (unm (unm q ^^^ rotL s) ^^^ rotL t) ^^^ rotL r) ^^^ mixF 17 u) := by
  rw [mixF_G, mix_f, mixF_G, mix_f, mixF_G, mix_f, mixF_G, mix_s]
theorem st156 : StpI InvC 156 288 3 := by
  intro as I F hl hI
  obtain ⟨x, y, z, rfl⟩ := len3 hl
  simp only [List.map_cons, List.map_nil]
  obtain ⟨nl, nc, nk, nx, np, na, ns, hR⟩ := hI.1
  obtain ⟨p1, p2, p3, p4, -⟩ := hR.2.1
  have hK := hR.2.2.2.2.1
  obtain ⟨q1, q2, q3, -, -, -, q7, q8, -⟩ := hR.2.2.2.2.1
  have c55 := m55 (N := zN) (d := 7) (I := I) (F := F) (b := 2) (by omega) x
  have d205 : sem zN 8 205 [vR (some (1, 0)), vI x] (wI I 1 0 0 0) F = some (vI (if inb x 3 then I 2 14 x.toNatClampNeg else -1), wI I 1 0 0 0, F) := by
    rw [m205 (d := 6) (n := nk) (by decide) x (by rw [w0_12, q2]) q3, show wI I 1 0 0 0 1 2 = I 1 2 from funext (fun k => by rw [w0_12]), kIn_c hK]
  by_cases hp : (if inb x 3 then I 2 14 x.toNatClampNeg else -1) = -1
  · refine qs_0 (x := -1) hI ?_ ?_
    · rw [s156]; unfold b156
      rw [c55, bI_v, if_pos hp]
    · rw [s288]; unfold b288
      dsimp only
      rw [d205, bI_v, if_pos hp]
  · have hx : inb x 3 := Decidable.not_not.mp (fun w => hp (if_neg w))
    obtain ⟨s, hs, hs2, rfl, es⟩ := inb_get hx
    obtain ⟨k, hk, ek⟩ : ∃ k, k < nk ∧ I 2 14 s = nI k := (q8 s hs).resolve_left (fun w => hp (by rw [if_pos hx, es, w]))
    have epk : (if inb (nI s) 3 then I 2 14 (nI s).toNatClampNeg else -1) = nI k := by rw [if_pos hx, es, ek]
    rw [epk] at hp c55 d205
    by_cases hy : inb y 256
    · obtain ⟨w, hw⟩ : ∃ w, rotR (unm (unm (unm (unm z ^^^ rotL (I 2 12 k)) ^^^ rotL (I 2 1 3)) ^^^ rotL (I 2 1 4)) ^^^ mixF 17 (dig (I 2 2) y 8)) = w := ⟨_, rfl⟩
      have hq := fun n => quo_i z (I 2 12 k) (I 2 1 3) (I 2 1 4) (dig (I 2 2) y 8) n
      rw [hw] at hq
      refine qs_0 (x := if inb w 1000 then w else -1) hI ?_ ?_
      · rw [s156]; unfold b156
        rw [c55, bI_v, if_neg hp, m172, bI_v, ite_bzif, if_pos hy, m51 (nk := nk) (by omega) (nI k) q1 q3, bI_v, if_pos (inb_nI hk (by omega)), nI_clamp (by omega), m71, bI_v, m71, bI_v, m71, bI_v, m6 (by omega) (by decide), bI_v, m73, bI_v, m72, bI_v, hw, has2 (M := 1000) (m := 1000) rfl (by decide)]
        by_cases hi : inb w 1000
        · rw [if_pos hi, if_pos hi]
        · rw [if_neg hi, if_neg hi]
      · rw [s288]; unfold b288
        dsimp only
        rw [d205, bI_v, if_neg hp, m204, bI_v, ite_bzif, if_pos hy, m229 (by decide), bI_v, dig_c (r' := I 2 2) (fun i hi => by rw [w0_12, p4 i hi])]
        have h := lpd (S := fun m c => sg (sem zN 8) 1 zc288 m 42 [vR (some (1, 0)), vI z, vI (nI k), vI (dig (I 2 2) y 8), vI (if inb w 1000 ∧ c ≤ w.toNatClampNeg then w else -1), vI (pI c)] (wI I 1 0 0 0) F) (T := some (vI (if inb w 1000 then w else -1), wI I 1 0 0 0, F)) (m := 1000) ?_ ?_ (n := zN) (by decide)
        · try dsimp only at h
          rw [if_neg (fun v => by
            have h1 := inb_iff.mp v.1
            have h2 := i_cl w
            omega), show pI 1000 = (999 : Int32) by decide] at h
          exact h
        · intro m c hc
          try dsimp only
          rw [u288_42]; unfold b288_42
          rw [pI_s, if_neg (nI_pos (by omega)), m266 (by omega), bI_v, w0_12, w0_12, w0_12, pI_d, ← p3, ← p2, ← (q7 k hk).2.1]
          have hqc := hq (nI c)
          by_cases hc2 : nI c = w
          · rw [if_pos (hqc.mpr hc2)]
            have hw2 : w.toNatClampNeg = c := by rw [← hc2, nI_clamp (by omega)]
            rw [if_pos ⟨by rw [← hc2]; exact inb_nI hc (by decide), by omega⟩, hc2]
          · rw [if_neg (fun v => hc2 (hqc.mp v))]
            by_cases hi : inb w 1000 ∧ c ≤ w.toNatClampNeg
            · have hne : ¬ w.toNatClampNeg = c := fun v => hc2 (by
                obtain ⟨c', -, -, e1, e2⟩ := inb_get hi.1
                rw [e1]
                congr 1
                omega)
              rw [if_pos hi, if_pos ⟨hi.1, by omega⟩]
            · rw [if_neg hi, if_neg (fun v => hi ⟨v.1, by omega⟩)]
        · intro m
          try dsimp only
          rw [u288_42]; unfold b288_42
          rw [pI_0, if_pos (by decide)]
          by_cases hi : inb w 1000
          · rw [if_pos hi, if_pos ⟨hi, Nat.zero_le _⟩]
          · rw [if_neg hi, if_neg (fun v => hi v.1)]
    · refine qs_0 (x := -1) hI ?_ ?_
      · rw [s156]; unfold b156
        rw [c55, bI_v, if_neg hp, m172, bI_v, ite_bzif, if_neg hy]
      · rw [s288]; unfold b288
        dsimp only
        rw [d205, bI_v, if_neg hp, m204, bI_v, ite_bzif, if_neg hy]
