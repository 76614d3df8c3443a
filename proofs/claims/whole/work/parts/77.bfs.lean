/-! REACH: the reference's search -/
theorem bt_1 : ∀ x, x < 128 → ∀ y, y < 64 → ∀ t, t < 3 → ((nI (64 * x + y) >>> ((4 * nI t) &&& 31)) &&& 15) = nI ((64 * x + y) / 16 ^ t % 16) := by decide +kernel
theorem bt_2 : ∀ x, x < 128 → ∀ y, y < 64 → ∀ t, t < 3 → (nI (64 * x + y) &&& ((15 <<< ((4 * nI t) &&& 31)) ^^^ (-1))) = nI ((64 * x + y) - (64 * x + y) / 16 ^ t % 16 * 16 ^ t) := by decide +kernel
theorem bt_3 : ∀ x, x < 128 → ∀ y, y < 64 → ∀ t, t < 3 → (nI (64 * x + y) &&& nI (15 * 16 ^ t)) = nI ((64 * x + y) / 16 ^ t % 16 * 16 ^ t) := by decide +kernel
theorem bt_4 : ∀ k, k < 12 → ∀ t, t < 3 → ((nI k <<< ((4 * nI t) &&& 31)) = nI (k * 16 ^ t) ∧ nI (k * 16 ^ t) &&& nI (15 * 16 ^ t) = nI (k * 16 ^ t)) := by decide +kernel
theorem bt_5 : ∀ x, x < 128 → ∀ y, y < 64 → ((nI (64 * x + y) >>> ((12 : Int32) &&& 31)) = 0 ↔ (64 * x + y) / 4096 = 0) := by decide +kernel
theorem bt_6 : ∀ x, x < 64 → ∀ y, y < 64 → (nI (64 * x + y) ||| 4096) = nI (64 * x + y + 4096) := by decide +kernel
theorem bq64 {s : Nat} (h : s < 8192) : ∃ x y, x < 128 ∧ y < 64 ∧ s = 64 * x + y := ⟨s / 64, s % 64, by omega, by omega, by omega⟩
theorem bs_1 {s t : Nat} (hs : s < 8192) (ht : t < 3) : ((nI s >>> ((4 * nI t) &&& 31)) &&& 15) = nI (cs s t) := by
  obtain ⟨x, y, hx, hy, rfl⟩ := bq64 hs
  exact bt_1 x hx y hy t ht
theorem bs_2 {s t : Nat} (hs : s < 8192) (ht : t < 3) : (nI s &&& ((15 <<< ((4 * nI t) &&& 31)) ^^^ (-1))) = nI (fls s t) := by
  obtain ⟨x, y, hx, hy, rfl⟩ := bq64 hs
  exact bt_2 x hx y hy t ht
theorem bs_3 {s t k : Nat} (hs : s < 8192) (ht : t < 3) (h0 : cs s t = 0) (hk : k < 12) : nI s ||| (nI k <<< ((4 * nI t) &&& 31)) = nI (pts s t k) := by
  obtain ⟨e1, e2⟩ := bt_4 k hk t ht
  have e3 : nI s &&& nI (15 * 16 ^ t) = 0 := by
    obtain ⟨x, y, hx, hy, rfl⟩ := bq64 hs
    have := bt_3 x hx y hy t ht
    rw [this]
    have h0' : (64 * x + y) / 16 ^ t % 16 = 0 := h0
    rw [h0', Nat.zero_mul]
    rfl
  have e4 : nI s &&& nI (k * 16 ^ t) = 0 := by
    rw [← e2, Int32.and_comm (nI (k * 16 ^ t)), ← Int32.and_assoc, e3, Int32.zero_and]
  rw [e1]
  unfold pts
  rw [← nI_add]
  rw [← Int32.toBitVec_inj, Int32.toBitVec_or, Int32.toBitVec_add]
  refine (BitVec.add_eq_or_of_and_eq_zero _ _ ?_).symm
  rw [← Int32.toBitVec_and, e4]
  rfl
theorem bs_5 {s : Nat} (hs : s < 8192) : ((nI s >>> ((12 : Int32) &&& 31)) = 0) ↔ cuu s = 0 := by
  obtain ⟨x, y, hx, hy, rfl⟩ := bq64 hs
  exact bt_5 x hx y hy
theorem bs_6 {s : Nat} (hs : s < 4096) : (nI s ||| 4096) = nI (s + 4096) := by
  have := bt_6 (s / 64) (by omega) (s % 64) (by omega)
  rw [show 64 * (s / 64) + s % 64 = s by omega] at this
  exact this
theorem pI_e {c k : Nat} (hc : c < 2 ^ 30) (hk : k < 2 ^ 30) : (pI c = nI k) ↔ c = k + 1 := by
  cases c with
  | zero => rw [pI_0]; exact ⟨fun z => absurd z.symm (fun y => nI_ne1 (by omega) y), fun z => by omega⟩
  | succ c => rw [pI_s, nI_eq (by omega) (by omega)]; omega
theorem pI_m {c : Nat} (hc : c < 2 ^ 30) : (pI c = -1) ↔ c = 0 := by
  cases c with
  | zero => rw [pI_0]; exact ⟨fun _ => rfl, fun _ => rfl⟩
  | succ c => rw [pI_s]; exact ⟨fun z => absurd z (fun y => nI_ne1 (by omega) y), fun z => by omega⟩
def lfN (s : Nat) : Nat := if cs s 0 = 0 then 0 else if cs s 1 = 0 then 1 else if cs s 2 = 0 then 2 else 3
theorem lfN_p (s : Nat) : (lfN s < 3 ∧ cs s (lfN s) = 0) ∨ (lfN s = 3 ∧ cfr s = 0) := by
  unfold lfN cfr
  by_cases h0 : cs s 0 = 0
  · rw [if_pos h0]; exact Or.inl ⟨by omega, h0⟩
  · rw [if_neg h0]
    by_cases h1 : cs s 1 = 0
    · rw [if_pos h1]; exact Or.inl ⟨by omega, h1⟩
    · rw [if_neg h1]
      by_cases h2 : cs s 2 = 0
      · rw [if_pos h2]; exact Or.inl ⟨by omega, h2⟩
      · rw [if_neg h2, if_neg h0, if_neg h1, if_neg h2]; exact Or.inr ⟨rfl, rfl⟩
def lfI (s : Nat) : Int32 := if lfN s = 3 then -1 else nI (lfN s)
section BF
variable {N d : Nat} {I : IM} {F : FM}
theorem m273 {s t : Nat} (hs : s < 8192) (ht : t < 3) : sem N (d + 1) 273 [vI (nI s), vI (nI t)] I F = some (vI (pI (cs s t)), I, F) := by
  rw [s273]; unfold b273
  rw [bs_1 hs ht]
  rfl
theorem m274 (hN : 10 ≤ N) {s : Nat} (hs : s < 8192) : sem N (d + 2) 274 [vI (nI s)] I F = some (vI (lfI s), I, F) := by
  obtain ⟨M, rfl⟩ : ∃ M, N = M + 4 := ⟨N - 4, by omega⟩
  have st : ∀ (k : Nat) (x1 : Int32) (t : Nat), t < 3 → sg (sem (M + 4) (d + 1)) 1 zc274 (k + 1) 4 [vI (nI s), vI x1, vI (nI t)] I F = sg (sem (M + 4) (d + 1)) 1 zc274 k 4 [vI (nI s), vI (if cs s t = 0 then nI t else x1), vI (nI t + (-1))] I F := by
    intro k x1 t ht
    have hc := cs_lt s t
    rw [u274_4]; unfold b274_4
    rw [if_neg (nI_pos (by omega)), m273 hs ht, bI_v]
    by_cases z : cs s t = 0
    · rw [if_pos ((pI_m (by omega)).mpr z), if_pos z]
    · rw [if_neg (fun y => z ((pI_m (by omega)).mp y)), if_neg z]
  rw [s274]; unfold b274
  have h2 := st (M + 3) (-1) 2 (by omega)
  have h1 := st (M + 2) (if cs s 2 = 0 then nI 2 else -1) 1 (by omega)
  have h0 := st (M + 1) (if cs s 1 = 0 then nI 1 else if cs s 2 = 0 then nI 2 else -1) 0 (by omega)
  rw [show nI 2 + (-1) = nI 1 by decide] at h2
  rw [show nI 1 + (-1) = nI 0 by decide] at h1
  rw [show nI 0 + (-1) = (-1 : Int32) by decide] at h0
  refine Eq.trans h2 (Eq.trans h1 (Eq.trans h0 ?_))
  rw [u274_4]; unfold b274_4
  rw [if_pos (by decide)]
  unfold lfI lfN
  by_cases z0 : cs s 0 = 0
  · rw [if_pos z0, if_pos z0, if_neg (by omega)]
  · rw [if_neg z0, if_neg z0]
    by_cases z1 : cs s 1 = 0
    · rw [if_pos z1, if_pos z1, if_neg (by omega)]
    · rw [if_neg z1, if_neg z1]
      by_cases z2 : cs s 2 = 0
      · rw [if_pos z2, if_pos z2, if_neg (by omega)]
      · rw [if_neg z2, if_neg z2, if_pos rfl]
theorem m275 {s k : Nat} (hs : s < 8192) (hk : k < 100) : sem N (d + 2) 275 [vI (nI s), vI (nI k)] I F = some (vI (bz (cld s k)), I, F) := by
  have e := fun t => pI_e (c := cs s t) (k := k) (by have := cs_lt s t; omega) (by omega)
  have a0 := m273 (N := N) (d := d) (I := I) (F := F) hs (t := 0) (by omega)
  have a1 := m273 (N := N) (d := d) (I := I) (F := F) hs (t := 1) (by omega)
  have a2 := m273 (N := N) (d := d) (I := I) (F := F) hs (t := 2) (by omega)
  rw [nI_0] at a0
  rw [s275]; unfold b275
  rw [a0, bI_v]
  by_cases h0 : cs s 0 = k + 1
  · rw [if_pos ((e 0).mpr h0), bz_t (Or.inl h0)]
  · rw [if_neg (fun z => h0 ((e 0).mp z)), show (1 : Int32) = nI 1 from rfl, a1, bI_v]
    by_cases h1 : cs s 1 = k + 1
    · rw [if_pos ((e 1).mpr h1), bz_t (Or.inr (Or.inl h1))]
      rfl
    · rw [if_neg (fun z => h1 ((e 1).mp z)), L2, a2, bI_v]
      by_cases h2 : cs s 2 = k + 1
      · rw [if_pos ((e 2).mpr h2), bz_t (Or.inr (Or.inr h2))]
        rfl
      · rw [if_neg (fun z => h2 ((e 2).mp z)), bz_f (fun z => by rcases z with z | z | z; exact h0 z; exact h1 z; exact h2 z)]
/-- the queue -/
def updN (f : Nat → Nat) (k x : Nat) : Nat → Nat := fun i => if i = k then x else f i
def BQ (J : IM) (m : Nat) (st : Nat → Nat) : Prop := J 1 0 31 = nI m ∧ m = cnt (fun s => J 1 24 s = 1) 8192 ∧ (∀ j, j < m → st j < 8192 ∧ J 1 21 j = nI (st j)) ∧ ∀ s, s < 8192 → (J 1 24 s = 0 ∨ J 1 24 s = 1) ∧ (J 1 24 s = 1 ↔ ∃ j, j < m ∧ st j = s)
theorem cnt_lt {P : Nat → Prop} [DecidablePred P] {s : Nat} : ∀ {m : Nat}, s < m → ¬ P s → cnt P m < m := by
  intro m
  induction m with
  | zero => intro h; omega
  | succ m ih =>
    intro h hp
    have e : cnt P (m + 1) = if P m then cnt P m + 1 else cnt P m := rfl
    rw [e]
    by_cases hs : s = m
    · subst hs
      rw [if_neg hp]
      have := cnt_le P s
      omega
    · have := ih (by omega) hp
      split <;> omega
theorem cnt_up {P Q : Nat → Prop} [DecidablePred P] [DecidablePred Q] {s : Nat} (hp : ¬ P s) (hq : Q s) (hpq : ∀ i, ¬ i = s → (P i ↔ Q i)) : ∀ {m : Nat}, s < m → cnt Q m = cnt P m + 1 := by
  intro m
  induction m with
  | zero => intro h; omega
  | succ m ih =>
    intro h
    have e1 : cnt P (m + 1) = if P m then cnt P m + 1 else cnt P m := rfl
    have e2 : cnt Q (m + 1) = if Q m then cnt Q m + 1 else cnt Q m := rfl
    rw [e1, e2]
    by_cases hs : s = m
    · subst hs
      rw [if_neg hp, if_pos hq, cnt_congr (P := Q) (Q := P) (fun i hi => (hpq i (by omega)).symm)]
    · rw [ih (by omega)]
      have := hpq m (fun z => hs z.symm)
      by_cases z : P m
      · rw [if_pos z, if_pos (this.mp z)]
      · rw [if_neg z, if_neg (fun y => z (this.mpr y))]
/-- one more is reached, or it was there -/
def Rch (J : IM) (m : Nat) (st : Nat → Nat) (s : Nat) (f mv : Int32) (J' : IM) (m' : Nat) (st' : Nat → Nat) : Prop := ((∃ j, j < m ∧ st j = s) ∧ J' = J ∧ m' = m ∧ st' = st) ∨ ((¬ ∃ j, j < m ∧ st j = s) ∧ m < 8192 ∧ m' = m + 1 ∧ st' = updN st m s ∧ J' = wI (wI (wI (wI (wI J 1 24 s 1) 1 21 m (nI s)) 1 22 m f) 1 23 m mv) 1 0 31 (nI (m + 1)))
theorem m278 {m s : Nat} {st : Nat → Nat} {J : IM} (hs : s < 8192) (hB : BQ J m st) (f mv : Int32) : ∃ J' m' st', sem N (d + 1) 278 [vR (some (1, 0)), vI (nI s), vI f, vI mv] J F = some (vI 0, J', F) ∧ Rch J m st s f mv J' m' st' ∧ BQ J' m' st' := by
  obtain ⟨b1, b2, b3, b4⟩ := hB
  have hB : BQ J m st := ⟨b1, b2, b3, b4⟩
  have is : inb (nI s) 8192 := inb_nI hs (by decide)
  have ks : (nI s).toNatClampNeg = s := nI_clamp (by omega)
  by_cases hseen : ∃ j, j < m ∧ st j = s
  · refine ⟨J, m, st, ?_, Or.inl ⟨hseen, rfl, rfl, rfl⟩, hB⟩
    rw [s278]; unfold b278
    simp only [eq_true is, ↓reduceIte, ks]
    rw [if_neg (fun z => by rw [((b4 s hs).2).mpr hseen] at z; exact absurd z (by decide))]
  · have h0 : J 1 24 s = 0 := ((b4 s hs).1).resolve_right (fun z => hseen (((b4 s hs).2).mp z))
    have hm : m < 8192 := by
      rw [b2]
      exact cnt_lt hs (fun z => hseen (((b4 s hs).2).mp z))
    have im : inb (nI m) 8192 := inb_nI hm (by decide)
    have km : (nI m).toNatClampNeg = m := nI_clamp (by omega)
    have n1 : vp_nar .boolean (1 : Int32) = 1 := nar_01 (Or.inr rfl)
    refine ⟨wI (wI (wI (wI (wI J 1 24 s 1) 1 21 m (nI s)) 1 22 m f) 1 23 m mv) 1 0 31 (nI (m + 1)), m + 1, updN st m s, ?_, Or.inr ⟨hseen, hm, rfl, rfl, rfl⟩, ?_⟩
    · rw [s278]; unfold b278
      have r1 : wI J 1 24 s 1 1 0 31 = nI m := by rw [wI_eq, if_neg (fun z => by omega), b1]
      have r2 : wI (wI J 1 24 s 1) 1 21 m (nI s) 1 0 31 = nI m := by rw [wI_eq, if_neg (fun z => by omega), wI_eq, if_neg (fun z => by omega), b1]
      have r3 : wI (wI (wI J 1 24 s 1) 1 21 m (nI s)) 1 22 m f 1 0 31 = nI m := by rw [wI_eq, if_neg (fun z => by omega), wI_eq, if_neg (fun z => by omega), wI_eq, if_neg (fun z => by omega), b1]
      have r4 : wI (wI (wI (wI J 1 24 s 1) 1 21 m (nI s)) 1 22 m f) 1 23 m mv 1 0 31 = nI m := by rw [wI_eq, if_neg (fun z => by omega), wI_eq, if_neg (fun z => by omega), wI_eq, if_neg (fun z => by omega), wI_eq, if_neg (fun z => by omega), b1]
      simp only [eq_true is, ↓reduceIte, ks, h0, n1, r1, eq_true im, km, r2, r3, r4, nI_1]
    · have r24 : ∀ i, wI (wI (wI (wI (wI J 1 24 s 1) 1 21 m (nI s)) 1 22 m f) 1 23 m mv) 1 0 31 (nI (m + 1)) 1 24 i = if i = s then 1 else J 1 24 i := fun i => by
        rw [wI_eq, if_neg (fun z => by omega), wI_eq, if_neg (fun z => by omega), wI_eq, if_neg (fun z => by omega), wI_eq, if_neg (fun z => by omega), wI_eq]
        by_cases e : i = s
        · rw [if_pos ⟨rfl, rfl, e⟩, if_pos e]
        · rw [if_neg (fun z => e z.2.2), if_neg e]
      refine ⟨wI_s _ _ _ _ _, ?_, fun j hj => ?_, fun i hi => ?_⟩
      · rw [cnt_up (P := fun s => J 1 24 s = 1) (s := s) (fun z => by rw [h0] at z; exact absurd z (by decide)) (by rw [r24, if_pos rfl]) (fun i hi => by rw [r24, if_neg hi]) hs, ← b2]
      · unfold updN
        by_cases e : j = m
        · rw [if_pos e]
          refine ⟨hs, ?_⟩
          rw [e, wI_eq, if_neg (fun z => by omega), wI_eq, if_neg (fun z => by omega), wI_eq, if_neg (fun z => by omega), wI_s]
        · rw [if_neg e]
          refine ⟨(b3 j (by omega)).1, ?_⟩
          rw [wI_eq, if_neg (fun z => by omega), wI_eq, if_neg (fun z => by omega), wI_eq, if_neg (fun z => by omega), wI_eq, if_neg (fun z => by omega), wI_eq, if_neg (fun z => by omega)]
          exact (b3 j (by omega)).2
      · rw [r24]
        by_cases e : i = s
        · rw [if_pos e]
          refine ⟨Or.inr rfl, fun _ => ⟨m, by omega, ?_⟩, fun _ => rfl⟩
          unfold updN
          rw [if_pos rfl, e]
        · rw [if_neg e]
          refine ⟨(b4 i hi).1, ?_⟩
          rw [(b4 i hi).2]
          constructor
          · rintro ⟨j, hj, ej⟩
            refine ⟨j, by omega, ?_⟩
            unfold updN
            rw [if_neg (by omega)]
            exact ej
          · rintro ⟨j, hj, ej⟩
            unfold updN at ej
            by_cases e2 : j = m
            · rw [if_pos e2] at ej
              exact absurd ej.symm e
            · rw [if_neg e2] at ej
              exact ⟨j, by omega, ej⟩
end BF
