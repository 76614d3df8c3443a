/-! QUESTIONS: counts, of, ofKey, orphans -/
theorem or0 (x : Int32) : x ||| 0 = x := Int32.or_zero
section Q2
variable {N d n nk b : Nat} {I : IM} {F : FM}
theorem m299 (hN : 12 ≤ N) (hs : I 1 2 13 = nI n) (hn : n ≤ 10) : sem N (d + 3) 299 [vR (some (1, 0))] I F = some (vI (orb (fun c => ¬ kIn (I 1 2) (nI c) n = -1) 3), I, F) := by
  rw [s299]; unfold b299
  refine lp (S := fun m c => sg (sem N (d + 2)) 1 zc299 m 4 [vR (some (1, 0)), vI (orb (fun c => ¬ kIn (I 1 2) (nI c) n = -1) c), vI (nI c)] I F) (m := 3) ?_ ?_ 3 0 N rfl (by omega)
  · intro m c hc
    try dsimp only
    rw [u299_4]; unfold b299_4
    rw [if_neg (show ¬ (3 : Int32) ≤ nI c from nI_ge hc (by decide)), m205 hN (nI c) hs hn, bI_v, or0, nI_1]
    by_cases h : kIn (I 1 2) (nI c) n = -1
    · rw [if_pos h, show orb (fun c => ¬ kIn (I 1 2) (nI c) n = -1) (c + 1) = orb (fun c => ¬ kIn (I 1 2) (nI c) n = -1) c from if_neg (fun z => z h)]
    · rw [if_neg h, show orb (fun c => ¬ kIn (I 1 2) (nI c) n = -1) (c + 1) = orb (fun c => ¬ kIn (I 1 2) (nI c) n = -1) c ||| sh1 c from if_pos h]
  · intro m
    try dsimp only
    rw [u299_4]; unfold b299_4
    rw [if_pos (show (3 : Int32) ≤ nI 3 from nI_le (Nat.le_refl _) (by decide))]
theorem m300 (hN : 12 ≤ N) : sem N (d + 3) 300 [vR (some (1, 0))] I F = some (vI (orb (fun c => I 1 2 (370 + 4 * c) = 1) 4), I, F) := by
  rw [s300]; unfold b300
  refine lp (S := fun m c => sg (sem N (d + 2)) 1 zc300 m 4 [vR (some (1, 0)), vI (orb (fun c => I 1 2 (370 + 4 * c) = 1) c), vI (nI c)] I F) (m := 4) ?_ ?_ 4 0 N rfl (by omega)
  · intro m c hc
    try dsimp only
    rw [u300_4]; unfold b300_4
    have h202 := m202 (N := N) (d := d) (I := I) (F := F) (nI c)
    simp only [nI_clamp (show c < 2 ^ 31 by omega)] at h202
    rw [if_neg (show ¬ (4 : Int32) ≤ nI c from nI_ge hc (by decide)), h202, bI_v, ite_bzif, or0, nI_1]
    by_cases h : I 1 2 (370 + 4 * c) = 1
    · rw [if_pos ⟨inb_nI hc (by decide), h⟩, show orb (fun c => I 1 2 (370 + 4 * c) = 1) (c + 1) = orb (fun c => I 1 2 (370 + 4 * c) = 1) c ||| sh1 c from if_pos h]
    · rw [if_neg (fun z => h z.2), show orb (fun c => I 1 2 (370 + 4 * c) = 1) (c + 1) = orb (fun c => I 1 2 (370 + 4 * c) = 1) c from if_neg h]
  · intro m
    try dsimp only
    rw [u300_4]; unfold b300_4
    rw [if_pos (show (4 : Int32) ≤ nI 4 from nI_le (Nat.le_refl _) (by decide))]
theorem m291 (hN : 12 ≤ N) (x : Int32) (hs : I 1 2 16 = nI n) (hn : n ≤ 10) : sem N (d + 2) 291 [vR (some (1, 0)), vI x] I F = some (vI (orb (fun i => I 1 2 (341 + 3 * i) = x) n), I, F) := by
  rw [s291]; unfold b291
  refine lp (S := fun m c => sg (sem N (d + 1)) 1 zc291 m 4 [vR (some (1, 0)), vI x, vI (orb (fun i => I 1 2 (341 + 3 * i) = x) c), vI (nI c)] I F) (m := n) ?_ ?_ n 0 N (by omega) (by omega)
  · intro m c hc
    try dsimp only
    rw [u291_4]; unfold b291_4
    rw [hs, if_neg (nI_ge hc (by omega)), m197, bI_v, nI_1, if_pos (inb_nI (by omega) (by decide)), nI_clamp (by omega), or0, nI_1, show 340 + 3 * c + 1 = 341 + 3 * c by omega]
    by_cases h : I 1 2 (341 + 3 * c) = x
    · rw [if_pos h, show orb (fun i => I 1 2 (341 + 3 * i) = x) (c + 1) = orb (fun i => I 1 2 (341 + 3 * i) = x) c ||| sh1 c from if_pos h]
    · rw [if_neg h, show orb (fun i => I 1 2 (341 + 3 * i) = x) (c + 1) = orb (fun i => I 1 2 (341 + 3 * i) = x) c from if_neg h]
  · intro m
    try dsimp only
    rw [u291_4]; unfold b291_4
    rw [hs, if_pos (nI_le (Nat.le_refl _) (by omega))]
/-- how many stand above -/
def hv (f : Nat → Int32) : Nat → Int32 → Nat
  | 0, _ => 0
  | m + 1, v => if v = -1 then 0 else hv f m (f v.toNatClampNeg) + 1
theorem hv_c {f g : Nat → Int32} (h : ∀ p, p < nk → f p = g p) (hf : ∀ p, p < nk → f p = -1 ∨ ∃ q, q < p ∧ f p = nI q) (hk : nk ≤ 10) : ∀ {m : Nat} {v : Int32}, (v = -1 ∨ ∃ p, p < nk ∧ v = nI p) → hv f m v = hv g m v := by
  intro m
  induction m with
  | zero => intro v _; rfl
  | succ m ih =>
    intro v hv0
    show (if v = -1 then 0 else hv f m (f v.toNatClampNeg) + 1) = (if v = -1 then 0 else hv g m (g v.toNatClampNeg) + 1)
    by_cases e : v = -1
    · rw [if_pos e, if_pos e]
    · obtain ⟨p, hp, rfl⟩ := hv0.resolve_left e
      rw [if_neg e, if_neg e, nI_clamp (by omega), ← h p hp]
      rw [ih]
      rcases hf p hp with z | ⟨q, z1, z2⟩
      · exact Or.inl z
      · exact Or.inr ⟨q, by omega, z2⟩
theorem l63 (hb : 2 ≤ b) (hs : I b 10 3 = nI nk) (hk : nk ≤ 10) (hf : ∀ p, p < nk → I b 11 p = -1 ∨ ∃ q, q < p ∧ I b 11 p = nI q) : ∀ (m c n : Nat) (v : Int32), (v = -1 ∨ ∃ p, p < nk ∧ p < m ∧ v = nI p) → c + m ≤ 10 → m < n → sg (sem N (d + 2)) 1 zc63 n 8 [vR (some (b, 10)), vI (nI c), vI v] I F = some (vI (nI (c + hv (I b 11) m v)), I, F) := by
  have h54 := fun x : Int32 => m54 (N := N) (d := d) (I := I) (F := F) hb x hs hk
  obtain ⟨j, rfl⟩ := blk hb
  intro m
  induction m with
  | zero =>
    intro c n v hv0 hc hn
    obtain ⟨k, rfl⟩ : ∃ k, n = k + 1 := ⟨n - 1, by omega⟩
    have e : v = -1 := hv0.elim id (fun ⟨p, _, h, _⟩ => absurd h (by omega))
    rw [u63_8]; unfold b63_8
    rw [if_pos e]
    rfl
  | succ m ih =>
    intro c n v hv0 hc hn
    obtain ⟨k, rfl⟩ : ∃ k, n = k + 1 := ⟨n - 1, by omega⟩
    rw [u63_8]; unfold b63_8
    show _ = some (vI (nI (c + (if v = -1 then 0 else hv (I (j + 2) 11) m (I (j + 2) 11 v.toNatClampNeg) + 1))), I, F)
    by_cases e : v = -1
    · rw [if_pos e, if_pos e]
      rfl
    · obtain ⟨p, hp, hpm, rfl⟩ := hv0.resolve_left e
      rw [if_neg e, if_neg e, if_neg (show ¬ (10 : Int32) ≤ nI c from nI_ge (show c < 10 by omega) (by decide)), h54, bI_v, if_pos (inb_nI hp (by omega)), nI_clamp (by omega), nI_1, ih (c + 1) k _ ?_ (by omega) (by omega)]
      · rw [show c + 1 + hv (I (j + 2) 11) m (I (j + 2) 11 p) = c + (hv (I (j + 2) 11) m (I (j + 2) 11 p) + 1) by omega]
      · rcases hf p hp with z | ⟨q, z1, z2⟩
        · exact Or.inl z
        · exact Or.inr ⟨q, by omega, by omega, z2⟩
theorem l290 (hk : nk ≤ 10) (hf : ∀ p, p < nk → I 1 2 (180 + 4 * p) = -1 ∨ ∃ q, q < p ∧ I 1 2 (180 + 4 * p) = nI q) : ∀ (m c n : Nat) (v : Int32), (v = -1 ∨ ∃ p, p < nk ∧ p < m ∧ v = nI p) → m < n → sg (sem N (d + 1)) 1 zc290 n 14 [vR (some (1, 0)), vI (nI c), vI v] I F = some (vI (nI (c + hv (fun p => I 1 2 (180 + 4 * p)) m v)), I, F) := by
  intro m
  induction m with
  | zero =>
    intro c n v hv0 hn
    obtain ⟨k, rfl⟩ : ∃ k, n = k + 1 := ⟨n - 1, by omega⟩
    have e : v = -1 := hv0.elim id (fun ⟨p, _, h, _⟩ => absurd h (by omega))
    rw [u290_14]; unfold b290_14
    rw [if_pos e]
    rfl
  | succ m ih =>
    intro c n v hv0 hn
    obtain ⟨k, rfl⟩ : ∃ k, n = k + 1 := ⟨n - 1, by omega⟩
    rw [u290_14]; unfold b290_14
    show _ = some (vI (nI (c + (if v = -1 then 0 else hv (fun p => I 1 2 (180 + 4 * p)) m (I 1 2 (180 + 4 * v.toNatClampNeg)) + 1))), I, F)
    by_cases e : v = -1
    · rw [if_pos e, if_pos e]
      rfl
    · obtain ⟨p, hp, hpm, rfl⟩ := hv0.resolve_left e
      rw [if_neg e, if_neg e, m194, bI_v, rz0, if_pos (inb_nI (by omega) (by decide)), nI_clamp (by omega), nI_clamp (by omega), nI_1, ih (c + 1) k _ ?_ (by omega)]
      · rw [show c + 1 + hv (fun p => I 1 2 (180 + 4 * p)) m (I 1 2 (180 + 4 * p)) = c + (hv (fun p => I 1 2 (180 + 4 * p)) m (I 1 2 (180 + 4 * p)) + 1) by omega]
      · rcases hf p hp with z | ⟨q, z1, z2⟩
        · exact Or.inl z
        · exact Or.inr ⟨q, by omega, by omega, z2⟩
end Q2
theorem orb_ins {P : Nat → Prop} [DecidablePred P] {k : Nat} : ∀ {m : Nat}, k < m → orb P m ||| sh1 k = orb (fun i => P i ∨ i = k) m := by
  intro m
  induction m with
  | zero => intro h; omega
  | succ m ih =>
    intro h
    show (if P m then orb P m ||| sh1 m else orb P m) ||| sh1 k = (if P m ∨ m = k then orb (fun i => P i ∨ i = k) m ||| sh1 m else orb (fun i => P i ∨ i = k) m)
    by_cases e : m = k
    · subst e
      rw [if_pos (Or.inr rfl)]
      have e2 : orb (fun i => P i ∨ i = m) m = orb P m := orb_congr (fun i hi => ⟨fun z => z.resolve_right (by omega), Or.inl⟩)
      rw [e2]
      by_cases hP : P m
      · rw [if_pos hP, Int32.or_assoc, Int32.or_self]
      · rw [if_neg hP]
    · rw [← ih (by omega)]
      by_cases hP : P m
      · rw [if_pos hP, if_pos (Or.inl hP), Int32.or_assoc, Int32.or_comm (sh1 m), ← Int32.or_assoc]
      · rw [if_neg hP, if_neg (fun z => z.elim hP e)]
