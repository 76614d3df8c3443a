/-! MENDED: a told log replayed with one entry left out, two exchanged, one of another register -/
def gix (tu : Int32) (c : Nat) : Nat := if nI c = tu then c + 1 else if nI c = tu + 1 ∧ ¬ tu = -1 then c - 1 else c
def gk (rg nm : Nat → Int32) (lf tu ot rr r : Int32) : Nat → Int32
  | 0 => atF r
  | c + 1 => if (if nI c = ot then rr else rg (gix tu c)) = r ∧ ¬ nI c = lf then mixF (gk rg nm lf tu ot rr r c) (nm (gix tu c)) else gk rg nm lf tu ot rr r c
theorem gk_s (rg nm : Nat → Int32) (lf tu ot rr r : Int32) (c : Nat) : gk rg nm lf tu ot rr r (c + 1) = if (if nI c = ot then rr else rg (gix tu c)) = r ∧ ¬ nI c = lf then mixF (gk rg nm lf tu ot rr r c) (nm (gix tu c)) else gk rg nm lf tu ot rr r c := rfl
theorem rtl_s (rg nm : Nat → Int32) (r lf jn : Int32) (c : Nat) : rtl rg nm r lf jn (c + 1) = if (rg c = r ∧ ¬ nI c = lf) ∨ nI c = jn then mixF (rtl rg nm r lf jn c) (nm c) else rtl rg nm r lf jn c := rfl
theorem gix_0 {c : Nat} (hc : c < 2 ^ 30) : gix (-1) c = c := by
  unfold gix
  rw [if_neg (fun z => nI_ne1 (by omega) z), if_neg (fun z => z.2 rfl)]
section GK
variable {rg nm : Nat → Int32} {n : Nat}
/-- one left out -/
theorem gk_l (lf rr r : Int32) : ∀ m, m < 2 ^ 30 → gk rg nm lf (-1) (-1) rr r m = rtl rg nm r lf (-1) m := by
  intro m
  induction m with
  | zero => intro _; rfl
  | succ m ih =>
    intro hm
    have h1 : ¬ nI m = -1 := fun z => nI_ne1 (by omega) z
    rw [gk_s, rtl_s, ih (by omega), gix_0 (by omega), if_neg h1]
    by_cases h : rg m = r ∧ ¬ nI m = lf
    · rw [if_pos h, if_pos (Or.inl h)]
    · rw [if_neg h, if_neg (fun z => z.elim h h1)]
theorem rtl_l {i : Nat} {r : Int32} (hi : ¬ rg i = r) (hi2 : i < 2 ^ 30) : ∀ m, m < 2 ^ 30 → rtl rg nm r (nI i) (-1) m = rtl rg nm r (-1) (-1) m := by
  intro m
  induction m with
  | zero => intro _; rfl
  | succ m ih =>
    intro hm
    have h1 : ¬ nI m = -1 := fun z => nI_ne1 (by omega) z
    rw [rtl_s, rtl_s, ih (by omega)]
    by_cases h : rg m = r
    · have hne : ¬ nI m = nI i := fun z => hi (by rw [← nI_inj (by omega) (by omega) z]; exact h)
      rw [if_pos (Or.inl ⟨h, hne⟩), if_pos (Or.inl ⟨h, h1⟩)]
    · rw [if_neg (fun z => z.elim (fun y => h y.1) h1), if_neg (fun z => z.elim (fun y => h y.1) h1)]
/-- one of another register -/
theorem gk_o {i : Nat} {rr r : Int32} (hi : i < 2 ^ 30) : ∀ m, m < 2 ^ 30 → gk rg nm (-1) (-1) (nI i) rr r m = (if rr = rg i then rtl rg nm r (-1) (-1) m else if r = rg i then rtl rg nm r (nI i) (-1) m else if r = rr then rtl rg nm r (-1) (nI i) m else rtl rg nm r (-1) (-1) m) := by
  intro m
  induction m with
  | zero =>
    intro _
    show atF r = _
    by_cases e1 : rr = rg i
    · rw [if_pos e1]; rfl
    · rw [if_neg e1]
      by_cases e2 : r = rg i
      · rw [if_pos e2]; rfl
      · rw [if_neg e2]
        by_cases e3 : r = rr
        · rw [if_pos e3]; rfl
        · rw [if_neg e3]; rfl
  | succ m ih =>
    intro hm
    have h1 : ¬ nI m = -1 := fun z => nI_ne1 (by omega) z
    have ih := ih (by omega)
    rw [gk_s, gix_0 (by omega), ih]
    by_cases hmi : m = i
    · subst hmi
      rw [if_pos rfl]
      by_cases e1 : rr = rg m
      · rw [if_pos e1, if_pos e1, rtl_s]
        by_cases e : rr = r
        · rw [if_pos ⟨e, h1⟩, if_pos (Or.inl ⟨by rw [← e1]; exact e, h1⟩)]
        · rw [if_neg (fun z => e z.1), if_neg (fun z => z.elim (fun y => e (by rw [e1]; exact y.1)) h1)]
      · rw [if_neg e1, if_neg e1]
        by_cases e2 : r = rg m
        · rw [if_pos e2, if_pos e2, rtl_s, if_neg (fun z => e1 (by rw [← e2]; exact z.1)), if_neg (fun z => z.elim (fun y => y.2 rfl) h1)]
        · rw [if_neg e2, if_neg e2]
          by_cases e3 : r = rr
          · rw [if_pos e3, if_pos e3, rtl_s, if_pos ⟨e3.symm, h1⟩, if_pos (Or.inr rfl)]
          · rw [if_neg e3, if_neg e3, rtl_s, if_neg (fun z => e3 z.1.symm), if_neg (fun z => z.elim (fun y => e2 y.1.symm) h1)]
    · have hne : ¬ nI m = nI i := fun z => hmi (nI_inj (by omega) (by omega) z)
      rw [if_neg hne]
      by_cases e1 : rr = rg i
      · rw [if_pos e1, if_pos e1, rtl_s]
        by_cases e : rg m = r
        · rw [if_pos ⟨e, h1⟩, if_pos (Or.inl ⟨e, h1⟩)]
        · rw [if_neg (fun z => e z.1), if_neg (fun z => z.elim (fun y => e y.1) h1)]
      · rw [if_neg e1, if_neg e1]
        by_cases e2 : r = rg i
        · rw [if_pos e2, if_pos e2, rtl_s]
          by_cases e : rg m = r
          · rw [if_pos ⟨e, h1⟩, if_pos (Or.inl ⟨e, hne⟩)]
          · rw [if_neg (fun z => e z.1), if_neg (fun z => z.elim (fun y => e y.1) h1)]
        · rw [if_neg e2, if_neg e2]
          by_cases e3 : r = rr
          · rw [if_pos e3, if_pos e3, rtl_s]
            by_cases e : rg m = r
            · rw [if_pos ⟨e, h1⟩, if_pos (Or.inl ⟨e, h1⟩)]
            · rw [if_neg (fun z => e z.1), if_neg (fun z => z.elim (fun y => e y.1) hne)]
          · rw [if_neg e3, if_neg e3, rtl_s]
            by_cases e : rg m = r
            · rw [if_pos ⟨e, h1⟩, if_pos (Or.inl ⟨e, h1⟩)]
            · rw [if_neg (fun z => e z.1), if_neg (fun z => z.elim (fun y => e y.1) h1)]
/-- two exchanged: where they are of two registers, or of none that is asked for, nothing changes -/
theorem gix_t {i c : Nat} (hi : i < 2 ^ 30) (hc : c < 2 ^ 30) : gix (nI i) c = if c = i then i + 1 else if c = i + 1 then i else c := by
  have hn : ¬ nI i = -1 := fun z => nI_ne1 (by omega) z
  unfold gix
  by_cases h : c = i
  · rw [if_pos (by rw [h]), if_pos h, h]
  · rw [if_neg (fun z => h (nI_inj (by omega) (by omega) z)), if_neg h, nI_1]
    by_cases h2 : c = i + 1
    · rw [if_pos ⟨by rw [h2], hn⟩, if_pos h2]; omega
    · rw [if_neg (fun z => h2 (nI_inj (by omega) (by omega) z.1)), if_neg h2]
theorem gk_t {i : Nat} {rr r : Int32} (hi : i < 2 ^ 29) (hd : ¬ rg i = rg (i + 1) ∨ ¬ rg i = r) : ∀ m, m < 2 ^ 30 → ¬ m = i + 1 → gk rg nm (-1) (nI i) (-1) rr r m = rtl rg nm r (-1) (-1) m := by
  have st : ∀ c, c < 2 ^ 30 → gk rg nm (-1) (nI i) (-1) rr r (c + 1) = if rg (gix (nI i) c) = r then mixF (gk rg nm (-1) (nI i) (-1) rr r c) (nm (gix (nI i) c)) else gk rg nm (-1) (nI i) (-1) rr r c := fun c hc => by
    have h1 : ¬ nI c = -1 := fun z => nI_ne1 (by omega) z
    rw [gk_s, if_neg h1]
    by_cases e : rg (gix (nI i) c) = r
    · rw [if_pos ⟨e, h1⟩, if_pos e]
    · rw [if_neg (fun z => e z.1), if_neg e]
  have sr : ∀ c, c < 2 ^ 30 → rtl rg nm r (-1) (-1) (c + 1) = if rg c = r then mixF (rtl rg nm r (-1) (-1) c) (nm c) else rtl rg nm r (-1) (-1) c := fun c hc => by
    have h1 : ¬ nI c = -1 := fun z => nI_ne1 (by omega) z
    rw [rtl_s]
    by_cases e : rg c = r
    · rw [if_pos (Or.inl ⟨e, h1⟩), if_pos e]
    · rw [if_neg (fun z => z.elim (fun y => e y.1) h1), if_neg e]
  intro m
  induction m using Nat.strongRecOn with
  | _ m ih =>
    intro hm hne
    by_cases h0 : m = 0
    · subst h0; rfl
    by_cases h2 : m = i + 2
    · subst h2
      rw [show i + 2 = (i + 1) + 1 by omega, st (i + 1) (by omega), st i (by omega), sr (i + 1) (by omega), sr i (by omega), ih i (by omega) (by omega) (by omega), gix_t (by omega) (by omega), gix_t (by omega) (by omega), if_neg (show ¬ i + 1 = i by omega), if_pos rfl, if_pos rfl]
      by_cases e1 : rg i = r
      · have e2 : ¬ rg (i + 1) = r := fun z => by
          rcases hd with y | y
          · exact y (by rw [e1, z])
          · exact y e1
        rw [if_pos e1, if_neg e2, if_neg e2, if_pos e1]
      · rw [if_neg e1, if_neg e1]
    · obtain ⟨c, rfl⟩ : ∃ c, m = c + 1 := ⟨m - 1, by omega⟩
      rw [st c (by omega), sr c (by omega), ih c (by omega) (by omega) (by omega), gix_t (by omega) (by omega), if_neg (show ¬ c = i by omega), if_neg (show ¬ c = i + 1 by omega)]
end GK
/-! bits of eight -/
theorem orw_s : ∀ m, m < 8 → ∀ w, w < 2 ^ m → nI w ||| sh1 m = nI (w + 2 ^ m) ∧ w + 2 ^ m < 2 ^ (m + 1) := by decide +kernel
theorem orw_t : ∀ m, m < 8 → ∀ w, w < 2 ^ m → ∀ r, r < 8 → ((w + 2 ^ m).testBit r = true ↔ (r = m ∨ w.testBit r = true)) := by decide +kernel
theorem orw_0 : ∀ m, m < 8 → ∀ w, w < 2 ^ m → w < 2 ^ (m + 1) ∧ w.testBit m = false := by decide +kernel
theorem orw {P : Nat → Prop} [DecidablePred P] : ∀ m, m ≤ 8 → ∃ w, w < 2 ^ m ∧ orb P m = nI w ∧ ∀ r, r < 8 → (w.testBit r = true ↔ (r < m ∧ P r)) := by
  intro m
  induction m with
  | zero => exact fun _ => ⟨0, by decide, rfl, fun r hr => by simp⟩
  | succ m ih =>
    intro hm
    obtain ⟨w, h1, h2, h3⟩ := ih (by omega)
    by_cases h : P m
    · obtain ⟨a1, a2⟩ := orw_s m (by omega) w h1
      refine ⟨w + 2 ^ m, a2, ?_, fun r hr => ?_⟩
      · rw [show orb P (m + 1) = orb P m ||| sh1 m from if_pos h, h2, a1]
      · rw [orw_t m (by omega) w h1 r hr, h3 r hr]
        constructor
        · rintro (e | ⟨e1, e2⟩)
          · exact ⟨by omega, by rw [e]; exact h⟩
          · exact ⟨by omega, e2⟩
        · rintro ⟨e1, e2⟩
          by_cases e : r = m
          · exact Or.inl e
          · exact Or.inr ⟨by omega, e2⟩
    · refine ⟨w, (orw_0 m (by omega) w h1).1, ?_, fun r hr => ?_⟩
      · rw [show orb P (m + 1) = orb P m from if_neg h, h2]
      · rw [h3 r hr]
        constructor
        · rintro ⟨e1, e2⟩
          exact ⟨by omega, e2⟩
        · rintro ⟨e1, e2⟩
          have : r ≠ m := fun e => h (by rw [← e]; exact e2)
          exact ⟨by omega, e2⟩
theorem ow_0 : ∀ w, w < 256 → ((nI w = 0) ↔ ∀ r, r < 8 → w.testBit r = false) := by decide +kernel
theorem ow_1 : ∀ w, w < 256 → ∀ q, q < 8 → ((nI w = sh1 q) ↔ ∀ r, r < 8 → (w.testBit r = true ↔ r = q)) := by decide +kernel
theorem ow_2x : ∀ w, w < 256 → ∀ x, x < 64 → ((nI w &&& ((sh1 (x / 8) ||| sh1 (x % 8)) ^^^ (-1)) = 0) ↔ ∀ r, r < 8 → (w.testBit r = false ∨ r = x / 8 ∨ r = x % 8)) := by decide +kernel
theorem ow_2 {w q t : Nat} (hw : w < 256) (hq : q < 8) (ht : t < 8) : (nI w &&& ((sh1 q ||| sh1 t) ^^^ (-1)) = 0) ↔ ∀ r, r < 8 → (w.testBit r = false ∨ r = q ∨ r = t) := by
  have h := ow_2x w hw (8 * q + t) (by omega)
  rw [show (8 * q + t) / 8 = q by omega, show (8 * q + t) % 8 = t by omega] at h
  exact h
def bcF (x0 : Int32) : Int32 := match b307 (fun _ _ _ _ => none) (fun _ _ _ _ => none) x0 (fun _ _ _ => 0) (fun _ _ _ => 0) with
  | some (.inl v, _, _) => v
  | _ => 0
theorem m307 {N d : Nat} {I : IM} {F : FM} (x : Int32) : sem N (d + 1) 307 [vI x] I F = some (vI (bcF x), I, F) := by rw [s307]; rfl
theorem ow_3x : ∀ w, w < 256 → ∀ x, x < 64 → (bcF (nI w) ≤ 2 ∨ ¬ ∀ r, r < 8 → (w.testBit r = false ∨ r = x / 8 ∨ r = x % 8)) := by decide +kernel
theorem ow_3 {w q t : Nat} (hw : w < 256) (hq : q < 8) (ht : t < 8) (hr : ∀ r, r < 8 → (w.testBit r = false ∨ r = q ∨ r = t)) : bcF (nI w) ≤ 2 := by
  have h := ow_3x w hw (8 * q + t) (by omega)
  rw [show (8 * q + t) / 8 = q by omega, show (8 * q + t) % 8 = t by omega] at h
  exact h.resolve_right (fun z => z hr)
/-! the first of some -/
noncomputable def fsv (P : Nat → Prop) (R : Nat → Int32) (D : Int32) : Nat → Nat → Int32
  | _, 0 => D
  | c, k + 1 => @ite _ (P c) (Classical.propDecidable _) (R c) (fsv P R D (c + 1) k)
theorem fsv_p {P : Nat → Prop} {R : Nat → Int32} {D : Int32} {c k : Nat} (h : P c) : fsv P R D c (k + 1) = R c := by
  show @ite _ (P c) (Classical.propDecidable _) (R c) _ = _
  rw [if_pos h]
theorem fsv_n {P : Nat → Prop} {R : Nat → Int32} {D : Int32} {c k : Nat} (h : ¬ P c) : fsv P R D c (k + 1) = fsv P R D (c + 1) k := by
  show @ite _ (P c) (Classical.propDecidable _) (R c) _ = _
  rw [if_neg h]
theorem fsv_c {P Q : Nat → Prop} {R : Nat → Int32} {D E : Int32} (hD : D = E) : ∀ {k c : Nat}, (∀ i, c ≤ i → i < c + k → (P i ↔ Q i)) → fsv P R D c k = fsv Q R E c k := by
  intro k
  induction k with
  | zero => intro c _; exact hD
  | succ k ih =>
    intro c h
    by_cases hp : P c
    · rw [fsv_p hp, fsv_p ((h c (Nat.le_refl _) (by omega)).mp hp)]
    · rw [fsv_n hp, fsv_n (fun z => hp ((h c (Nat.le_refl _) (by omega)).mpr z)), ih (fun i h1 h2 => h i (by omega) (by omega))]
theorem fsv_0 {P : Nat → Prop} {R : Nat → Int32} {D : Int32} : ∀ {k c : Nat}, (∀ i, c ≤ i → i < c + k → ¬ P i) → fsv P R D c k = D := by
  intro k
  induction k with
  | zero => intro c _; rfl
  | succ k ih =>
    intro c h
    rw [fsv_n (h c (Nat.le_refl _) (by omega)), ih (fun i h1 h2 => h i (by omega) (by omega))]
theorem fsv_e {P : Nat → Prop} {R : Nat → Int32} {D : Int32} : ∀ {k c : Nat}, (∀ i, i < c + k → ¬ R i = -1) → (if fsv P R (-1) c k = -1 then D else fsv P R (-1) c k) = fsv P R D c k := by
  intro k
  induction k with
  | zero => intro c _; exact if_pos rfl
  | succ k ih =>
    intro c h
    by_cases hp : P c
    · rw [fsv_p hp, fsv_p hp, if_neg (h c (by omega))]
    · rw [fsv_n hp, fsv_n hp, ih (fun i h1 => h i (by omega))]
theorem fsv_v {P : Nat → Prop} {R : Nat → Int32} {D : Int32} : ∀ {k c : Nat}, fsv P R D c k = D ∨ ∃ i, c ≤ i ∧ i < c + k ∧ fsv P R D c k = R i := by
  intro k
  induction k with
  | zero => intro c; exact Or.inl rfl
  | succ k ih =>
    intro c
    by_cases hp : P c
    · exact Or.inr ⟨c, Nat.le_refl _, by omega, fsv_p hp⟩
    · rw [fsv_n hp]
      rcases ih (c := c + 1) with h | ⟨i, h1, h2, h3⟩
      · exact Or.inl h
      · exact Or.inr ⟨i, by omega, by omega, h3⟩
/-- in two rows -/
noncomputable def mvv (P : Nat → Nat → Prop) : Nat → Nat → Int32
  | _, 0 => -1
  | c, k + 1 => fsv (P c) (fun r => nI (300 + 10 * c + r)) (mvv P (c + 1) k) 0 8
theorem mvv_c {P Q : Nat → Nat → Prop} : ∀ {k c : Nat}, (∀ i r, c ≤ i → i < c + k → r < 8 → (P i r ↔ Q i r)) → mvv P c k = mvv Q c k := by
  intro k
  induction k with
  | zero => intro c _; rfl
  | succ k ih =>
    intro c h
    exact fsv_c (ih (fun i r h1 h2 h3 => h i r (by omega) (by omega) h3)) (fun r h1 h2 => h c r (Nat.le_refl _) (by omega) (by omega))
theorem mvv_0 {P : Nat → Nat → Prop} : ∀ {k c : Nat}, (∀ i r, c ≤ i → i < c + k → r < 8 → ¬ P i r) → mvv P c k = -1 := by
  intro k
  induction k with
  | zero => intro c _; rfl
  | succ k ih =>
    intro c h
    show fsv (P c) (fun r => nI (300 + 10 * c + r)) (mvv P (c + 1) k) 0 8 = -1
    rw [fsv_0 (fun r h1 h2 => h c r (Nat.le_refl _) (by omega) (by omega)), ih (fun i r h1 h2 h3 => h i r (by omega) (by omega) h3)]
