/-! MENDED: the reference, the call -/
theorem fl_fl (I : IM) (b o n : Nat) (f g : Nat → Int32) : fl (fl I b o n f) b o n g = fl I b o n g := by
  funext b' o' k'
  rw [fl_eq, fl_eq, fl_eq]
  by_cases h : b' = b ∧ o' = o ∧ k' < n
  · rw [if_pos h, if_pos h]
  · rw [if_neg h, if_neg h, if_neg h]
theorem fl_19 (I : IM) (g : Nat → Int32) (k : Nat) : fl I 1 19 8 g 1 2 k = I 1 2 k := by rw [fl_eq, if_neg (fun z => by omega)]
def gT (I : IM) (n : Nat) (lf tu ot rr : Int32) (c : Nat) : Nat → Int32 := fun r => gk (fun i => I 1 2 (100 + 2 * i)) (fun i => I 1 2 (100 + 2 * i + 1)) lf tu ot rr (nI r) c
section MR
variable {N d n : Nat} {I : IM} {F : FM}
theorem m258g (hN : 200 ≤ N) (hn : n ≤ 40) (hr : ∀ i, i < n → ∃ r, r < 8 ∧ I 1 2 (100 + 2 * i) = nI r) (lf tu ot : Int32) {q8 : Nat} (hq8 : q8 < 8) (htu : tu = -1 ∨ ∃ t, t + 1 < n ∧ tu = nI t) : sem N (d + 2) 258 [vR (some (1, 0)), vI 100, vI (nI n), vI lf, vI tu, vI ot, vI (nI q8)] I F = some (vI 0, fl I 1 19 8 (gT I n lf tu ot (nI q8) n), F) := by
  rw [s258]; unfold b258
  have h31 : ∀ (k c m : Nat), c + k = n → 2 * k < m → sg (sem N (d + 1)) 0 zc258 m 31 [vR (some (1, 0)), vI 100, vI (nI n), vI lf, vI tu, vI ot, vI (nI q8), vI (nI c)] (fl I 1 19 8 (gT I n lf tu ot (nI q8) c)) F = some (vI 0, fl I 1 19 8 (gT I n lf tu ot (nI q8) n), F) := by
    intro k
    induction k with
    | zero =>
      intro c m hc hm
      obtain ⟨q, rfl⟩ : ∃ q, m = q + 1 := ⟨m - 1, by omega⟩
      have e : c = n := by omega
      subst e
      rw [u258_31]; unfold b258_31
      rw [if_pos (nI_le (Nat.le_refl _) (by omega))]
    | succ k ih =>
      intro c m hc hm
      obtain ⟨q, rfl⟩ : ∃ q, m = q + 2 := ⟨m - 2, by omega⟩
      have hcn : c < n := by omega
      have nc : ¬ nI c = -1 := fun z => nI_ne1 (by omega) z
      obtain ⟨g, hg, eg⟩ : ∃ g, g < n ∧ gix tu c = g := by
        rcases htu with rfl | ⟨t, ht, rfl⟩
        · exact ⟨c, hcn, gix_0 (by omega)⟩
        · refine ⟨_, ?_, rfl⟩
          rw [gix_t (by omega) (by omega)]
          by_cases e1 : c = t
          · rw [if_pos e1]; omega
          · rw [if_neg e1]
            by_cases e2 : c = t + 1
            · rw [if_pos e2]; omega
            · rw [if_neg e2]; exact hcn
      obtain ⟨r, hr8, er⟩ := hr g hg
      have e0 : (100 : Int32) + 2 * nI g = nI (100 + 2 * g) := by rw [L100, L2, nI_mul, nI_add]
      have i0 : inb (nI (100 + 2 * g)) 406 := inb_nI (by omega) (by decide)
      have i1 : inb (nI (100 + 2 * g + 1)) 406 := inb_nI (by omega) (by decide)
      have k0 : (nI (100 + 2 * g)).toNatClampNeg = 100 + 2 * g := nI_clamp (by omega)
      have k1 : (nI (100 + 2 * g + 1)).toNatClampNeg = 100 + 2 * g + 1 := nI_clamp (by omega)
      have i8 : inb (nI r) 8 := inb_nI hr8 (by decide)
      have k8 : (nI r).toNatClampNeg = r := nI_clamp (by omega)
      have j8 : inb (nI q8) 8 := inb_nI hq8 (by decide)
      have l8 : (nI q8).toNatClampNeg = q8 := nI_clamp (by omega)
      have f2 : ∀ j, fl I 1 19 8 (gT I n lf tu ot (nI q8) c) 1 2 j = I 1 2 j := fun j => fl_19 _ _ _
      have f19 : ∀ x, x < 8 → fl I 1 19 8 (gT I n lf tu ot (nI q8) c) 1 19 x = gT I n lf tu ot (nI q8) c x := fun x hx => by rw [fl_eq, if_pos ⟨rfl, rfl, hx⟩]
      have st : ∀ x, gT I n lf tu ot (nI q8) (c + 1) x = if (if nI c = ot then nI q8 else nI r) = nI x ∧ ¬ nI c = lf then mixF (gT I n lf tu ot (nI q8) c x) (I 1 2 (100 + 2 * g + 1)) else gT I n lf tu ot (nI q8) c x := fun x => by
        show gk (fun i => I 1 2 (100 + 2 * i)) (fun i => I 1 2 (100 + 2 * i + 1)) lf tu ot (nI q8) (nI x) (c + 1) = _
        rw [gk_s, eg, er]
        rfl
      have eN : nI c = lf → fl I 1 19 8 (gT I n lf tu ot (nI q8) c) = fl I 1 19 8 (gT I n lf tu ot (nI q8) (c + 1)) := fun hl => by
        rw [show gT I n lf tu ot (nI q8) (c + 1) = gT I n lf tu ot (nI q8) c from funext (fun x => by rw [st x, if_neg (fun z => z.2 hl)])]
      have eY : ∀ z, z < 8 → (if nI c = ot then nI q8 else nI r) = nI z → ¬ nI c = lf → fl I 1 19 8 (updR (gT I n lf tu ot (nI q8) c) z (mixF (gT I n lf tu ot (nI q8) c z) (I 1 2 (100 + 2 * g + 1)))) = fl I 1 19 8 (gT I n lf tu ot (nI q8) (c + 1)) := fun z hz ez hl => by
        funext b' o' k'
        rw [fl_eq, fl_eq]
        by_cases h : b' = 1 ∧ o' = 19 ∧ k' < 8
        · rw [if_pos h, if_pos h, st, ez]
          show (if k' = z then _ else gT I n lf tu ot (nI q8) c k') = _
          by_cases e : k' = z
          · subst e
            rw [if_pos rfl, if_pos ⟨rfl, hl⟩]
          · rw [if_neg e, if_neg (fun y => e (nI_inj (by omega) (by omega) y.1.symm))]
        · rw [if_neg h, if_neg h]
      have h75 : sg (sem N (d + 1)) 0 zc258 (q + 1) 75 [vR (some (1, 0)), vI 100, vI (nI n), vI lf, vI tu, vI ot, vI (nI q8), vI (nI c), vI (nI g)] (fl I 1 19 8 (gT I n lf tu ot (nI q8) c)) F = some (vI 0, fl I 1 19 8 (gT I n lf tu ot (nI q8) n), F) := by
        have fin := ih (c + 1) q (by omega) (by omega)
        rw [u258_75]; unfold b258_75
        by_cases ho : nI c = ot
        · rw [if_pos ho]
          by_cases hl : nI c = lf
          · rw [if_pos hl, nI_1, eN hl]
            exact fin
          · rw [if_neg hl]
            simp only [eq_true j8, ↓reduceIte, l8, e0, nI_1, eq_true i1, k1, f2, f19 q8 hq8, m188, bI_v]
            rw [fl_w _ _ _ _ _ _ hq8, eY q8 hq8 (if_pos ho) hl]
            exact fin
        · rw [if_neg ho]
          simp only [e0, eq_true i0, ↓reduceIte, k0, f2, er]
          by_cases hl : nI c = lf
          · rw [if_pos hl, nI_1, eN hl]
            exact fin
          · rw [if_neg hl]
            simp only [eq_true i8, ↓reduceIte, k8, nI_1, eq_true i1, k1, f19 r hr8, m188, bI_v]
            rw [fl_w _ _ _ _ _ _ hr8, eY r hr8 (if_neg ho) hl]
            exact fin
      rw [show q + 2 = (q + 1) + 1 by omega, u258_31]; unfold b258_31
      rw [if_neg (nI_ge hcn (by omega))]
      unfold gix at eg
      by_cases h1 : nI c = tu
      · rw [if_pos h1] at eg
        subst eg
        rw [if_pos h1, nI_1]
        exact h75
      · rw [if_neg h1] at eg
        rw [if_neg h1]
        by_cases h2 : nI c = tu + 1
        · rw [if_pos h2]
          by_cases h3 : tu = -1
          · rw [if_neg (fun z => z.2 h3)] at eg
            subst eg
            rw [if_pos h3]
            exact h75
          · rw [if_pos ⟨h2, h3⟩] at eg
            have hc1 : 1 ≤ c := by
              rcases htu with z | ⟨t, ht, rfl⟩
              · exact absurd z h3
              · rw [nI_1] at h2
                have := nI_inj (by omega) (by omega) h2
                omega
            subst eg
            rw [if_neg h3, show nI c - 1 = nI (c - 1) by rw [show c = (c - 1) + 1 by omega, nI_pred, Nat.add_sub_cancel]]
            exact h75
        · rw [if_neg (fun z => h2 z.1)] at eg
          subst eg
          rw [if_neg h2]
          exact h75
  obtain ⟨M, rfl⟩ : ∃ M, N = M + 100 := ⟨N - 100, by omega⟩
  have h := lp (S := fun m c => sg (sem (M + 100) (d + 1)) 0 zc258 (m + 100) 3 [vR (some (1, 0)), vI 100, vI (nI n), vI lf, vI tu, vI ot, vI (nI q8), vI (nI c)] (fl I 1 19 c (gT I n lf tu ot (nI q8) 0)) F) (T := some (vI 0, fl I 1 19 8 (gT I n lf tu ot (nI q8) n), F)) (m := 8) ?_ ?_ 8 0 M rfl (by omega)
  · try dsimp only at h
    rw [fl_0] at h
    exact h
  · intro m c hc
    try dsimp only
    rw [show m + 1 + 100 = (m + 100) + 1 by omega, u258_3]; unfold b258_3
    have e1 := fl_s I 1 19 c (gT I n lf tu ot (nI q8) 0)
    rw [if_neg (show ¬ (8 : Int32) ≤ nI c from nI_ge hc (by decide)), m209, bI_v, if_pos (inb_nI hc (by decide)), nI_clamp (by omega), nI_1]
    try dsimp only
    rw [show atF (nI c) = gT I n lf tu ot (nI q8) 0 c from rfl, e1]
  · intro m
    try dsimp only
    rw [show m + 1 + 100 = (m + 100) + 1 by omega, u258_3]; unfold b258_3
    rw [if_pos (show (8 : Int32) ≤ nI 8 from nI_le (Nat.le_refl _) (by decide))]
    exact h31 n 0 (m + 100) (by omega) (by omega)
theorem exb_f {P : Nat → Prop} [DecidablePred P] {m : Nat} : (exb (fun r => ¬ P r) m = false) ↔ ∀ r, r < m → P r := by
  constructor
  · intro z r hr
    refine Decidable.not_not.mp (fun y => ?_)
    have := (exb_iff (P := fun r => ¬ P r) (m := m)).mpr ⟨r, hr, y⟩
    rw [z] at this
    exact Bool.noConfusion this
  · intro z
    cases e : exb (fun r => ¬ P r) m with
    | false => rfl
    | true =>
      obtain ⟨r, hr, y⟩ := exb_iff.mp e
      exact absurd (z r hr) y
theorem m259 (hN : 20 ≤ N) : sem N (d + 1) 259 [vR (some (1, 0))] I F = some (vI (bz (exb (fun r => ¬ I 1 19 r = I 1 2 r) 8 = false)), I, F) := by
  rw [s259]; unfold b259
  have h := lp (S := fun m c => sg (sem N d) 6 zc259 m 4 [vR (some (1, 0)), vI (bz (exb (fun r => ¬ I 1 19 r = I 1 2 r) c = false)), vI (nI c)] I F) (T := some (vI (bz (exb (fun r => ¬ I 1 19 r = I 1 2 r) 8 = false)), I, F)) (m := 8) ?_ ?_ 8 0 N rfl (by omega)
  · try dsimp only at h
    rw [bz_t (p := exb (fun r => ¬ I 1 19 r = I 1 2 r) 0 = false) rfl] at h
    exact h
  · intro m c hc
    try dsimp only
    have ic : inb (nI c) 8 := inb_nI hc (by decide)
    have ic4 : inb (nI c) 406 := inb_nI (by omega) (by decide)
    have kc : (nI c).toNatClampNeg = c := nI_clamp (by omega)
    rw [u259_4]; unfold b259_4
    rw [if_neg (show ¬ (8 : Int32) ≤ nI c from nI_ge hc (by decide)), nI_1]
    by_cases hA : exb (fun r => ¬ I 1 19 r = I 1 2 r) c = false
    · have hA' := exb_f.mp hA
      rw [bz_t hA, if_neg (by decide)]
      simp only [eq_true ic, eq_true ic4, ↓reduceIte, kc]
      by_cases e : I 1 19 c = I 1 2 c
      · rw [if_pos e, bz_t (exb_f.mpr (fun r hr => by
          by_cases e2 : r = c
          · rw [e2]; exact e
          · exact hA' r (by omega)))]
      · rw [if_neg e, bz_f (fun z => e (exb_f.mp z c (by omega)))]
    · rw [bz_f hA, if_pos rfl, bz_f (fun z => hA (exb_f.mpr (fun r hr => exb_f.mp z r (by omega))))]
  · intro m
    try dsimp only
    rw [u259_4]; unfold b259_4
    rw [if_pos (show (8 : Int32) ≤ nI 8 from nI_le (Nat.le_refl _) (by decide)), if_pos bz_01]
def mG (I : IM) (n : Nat) (lf tu ot : Int32) (q8 : Nat) : Prop := ∀ r, r < 8 → gT I n lf tu ot (nI q8) n r = I 1 2 r
theorem m260 (hN : 200 ≤ N) (hn : n ≤ 40) (h12 : I 1 2 12 = nI n) (hr : ∀ i, i < n → ∃ r, r < 8 ∧ I 1 2 (100 + 2 * i) = nI r) (lf tu ot : Int32) {q8 : Nat} (hq8 : q8 < 8) (htu : tu = -1 ∨ ∃ t, t + 1 < n ∧ tu = nI t) : ∃ v : Int32, sem N (d + 3) 260 [vR (some (1, 0)), vI lf, vI tu, vI ot, vI (nI q8)] I F = some (vI v, fl I 1 19 8 (gT I n lf tu ot (nI q8) n), F) ∧ ((v = 1 ∧ mG I n lf tu ot q8) ∨ (v = 0 ∧ ¬ mG I n lf tu ot q8)) := by
  have e : ∀ r, r < 8 → (fl I 1 19 8 (gT I n lf tu ot (nI q8) n) 1 19 r = fl I 1 19 8 (gT I n lf tu ot (nI q8) n) 1 2 r ↔ gT I n lf tu ot (nI q8) n r = I 1 2 r) := fun r hr => by rw [fl_19, fl_eq, if_pos ⟨rfl, rfl, hr⟩]
  rw [s260]; unfold b260
  rw [h12, m258g hN hn hr lf tu ot hq8 htu, bV_v, m259 (by omega), bI_v, if_pos bz_01]
  by_cases h : exb (fun r => ¬ fl I 1 19 8 (gT I n lf tu ot (nI q8) n) 1 19 r = fl I 1 19 8 (gT I n lf tu ot (nI q8) n) 1 2 r) 8 = false
  · exact ⟨1, by rw [bz_t h], Or.inl ⟨rfl, fun r hr => (e r hr).mp (exb_f.mp h r hr)⟩⟩
  · exact ⟨0, by rw [bz_f h], Or.inr ⟨rfl, fun z => h (exb_f.mpr (fun r hr => (e r hr).mpr (z r hr)))⟩⟩
theorem gT_fl (g : Nat → Int32) (lf tu ot rr : Int32) (c : Nat) : gT (fl I 1 19 8 g) n lf tu ot rr c = gT I n lf tu ot rr c := by
  funext r
  unfold gT
  rw [show (fun i => fl I 1 19 8 g 1 2 (100 + 2 * i)) = (fun i => I 1 2 (100 + 2 * i)) from funext (fun i => fl_19 _ _ _), show (fun i => fl I 1 19 8 g 1 2 (100 + 2 * i + 1)) = (fun i => I 1 2 (100 + 2 * i + 1)) from funext (fun i => fl_19 _ _ _)]
theorem m260f (hN : 200 ≤ N) (hn : n ≤ 40) (h12 : I 1 2 12 = nI n) (hr : ∀ i, i < n → ∃ r, r < 8 ∧ I 1 2 (100 + 2 * i) = nI r) (g : Nat → Int32) (lf tu ot : Int32) {q8 : Nat} (hq8 : q8 < 8) (htu : tu = -1 ∨ ∃ t, t + 1 < n ∧ tu = nI t) : ∃ (v : Int32) (g' : Nat → Int32), sem N (d + 3) 260 [vR (some (1, 0)), vI lf, vI tu, vI ot, vI (nI q8)] (fl I 1 19 8 g) F = some (vI v, fl I 1 19 8 g', F) ∧ ((v = 1 ∧ mG I n lf tu ot q8) ∨ (v = 0 ∧ ¬ mG I n lf tu ot q8)) := by
  obtain ⟨v, e, h⟩ := m260 (N := N) (d := d) (I := fl I 1 19 8 g) (F := F) hN hn (by rw [fl_19, h12]) (fun i hi => by rw [fl_19]; exact hr i hi) lf tu ot hq8 htu
  rw [fl_fl, gT_fl] at e
  have hm : mG (fl I 1 19 8 g) n lf tu ot q8 ↔ mG I n lf tu ot q8 := by
    unfold mG
    rw [gT_fl]
    exact ⟨fun z r hr => by rw [z r hr, fl_19], fun z r hr => by rw [z r hr, fl_19]⟩
  rw [hm] at h
  exact ⟨v, _, e, h⟩
/-- the moving of one -/
theorem l264c (hN : 200 ≤ N) (hn : n ≤ 40) (h12 : I 1 2 12 = nI n) (hr : ∀ i, i < n → ∃ r, r < 8 ∧ I 1 2 (100 + 2 * i) = nI r) : ∀ k c m g, c + k = n → 10 * k < m → ∃ g', sg (sem N (d + 3)) 1 zc264 m 89 [vR (some (1, 0)), vI (nI n), vI (nI c)] (fl I 1 19 8 g) F = some (vI (mvv (fun i t => mG I n (-1) (-1) (nI i) t) c k), fl I 1 19 8 g', F) := by
  intro k
  induction k with
  | zero =>
    intro c m g hc hm
    obtain ⟨q, rfl⟩ : ∃ q, m = q + 1 := ⟨m - 1, by omega⟩
    refine ⟨g, ?_⟩
    rw [u264_89]; unfold b264_89
    rw [if_pos (nI_le (by omega) (by omega))]
    rfl
  | succ k ih =>
    intro c m g hc hm
    obtain ⟨q, rfl⟩ : ∃ q, m = q + 1 := ⟨m - 1, by omega⟩
    have inner : ∀ j t m g, t + j = 8 → 10 * k + j + 1 < m → ∃ g', sg (sem N (d + 3)) 1 zc264 m 96 [vR (some (1, 0)), vI (nI n), vI (nI c), vI (nI t)] (fl I 1 19 8 g) F = some (vI (fsv (fun t => mG I n (-1) (-1) (nI c) t) (fun r => nI (300 + 10 * c + r)) (mvv (fun i t => mG I n (-1) (-1) (nI i) t) (c + 1) k) t j), fl I 1 19 8 g', F) := by
      intro j
      induction j with
      | zero =>
        intro t m g ht hm
        obtain ⟨p, rfl⟩ : ∃ p, m = p + 1 := ⟨m - 1, by omega⟩
        rw [u264_96]; unfold b264_96
        rw [if_pos (show (8 : Int32) ≤ nI t from nI_le (show 8 ≤ t by omega) (by omega)), nI_1]
        exact ih (c + 1) p g (by omega) (by omega)
      | succ j ihj =>
        intro t m g ht hm
        obtain ⟨p, rfl⟩ : ∃ p, m = p + 1 := ⟨m - 1, by omega⟩
        obtain ⟨v, g', e, hv⟩ := m260f (N := N) (d := d) (I := I) (F := F) hN hn h12 hr g (-1) (-1) (nI c) (q8 := t) (by omega) (Or.inl rfl)
        rw [u264_96]; unfold b264_96
        rw [if_neg (show ¬ (8 : Int32) ≤ nI t from nI_ge (show t < 8 by omega) (by decide)), e, bI_v]
        rcases hv with ⟨rfl, hG⟩ | ⟨rfl, hG⟩
        · rw [if_neg (by decide), fsv_p (P := fun t => mG I n (-1) (-1) (nI c) t) hG, show (300 : Int32) + (10 : Int32) * nI c + nI t = nI (300 + 10 * c + t) by rw [show (300 : Int32) = nI 300 from rfl, L10, nI_mul, nI_add, nI_add]]
          exact ⟨g', rfl⟩
        · rw [if_pos rfl, fsv_n (P := fun t => mG I n (-1) (-1) (nI c) t) hG, nI_1]
          exact ihj (t + 1) p g' (by omega) (by omega)
    rw [u264_89]; unfold b264_89
    rw [if_neg (nI_ge (show c < n by omega) (by omega))]
    exact inner 8 0 q g (by omega) (by omega)
theorem l264b (hN : 200 ≤ N) (hn : n ≤ 40) (h12 : I 1 2 12 = nI n) (hr : ∀ i, i < n → ∃ r, r < 8 ∧ I 1 2 (100 + 2 * i) = nI r) : ∀ k c m g, c + k = n - 1 → 410 + k < m → ∃ g', sg (sem N (d + 3)) 1 zc264 m 57 [vR (some (1, 0)), vI (nI n), vI (nI c)] (fl I 1 19 8 g) F = some (vI (fsv (fun i => mG I n (-1) (nI i) (-1) 0) (fun i => nI (200 + i)) (mvv (fun i t => mG I n (-1) (-1) (nI i) t) 0 n) c k), fl I 1 19 8 g', F) := by
  intro k
  induction k with
  | zero =>
    intro c m g hc hm
    obtain ⟨q, rfl⟩ : ∃ q, m = q + 1 := ⟨m - 1, by omega⟩
    rw [u264_57]; unfold b264_57
    rw [nI_1, if_pos (nI_le (by omega) (by omega))]
    exact l264c hN hn h12 hr n 0 q g (by omega) (by omega)
  | succ k ih =>
    intro c m g hc hm
    obtain ⟨q, rfl⟩ : ∃ q, m = q + 1 := ⟨m - 1, by omega⟩
    obtain ⟨v, g', e, hv⟩ := m260f (N := N) (d := d) (I := I) (F := F) hN hn h12 hr g (-1) (nI c) (-1) (q8 := 0) (by omega) (Or.inr ⟨c, by omega, rfl⟩)
    rw [nI_0] at e
    rw [u264_57]; unfold b264_57
    rw [nI_1, if_neg (nI_ge (show c + 1 < n by omega) (by omega)), e, bI_v]
    rcases hv with ⟨rfl, hG⟩ | ⟨rfl, hG⟩
    · rw [if_neg (by decide), fsv_p (P := fun i => mG I n (-1) (nI i) (-1) 0) hG, show (200 : Int32) + nI c = nI (200 + c) by rw [show (200 : Int32) = nI 200 from rfl, nI_add]]
      exact ⟨g', rfl⟩
    · rw [if_pos rfl, fsv_n (P := fun i => mG I n (-1) (nI i) (-1) 0) hG]
      exact ih (c + 1) q g' (by omega) (by omega)
theorem l264a (hN : 200 ≤ N) (hn : n ≤ 40) (h12 : I 1 2 12 = nI n) (hr : ∀ i, i < n → ∃ r, r < 8 ∧ I 1 2 (100 + 2 * i) = nI r) : ∀ k c m g, c + k = n → 460 + k < m → ∃ g', sg (sem N (d + 3)) 1 zc264 m 28 [vR (some (1, 0)), vI (nI n), vI (nI c)] (fl I 1 19 8 g) F = some (vI (fsv (fun i => mG I n (nI i) (-1) (-1) 0) (fun i => nI (100 + i)) (fsv (fun i => mG I n (-1) (nI i) (-1) 0) (fun i => nI (200 + i)) (mvv (fun i t => mG I n (-1) (-1) (nI i) t) 0 n) 0 (n - 1)) c k), fl I 1 19 8 g', F) := by
  intro k
  induction k with
  | zero =>
    intro c m g hc hm
    obtain ⟨q, rfl⟩ : ∃ q, m = q + 1 := ⟨m - 1, by omega⟩
    rw [u264_28]; unfold b264_28
    rw [if_pos (nI_le (by omega) (by omega))]
    exact l264b hN hn h12 hr (n - 1) 0 q g (by omega) (by omega)
  | succ k ih =>
    intro c m g hc hm
    obtain ⟨q, rfl⟩ : ∃ q, m = q + 1 := ⟨m - 1, by omega⟩
    obtain ⟨v, g', e, hv⟩ := m260f (N := N) (d := d) (I := I) (F := F) hN hn h12 hr g (nI c) (-1) (-1) (q8 := 0) (by omega) (Or.inl rfl)
    rw [nI_0] at e
    rw [u264_28]; unfold b264_28
    rw [if_neg (nI_ge (show c < n by omega) (by omega)), e, bI_v, nI_1]
    rcases hv with ⟨rfl, hG⟩ | ⟨rfl, hG⟩
    · rw [if_neg (by decide), fsv_p (P := fun i => mG I n (nI i) (-1) (-1) 0) hG, show (100 : Int32) + nI c = nI (100 + c) by rw [L100, nI_add]]
      exact ⟨g', rfl⟩
    · rw [if_pos rfl, fsv_n (P := fun i => mG I n (nI i) (-1) (-1) 0) hG]
      exact ih (c + 1) q g' (by omega) (by omega)
end MR
theorem st148 : StpI InvC 148 264 0 := by
  intro as I F hl hI
  obtain rfl := len0 hl
  simp only [List.map_nil]
  obtain ⟨nl, nc, nk, nx, np, na, ns, hR⟩ := hI.1
  obtain ⟨-, -, -, p4, -⟩ := hR.2.1
  obtain ⟨g1, g2, g3, g4⟩ := hR.2.2.2.1
  have hrc : ∀ i, i < nc → ∃ r, r < 8 ∧ I 2 8 i = nI r := fun i hi => by
    obtain ⟨e1, -, r, hr, e2⟩ := g4 i hi
    exact ⟨r, hr, by rw [show I 2 8 i = I 1 2 (100 + 2 * i) from e1, e2]⟩
  have hrm : ∀ i, i < nc → ∃ r, r < 8 ∧ wI I 1 0 0 0 1 2 (100 + 2 * i) = nI r := fun i hi => by
    rw [w0_12]
    exact (g4 i hi).2.2
  obtain ⟨w, hw, hW, hb⟩ := orw (P := fun r => ¬ rtl (I 2 8) (I 2 9) (nI r) (-1) (-1) nc = I 2 2 r) 8 (by omega)
  have hb' : ∀ r, r < 8 → (w.testBit r = true ↔ ¬ rtl (I 2 8) (I 2 9) (nI r) (-1) (-1) nc = I 2 2 r) := fun r hr => by
    rw [hb r hr]
    exact ⟨fun z => z.2, fun z => ⟨hr, z⟩⟩
  have hbf : ∀ r, r < 8 → (w.testBit r = false ↔ rtl (I 2 8) (I 2 9) (nI r) (-1) (-1) nc = I 2 2 r) := fun r hr => by
    have := hb' r hr
    constructor
    · intro z
      exact Decidable.not_not.mp (fun y => by rw [this.mpr y] at z; exact Bool.noConfusion z)
    · intro z
      cases e : w.testBit r with
      | false => rfl
      | true => exact absurd z (this.mp e)
  -- what the reference replays is what the class has
  have gkc : ∀ (lf tu ot rr r : Int32) m, m ≤ nc → (tu = -1 ∨ ∃ t, t + 1 < nc ∧ tu = nI t) → gk (fun i => wI I 1 0 0 0 1 2 (100 + 2 * i)) (fun i => wI I 1 0 0 0 1 2 (100 + 2 * i + 1)) lf tu ot rr r m = gk (I 2 8) (I 2 9) lf tu ot rr r m := by
    intro lf tu ot rr r m
    induction m with
    | zero => intro _ _; rfl
    | succ m ih =>
      intro hm htu
      have hg : gix tu m < nc := by
        rcases htu with rfl | ⟨t, ht, rfl⟩
        · rw [gix_0 (by omega)]; omega
        · rw [gix_t (by omega) (by omega)]
          by_cases e1 : m = t
          · rw [if_pos e1]; omega
          · rw [if_neg e1]
            by_cases e2 : m = t + 1
            · rw [if_pos e2]; omega
            · rw [if_neg e2]; omega
      rw [gk_s, gk_s, ih (by omega) htu, w0_12, w0_12, show I 1 2 (100 + 2 * gix tu m) = I 2 8 (gix tu m) from (g4 _ hg).1.symm, show I 1 2 (100 + 2 * gix tu m + 1) = I 2 9 (gix tu m) from (g4 _ hg).2.1.symm]
  have hmG : ∀ lf tu ot q8, (tu = -1 ∨ ∃ t, t + 1 < nc ∧ tu = nI t) → (mG (wI I 1 0 0 0) nc lf tu ot q8 ↔ ∀ r, r < 8 → gk (I 2 8) (I 2 9) lf tu ot (nI q8) (nI r) nc = I 2 2 r) := fun lf tu ot q8 htu => by
    unfold mG gT
    constructor
    · intro z r hr
      have := z r hr
      rw [gkc _ _ _ _ _ nc (Nat.le_refl _) htu, w0_12, ← p4 r hr] at this
      exact this
    · intro z r hr
      rw [gkc _ _ _ _ _ nc (Nat.le_refl _) htu, w0_12, ← p4 r hr]
      exact z r hr
  have hG0 : mG (wI I 1 0 0 0) nc (-1) (-1) (-1) 0 ↔ nI w = 0 := by
    rw [hmG _ _ _ _ (Or.inl rfl), ow_0 w hw]
    constructor
    · intro z r hr
      rw [hbf r hr, ← gk_l (-1) (nI 0) (nI r) nc (by omega)]
      exact z r hr
    · intro z r hr
      rw [gk_l (-1) (nI 0) (nI r) nc (by omega), (hbf r hr).mp (z r hr)]
  have hdec : ∀ i, i < nc → ∃ q, q < 8 ∧ I 2 8 i = nI q ∧ (I 2 8 i).toNatClampNeg = q := fun i hi => by
    obtain ⟨q, hq, e⟩ := hrc i hi
    exact ⟨q, hq, e, by rw [e, nI_clamp (by omega)]⟩
  have cA : ¬ nI w = 0 → ∀ i, i < nc → (mG (wI I 1 0 0 0) nc (nI i) (-1) (-1) 0 ↔ mPA (I 2 8) (I 2 9) (I 2 2) nc (nI w) i) := fun h0 i hi => by
    obtain ⟨q, hq, eq1, eq2⟩ := hdec i hi
    rw [hmG _ _ _ _ (Or.inl rfl)]
    unfold mPA
    rw [eq2, eq1, ow_1 w hw q hq]
    have hne : ∀ r, r < 8 → ¬ r = q → gk (I 2 8) (I 2 9) (nI i) (-1) (-1) (nI 0) (nI r) nc = rtl (I 2 8) (I 2 9) (nI r) (-1) (-1) nc := fun r hr hrq => by
      rw [gk_l (nI i) (nI 0) (nI r) nc (by omega), rtl_l (by rw [eq1]; exact fun z => hrq (nI_inj (by omega) (by omega) z.symm)) (by omega) nc (by omega)]
    constructor
    · intro z
      have hq0 : ∀ r, r < 8 → ¬ r = q → w.testBit r = false := fun r hr hrq => by
        rw [hbf r hr, ← hne r hr hrq]
        exact z r hr
      refine ⟨fun r hr => ⟨fun y => ?_, fun y => ?_⟩, ?_⟩
      · exact Decidable.not_not.mp (fun x => by rw [hq0 r hr x] at y; exact Bool.noConfusion y)
      · rw [y]
        cases e : w.testBit q with
        | true => rfl
        | false => exact absurd ((ow_0 w hw).mpr (fun r hr => by
            by_cases x : r = q
            · rw [x]; exact e
            · exact hq0 r hr x)) h0
      · rw [← gk_l (nI i) (nI 0) (nI q) nc (by omega)]
        exact (z q hq).symm
    · rintro ⟨z1, z2⟩ r hr
      by_cases x : r = q
      · subst x
        rw [gk_l (nI i) (nI 0) (nI r) nc (by omega)]
        exact z2.symm
      · rw [hne r hr x]
        refine (hbf r hr).mp ?_
        cases e : w.testBit r with
        | false => rfl
        | true => exact absurd ((z1 r hr).mp e) x
  have cB : ¬ nI w = 0 → ∀ i, i + 1 < nc → (mG (wI I 1 0 0 0) nc (-1) (nI i) (-1) 0 ↔ mPB (I 2 8) (I 2 9) (I 2 2) nc (nI w) i) := fun h0 i hi => by
    obtain ⟨q, hq, eq1, eq2⟩ := hdec i (by omega)
    rw [hmG _ _ _ _ (Or.inr ⟨i, hi, rfl⟩)]
    unfold mPB
    rw [eq2]
    have hrr : ∀ rr rr' r : Int32, ∀ m, m < 2 ^ 30 → gk (I 2 8) (I 2 9) (-1) (nI i) (-1) rr r m = gk (I 2 8) (I 2 9) (-1) (nI i) (-1) rr' r m := by
      intro rr rr' r m
      induction m with
      | zero => intro _; rfl
      | succ m ih =>
        intro hm
        have h1 : ¬ nI m = -1 := fun z => nI_ne1 (by omega) z
        rw [gk_s, gk_s, ih (by omega), if_neg h1, if_neg h1]
    by_cases hsame : I 2 8 i = I 2 8 (i + 1)
    · have hne : ∀ r, r < 8 → ¬ r = q → gk (I 2 8) (I 2 9) (-1) (nI i) (-1) (nI 0) (nI r) nc = rtl (I 2 8) (I 2 9) (nI r) (-1) (-1) nc := fun r hr hrq => gk_t (by omega) (Or.inr (by rw [eq1]; exact fun z => hrq (nI_inj (by omega) (by omega) z.symm))) nc (by omega) (by omega)
      rw [eq1, ow_1 w hw q hq]
      constructor
      · intro z
        have hq0 : ∀ r, r < 8 → ¬ r = q → w.testBit r = false := fun r hr hrq => by
          rw [hbf r hr, ← hne r hr hrq]
          exact z r hr
        refine ⟨by rw [← hsame, eq1], fun r hr => ⟨fun y => ?_, fun y => ?_⟩, ?_⟩
        · exact Decidable.not_not.mp (fun x => by rw [hq0 r hr x] at y; exact Bool.noConfusion y)
        · rw [y]
          cases e : w.testBit q with
          | true => rfl
          | false => exact absurd ((ow_0 w hw).mpr (fun r hr => by
              by_cases x : r = q
              · rw [x]; exact e
              · exact hq0 r hr x)) h0
        · rw [hrr 0 (nI 0) (nI q) nc (by omega)]
          exact (z q hq).symm
      · rintro ⟨-, z1, z2⟩ r hr
        by_cases x : r = q
        · subst x
          rw [hrr (nI 0) 0 (nI r) nc (by omega)]
          exact z2.symm
        · rw [hne r hr x]
          refine (hbf r hr).mp ?_
          cases e : w.testBit r with
          | false => rfl
          | true => exact absurd ((z1 r hr).mp e) x
    · constructor
      · intro z
        refine absurd ((ow_0 w hw).mpr (fun r hr => ?_)) h0
        rw [hbf r hr, ← gk_t (nm := I 2 9) (rr := nI 0) (i := i) (by omega) (Or.inl hsame) nc (by omega) (by omega)]
        exact z r hr
      · rintro ⟨z, -⟩
        exact absurd z hsame
  have cC : ¬ nI w = 0 → ∀ i t, i < nc → t < 8 → (mG (wI I 1 0 0 0) nc (-1) (-1) (nI i) t ↔ mPC (I 2 8) (I 2 9) (I 2 2) nc (nI w) i t) := fun h0 i t hi ht => by
    obtain ⟨q, hq, eq1, eq2⟩ := hdec i hi
    rw [hmG _ _ _ _ (Or.inl rfl)]
    unfold mPC
    rw [eq2, eq1, ow_2 hw hq ht]
    have hgo := fun r => gk_o (rg := I 2 8) (nm := I 2 9) (i := i) (rr := nI t) (r := nI r) (by omega) nc (by omega)
    rw [eq1] at hgo
    by_cases htq : t = q
    · subst htq
      constructor
      · intro z
        refine absurd ((ow_0 w hw).mpr (fun r hr => ?_)) h0
        have := hgo r
        rw [if_pos rfl] at this
        rw [hbf r hr, ← this]
        exact z r hr
      · rintro ⟨-, -, z, -⟩
        exact absurd rfl z
    · have hnt : ¬ nI t = nI q := fun z => htq (nI_inj (by omega) (by omega) z)
      have gq : gk (I 2 8) (I 2 9) (-1) (-1) (nI i) (nI t) (nI q) nc = rtl (I 2 8) (I 2 9) (nI q) (nI i) (-1) nc := by rw [hgo q, if_neg hnt, if_pos rfl]
      have gt : gk (I 2 8) (I 2 9) (-1) (-1) (nI i) (nI t) (nI t) nc = rtl (I 2 8) (I 2 9) (nI t) (-1) (nI i) nc := by rw [hgo t, if_neg hnt, if_neg hnt, if_pos rfl]
      have gr : ∀ r, r < 8 → ¬ r = q → ¬ r = t → gk (I 2 8) (I 2 9) (-1) (-1) (nI i) (nI t) (nI r) nc = rtl (I 2 8) (I 2 9) (nI r) (-1) (-1) nc := fun r hr h1 h2 => by rw [hgo r, if_neg hnt, if_neg (fun z => h1 (nI_inj (by omega) (by omega) z)), if_neg (fun z => h2 (nI_inj (by omega) (by omega) z))]
      constructor
      · intro z
        refine ⟨by rw [← gq]; exact (z q hq).symm, fun r hr => ?_, hnt, by rw [← gt]; exact (z t ht).symm⟩
        by_cases h1 : r = q
        · exact Or.inr (Or.inl h1)
        · by_cases h2 : r = t
          · exact Or.inr (Or.inr h2)
          · refine Or.inl ?_
            rw [hbf r hr, ← gr r hr h1 h2]
            exact z r hr
      · rintro ⟨z1, z2, -, z4⟩ r hr
        by_cases h1 : r = q
        · rw [h1, gq, ← z1]
        · by_cases h2 : r = t
          · rw [h2, gt, ← z4]
          · rw [gr r hr h1 h2]
            refine (hbf r hr).mp ?_
            rcases z2 r hr with y | y | y
            · exact y
            · exact absurd y h1
            · exact absurd y h2
  have bc : ∀ q t, q < 8 → t < 8 → ¬ bcF (nI w) ≤ 2 → ¬ ∀ r, r < 8 → (w.testBit r = false ∨ r = q ∨ r = t) := fun q t hq ht h z => h (ow_3 hw hq ht z)
  have c19 := m19 (N := zN) (d := 4) (I := I) (F := F) (n := nc) (by decide) g1 g3 hrc hW
  obtain ⟨v0, g0, e0, hv0⟩ := (show ∃ (v : Int32) (g' : Nat → Int32), sem zN 8 260 [vR (some (1, 0)), vI (-1), vI (-1), vI (-1), vI 0] (wI I 1 0 0 0) F = some (vI v, fl (wI I 1 0 0 0) 1 19 8 g', F) ∧ ((v = 1 ∧ mG (wI I 1 0 0 0) nc (-1) (-1) (-1) 0) ∨ (v = 0 ∧ ¬ mG (wI I 1 0 0 0) nc (-1) (-1) (-1) 0)) by
    obtain ⟨v, e, h⟩ := m260 (N := zN) (d := 5) (I := wI I 1 0 0 0) (F := F) (n := nc) (by decide) g3 (by rw [w0_12, g2]) hrm (-1) (-1) (-1) (q8 := 0) (by omega) (Or.inl rfl)
    exact ⟨v, _, e, h⟩)
  have cls : ∀ v, (if nI w = 0 then 0 else if bcF (nI w) ≤ 2 then fsv (mPA (I 2 8) (I 2 9) (I 2 2) nc (nI w)) (fun i => nI (100 + i)) (fsv (mPB (I 2 8) (I 2 9) (I 2 2) nc (nI w)) (fun i => nI (200 + i)) (mvv (mPC (I 2 8) (I 2 9) (I 2 2) nc (nI w)) 0 nc) 0 (nc - 1)) 0 nc else -1) = v → sem zN 9 148 [vR (some (0, 0))] I F = some (vI v, I, F) := fun v hv => by
    rw [s148]; unfold b148
    rw [c19, bI_v, hv]
  have smf : ∀ g : Nat → Int32, smI I (fl (wI I 1 0 0 0) 1 19 8 g) F F := fun g => sm_fl g (sm_0 sm_rfl) (fun k => by unfold kpl; omega) (by omega) (by omega)
  by_cases h0 : nI w = 0
  · have hv1 : v0 = 1 := by
      rcases hv0 with ⟨z, -⟩ | ⟨-, z⟩
      · exact z
      · exact absurd (hG0.mpr h0) z
    refine qs_of (x := 0) hI (I1 := I) (F1 := F) (cls 0 (by rw [if_pos h0])) (I2 := fl (wI I 1 0 0 0) 1 19 8 g0) (F2 := F) ?_ sm_rfl (smf _)
    rw [s264]; unfold b264
    dsimp only
    rw [e0, bI_v, hv1, if_neg (by decide)]
  · have hv1 : v0 = 0 := by
      rcases hv0 with ⟨-, z⟩ | ⟨z, -⟩
      · exact absurd (hG0.mp z) h0
      · exact z
    obtain ⟨g', e'⟩ := l264a (N := zN) (d := 5) (I := wI I 1 0 0 0) (F := F) (n := nc) (by decide) g3 (by rw [w0_12, g2]) hrm nc 0 zN g0 (by omega) (by rw [show zN = 20000 from rfl]; omega)
    have eV : fsv (fun i => mG (wI I 1 0 0 0) nc (nI i) (-1) (-1) 0) (fun i => nI (100 + i)) (fsv (fun i => mG (wI I 1 0 0 0) nc (-1) (nI i) (-1) 0) (fun i => nI (200 + i)) (mvv (fun i t => mG (wI I 1 0 0 0) nc (-1) (-1) (nI i) t) 0 nc) 0 (nc - 1)) 0 nc = fsv (mPA (I 2 8) (I 2 9) (I 2 2) nc (nI w)) (fun i => nI (100 + i)) (fsv (mPB (I 2 8) (I 2 9) (I 2 2) nc (nI w)) (fun i => nI (200 + i)) (mvv (mPC (I 2 8) (I 2 9) (I 2 2) nc (nI w)) 0 nc) 0 (nc - 1)) 0 nc := fsv_c (fsv_c (mvv_c (fun i t _ h2 h3 => cC h0 i t (by omega) h3)) (fun i _ h2 => cB h0 i (by omega))) (fun i _ h2 => cA h0 i (by omega))
    have mdl : sem zN 9 264 [vR (some (1, 0))] I F = some (vI (fsv (mPA (I 2 8) (I 2 9) (I 2 2) nc (nI w)) (fun i => nI (100 + i)) (fsv (mPB (I 2 8) (I 2 9) (I 2 2) nc (nI w)) (fun i => nI (200 + i)) (mvv (mPC (I 2 8) (I 2 9) (I 2 2) nc (nI w)) 0 nc) 0 (nc - 1)) 0 nc), fl (wI I 1 0 0 0) 1 19 8 g', F) := by
      rw [s264]; unfold b264
      dsimp only
      rw [e0, bI_v, hv1, if_pos rfl, w0_12, g2, ← eV]
      exact e'
    by_cases h2 : bcF (nI w) ≤ 2
    · exact qs_of hI (cls _ (by rw [if_neg h0, if_pos h2])) mdl sm_rfl (smf _)
    · have hz : fsv (mPA (I 2 8) (I 2 9) (I 2 2) nc (nI w)) (fun i => nI (100 + i)) (fsv (mPB (I 2 8) (I 2 9) (I 2 2) nc (nI w)) (fun i => nI (200 + i)) (mvv (mPC (I 2 8) (I 2 9) (I 2 2) nc (nI w)) 0 nc) 0 (nc - 1)) 0 nc = -1 := by
        rw [fsv_0 (fun i _ hi => ?_), fsv_0 (fun i _ hi => ?_), mvv_0 (fun i t _ hi ht => ?_)]
        · intro z
          obtain ⟨q, hq, eq1, eq2⟩ := hdec i (by omega)
          unfold mPC at z
          rw [eq2, ow_2 hw hq ht] at z
          exact bc q t hq ht h2 z.2.1
        · intro z
          obtain ⟨q, hq, eq1, eq2⟩ := hdec i (by omega)
          unfold mPB at z
          rw [eq2, ow_1 w hw q hq] at z
          refine bc q q hq hq h2 (fun r hr => ?_)
          cases e : w.testBit r with
          | false => exact Or.inl rfl
          | true => exact Or.inr (Or.inl ((z.2.1 r hr).mp e))
        · intro z
          obtain ⟨q, hq, eq1, eq2⟩ := hdec i (by omega)
          unfold mPA at z
          rw [eq2, ow_1 w hw q hq] at z
          refine bc q q hq hq h2 (fun r hr => ?_)
          cases e : w.testBit r with
          | false => exact Or.inl rfl
          | true => exact Or.inr (Or.inl ((z.1 r hr).mp e))
      rw [hz] at mdl
      exact qs_of hI (cls (-1) (by rw [if_neg h0, if_neg h2])) mdl sm_rfl (smf _)
