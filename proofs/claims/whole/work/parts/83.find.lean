/-! REACH: the class's route -/
section KM
variable {N d : Nat} {J J' : IM} {F : FM} {a : Nat → Int32} {nk nx key n c ts P s : Nat} {w : Nat → Nat} {tp hp : Bool}
theorem KS_n (h : KSt J a nk nx w n tp c ts s) (e : ∀ o k, J' 3 o k = J 3 o k) : KSt J' a nk nx w n tp c ts s := by
  obtain ⟨k1, k2, k3, k4, k5, k6⟩ := h
  have e16 : J' 3 16 = J 3 16 := by funext k; exact e 16 k
  refine ⟨by rw [e, k1], by rw [e, k2], fun k hk => by rw [e, k3 k hk], fun t ht => by rw [e, k4 t ht], fun i hi => by rw [e]; exact k5 i hi, fun z1 z2 => ?_⟩
  rw [e16, e 17 c]
  exact k6 z1 z2
theorem KS_p {t x s' : Nat} (h : KSt J a nk nx w n tp c ts s) (ht : t < 3) (hu : cuu s' = cuu s) (hc : ∀ r, r < 3 → cs s' r = if r = t then x else cs s r) : KSt (wI J 3 14 t (pI x)) a nk nx w n tp c ts s' := by
  obtain ⟨k1, k2, k3, k4, k5, k6⟩ := h
  have e16 : wI J 3 14 t (pI x) 3 16 = J 3 16 := by funext k; rw [wI_eq, if_neg (fun z => by omega)]
  refine ⟨by rw [wI_eq, if_neg (fun z => by omega), k1], by rw [wI_eq, if_neg (fun z => by omega), k2], fun k hk => by rw [wI_eq, if_neg (fun z => by omega), k3 k hk], fun r hr => ?_, fun i hi => by rw [wI_eq, if_neg (fun z => by omega), hu]; exact k5 i hi, fun z1 z2 => ?_⟩
  · rw [hc r hr, wI_eq]
    by_cases e : r = t
    · rw [if_pos ⟨rfl, rfl, e⟩, if_pos e]
    · rw [if_neg (fun z => e z.2.2), if_neg e, k4 r hr]
  · rw [e16, wI_eq, if_neg (fun z => by omega)]
    exact k6 z1 z2
theorem KS_f {t : Nat} (h : KSt J a nk nx w n tp c ts s) (ht : t < 3) : KSt (wI J 3 14 t (-1)) a nk nx w n tp c ts (fls s t) := by
  have := KS_p (x := 0) (s' := fls s t) h ht (fls_u ht) (fls_c ht)
  rw [pI_0] at this
  exact this
theorem KS_l {t k : Nat} (h : KSt J a nk nx w n tp c ts s) (ht : t < 3) (h0 : cs s t = 0) (hk : k < 15) : KSt (wI J 3 14 t (nI k)) a nk nx w n tp c ts (pts s t (k + 1)) := by
  have := KS_p (x := k + 1) (s' := pts s t (k + 1)) h ht (pts_u ht h0 (by omega)) (pts_c ht h0 (by omega))
  rw [pI_s] at this
  exact this
theorem KS_s (hW : WayR a nk nx key w n tp c ts hp P) (hn1 : 1 ≤ n) (hnk : nk ≤ 10) (h : KSt J a nk nx w n tp c ts s) (h0 : cs s ts = 0) (hu : cuu s = 0) : KSt (wI (wI (wI J 3 14 ts (nI (w (n - 1)))) 3 13 (w (n - 1)) 0) 3 18 c 1) a nk nx w n tp c ts (pts s ts (w (n - 1) + 1) + 4096) := by
  have hw := (hW.2.2.2.2.1 (n - 1) (by omega)).1
  obtain ⟨k1, k2, k3, k4, k5, k6⟩ := KS_l (k := w (n - 1)) h hW.2.1 h0 (by omega)
  have e16 : wI (wI (wI J 3 14 ts (nI (w (n - 1)))) 3 13 (w (n - 1)) 0) 3 18 c 1 3 16 = wI J 3 14 ts (nI (w (n - 1))) 3 16 := by funext k; rw [wI_eq, if_neg (fun z => by omega), wI_eq, if_neg (fun z => by omega)]
  refine ⟨by rw [wI_eq, if_neg (fun z => by omega), wI_eq, if_neg (fun z => by omega), k1], by rw [wI_eq, if_neg (fun z => by omega), wI_eq, if_neg (fun z => by omega), k2], fun k hk => by rw [wI_eq, if_neg (fun z => by omega), wI_eq, if_neg (fun z => by omega), k3 k hk], fun r hr => by rw [wI_eq, if_neg (fun z => by omega), wI_eq, if_neg (fun z => by omega), sw_c r hr, k4 r hr], fun i hi => ?_, fun z1 z2 => ?_⟩
  · have e1 : cuu (pts s ts (w (n - 1) + 1) + 4096) = 1 := by rw [sw_u, pts_u hW.2.1 h0 (by omega), hu]
    rw [e1, wI_eq, if_neg (fun z => by omega), wI_eq]
    by_cases e : w i = w (n - 1)
    · rw [if_pos ⟨rfl, rfl, e⟩]
      exact ⟨fun z => absurd rfl z, fun z => by omega⟩
    · rw [if_neg (fun z => e z.2.2), k5 i hi]
      constructor
      · intro z
        exact absurd (by rw [show i = n - 1 by omega]) e
      · intro z; omega
  · rw [e16, wI_eq, if_neg (fun z => by omega), wI_eq, if_neg (fun z => by omega)]
    exact k6 z1 z2
theorem m92 {z : Nat} (x : Int32) (hz : J 0 10 1 = nI z) (h6 : z < 6) : sem N (d + 1) 92 [vR (some (0, 10)), vI x] J F = some (vI 0, wI (wI J 0 11 z x) 0 10 1 (nI (z + 1)), F) := by
  rw [s92]; unfold b92
  have e1 : wI J 0 11 z x 0 10 1 = nI z := by rw [wI_eq, if_neg (fun z => by omega), hz]
  rw [hz, if_neg (nI_pos (by omega)), if_pos (show nI z < (6 : Int32) from by rw [i_lt, i_nI (by omega)]; exact Int.ofNat_lt.mpr h6), if_pos (inb_nI h6 (by decide)), nI_clamp (by omega)]
  try dsimp only
  rw [e1, nI_1]
theorem m94 (hN : 20 ≤ N) (hW : WayR a nk nx key w n tp c ts hp P) (hn1 : 1 ≤ n) (hnk : nk ≤ 10) (hnx : nx ≤ 12) (hk : key < nk) (hpar : ∀ k, k < nk → a (180 + 4 * k) = -1 ∨ ∃ p, p < k ∧ a (180 + 4 * k) = nI p) (hK : KSt J a nk nx w n tp c ts s) (hS : SGs w n tp ts hp P s) : sem N (d + 4) 94 [vR (some (3, 10)), vI (nI key), vI (nI (cph w n tp ts hp P s))] J F = if gsl w n tp ts hp P s < 3 then some (vI (nI (gsl w n tp ts hp P s)), wI J 3 14 (gsl w n tp ts hp P s) (-1), F) else some (vI (-1), J, F) := by
  rw [show (3 : Nat) = 1 + 2 from rfl, s94]; unfold b94
  have k4 := hK.2.2.2.1
  have hΦ := hS.2.1
  have h := lpf0 (S := fun m t => sg (sem N (d + 3)) 1 zc94 m 2 [vR (some (3, 10)), vI (nI key), vI (nI (cph w n tp ts hp P s)), vI (nI t)] J F) (P := fun t => ¬ cs s t = 0 ∧ cph w n tp ts hp P (fls s t) < cph w n tp ts hp P s) (R := fun t => some (vI (nI t), wI J 3 14 t (-1), F)) (D := some (vI (-1), J, F)) (m := 3) (N := N) (by omega) ?_ ?_
  · rcases h with ⟨i, h1, h2, h3, h4⟩ | ⟨h1, h2⟩
    · have e : gsl w n tp ts hp P s = i := fidx_e (by omega) h3 (fun _ => h2)
      rw [e, if_pos h1]
      exact h4
    · have e : gsl w n tp ts hp P s = 3 := fidx_e (Nat.le_refl _) h1 (fun z => absurd z (by omega))
      rw [e, if_neg (by omega)]
      exact h2
  · intro m t ht
    try dsimp only
    have c16 := cs_lt s t
    by_cases z : cs s t = 0
    · refine Or.inr ⟨fun y => y.1 z, ?_⟩
      rw [show (3 : Nat) = 1 + 2 from rfl, u94_2]; unfold b94_2
      rw [if_neg (show ¬ (3 : Int32) ≤ nI t from nI_ge ht (by decide)), m55 (by omega), bI_v, if_pos (inb_nI ht (by decide)), nI_clamp (by omega), k4 t ht, if_pos ((pI_m (by omega)).mpr z), nI_1]
    · have hK2 := KS_f hK ht
      obtain ⟨v, v1, v2, v3, v4, v5⟩ := m93 (N := N) (d := d) (F := F) hN hW hnk hnx hk hpar hK2 (fls_l hS.1) (fun y => by omega)
      have back : wI (wI J 3 14 t (-1)) 3 14 t (pI (cs s t)) = J := by
        funext b o k
        rw [wI_eq, wI_eq]
        by_cases e : b = 3 ∧ o = 14 ∧ k = t
        · obtain ⟨rfl, rfl, rfl⟩ := e
          rw [if_pos ⟨rfl, rfl, rfl⟩, k4 k ht]
        · rw [if_neg e, if_neg e]
      have hcmp : (cph w n tp ts hp P (fls s t) < cph w n tp ts hp P s) ↔ ¬ cph w n tp ts hp P s ≤ v := by
        by_cases hd' : cdd w n tp hp P (fls s t)
        · have := dead_ge (ts := ts) hn1 ht z (ncd hS.2.1) hd' (v5 hn1 hd').1 (v5 hn1 hd').2
          rw [cph_d hd']
          omega
        · rw [v4 hn1 hd']
          omega
      by_cases y : cph w n tp ts hp P s ≤ v
      · refine Or.inr ⟨fun u => (hcmp.mp u.2) y, ?_⟩
        rw [show (3 : Nat) = 1 + 2 from rfl, u94_2]; unfold b94_2
        rw [if_neg (show ¬ (3 : Int32) ≤ nI t from nI_ge ht (by decide)), m55 (by omega), bI_v, if_pos (inb_nI ht (by decide)), nI_clamp (by omega), k4 t ht, if_neg (fun u => z ((pI_m (by omega)).mp u)), m60 (by omega) ht, bV_v, v1, bI_v, if_pos (nI_le y (by omega)), m60 (by omega) ht, bV_v, back, nI_1]
      · refine Or.inl ⟨⟨z, hcmp.mpr y⟩, ?_⟩
        rw [show (3 : Nat) = 1 + 2 from rfl, u94_2]; unfold b94_2
        rw [if_neg (show ¬ (3 : Int32) ≤ nI t from nI_ge ht (by decide)), m55 (by omega), bI_v, if_pos (inb_nI ht (by decide)), nI_clamp (by omega), k4 t ht, if_neg (fun u => z ((pI_m (by omega)).mp u)), m60 (by omega) ht, bV_v, v1, bI_v, if_neg (nI_ge (by omega) (by omega))]
  · intro m
    try dsimp only
    rw [show (3 : Nat) = 1 + 2 from rfl, u94_2]; unfold b94_2
    rw [if_pos (by decide)]
theorem m95 {z : Nat} (hN : 20 ≤ N) (hW : WayR a nk nx key w n tp c ts hp P) (hn1 : 1 ≤ n) (hnk : nk ≤ 10) (hnx : nx ≤ 12) (hpar : ∀ k, k < nk → a (180 + 4 * k) = -1 ∨ ∃ p, p < k ∧ a (180 + 4 * k) = nI p) (hK : KSt J a nk nx w n tp c ts s) (hS : SGs w n tp ts hp P s) (h0 : ¬ cph w n tp ts hp P s = 0) (hg : ¬ gsl w n tp ts hp P s < 3) (hz : J 0 10 1 = nI z) (h6 : z < 6) : ∃ J1, sem N (d + 4) 95 [vR (some (0, 10)), vR (some (3, 10)), vI (nI key)] J F = some (vI 0, wI (wI J1 0 11 z (nI (gmv w n tp c ts hp P s))) 0 10 1 (nI (z + 1)), F) ∧ KSt J1 a nk nx w n tp c ts (gst w n tp ts hp P s) ∧ ∀ b o k, b ≠ 3 → J1 b o k = J b o k := by
  obtain ⟨k1, k2, k3, k4, k5, k6⟩ := hK
  have hK : KSt J a nk nx w n tp c ts s := ⟨k1, k2, k3, k4, k5, k6⟩
  obtain ⟨g1, g2, g3⟩ := fidx_p (P := fun i => cld s (w i)) n
  have g1 : cix w n s ≤ n := g1
  have g2 : ∀ i, i < cix w n s → ¬ cld s (w i) := g2
  have g3 : cix w n s < n → cld s (w (cix w n s)) := g3
  have hi := cix_1 hn1 h0
  have hwl : ∀ i, i < n → w i < nk := fun i hi => (hW.2.2.2.2.1 i hi).1
  have hn10 : n ≤ 10 := by have h1 := hW.1; have h2 := hW.2.2.2.1 hn1; have h3 := hwl 0 (by omega); omega
  have sw : ∀ i, i < n → sem N (d + 3) 53 [vR (some (3, 10)), vI (nI (w i))] J F = some (vI (bz (tp = true ∧ i + 1 = n ∧ cuu s = 0)), J, F) := fun i hi => by
    have hw := hwl i hi
    rw [m53 (by omega) _ k1 hnk]
    refine congrArg (fun v => some (vI v, J, F)) (bz_congr ?_)
    rw [nI_clamp (by omega), k5 i hi]
    exact ⟨fun y => y.2, fun y => ⟨inb_nI hw (by omega), y⟩⟩
  have run : ∀ x, x + 1 ≤ cix w n s → ∀ q, sg (sem N (d + 3)) 0 zc95 (q + x) 5 [vR (some (0, 10)), vR (some (3, 10)), vI (nI (w 0)), vI (nI 0)] J F = sg (sem N (d + 3)) 0 zc95 q 5 [vR (some (0, 10)), vR (some (3, 10)), vI (nI (w x)), vI (nI x)] J F := by
    intro x
    induction x with
    | zero => intro _ q; rfl
    | succ x ih =>
      intro h1 q
      have hw := hwl x (by omega)
      have hw1 := hwl (x + 1) (by omega)
      rw [show q + (x + 1) = (q + 1) + x by omega, ih (by omega) (q + 1), show (3 : Nat) = 1 + 2 from rfl, u95_5]; unfold b95_5
      have ep : (if inb (nI (w x)) nk then J 3 11 (nI (w x)).toNatClampNeg else -1) = nI (w (x + 1)) := by
        rw [if_pos (inb_nI hw (by omega)), nI_clamp (by omega), k3 _ hw, (hW.2.2.2.2.2.1 x (by omega)).1]
      rw [if_neg (show ¬ (10 : Int32) ≤ nI x from nI_ge (show x < 10 by omega) (by decide)), sw x (by omega), bI_v, ite_bzif, if_neg (fun y => by omega), m61 (by omega) (by omega) _ k1 hnk, bI_v, ep, ite_bzif, if_neg (fun y => by
        rcases y with y | y
        · exact nI_ne1 (by omega) y
        · exact y ((slk k4 (by omega)).mpr (g2 (x + 1) (by omega)))), m54 (by omega) _ k1 hnk, bI_v, ep, nI_1]
  have hw := hwl (cix w n s - 1) (by omega)
  have go : ∀ T, (∀ q, sg (sem N (d + 3)) 0 zc95 (q + 1) 5 [vR (some (0, 10)), vR (some (3, 10)), vI (nI (w (cix w n s - 1))), vI (nI (cix w n s - 1))] J F = T) → sem N (d + 4) 95 [vR (some (0, 10)), vR (some (3, 10)), vI (nI key)] J F = T := by
    intro T h
    rw [show (3 : Nat) = 1 + 2 from rfl, s95]; unfold b95
    have r := run (cix w n s - 1) (by omega) (N - (cix w n s - 1))
    rw [show N - (cix w n s - 1) + (cix w n s - 1) = N by omega, hW.2.2.2.1 hn1, show N - (cix w n s - 1) = (N - cix w n s) + 1 by omega, h] at r
    exact r
  have lt10 : ¬ (10 : Int32) ≤ nI (cix w n s - 1) := nI_ge (show cix w n s - 1 < 10 by omega) (by decide)
  rcases g_cases hW hn1 hS h0 with ⟨h1, -⟩ | ⟨h1, h2, h3, h4, h5⟩ | ⟨h1, h2, h3⟩
  · exact absurd h1 hg
  · have e2 : gst w n tp ts hp P s = pts s ts (w (n - 1) + 1) + 4096 := by unfold gst; rw [if_neg h1, if_pos ⟨h2, h3⟩]
    have e3 : gmv w n tp c ts hp P s = 40 + c := by unfold gmv; rw [if_neg h1, if_pos ⟨h2, h3⟩]
    obtain ⟨c1, c2, c3⟩ := k6 hn1 h2
    have hcx := (hW.2.2.2.2.2.2.1 hn1 h2).2.1
    have en : cix w n s - 1 = n - 1 := by omega
    rw [en] at go hw lt10
    refine ⟨wI (wI (wI J 3 14 ts (nI (w (n - 1)))) 3 13 (w (n - 1)) 0) 3 18 c 1, go _ (fun q => ?_), ?_, fun b o k hb => ?_⟩
    · rw [show (3 : Nat) = 1 + 2 from rfl, u95_5]; unfold b95_5
      have ez : wI (wI (wI J 3 14 ts (nI (w (n - 1)))) 3 13 (w (n - 1)) 0) 3 18 c 1 0 10 1 = nI z := by rw [wI_eq, if_neg (fun z => by omega), wI_eq, if_neg (fun z => by omega), wI_eq, if_neg (fun z => by omega), hz]
      have yes : tp = true ∧ n - 1 + 1 = n ∧ cuu s = 0 := ⟨h2, by omega, h5⟩
      rw [if_neg lt10, sw (n - 1) (by omega), bI_v, ite_bzif, if_pos yes, sw (n - 1) (by omega), bI_v, ite_bzif, if_pos yes, m65 (by omega) (by omega) _ k2 hnx, bI_v, c1, m68 (by omega) hcx k2 hnx c2 hw k1 hnk c3 hW.2.1, bV_v, L40, nI_add, m92 (z := z) _ ez h6, bV_v, e3]
    · rw [e2]
      exact KS_s hW hn1 hnk hK h4 h5
    · rw [wI_eq, if_neg (fun y => hb y.1), wI_eq, if_neg (fun y => hb y.1), wI_eq, if_neg (fun y => hb y.1)]
  · have e2 : gst w n tp ts hp P s = pts s (lfN s) (w (cix w n s - 1) + 1) := by unfold gst; rw [if_neg h1, if_neg h2]
    have e3 : gmv w n tp c ts hp P s = 20 + w (cix w n s - 1) := by unfold gmv; rw [if_neg h1, if_neg h2]
    obtain ⟨y1, y2, y3, y4, y5, y6⟩ := g_ld hW hn1 hS h0 h2
    refine ⟨wI J 3 14 (lfN s) (nI (w (cix w n s - 1))), go _ (fun q => ?_), ?_, fun b o k hb => ?_⟩
    · rw [show (3 : Nat) = 1 + 2 from rfl, u95_5]; unfold b95_5
      have ez : wI J 3 14 (lfN s) (nI (w (cix w n s - 1))) 0 10 1 = nI z := by rw [wI_eq, if_neg (fun z => by omega), hz]
      have no : ¬ (tp = true ∧ cix w n s - 1 + 1 = n ∧ cuu s = 0) := fun y => h2 ⟨y.1, by omega⟩
      have pl : (if inb (nI (w (cix w n s - 1))) nk then J 3 11 (nI (w (cix w n s - 1))).toNatClampNeg else -1) = -1 ∨ ¬ slOf (J 3 14) (if inb (nI (w (cix w n s - 1))) nk then J 3 11 (nI (w (cix w n s - 1))).toNatClampNeg else -1) = -1 := by
        rw [if_pos (inb_nI hw (by omega)), nI_clamp (by omega), k3 _ hw]
        by_cases e : cix w n s - 1 + 1 < n
        · obtain ⟨x1, x2⟩ := y5 e
          have hw2 := hwl (cix w n s) (by omega)
          rw [x1]
          exact Or.inr (fun u => (slk k4 (by omega)).mp u x2)
        · rcases (y6 (by omega)).2 with ⟨-, x⟩ | ⟨-, x0, x1, x2⟩
          · exact Or.inl x
          · rw [x1]
            exact Or.inr (fun u => (slk k4 (by omega)).mp u x2)
      have elf : lfI s = nI (lfN s) := by unfold lfI; rw [if_neg (by omega)]
      rw [if_neg lt10, sw _ y1, bI_v, ite_bzif, if_neg no, m61 (by omega) (by omega) _ k1 hnk, bI_v, ite_bzif, if_pos pl, sw _ y1, bI_v, ite_bzif, if_neg no, m57 (by omega) (by omega), bI_v, frk k4, elf, m60 (by omega) h3, bV_v, L20, nI_add, m92 (z := z) _ ez h6, bV_v, e3]
    · rw [e2]
      exact KS_l hK h3 (lf3 h3) (by omega)
    · rw [wI_eq, if_neg (fun y => hb y.1)]
theorem gS_s (t : Nat) : gS w n tp ts hp P s (t + 1) = gS w n tp ts hp P (gst w n tp ts hp P s) t := by
  induction t with
  | zero => rfl
  | succ t ih =>
    show gst w n tp ts hp P (gS w n tp ts hp P s (t + 1)) = _
    rw [ih]
    rfl
def RF (J J' : IM) : Prop := ∀ b o k, ¬ (b = 3 ∨ (b = 0 ∧ ((o = 10 ∧ k = 1) ∨ o = 11))) → J' b o k = J b o k
theorem rt (hN : 20 ≤ N) (hW : WayR a nk nx key w n tp c ts hp P) (hn1 : 1 ≤ n) (hn : n ≤ 11) (hnk : nk ≤ 10) (hnx : nx ≤ 12) (hk : key < nk) (hpar : ∀ k, k < nk → a (180 + 4 * k) = -1 ∨ ∃ p, p < k ∧ a (180 + 4 * k) = nI p) : ∀ (k z s q : Nat) (J : IM), cph w n tp ts hp P s = k → SGs w n tp ts hp P s → KSt J a nk nx w n tp c ts s → J 0 10 1 = nI z → z + k ≤ 6 → k < q → ∃ J', sg (sem N (d + 4)) 6 zc91 q 36 [vR (some (0, 10)), vR (some (3, 10)), vI (nI key), vI (nI k)] J F = some (vI 1, J', F) ∧ J' 0 10 1 = nI (z + k) ∧ (∀ t, t < k → J' 0 11 (z + t) = nI (gmv w n tp c ts hp P (gS w n tp ts hp P s t))) ∧ (∀ t, t < z → J' 0 11 t = J 0 11 t) ∧ RF J J' := by
  intro k
  induction k with
  | zero =>
    intro z s q J hΦ hS hK hz h6 hq
    obtain ⟨q, rfl⟩ : ∃ r, q = r + 1 := ⟨q - 1, by omega⟩
    refine ⟨J, ?_, hz, fun t ht => by omega, fun t _ => rfl, fun b o k _ => rfl⟩
    rw [show (3 : Nat) = 1 + 2 from rfl, u91_36]; unfold b91_36
    rw [if_pos (by decide)]
  | succ k ih =>
    intro z s q J hΦ hS hK hz h6 hq
    obtain ⟨q, rfl⟩ : ∃ r, q = r + 1 := ⟨q - 1, by omega⟩
    have h0 : ¬ cph w n tp ts hp P s = 0 := by omega
    have hS' := SG_g hW hn1 hn hnk hnx hS h0
    have hΦ' := (mvs_g hW hn1 hn hnk hnx hS h0).2
    have f94 := m94 (N := N) (d := d) (F := F) hN hW hn1 hnk hnx hk hpar hK hS
    rw [hΦ] at f94
    -- one move
    have one : ∃ J1, KSt J1 a nk nx w n tp c ts (gst w n tp ts hp P s) ∧ (∀ b o k, b ≠ 3 → J1 b o k = J b o k) ∧ sg (sem N (d + 4)) 6 zc91 (q + 1) 36 [vR (some (0, 10)), vR (some (3, 10)), vI (nI key), vI (nI (k + 1))] J F = sg (sem N (d + 4)) 6 zc91 q 36 [vR (some (0, 10)), vR (some (3, 10)), vI (nI key), vI (nI k)] (wI (wI J1 0 11 z (nI (gmv w n tp c ts hp P s))) 0 10 1 (nI (z + 1))) F := by
      have nk0 : ¬ nI (k + 1) ≤ (0 : Int32) := nI_ge (show 0 < k + 1 by omega) (by omega)
      have nz : ¬ (6 : Int32) ≤ nI z := nI_ge (show z < 6 by omega) (by decide)
      have ek : nI (k + 1) + (-1) = nI k := by rw [pI_d, pI_s]
      by_cases hg : gsl w n tp ts hp P s < 3
      · have e2 : gst w n tp ts hp P s = fls s (gsl w n tp ts hp P s) := by unfold gst; rw [if_pos hg]
        have e3 : gmv w n tp c ts hp P s = 10 + gsl w n tp ts hp P s := by unfold gmv; rw [if_pos hg]
        rw [if_pos hg] at f94
        refine ⟨wI J 3 14 (gsl w n tp ts hp P s) (-1), by rw [e2]; exact KS_f hK hg, fun b o k hb => by rw [wI_eq, if_neg (fun y => hb y.1)], ?_⟩
        have ez : wI J 3 14 (gsl w n tp ts hp P s) (-1) 0 10 1 = nI z := by rw [wI_eq, if_neg (fun z => by omega), hz]
        rw [show (3 : Nat) = 1 + 2 from rfl, u91_36]; unfold b91_36
        rw [if_neg nk0, hz, if_neg nz, f94, bI_v, if_neg (fun y => nI_ne1 (by omega) y), L10, nI_add, m92 (z := z) _ ez (by omega), bV_v, ek, e3]
      · rw [if_neg hg] at f94
        obtain ⟨J1, j1, j2, j3⟩ := m95 (N := N) (d := d) (F := F) (z := z) hN hW hn1 hnk hnx hpar hK hS h0 hg hz (by omega)
        refine ⟨J1, j2, j3, ?_⟩
        rw [show (3 : Nat) = 1 + 2 from rfl, u91_36]; unfold b91_36
        rw [if_neg nk0, hz, if_neg nz, f94, bI_v, if_pos rfl, j1, bV_v, ek]
    obtain ⟨J1, j1, j2, j3⟩ := one
    have jK : KSt (wI (wI J1 0 11 z (nI (gmv w n tp c ts hp P s))) 0 10 1 (nI (z + 1))) a nk nx w n tp c ts (gst w n tp ts hp P s) := KS_n j1 (fun o k => by rw [wI_eq, if_neg (fun z => by omega), wI_eq, if_neg (fun z => by omega)])
    obtain ⟨J', r1, r2, r3, r4, r5⟩ := ih (z + 1) (gst w n tp ts hp P s) q _ (by omega) hS' jK (wI_s _ _ _ _ _) (by omega) (by omega)
    refine ⟨J', Eq.trans j3 r1, by rw [r2, show z + 1 + k = z + (k + 1) by omega], fun t ht => ?_, fun t ht => ?_, fun b o k hb => ?_⟩
    · cases t with
      | zero =>
        rw [Nat.add_zero, r4 z (by omega), wI_eq, if_neg (fun z => by omega), wI_s]
        rfl
      | succ t =>
        have := r3 t (by omega)
        rw [show z + 1 + t = z + (t + 1) by omega] at this
        rw [this, gS_s]
    · rw [r4 t (by omega), wI_eq, if_neg (fun z => by omega), wI_eq, if_neg (fun z => by omega), j2 _ _ _ (by omega)]
    · rw [r5 b o k hb, wI_eq, if_neg (fun y => hb (Or.inr ⟨y.1, Or.inl ⟨y.2.1, y.2.2⟩⟩)), wI_eq, if_neg (fun y => hb (Or.inr ⟨y.1, Or.inr y.2.1⟩)), j2 b o k (fun y => hb (Or.inl y))]
theorem m91 {x : Int32} {z : Nat} (hN : 40 ≤ N) (hW : WayR a nk nx key w n tp c ts hp P) (hnk : nk ≤ 10) (hnx : nx ≤ 12) (hk : key < nk) (hpar : ∀ k, k < nk → a (180 + 4 * k) = -1 ∨ ∃ p, p < k ∧ a (180 + 4 * k) = nI p) (hK : KSt J a nk nx w n tp c ts s) (hs : s < 8192) (hS : 1 ≤ n → SGs w n tp ts hp P s) (hld : n = 0 → cld s key) (hx : (x = -1 ∧ z = 0) ∨ (¬ x = -1 ∧ z = 1)) : ∃ J', sem N (d + 5) 91 [vR (some (0, 10)), vR (some (3, 10)), vI (nI key), vI x] J F = some (vI (bz (z + sD w n tp ts hp P s ≤ 6)), J', F) ∧ RF J J' ∧ (z + sD w n tp ts hp P s ≤ 6 → J' 0 10 1 = nI (z + sD w n tp ts hp P s) ∧ (∀ t, t < sD w n tp ts hp P s → J' 0 11 (z + t) = nI (gmv w n tp c ts hp P (gS w n tp ts hp P s t))) ∧ (z = 1 → J' 0 11 0 = x)) := by
  have hn : n ≤ 10 := by have := hW.1; omega
  -- after the first move
  obtain ⟨J0, q0, q1, q2, q3⟩ : ∃ J0, J0 0 10 1 = nI z ∧ (z = 1 → J0 0 11 0 = x) ∧ RF J J0 ∧ KSt J0 a nk nx w n tp c ts s ∧ sem N (d + 5) 91 [vR (some (0, 10)), vR (some (3, 10)), vI (nI key), vI x] J F = bI (sem N (d + 4) 93 [vR (some (3, 10)), vI (nI key)] J0 F) (fun r2 I2 F2 => (if ((I2 0 10 1) + r2) ≤ (6 : Int32) then (sg (sem N (d + 4)) 6 zc91 N 36 [vR (some (0, 10)), vR (some (3, 10)), vI (nI key), vI r2] I2 F2) else some (vI (0 : Int32), I2, F2))) := by
    rcases hx with ⟨hx, rfl⟩ | ⟨hx, rfl⟩
    · refine ⟨wI J 0 10 1 0, by rw [wI_s, nI_0], fun y => by omega, fun b o k hb => by rw [wI_eq, if_neg (fun y => hb (Or.inr ⟨y.1, Or.inl ⟨y.2.1, y.2.2⟩⟩))], KS_n hK (fun o k => by rw [wI_eq, if_neg (fun z => by omega)]), ?_⟩
      rw [show (3 : Nat) = 1 + 2 from rfl, s91]; unfold b91
      try dsimp only
      rw [if_pos hx]
    · have e0 : wI J 0 10 1 0 0 10 1 = nI 0 := by rw [wI_s, nI_0]
      refine ⟨wI (wI (wI J 0 10 1 0) 0 11 0 x) 0 10 1 (nI (0 + 1)), wI_s _ _ _ _ _, fun _ => by rw [wI_eq, if_neg (fun z => by omega), wI_s], fun b o k hb => by rw [wI_eq, if_neg (fun y => hb (Or.inr ⟨y.1, Or.inl ⟨y.2.1, y.2.2⟩⟩)), wI_eq, if_neg (fun y => hb (Or.inr ⟨y.1, Or.inr y.2.1⟩)), wI_eq, if_neg (fun y => hb (Or.inr ⟨y.1, Or.inl ⟨y.2.1, y.2.2⟩⟩))], KS_n hK (fun o k => by rw [wI_eq, if_neg (fun z => by omega), wI_eq, if_neg (fun z => by omega), wI_eq, if_neg (fun z => by omega)]), ?_⟩
      rw [show (3 : Nat) = 1 + 2 from rfl, s91]; unfold b91
      try dsimp only
      rw [if_neg hx, m92 (z := 0) _ e0 (by omega), bV_v]
  obtain ⟨q3, q4⟩ := q3
  obtain ⟨v, v1, v2, v3, v4, v5⟩ := m93 (N := N) (d := d + 1) (F := F) (by omega) hW hnk hnx hk hpar q3 hs hld
  have hv : v = sD w n tp ts hp P s := by
    unfold sD
    by_cases e : n = 0
    · rw [if_pos e, v3 e]
    · rw [if_neg e]
      exact v4 (by omega) (ncd (hS (by omega)).2.1)
  have hz1 : z ≤ 1 := by omega
  rw [← hv]
  rw [q4, v1, bI_v, q0, nI_add]
  have cmp : (nI (z + v) ≤ (6 : Int32)) ↔ z + v ≤ 6 := by
    constructor
    · intro y
      exact Nat.le_of_not_lt (fun u => (show ¬ nI (z + v) ≤ nI 6 from nI_ge u (by omega)) y)
    · intro y
      exact (show nI (z + v) ≤ nI 6 from nI_le y (by omega))
  by_cases hle : z + v ≤ 6
  · rw [if_pos (cmp.mpr hle), bz_t hle]
    by_cases e : n = 0
    · have ev := v3 e
      subst ev
      refine ⟨J0, ?_, q2, fun _ => ⟨q0, fun t ht => by omega, q1⟩⟩
      obtain ⟨M, rfl⟩ : ∃ M, N = M + 1 := ⟨N - 1, by omega⟩
      rw [show (3 : Nat) = 1 + 2 from rfl, u91_36]; unfold b91_36
      rw [if_pos (by decide)]
    · have hn1 : 1 ≤ n := by omega
      have ev : cph w n tp ts hp P s = v := by rw [hv]; unfold sD; rw [if_neg e]
      obtain ⟨J', r1, r2, r3, r4, r5⟩ := rt (N := N) (d := d) (F := F) (by omega) hW hn1 (by omega) hnk hnx hk hpar v z s N J0 ev (hS hn1) q3 q0 hle (by omega)
      refine ⟨J', r1, fun b o k hb => by rw [r5 b o k hb, q2 b o k hb], fun _ => ⟨r2, r3, fun y => ?_⟩⟩
      rw [r4 0 (by omega), q1 y]
  · rw [if_neg (fun y => hle (cmp.mp y)), bz_f hle]
    exact ⟨J0, rfl, q2, fun y => absurd y hle⟩
end KM
