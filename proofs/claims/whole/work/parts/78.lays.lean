/-! REACH: the way that is laid -/
def WayR (a : Nat → Int32) (nk nx key : Nat) (w : Nat → Nat) (n : Nat) (tp : Bool) (c ts : Nat) (hp : Bool) (P : Nat) : Prop :=
  n ≤ key + 1 ∧ ts < 3 ∧ (n = 0 → ¬ a (182 + 4 * key) = -1 ∧ tp = false) ∧ (1 ≤ n → w 0 = key) ∧ (∀ i, i < n → w i < nk ∧ a (182 + 4 * w i) = -1) ∧
  (∀ i, i + 1 < n → a (180 + 4 * w i) = nI (w (i + 1)) ∧ w (i + 1) < w i ∧ a (183 + 4 * w i) = -1) ∧
  (1 ≤ n → tp = true → a (183 + 4 * w (n - 1)) = nI c ∧ c < nx ∧ a (221 + 4 * c) = nI (w (n - 1)) ∧ a (222 + 4 * c) = nI ts) ∧
  (1 ≤ n → tp = false → a (183 + 4 * w (n - 1)) = -1 ∧ ((hp = false ∧ a (180 + 4 * w (n - 1)) = -1) ∨ (hp = true ∧ P < nk ∧ P < w (n - 1) ∧ a (180 + 4 * w (n - 1)) = nI P ∧ ¬ a (182 + 4 * P) = -1)))
def consN (k : Nat) (w : Nat → Nat) : Nat → Nat
  | 0 => k
  | i + 1 => w i
theorem way_ex {B : Nat → Nat → Int32} {a : Nat → Int32} {nk nx : Nat} (h : kyR B a nk nx) : ∀ key, key < nk → ∃ w n tp c ts hp P, WayR a nk nx key w n tp c ts hp P := by
  obtain ⟨q1, q2, q3, q4, q5, q6, q7, q8, q9, q10, q11, q12⟩ := h
  intro key
  induction key using Nat.strongRecOn with
  | ind key ih =>
    intro hk
    by_cases hl : a (182 + 4 * key) = -1
    · rcases q11 key hk with ⟨-, hs⟩ | ⟨-, -, c, hc, hs, hb, -, -, -⟩
      · rcases (q7 key hk).2.2 with hp | ⟨p, hp, ep⟩
        · refine ⟨fun _ => key, 1, false, 0, 0, false, 0, by omega, by omega, fun z => by omega, fun _ => rfl, fun i _ => ⟨hk, hl⟩, fun i z => by omega, fun _ z => Bool.noConfusion z, fun _ _ => ⟨hs, Or.inl ⟨rfl, hp⟩⟩⟩
        · obtain ⟨w, n, tp, c, ts, hpp, P, w1, w2, w3, w4, w5, w6, w7, w8⟩ := ih p hp (by omega)
          cases n with
          | zero =>
            refine ⟨fun _ => key, 1, false, 0, 0, true, p, by omega, by omega, fun z => by omega, fun _ => rfl, fun i _ => ⟨hk, hl⟩, fun i z => by omega, fun _ z => Bool.noConfusion z, fun _ _ => ⟨hs, Or.inr ⟨rfl, by omega, hp, ep, (w3 rfl).1⟩⟩⟩
          | succ m =>
            refine ⟨consN key w, m + 1 + 1, tp, c, ts, hpp, P, by omega, w2, fun z => by omega, fun _ => rfl, fun i hi => ?_, fun i hi => ?_, fun _ z => ?_, fun _ z => ?_⟩
            · cases i with
              | zero => exact ⟨hk, hl⟩
              | succ i => exact w5 i (by omega)
            · cases i with
              | zero =>
                have e : consN key w 1 = p := w4 (by omega)
                rw [e]
                exact ⟨ep, hp, hs⟩
              | succ i => exact w6 i (by omega)
            · exact w7 (by omega) z
            · exact w8 (by omega) z
      · obtain ⟨hb1, -, -, s, hs3, es⟩ := q12 c hc
        refine ⟨fun _ => key, 1, true, c, s, false, 0, by omega, hs3, fun z => by omega, fun _ => rfl, fun i _ => ⟨hk, hl⟩, fun i z => by omega, fun _ _ => ⟨hs, hc, by rw [← hb1, hb], es⟩, fun _ z => Bool.noConfusion z⟩
    · exact ⟨fun _ => key, 0, false, 0, 0, false, 0, by omega, by omega, fun _ => ⟨hl, rfl⟩, fun _ => rfl, fun i hi => by omega, fun i hi => by omega, fun z => by omega, fun z => by omega⟩
theorem way_lt {a : Nat → Int32} {nk nx key n c ts P : Nat} {w : Nat → Nat} {tp hp : Bool} (h : WayR a nk nx key w n tp c ts hp P) : ∀ j i, i < j → j < n → w j < w i := by
  intro j
  induction j with
  | zero => intro i hi; omega
  | succ j ih =>
    intro i hi hj
    have := (h.2.2.2.2.2.1 j hj).2.1
    by_cases e : i = j
    · rw [e]; exact this
    · have := ih i (by omega) (by omega)
      omega
theorem way_inj {a : Nat → Int32} {nk nx key n c ts P : Nat} {w : Nat → Nat} {tp hp : Bool} (h : WayR a nk nx key w n tp c ts hp P) : ∀ i j, i < n → j < n → w i = w j → i = j := by
  intro i j hi hj e
  by_cases h1 : i < j
  · have := way_lt h j i h1 hj; omega
  · by_cases h2 : j < i
    · have := way_lt h i j h2 hi; omega
    · omega
def wlI (I : IM) (w : Nat → Nat) (i : Nat) (top : Int32) : IM := fl (wI (wI I 1 0 25 (nI i)) 1 0 26 top) 1 20 i (fun j => nI (w j))
theorem wlI_2 {I : IM} {w : Nat → Nat} {i : Nat} {top : Int32} {b o k : Nat} (h : ¬ (b = 1 ∧ ((o = 0 ∧ (k = 25 ∨ k = 26)) ∨ o = 20))) : wlI I w i top b o k = I b o k := by
  unfold wlI
  rw [fl_eq, if_neg (fun z => h ⟨z.1, Or.inr z.2.1⟩), wI_eq, if_neg (fun z => h ⟨z.1, Or.inl ⟨z.2.1, Or.inr z.2.2⟩⟩), wI_eq, if_neg (fun z => h ⟨z.1, Or.inl ⟨z.2.1, Or.inl z.2.2⟩⟩)]
theorem wlI_25 {I : IM} {w : Nat → Nat} {i : Nat} {top : Int32} : wlI I w i top 1 0 25 = nI i := by
  unfold wlI
  rw [fl_eq, if_neg (fun z => by omega), wI_eq, if_neg (fun z => by omega), wI_s]
theorem wlI_26 {I : IM} {w : Nat → Nat} {i : Nat} {top : Int32} : wlI I w i top 1 0 26 = top := by
  unfold wlI
  rw [fl_eq, if_neg (fun z => by omega), wI_s]
theorem wlI_20 {I : IM} {w : Nat → Nat} {i : Nat} {top : Int32} {j : Nat} (h : j < i) : wlI I w i top 1 20 j = nI (w j) := by
  unfold wlI
  rw [fl_eq, if_pos ⟨rfl, rfl, h⟩]
theorem wlI_st {I : IM} {w : Nat → Nat} {i : Nat} {t t' : Int32} : wI (wI (wI (wlI I w i t) 1 0 26 t') 1 20 i (nI (w i))) 1 0 25 (nI (i + 1)) = wlI I w (i + 1) t' := by
  funext b o k
  by_cases h : b = 1 ∧ ((o = 0 ∧ (k = 25 ∨ k = 26)) ∨ o = 20)
  · obtain ⟨rfl, ⟨rfl, rfl | rfl⟩ | rfl⟩ := h
    · rw [wI_s, wlI_25]
    · rw [wI_eq, if_neg (fun z => by omega), wI_eq, if_neg (fun z => by omega), wI_s, wlI_26]
    · rw [wI_eq, if_neg (fun z => by omega), wI_eq]
      by_cases e : k = i
      · rw [if_pos ⟨rfl, rfl, e⟩, wlI_20 (by omega), e]
      · rw [if_neg (fun z => e z.2.2), wI_eq, if_neg (fun z => by omega)]
        unfold wlI
        rw [fl_eq, fl_eq]
        by_cases e2 : k < i
        · rw [if_pos ⟨rfl, rfl, e2⟩, if_pos ⟨rfl, rfl, by omega⟩]
        · rw [if_neg (fun z => e2 z.2.2), if_neg (fun z => by omega), wI_eq, if_neg (fun z => by omega), wI_eq, if_neg (fun z => by omega), wI_eq, if_neg (fun z => by omega), wI_eq, if_neg (fun z => by omega)]
  · rw [wlI_2 h, wI_eq, if_neg (fun z => h ⟨z.1, Or.inl ⟨z.2.1, Or.inl z.2.2⟩⟩), wI_eq, if_neg (fun z => h ⟨z.1, Or.inr z.2.1⟩), wI_eq, if_neg (fun z => h ⟨z.1, Or.inl ⟨z.2.1, Or.inr z.2.2⟩⟩), wlI_2 h]
section LW
variable {N d : Nat} {I : IM} {F : FM} {a : Nat → Int32} {nk nx key n c ts P : Nat} {w : Nat → Nat} {tp hp : Bool}
def tpI (tp : Bool) (c : Nat) : Int32 := if tp = true then nI c else -1
theorem m277 (hN : 20 ≤ N) (ha : ∀ k, I 1 2 k = a k) (hnk : nk ≤ 10) (hnx : nx ≤ 12) (hk : key < nk) (hpar : ∀ k, k < nk → a (180 + 4 * k) = -1 ∨ ∃ p, p < k ∧ a (180 + 4 * k) = nI p) (h : WayR a nk nx key w n tp c ts hp P) : sem N (d + 2) 277 [vR (some (1, 0)), vI (nI key)] I F = some (vI 0, wlI I w n (tpI tp c), F) := by
  obtain ⟨w1, w2, w3, w4, w5, w6, w7, w8⟩ := h
  have row : ∀ i t k, wlI I w i t 1 2 k = a k := fun i t k => by rw [wlI_2 (fun z => by omega), ha]
  have stp : ∀ m i, i < n → sg (sem N (d + 1)) 0 zc277 (m + 1) 12 [vR (some (1, 0)), vI (nI (w i))] (wlI I w i (-1)) F = sg (sem N (d + 1)) 0 zc277 m 12 [vR (some (1, 0)), vI (a (180 + 4 * w i))] (wlI I w (i + 1) (a (183 + 4 * w i))) F := by
    intro m i hi
    obtain ⟨y1, y2⟩ := w5 i hi
    have v1 : wI (wlI I w i (-1)) 1 0 26 (a (183 + 4 * w i)) 1 0 25 = nI i := by rw [wI_eq, if_neg (fun z => by omega), wlI_25]
    have v2 : wI (wI (wlI I w i (-1)) 1 0 26 (a (183 + 4 * w i))) 1 20 i (nI (w i)) 1 0 25 = nI i := by rw [wI_eq, if_neg (fun z => by omega), wI_eq, if_neg (fun z => by omega), wlI_25]
    rw [u277_12]; unfold b277_12
    rw [if_neg (fun z => nI_ne1 (by omega) z), m194, bI_v, L2, nI_add, if_pos (inb_nI (by omega) (by decide)), nI_clamp (by omega), row, show 180 + 4 * w i + 2 = 182 + 4 * w i by omega, if_pos y2, wlI_26, if_pos rfl, m194, bI_v, L3, nI_add, if_pos (inb_nI (by omega) (by decide)), nI_clamp (by omega), row, show 180 + 4 * w i + 3 = 183 + 4 * w i by omega]
    try dsimp only
    rw [v1, if_pos (inb_nI (by omega) (by decide)), nI_clamp (by omega), v2, nI_1, wlI_st, m194, bI_v, Int32.add_zero, if_pos (inb_nI (by omega) (by decide)), nI_clamp (by omega), row]
  have fin : ∀ m x, (x = -1 ∨ ∃ k, k < nk ∧ x = nI k ∧ (¬ a (182 + 4 * k) = -1 ∨ ¬ tpI tp c = -1)) → sg (sem N (d + 1)) 0 zc277 (m + 1) 12 [vR (some (1, 0)), vI x] (wlI I w n (tpI tp c)) F = some (vI 0, wlI I w n (tpI tp c), F) := by
    intro m x hx
    rw [u277_12]; unfold b277_12
    rcases hx with hx | ⟨k, hk', rfl, hx⟩
    · rw [if_pos hx]
    · rw [if_neg (fun z => nI_ne1 (by omega) z), m194, bI_v, L2, nI_add, if_pos (inb_nI (by omega) (by decide)), nI_clamp (by omega), row, show 180 + 4 * k + 2 = 182 + 4 * k by omega, wlI_26]
      by_cases z : a (182 + 4 * k) = -1
      · rw [if_pos z, if_neg (hx.resolve_left (fun y => y z))]
      · rw [if_neg z]
  have e0 : wI (wI I 1 0 25 0) 1 0 26 (-1) = wlI I w 0 (-1) := by unfold wlI; rw [fl_0, nI_0]
  rw [s277]; unfold b277
  try dsimp only
  rw [e0]
  by_cases hn : n = 0
  · obtain ⟨z1, z2⟩ := w3 hn
    obtain ⟨M, rfl⟩ : ∃ M, N = M + 1 := ⟨N - 1, by omega⟩
    have e1 : wlI I w 0 (-1) = wlI I w n (tpI tp c) := by rw [hn, z2]; rfl
    rw [e1]
    exact fin M _ (Or.inr ⟨key, hk, rfl, Or.inl z1⟩)
  · rw [← w4 (by omega)]
    have hn9 : n ≤ 10 := by omega
    clear w1
    refine lp (S := fun m i => if i < n then sg (sem N (d + 1)) 0 zc277 m 12 [vR (some (1, 0)), vI (nI (w i))] (wlI I w i (-1)) F else sg (sem N (d + 1)) 0 zc277 m 12 [vR (some (1, 0)), vI (a (180 + 4 * w (n - 1)))] (wlI I w n (tpI tp c)) F) (m := n) ?_ ?_ n 0 N (by omega) (by omega) |> fun z => by
      try dsimp only at z
      rw [if_pos (by omega)] at z
      exact z
    · intro m i hi
      try dsimp only
      rw [if_pos hi, stp m i hi]
      by_cases e : i + 1 < n
      · obtain ⟨x1, x2, x3⟩ := w6 i e
        rw [if_pos e, x1, x3]
      · rw [if_neg e]
        have en : i = n - 1 := by omega
        have ez : a (183 + 4 * w (n - 1)) = tpI tp c := by
          unfold tpI
          by_cases et : tp = true
          · rw [if_pos et]; exact (w7 (by omega) et).1
          · rw [if_neg et]; exact (w8 (by omega) (Bool.eq_false_iff.mpr et)).1
        rw [en, ez, show n - 1 + 1 = n by omega]
    · intro m
      try dsimp only
      rw [if_neg (by omega)]
      refine fin m _ ?_
      by_cases et : tp = true
      · have ec := (w7 (by omega) et).2.1
        rcases hpar (w (n - 1)) (w5 (n - 1) (by omega)).1 with z | ⟨p, z1, z2⟩
        · exact Or.inl z
        · refine Or.inr ⟨p, by have := (w5 (n - 1) (by omega)).1; omega, z2, Or.inr (fun y => ?_)⟩
          unfold tpI at y
          rw [if_pos et] at y
          exact nI_ne1 (by omega) y
      · rcases (w8 (by omega) (Bool.eq_false_iff.mpr et)).2 with ⟨-, z⟩ | ⟨-, z1, z2, z3, z4⟩
        · exact Or.inl z
        · exact Or.inr ⟨P, z1, z3, Or.inl z4⟩
/-- the slots as they are -/
theorem m276 {B : Nat → Nat → Int32} (hN : 20 ≤ N) (h : kyR B (I 1 2) nk nx) : ∃ s, s < 4096 ∧ (∀ t, t < 3 → B 14 t = pI (cs s t)) ∧ (∀ t, t < 3 → cs s t ≤ nk) ∧ sem N (d + 3) 276 [vR (some (1, 0))] I F = some (vI (nI s), I, F) := by
  have hk := fun x => kIn_c h x
  obtain ⟨q1, q2, q3, q4, q5, q6, q7, q8, q9, q10, q11, q12⟩ := h
  have hv : ∀ t, t < 3 → ∃ v, v ≤ nk ∧ B 14 t = pI v := by
    intro t ht
    rcases q8 t ht with z | ⟨k, z1, z2⟩
    · exact ⟨0, by omega, by rw [z, pI_0]⟩
    · exact ⟨k + 1, by omega, by rw [z2, pI_s]⟩
  have hp1 : ∀ v, pI v + 1 = nI v := fun v => by
    unfold pI
    rw [Int32.sub_add_cancel]
  obtain ⟨v0, l0, e0⟩ := hv 0 (by omega)
  obtain ⟨v1, l1, e1⟩ := hv 1 (by omega)
  obtain ⟨v2, l2, e2⟩ := hv 2 (by omega)
  have kk : ∀ t, t < 3 → kIn (I 1 2) (nI t) nk = B 14 t := fun t ht => by rw [hk, if_pos (inb_nI ht (by decide)), nI_clamp (by omega)]
  have c0 : cs 0 0 = 0 := rfl
  have b1 : cs (pts 0 0 v0) 1 = 0 := by rw [pts_c (by omega) c0 (by omega) 1 (by omega), if_neg (by omega)]; rfl
  have b0 : cs (pts 0 0 v0) 0 = v0 := by rw [pts_c (by omega) c0 (by omega) 0 (by omega), if_pos rfl]
  have b2 : cs (pts 0 0 v0) 2 = 0 := by rw [pts_c (by omega) c0 (by omega) 2 (by omega), if_neg (by omega)]; rfl
  have d0 : cs (pts (pts 0 0 v0) 1 v1) 0 = v0 := by rw [pts_c (by omega) b1 (by omega) 0 (by omega), if_neg (by omega), b0]
  have d1 : cs (pts (pts 0 0 v0) 1 v1) 1 = v1 := by rw [pts_c (by omega) b1 (by omega) 1 (by omega), if_pos rfl]
  have d2 : cs (pts (pts 0 0 v0) 1 v1) 2 = 0 := by rw [pts_c (by omega) b1 (by omega) 2 (by omega), if_neg (by omega), b2]
  have f0 : cs (pts (pts (pts 0 0 v0) 1 v1) 2 v2) 0 = v0 := by rw [pts_c (by omega) d2 (by omega) 0 (by omega), if_neg (by omega), d0]
  have f1 : cs (pts (pts (pts 0 0 v0) 1 v1) 2 v2) 1 = v1 := by rw [pts_c (by omega) d2 (by omega) 1 (by omega), if_neg (by omega), d1]
  have f2 : cs (pts (pts (pts 0 0 v0) 1 v1) 2 v2) 2 = v2 := by rw [pts_c (by omega) d2 (by omega) 2 (by omega), if_pos rfl]
  have hs1 : pts 0 0 v0 < 8192 := pts_l (by omega) (by omega) c0 (by omega)
  have hs2 : pts (pts 0 0 v0) 1 v1 < 8192 := pts_l (by omega) hs1 b1 (by omega)
  have hu : cuu (pts (pts (pts 0 0 v0) 1 v1) 2 v2) = 0 := by rw [pts_u (by omega) d2 (by omega), pts_u (by omega) b1 (by omega), pts_u (by omega) c0 (by omega)]; rfl
  refine ⟨pts (pts (pts 0 0 v0) 1 v1) 2 v2, by unfold cuu at hu; omega, fun t ht => ?_, fun t ht => ?_, ?_⟩
  · rcases tr3 ht with rfl | rfl | rfl
    · rw [f0, e0]
    · rw [f1, e1]
    · rw [f2, e2]
  · rcases tr3 ht with rfl | rfl | rfl
    · rw [f0]; exact l0
    · rw [f1]; exact l1
    · rw [f2]; exact l2
  · obtain ⟨M, rfl⟩ : ∃ M, N = M + 12 := ⟨N - 12, by omega⟩
    have st : ∀ (m t s v : Nat), t < 3 → s < 8192 → cs s t = 0 → v ≤ nk → B 14 t = pI v → sg (sem (M + 12) (d + 2)) 1 zc276 (m + 1) 4 [vR (some (1, 0)), vI (nI s), vI (nI t)] I F = sg (sem (M + 12) (d + 2)) 1 zc276 m 4 [vR (some (1, 0)), vI (nI (pts s t v)), vI (nI (t + 1))] I F := by
      intro m t s v ht hs h0 hv ev
      rw [u276_4]; unfold b276_4
      rw [if_neg (show ¬ (3 : Int32) ≤ nI t from nI_ge ht (by decide)), m205 (n := nk) (by omega) _ q2 q3, bI_v, kk t ht, ev, hp1, bs_3 hs ht h0 (by omega), nI_1]
    rw [s276]; unfold b276
    refine Eq.trans (st (M + 11) 0 0 v0 (by omega) (by omega) c0 l0 e0) ?_
    refine Eq.trans (st (M + 10) 1 _ v1 (by omega) hs1 b1 l1 e1) ?_
    refine Eq.trans (st (M + 9) 2 _ v2 (by omega) hs2 d2 l2 e2) ?_
    rw [u276_4]; unfold b276_4
    rw [if_pos (by decide)]
abbrev onw (w : Nat → Nat) (k n : Nat) : Prop := fidx (fun j => w j = k) n < n
theorem onw_i : onw w key n ↔ ∃ j, j < n ∧ w j = key := by
  obtain ⟨g1, g2, g3⟩ := fidx_p (P := fun j => w j = key) n
  constructor
  · intro h
    exact ⟨_, h, g3 h⟩
  · rintro ⟨j, h1, h2⟩
    by_cases h : fidx (fun j => w j = key) n < n
    · exact h
    · exact absurd h2 (g2 j (by omega))
theorem m280 {J : IM} (hN : 20 ≤ N) (hn : n ≤ 10) (h25 : J 1 0 25 = nI n) (h20 : ∀ j, j < n → J 1 20 j = nI (w j)) (hw : ∀ j, j < n → w j < 2 ^ 20) {k : Nat} (hk : k < 10) (a3 : Int32) (hr : J 1 2 (183 + 4 * k) = a3) : sem N (d + 2) 280 [vR (some (1, 0)), vI (nI k)] J F = some (vI (bz (onw w k n ∧ a3 = -1)), J, F) := by
  rw [s280]; unfold b280
  have z0 : bz (onw w k 0 ∧ a3 = -1) = 0 := bz_f (fun z => absurd z.1 (Nat.not_lt_zero _))
  refine Eq.trans (congrArg (fun v => sg (sem N (d + 1)) 6 zc280 N 4 [vR (some (1, 0)), vI (nI k), vI v, vI (nI 0)] J F) (z0.symm : (0 : Int32) = _)) ?_
  refine lp (S := fun m c => sg (sem N (d + 1)) 6 zc280 m 4 [vR (some (1, 0)), vI (nI k), vI (bz (onw w k c ∧ a3 = -1)), vI (nI c)] J F) (m := n) ?_ ?_ n 0 N (by omega) (by omega)
  · intro m c hc
    try dsimp only
    rw [u280_4]; unfold b280_4
    rw [h25, if_neg (nI_ge hc (by omega)), ite_bzif, nI_1]
    have hw' := hw c hc
    have io : ∀ x, onw w k x ↔ ∃ j, j < x ∧ w j = k := fun x => onw_i
    by_cases z : onw w k c ∧ a3 = -1
    · rw [if_pos z, bz_t (p := onw w k (c + 1) ∧ a3 = -1) ⟨(io _).mpr (by obtain ⟨j, y1, y2⟩ := (io _).mp z.1; exact ⟨j, by omega, y2⟩), z.2⟩]
    · rw [if_neg z, if_pos (inb_nI (by omega) (by decide)), nI_clamp (by omega), h20 c hc]
      by_cases e : w c = k
      · rw [if_pos (by rw [e]), m194, bI_v, L3, nI_add, if_pos (inb_nI (by omega) (by decide)), nI_clamp (by omega), show 180 + 4 * k + 3 = 183 + 4 * k by omega, hr]
        by_cases e3 : a3 = -1
        · rw [if_pos e3, bz_t (p := onw w k (c + 1) ∧ a3 = -1) ⟨(io _).mpr ⟨c, by omega, e⟩, e3⟩]
        · rw [if_neg e3, bz_f (p := onw w k (c + 1) ∧ a3 = -1) (fun y => e3 y.2)]
      · rw [if_neg (fun y => e (nI_inj (by omega) (by omega) y)), bz_f (p := onw w k (c + 1) ∧ a3 = -1) (fun y => by
          obtain ⟨j, y1, y2⟩ := (io _).mp y.1
          by_cases ej : j = c
          · rw [ej] at y2; exact e y2
          · exact z ⟨(io _).mpr ⟨j, by omega, y2⟩, y.2⟩)]
  · intro m
    try dsimp only
    rw [u280_4]; unfold b280_4
    rw [h25, if_pos (nI_le (Nat.le_refl _) (by omega)), if_pos bz_01]
theorem m281 {J : IM} {T : Nat} {ix : Nat → Nat} (hN : T < N) (hT : T < 2 ^ 20) (h0 : J 1 22 (ix 0) = -1) (h1 : ∀ t, t < T → J 1 22 (ix (t + 1)) = nI (ix t)) (hl : ∀ t, t ≤ T → ix t < 8192) : sem N (d + 1) 281 [vR (some (1, 0)), vI (nI (ix T))] J F = some (vI (nI T), J, F) := by
  rw [s281]; unfold b281
  have hz := lpd (S := fun m c => sg (sem N d) 1 zc281 m 4 [vR (some (1, 0)), vI (nI (T - c)), vI (nI (ix c))] J F) (T := some (vI (nI T), J, F)) (m := T) ?_ ?_ hN
  · try dsimp only at hz
    rw [Nat.sub_self] at hz
    exact hz
  · intro m c hc
    try dsimp only
    rw [u281_4]; unfold b281_4
    simp only [nI_clamp (show ix (c + 1) < 2 ^ 31 by have := hl (c + 1) hc; omega), eq_true (inb_nI (hl (c + 1) hc) (by decide)), ↓reduceIte, h1 c hc]
    rw [ if_neg (fun z => nI_ne1 (by have := hl c (by omega); omega) z), nI_1, show T - (c + 1) + 1 = T - c by omega]
  · intro m
    try dsimp only
    rw [u281_4]; unfold b281_4
    simp only [nI_clamp (show ix 0 < 2 ^ 31 by have := hl 0 (by omega); omega), eq_true (inb_nI (hl 0 (by omega)) (by decide)), ↓reduceIte, h0, Nat.sub_zero]
end LW
