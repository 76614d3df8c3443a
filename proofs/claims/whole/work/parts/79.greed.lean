/-! REACH: the least move that brings nearer -/
def gsl (w : Nat → Nat) (n : Nat) (tp : Bool) (ts : Nat) (hp : Bool) (P s : Nat) : Nat := fidx (fun t => ¬ cs s t = 0 ∧ cph w n tp ts hp P (fls s t) < cph w n tp ts hp P s) 3
def gst (w : Nat → Nat) (n : Nat) (tp : Bool) (ts : Nat) (hp : Bool) (P s : Nat) : Nat := if gsl w n tp ts hp P s < 3 then fls s (gsl w n tp ts hp P s) else if tp = true ∧ cix w n s = n then pts s ts (w (n - 1) + 1) + 4096 else pts s (lfN s) (w (cix w n s - 1) + 1)
def gmv (w : Nat → Nat) (n : Nat) (tp : Bool) (c ts : Nat) (hp : Bool) (P s : Nat) : Nat := if gsl w n tp ts hp P s < 3 then 10 + gsl w n tp ts hp P s else if tp = true ∧ cix w n s = n then 40 + c else 20 + w (cix w n s - 1)
def gS (w : Nat → Nat) (n : Nat) (tp : Bool) (ts : Nat) (hp : Bool) (P s : Nat) : Nat → Nat
  | 0 => s
  | t + 1 => gst w n tp ts hp P (gS w n tp ts hp P s t)
def SGs (w : Nat → Nat) (n : Nat) (tp : Bool) (ts : Nat) (hp : Bool) (P s : Nat) : Prop := s < 8192 ∧ cph w n tp ts hp P s < 1000 ∧ (∀ r q, r < 3 → q < 3 → cs s r = cs s q → ¬ cs s r = 0 → r = q) ∧ ∀ t, t < 3 → cs s t ≤ 10
/-! moves in their order -/
def mL (f : Nat → Option (Nat × Nat)) : Nat → Nat → List (Nat × Nat)
  | 0, _ => []
  | k + 1, c => (f c).toList ++ mL f k (c + 1)
theorem mL_mem {f : Nat → Option (Nat × Nat)} {x : Nat × Nat} : ∀ {k c : Nat}, x ∈ mL f k c → ∃ j, c ≤ j ∧ j < c + k ∧ f j = some x := by
  intro k
  induction k with
  | zero => intro c h; exact absurd h List.not_mem_nil
  | succ k ih =>
    intro c h
    rcases List.mem_append.mp h with h | h
    · exact ⟨c, by omega, by omega, Option.mem_toList.mp h⟩
    · obtain ⟨j, h1, h2, h3⟩ := ih h
      exact ⟨j, by omega, by omega, h3⟩
theorem mL_split {f : Nat → Option (Nat × Nat)} {x : Nat × Nat} : ∀ {k c j : Nat}, c ≤ j → j < c + k → f j = some x → ∃ L2, mL f k c = mL f (j - c) c ++ x :: L2 := by
  intro k
  induction k with
  | zero => intro c j h1 h2; omega
  | succ k ih =>
    intro c j h1 h2 h3
    by_cases e : j = c
    · subst e
      refine ⟨mL f k (j + 1), ?_⟩
      rw [Nat.sub_self]
      show (f j).toList ++ mL f k (j + 1) = x :: mL f k (j + 1)
      rw [h3]
      rfl
    · obtain ⟨L2, h⟩ := ih (c := c + 1) (j := j) (by omega) (by omega) h3
      refine ⟨L2, ?_⟩
      obtain ⟨q, hq⟩ : ∃ q, j - c = q + 1 := ⟨j - c - 1, by omega⟩
      rw [hq]
      show (f c).toList ++ mL f k (c + 1) = ((f c).toList ++ mL f q (c + 1)) ++ x :: L2
      rw [h, List.append_assoc, show j - (c + 1) = q by omega]
def mvF (s t : Nat) : Option (Nat × Nat) := if cs s t = 0 then none else some (fls s t, 10 + t)
def mvG (a : Nat → Int32) (w : Nat → Nat) (n s k : Nat) : Option (Nat × Nat) := if lfN s < 3 ∧ (onw w k n ∧ a (183 + 4 * k) = -1) ∧ ¬ cld s k ∧ (a (180 + 4 * k) = -1 ∨ cld s (a (180 + 4 * k)).toNatClampNeg) then some (pts s (lfN s) (k + 1), 20 + k) else none
def mvSw (w : Nat → Nat) (n : Nat) (tp : Bool) (c ts s : Nat) : List (Nat × Nat) := if tp = true ∧ cuu s = 0 ∧ cs s ts = 0 then [(pts s ts (w (n - 1) + 1) + 4096, 40 + c)] else []
def mvs (a : Nat → Int32) (nk : Nat) (w : Nat → Nat) (n : Nat) (tp : Bool) (c ts s : Nat) : List (Nat × Nat) := mL (mvF s) 3 0 ++ (mL (mvG a w n s) nk 0 ++ mvSw w n tp c ts s)
section GR
variable {a : Nat → Int32} {nk nx key n c ts P s : Nat} {w : Nat → Nat} {tp hp : Bool}
theorem ncd (h : cph w n tp ts hp P s < 1000) : ¬ cdd w n tp hp P s := fun z => by rw [cph_d z] at h; omega
theorem way_w (h : WayR a nk nx key w n tp c ts hp P) (hnk : nk ≤ 10) : ∀ i, i < n → w i < 15 := fun i hi => by have := (h.2.2.2.2.1 i hi).1; omega
theorem mvF_mem (hn : n ≤ 11) {x : Nat × Nat} (h : x ∈ mL (mvF s) 3 0) : ∃ t, t < 3 ∧ ¬ cs s t = 0 ∧ x = (fls s t, 10 + t) := by
  obtain ⟨j, h1, h2, h3⟩ := mL_mem h
  unfold mvF at h3
  by_cases z : cs s j = 0
  · rw [if_pos z] at h3; exact absurd h3 (by simp)
  · rw [if_neg z] at h3
    exact ⟨j, by omega, z, (Option.some.inj h3).symm⟩
theorem mvG_ld (hW : WayR a nk nx key w n tp c ts hp P) (hnk : nk ≤ 10) (hnx : nx ≤ 12) {k : Nat} {x : Nat × Nat} (h : mvG a w n s k = some x) : ∃ j, j < n ∧ k = w j ∧ x = (pts s (lfN s) (w j + 1), 20 + w j) ∧ lfN s < 3 ∧ (j + 1 < n → cld s (w (j + 1))) ∧ (j + 1 = n → tp = false ∧ (hp = true → cld s P)) := by
  obtain ⟨w1, w2, w3, w4, w5, w6, w7, w8⟩ := hW
  unfold mvG at h
  by_cases z : lfN s < 3 ∧ (onw w k n ∧ a (183 + 4 * k) = -1) ∧ ¬ cld s k ∧ (a (180 + 4 * k) = -1 ∨ cld s (a (180 + 4 * k)).toNatClampNeg)
  · rw [if_pos z] at h
    obtain ⟨z1, ⟨z2, z3⟩, z4, z5⟩ := z
    obtain ⟨j, hj, rfl⟩ := onw_i.mp z2
    refine ⟨j, hj, rfl, (Option.some.inj h).symm, z1, fun hj1 => ?_, fun hj1 => ?_⟩
    · obtain ⟨y1, -, -⟩ := w6 j hj1
      have hw := (w5 (j + 1) hj1).1
      rw [y1, nI_clamp (by omega)] at z5
      rcases z5 with z5 | z5
      · exact absurd z5 (fun y => nI_ne1 (by omega) y)
      · exact z5
    · have ej : n - 1 = j := by omega
      have htp : tp = false := by
        cases ht : tp with
        | false => rfl
        | true =>
          obtain ⟨y1, y2, -⟩ := w7 (by omega) ht
          rw [ej, z3] at y1
          exact absurd y1.symm (fun y => nI_ne1 (by omega) y)
      refine ⟨htp, fun hh => ?_⟩
      rcases (w8 (by omega) htp).2 with ⟨y, -⟩ | ⟨-, y1, y2, y3, y4⟩
      · rw [hh] at y; exact Bool.noConfusion y
      · rw [ej] at y3
        rw [y3, nI_clamp (by omega)] at z5
        rcases z5 with z5 | z5
        · exact absurd z5 (fun y => nI_ne1 (by omega) y)
        · exact z5
  · rw [if_neg z] at h; exact absurd h (by simp)
theorem lf3 (h : lfN s < 3) : cs s (lfN s) = 0 := by
  rcases lfN_p s with z | z
  · exact z.2
  · omega
/-- no move brings nearer by more than one -/
theorem mvs_1 (hW : WayR a nk nx key w n tp c ts hp P) (hn1 : 1 ≤ n) (hn : n ≤ 11) (hnk : nk ≤ 10) (hnx : nx ≤ 12) {x : Nat × Nat} (h : x ∈ mvs a nk w n tp c ts s) : cph w n tp ts hp P s ≤ cph w n tp ts hp P x.1 + 1 := by
  rcases List.mem_append.mp h with h | h
  · obtain ⟨t, h1, h2, rfl⟩ := mvF_mem hn h
    exact ph_fls hn h1 h2
  · rcases List.mem_append.mp h with h | h
    · obtain ⟨k, -, -, h3⟩ := mL_mem h
      obtain ⟨j, hj, -, rfl, h4, h5, h6⟩ := mvG_ld hW hnk hnx h3
      rcases ph_ld (ts := ts) hn (way_inj hW) (way_w hW hnk) h4 (lf3 h4) hj h5 h6 with ⟨-, z⟩ | ⟨-, z⟩
      · exact Nat.le_of_eq z
      · exact Nat.le_trans z (Nat.le_succ _)
    · unfold mvSw at h
      by_cases z : tp = true ∧ cuu s = 0 ∧ cs s ts = 0
      · rw [if_pos z] at h
        have e := List.mem_singleton.mp h
        rw [e]
        rcases ph_sw (hp := hp) (P := P) hn hn1 (way_inj hW) (way_w hW hnk) z.1 hW.2.1 z.2.2 z.2.1 with ⟨-, y⟩ | ⟨-, y⟩
        · exact Nat.le_of_eq y
        · exact Nat.le_trans y (Nat.le_succ _)
      · rw [if_neg z] at h
        exact absurd h List.not_mem_nil
theorem cix_1 (hn1 : 1 ≤ n) (h : ¬ cph w n tp ts hp P s = 0) : 1 ≤ cix w n s := by
  obtain ⟨g1, g2, g3⟩ := fidx_p (P := fun i => cld s (w i)) n
  have g3 : cix w n s < n → cld s (w (cix w n s)) := g3
  by_cases e : cix w n s = 0
  · rw [e] at g3
    exact absurd ((ph_0 hn1).mpr (g3 (by omega))) h
  · omega
/-- the three ways of the least move -/
theorem g_cases (hW : WayR a nk nx key w n tp c ts hp P) (hn1 : 1 ≤ n) (hS : SGs w n tp ts hp P s) (h0 : ¬ cph w n tp ts hp P s = 0) :
    (gsl w n tp ts hp P s < 3 ∧ ¬ cs s (gsl w n tp ts hp P s) = 0 ∧ cph w n tp ts hp P (fls s (gsl w n tp ts hp P s)) < cph w n tp ts hp P s) ∨
    (¬ gsl w n tp ts hp P s < 3 ∧ (tp = true ∧ cix w n s = n ∧ cs s ts = 0 ∧ cuu s = 0)) ∨
    (¬ gsl w n tp ts hp P s < 3 ∧ ¬ (tp = true ∧ cix w n s = n) ∧ lfN s < 3) := by
  obtain ⟨g1, g2, g3⟩ := fidx_p (P := fun t => ¬ cs s t = 0 ∧ cph w n tp ts hp P (fls s t) < cph w n tp ts hp P s) 3
  by_cases h : gsl w n tp ts hp P s < 3
  · exact Or.inl ⟨h, g3 h⟩
  · right
    have e : fidx (fun t => ¬ cs s t = 0 ∧ cph w n tp ts hp P (fls s t) < cph w n tp ts hp P s) 3 = 3 := by
      have : ¬ fidx (fun t => ¬ cs s t = 0 ∧ cph w n tp ts hp P (fls s t) < cph w n tp ts hp P s) 3 < 3 := h
      omega
    rw [e] at g2
    rcases ph_gr hn1 (ncd hS.2.1) (cix_1 hn1 h0) hW.2.1 (by unfold cuu; have := hS.1; omega) hS.2.2.1 (fun t ht z => Nat.le_of_not_lt (fun y => g2 t ht ⟨z, y⟩)) with z | ⟨z1, z2⟩
    · exact Or.inl ⟨h, z⟩
    · refine Or.inr ⟨h, z1, ?_⟩
      rcases lfN_p s with y | y
      · exact y.1
      · omega
theorem g_ld (hW : WayR a nk nx key w n tp c ts hp P) (hn1 : 1 ≤ n) (hS : SGs w n tp ts hp P s) (h0 : ¬ cph w n tp ts hp P s = 0) (hc : ¬ (tp = true ∧ cix w n s = n)) : cix w n s - 1 < n ∧ cix w n s - 1 + 1 = cix w n s ∧ ¬ cld s (w (cix w n s - 1)) ∧ a (183 + 4 * w (cix w n s - 1)) = -1 ∧ (cix w n s - 1 + 1 < n → a (180 + 4 * w (cix w n s - 1)) = nI (w (cix w n s)) ∧ cld s (w (cix w n s))) ∧ (cix w n s - 1 + 1 = n → tp = false ∧ ((hp = false ∧ a (180 + 4 * w (cix w n s - 1)) = -1) ∨ (hp = true ∧ P < nk ∧ a (180 + 4 * w (cix w n s - 1)) = nI P ∧ cld s P))) := by
  obtain ⟨w1, w2, w3, w4, w5, w6, w7, w8⟩ := hW
  obtain ⟨g1, g2, g3⟩ := fidx_p (P := fun i => cld s (w i)) n
  have g1 : cix w n s ≤ n := g1
  have g2 : ∀ i, i < cix w n s → ¬ cld s (w i) := g2
  have g3 : cix w n s < n → cld s (w (cix w n s)) := g3
  have hi := cix_1 hn1 h0
  have e1 : cix w n s - 1 + 1 = cix w n s := by omega
  have ht : cix w n s = n → tp = false := fun z => by
    cases ht : tp with
    | false => rfl
    | true => exact absurd ⟨ht, z⟩ hc
  refine ⟨by omega, e1, g2 _ (by omega), ?_, fun h => ?_, fun h => ?_⟩
  · by_cases e : cix w n s < n
    · exact (w6 _ (by omega)).2.2
    · have := (w8 hn1 (ht (by omega))).1
      rw [show cix w n s - 1 = n - 1 by omega]
      exact this
  · have := (w6 _ h).1
    rw [e1] at this
    exact ⟨this, g3 (by omega)⟩
  · have ht' := ht (by omega)
    refine ⟨ht', ?_⟩
    have := (w8 hn1 ht').2
    rw [show n - 1 = cix w n s - 1 by omega] at this
    rcases this with z | ⟨z1, z2, z3, z4, z5⟩
    · exact Or.inl z
    · refine Or.inr ⟨z1, z2, z4, ?_⟩
      by_cases hl : cld s P
      · exact hl
      · exact absurd ⟨by omega, Or.inr ⟨ht', z1, hl⟩⟩ (ncd hS.2.1)
theorem mvs_g (hW : WayR a nk nx key w n tp c ts hp P) (hn1 : 1 ≤ n) (hn : n ≤ 11) (hnk : nk ≤ 10) (hnx : nx ≤ 12) (hS : SGs w n tp ts hp P s) (h0 : ¬ cph w n tp ts hp P s = 0) : (∃ L1 L2, mvs a nk w n tp c ts s = L1 ++ (gst w n tp ts hp P s, gmv w n tp c ts hp P s) :: L2 ∧ ∀ x, x ∈ L1 → cph w n tp ts hp P s ≤ cph w n tp ts hp P x.1) ∧ cph w n tp ts hp P (gst w n tp ts hp P s) + 1 = cph w n tp ts hp P s := by
  obtain ⟨g1, g2, g3⟩ := fidx_p (P := fun t => ¬ cs s t = 0 ∧ cph w n tp ts hp P (fls s t) < cph w n tp ts hp P s) 3
  have flok : ∀ m, m ≤ gsl w n tp ts hp P s → m ≤ 3 → ∀ x, x ∈ mL (mvF s) m 0 → cph w n tp ts hp P s ≤ cph w n tp ts hp P x.1 := by
    intro m hm hm3 x hx
    obtain ⟨j, -, h2, h3⟩ := mL_mem hx
    unfold mvF at h3
    by_cases z : cs s j = 0
    · rw [if_pos z] at h3; exact absurd h3 (by simp)
    · rw [if_neg z] at h3
      rw [← Option.some.inj h3]
      exact Nat.le_of_not_lt (fun y => g2 j (show j < gsl w n tp ts hp P s by omega) ⟨z, y⟩)
  rcases g_cases hW hn1 hS h0 with ⟨h1, h2, h3⟩ | ⟨h1, h2, h3, h4, h5⟩ | ⟨h1, h2, h3⟩
  · have ev : mvF s (gsl w n tp ts hp P s) = some (gst w n tp ts hp P s, gmv w n tp c ts hp P s) := by
      unfold mvF gst gmv
      rw [if_neg h2, if_pos h1, if_pos h1]
    obtain ⟨L2, e⟩ := mL_split (f := mvF s) (k := 3) (c := 0) (j := gsl w n tp ts hp P s) (by omega) (by omega) ev
    refine ⟨⟨mL (mvF s) (gsl w n tp ts hp P s - 0) 0, L2 ++ (mL (mvG a w n s) nk 0 ++ mvSw w n tp c ts s), ?_, ?_⟩, ?_⟩
    · unfold mvs
      rw [e, List.append_assoc]
      rfl
    · exact flok _ (by omega) (by omega)
    · have e2 : gst w n tp ts hp P s = fls s (gsl w n tp ts hp P s) := by unfold gst; rw [if_pos h1]
      have := ph_fls (w := w) (tp := tp) (ts := ts) (hp := hp) (P := P) hn h1 h2
      rw [e2]
      omega
  · have e3 : gsl w n tp ts hp P s = 3 := by have : gsl w n tp ts hp P s ≤ 3 := g1; omega
    have ev : mvSw w n tp c ts s = [(gst w n tp ts hp P s, gmv w n tp c ts hp P s)] := by
      unfold mvSw gst gmv
      rw [if_pos ⟨h2, h5, h4⟩, if_neg h1, if_neg h1, if_pos ⟨h2, h3⟩, if_pos ⟨h2, h3⟩]
    refine ⟨⟨mL (mvF s) 3 0 ++ mL (mvG a w n s) nk 0, [], ?_, fun x hx => ?_⟩, ?_⟩
    · unfold mvs
      rw [ev, List.append_assoc]
    · rcases List.mem_append.mp hx with hx | hx
      · exact flok 3 (by omega) (by omega) x hx
      · obtain ⟨k, -, -, z3⟩ := mL_mem hx
        obtain ⟨j, hj, -, rfl, z4, z5, z6⟩ := mvG_ld hW hnk hnx z3
        rcases ph_ld (ts := ts) hn (way_inj hW) (way_w hW hnk) z4 (lf3 z4) hj z5 z6 with ⟨z, -⟩ | ⟨-, z⟩
        · have := (z6 (by omega)).1
          rw [h2] at this
          exact Bool.noConfusion this
        · exact z
    · have e2 : gst w n tp ts hp P s = pts s ts (w (n - 1) + 1) + 4096 := by unfold gst; rw [if_neg h1, if_pos ⟨h2, h3⟩]
      rw [e2]
      rcases ph_sw (hp := hp) (P := P) hn hn1 (way_inj hW) (way_w hW hnk) h2 hW.2.1 h4 h5 with ⟨-, y⟩ | ⟨y, -⟩
      · exact y.symm
      · exact absurd h3 y
  · have e3 : gsl w n tp ts hp P s = 3 := by have : gsl w n tp ts hp P s ≤ 3 := g1; omega
    obtain ⟨y1, y2, y3, y4, y5, y6⟩ := g_ld hW hn1 hS h0 h2
    have hwk := (hW.2.2.2.2.1 _ y1).1
    have ev : mvG a w n s (w (cix w n s - 1)) = some (gst w n tp ts hp P s, gmv w n tp c ts hp P s) := by
      unfold mvG gst gmv
      rw [if_neg h1, if_neg h1, if_neg h2, if_neg h2, if_pos]
      refine ⟨h3, ⟨onw_i.mpr ⟨_, y1, rfl⟩, y4⟩, y3, ?_⟩
      by_cases e : cix w n s - 1 + 1 < n
      · obtain ⟨x1, x2⟩ := y5 e
        have hw2 := (hW.2.2.2.2.1 (cix w n s) (by omega)).1
        rw [x1, nI_clamp (by omega)]
        exact Or.inr x2
      · rcases (y6 (by omega)).2 with ⟨-, x⟩ | ⟨-, x0, x1, x2⟩
        · exact Or.inl x
        · rw [x1, nI_clamp (by omega)]
          exact Or.inr x2
    obtain ⟨L2, e⟩ := mL_split (f := mvG a w n s) (k := nk) (c := 0) (j := w (cix w n s - 1)) (by omega) (by omega) ev
    refine ⟨⟨mL (mvF s) 3 0 ++ mL (mvG a w n s) (w (cix w n s - 1) - 0) 0, L2 ++ mvSw w n tp c ts s, ?_, fun x hx => ?_⟩, ?_⟩
    · unfold mvs
      rw [e, List.append_assoc, List.append_assoc]
      rfl
    · rcases List.mem_append.mp hx with hx | hx
      · exact flok 3 (by omega) (by omega) x hx
      · obtain ⟨k, -, z2, z3⟩ := mL_mem hx
        obtain ⟨j, hj, zk, rfl, z4, z5, z6⟩ := mvG_ld hW hnk hnx z3
        rcases ph_ld (ts := ts) hn (way_inj hW) (way_w hW hnk) z4 (lf3 z4) hj z5 z6 with ⟨z, -⟩ | ⟨-, z⟩
        · have : j = cix w n s - 1 := by omega
          rw [zk, this] at z2
          omega
        · exact z
    · have e2 : gst w n tp ts hp P s = pts s (lfN s) (w (cix w n s - 1) + 1) := by unfold gst; rw [if_neg h1, if_neg h2]
      rw [e2]
      rcases ph_ld (ts := ts) (tp := tp) (hp := hp) (P := P) (s := s) hn (way_inj hW) (way_w hW hnk) h3 (lf3 h3) y1 (fun z => by rw [y2]; exact (y5 z).2) (fun z => ⟨(y6 z).1, fun zh => by
        rcases (y6 z).2 with ⟨x, -⟩ | ⟨-, -, -, x⟩
        · rw [zh] at x; exact Bool.noConfusion x
        · exact x⟩) with ⟨-, z⟩ | ⟨z, -⟩
      · exact z.symm
      · exact absurd y2 z
/-- and it leads to a state again -/
theorem SG_g (hW : WayR a nk nx key w n tp c ts hp P) (hn1 : 1 ≤ n) (hn : n ≤ 11) (hnk : nk ≤ 10) (hnx : nx ≤ 12) (hS : SGs w n tp ts hp P s) (h0 : ¬ cph w n tp ts hp P s = 0) : SGs w n tp ts hp P (gst w n tp ts hp P s) := by
  have hd := (mvs_g hW hn1 hn hnk hnx hS h0).2
  obtain ⟨s1, s2, s3, s4⟩ := hS
  have hS : SGs w n tp ts hp P s := ⟨s1, s2, s3, s4⟩
  have load : ∀ t k, t < 3 → cs s t = 0 → k < 10 → ¬ cld s k → pts s t (k + 1) < 8192 ∧ (∀ r q, r < 3 → q < 3 → cs (pts s t (k + 1)) r = cs (pts s t (k + 1)) q → ¬ cs (pts s t (k + 1)) r = 0 → r = q) ∧ ∀ r, r < 3 → cs (pts s t (k + 1)) r ≤ 10 := by
    intro t k ht h0 hk hl
    have e := pts_c (s := s) (x := k + 1) ht h0 (by omega)
    have nl : ∀ r, r < 3 → ¬ cs s r = k + 1 := fun r hr z => hl (by
      rcases tr3 hr with rfl | rfl | rfl
      · exact Or.inl z
      · exact Or.inr (Or.inl z)
      · exact Or.inr (Or.inr z))
    refine ⟨pts_l ht s1 h0 (by omega), fun r q hr hq => ?_, fun r hr => ?_⟩
    · rw [e r hr, e q hq]
      have n1 := nl r hr
      have n2 := nl q hq
      by_cases e1 : r = t
      · rw [if_pos e1]
        by_cases e2 : q = t
        · intro _ _; omega
        · rw [if_neg e2]
          intro z; exact absurd z.symm n2
      · rw [if_neg e1]
        by_cases e2 : q = t
        · rw [if_pos e2]
          intro z; exact absurd z n1
        · rw [if_neg e2]
          exact s3 r q hr hq
    · rw [e r hr]
      by_cases e1 : r = t
      · rw [if_pos e1]; omega
      · rw [if_neg e1]; exact s4 r hr
  have fin : ∀ s', gst w n tp ts hp P s = s' → (s' < 8192 ∧ (∀ r q, r < 3 → q < 3 → cs s' r = cs s' q → ¬ cs s' r = 0 → r = q) ∧ ∀ r, r < 3 → cs s' r ≤ 10) → SGs w n tp ts hp P (gst w n tp ts hp P s) := by
    intro s' e h
    rw [e] at hd ⊢
    exact ⟨h.1, by omega, h.2.1, h.2.2⟩
  rcases g_cases hW hn1 hS h0 with ⟨h1, h2, h3⟩ | ⟨h1, h2, h3, h4, h5⟩ | ⟨h1, h2, h3⟩
  · have e2 : gst w n tp ts hp P s = fls s (gsl w n tp ts hp P s) := by unfold gst; rw [if_pos h1]
    have e := fls_c (s := s) h1
    refine fin _ e2 ⟨fls_l s1, fun r q hr hq => ?_, fun r hr => ?_⟩
    · rw [e r hr, e q hq]
      by_cases e1 : r = gsl w n tp ts hp P s
      · rw [if_pos e1]
        intro _ z; exact absurd rfl z
      · rw [if_neg e1]
        by_cases e2 : q = gsl w n tp ts hp P s
        · rw [if_pos e2]
          intro z1 z2; exact absurd z1 z2
        · rw [if_neg e2]
          exact s3 r q hr hq
    · rw [e r hr]
      by_cases e1 : r = gsl w n tp ts hp P s
      · rw [if_pos e1]; omega
      · rw [if_neg e1]; exact s4 r hr
  · have e2 : gst w n tp ts hp P s = pts s ts (w (n - 1) + 1) + 4096 := by unfold gst; rw [if_neg h1, if_pos ⟨h2, h3⟩]
    obtain ⟨g1, g2, g3⟩ := fidx_p (P := fun i => cld s (w i)) n
    have g2 : ∀ i, i < cix w n s → ¬ cld s (w i) := g2
    obtain ⟨l1, l2, l3⟩ := load ts (w (n - 1)) hW.2.1 h4 (by have := (hW.2.2.2.2.1 (n - 1) (by omega)).1; omega) (g2 _ (by omega))
    have hu := pts_u (s := s) (x := w (n - 1) + 1) hW.2.1 h4 (by have := (hW.2.2.2.2.1 (n - 1) (by omega)).1; omega)
    refine fin _ e2 ⟨?_, fun r q hr hq => ?_, fun r hr => ?_⟩
    · rw [h5] at hu
      unfold cuu at hu
      omega
    · rw [sw_c r hr, sw_c q hq]; exact l2 r q hr hq
    · rw [sw_c r hr]; exact l3 r hr
  · have e2 : gst w n tp ts hp P s = pts s (lfN s) (w (cix w n s - 1) + 1) := by unfold gst; rw [if_neg h1, if_neg h2]
    obtain ⟨y1, y2, y3, -⟩ := g_ld hW hn1 hS h0 h2
    exact fin _ e2 (load (lfN s) (w (cix w n s - 1)) h3 (lf3 h3) (by have := (hW.2.2.2.2.1 _ y1).1; omega) y3)
/-- all along -/
theorem gS_p (hW : WayR a nk nx key w n tp c ts hp P) (hn1 : 1 ≤ n) (hn : n ≤ 11) (hnk : nk ≤ 10) (hnx : nx ≤ 12) (hS : SGs w n tp ts hp P s) : ∀ t, t ≤ cph w n tp ts hp P s → SGs w n tp ts hp P (gS w n tp ts hp P s t) ∧ cph w n tp ts hp P (gS w n tp ts hp P s t) + t = cph w n tp ts hp P s := by
  intro t
  induction t with
  | zero => intro _; exact ⟨hS, rfl⟩
  | succ t ih =>
    intro ht
    obtain ⟨h1, h2⟩ := ih (by omega)
    have hz : ¬ cph w n tp ts hp P (gS w n tp ts hp P s t) = 0 := by omega
    refine ⟨SG_g hW hn1 hn hnk hnx h1 hz, ?_⟩
    have := (mvs_g hW hn1 hn hnk hnx h1 hz).2
    show cph w n tp ts hp P (gst w n tp ts hp P (gS w n tp ts hp P s t)) + (t + 1) = _
    omega
end GR
