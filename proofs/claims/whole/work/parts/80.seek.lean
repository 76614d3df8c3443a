/-! REACH: the reference's search -/
def RE (J J' : IM) : Prop := ∀ b o k, ¬ (b = 1 ∧ ((o = 0 ∧ k = 31) ∨ (21 ≤ o ∧ o ≤ 24))) → J' b o k = J b o k
theorem RE_r {J : IM} : RE J J := fun _ _ _ _ => rfl
theorem RE_t {J K L : IM} (h : RE J K) (h2 : RE K L) : RE J L := fun b o k z => by rw [h2 b o k z, h b o k z]
theorem Rch_p {J J' : IM} {m m' s : Nat} {st st' : Nat → Nat} {f mv : Int32} (h : Rch J m st s f mv J' m' st') : RE J J' ∧ m ≤ m' ∧ (∀ j, j < m → st' j = st j ∧ J' 1 22 j = J 1 22 j ∧ J' 1 23 j = J 1 23 j) ∧ ∀ j, m ≤ j → j < m' → st' j = s := by
  rcases h with ⟨h1, rfl, rfl, rfl⟩ | ⟨h1, h2, rfl, rfl, rfl⟩
  · exact ⟨RE_r, Nat.le_refl _, fun j _ => ⟨rfl, rfl, rfl⟩, fun j z1 z2 => by omega⟩
  · refine ⟨fun b o k z => ?_, by omega, fun j hj => ⟨?_, ?_, ?_⟩, fun j z1 z2 => ?_⟩
    · rw [wI_eq, if_neg (fun y => z ⟨y.1, Or.inl ⟨y.2.1, y.2.2⟩⟩), wI_eq, if_neg (fun y => z ⟨y.1, Or.inr (by omega)⟩), wI_eq, if_neg (fun y => z ⟨y.1, Or.inr (by omega)⟩), wI_eq, if_neg (fun y => z ⟨y.1, Or.inr (by omega)⟩), wI_eq, if_neg (fun y => z ⟨y.1, Or.inr (by omega)⟩)]
    · unfold updN; rw [if_neg (by omega)]
    · rw [wI_eq, if_neg (fun z => by omega), wI_eq, if_neg (fun z => by omega), wI_eq, if_neg (fun z => by omega), wI_eq, if_neg (fun z => by omega), wI_eq, if_neg (fun z => by omega)]
    · rw [wI_eq, if_neg (fun z => by omega), wI_eq, if_neg (fun z => by omega), wI_eq, if_neg (fun z => by omega), wI_eq, if_neg (fun z => by omega), wI_eq, if_neg (fun z => by omega)]
    · unfold updN; rw [if_pos (by omega)]
def RLs (i : Nat) : List (Nat × Nat) → IM → Nat → (Nat → Nat) → IM → Nat → (Nat → Nat) → Prop
  | [], J, m, st, J', m', st' => J' = J ∧ m' = m ∧ st' = st
  | x :: L, J, m, st, J', m', st' => ∃ J1 m1 st1, Rch J m st x.1 (nI i) (nI x.2) J1 m1 st1 ∧ RLs i L J1 m1 st1 J' m' st'
theorem RLs_a {i : Nat} {L2 : List (Nat × Nat)} {J' : IM} {m' : Nat} {st' : Nat → Nat} : ∀ {L1 : List (Nat × Nat)} {J : IM} {m : Nat} {st : Nat → Nat}, RLs i (L1 ++ L2) J m st J' m' st' ↔ ∃ J1 m1 st1, RLs i L1 J m st J1 m1 st1 ∧ RLs i L2 J1 m1 st1 J' m' st' := by
  intro L1
  induction L1 with
  | nil =>
    intro J m st
    constructor
    · intro h; exact ⟨J, m, st, ⟨rfl, rfl, rfl⟩, h⟩
    · rintro ⟨J1, m1, st1, ⟨rfl, rfl, rfl⟩, h⟩; exact h
  | cons x L ih =>
    intro J m st
    constructor
    · rintro ⟨J1, m1, st1, h1, h2⟩
      obtain ⟨J2, m2, st2, h3, h4⟩ := ih.mp h2
      exact ⟨J2, m2, st2, ⟨J1, m1, st1, h1, h3⟩, h4⟩
    · rintro ⟨J2, m2, st2, ⟨J1, m1, st1, h1, h3⟩, h4⟩
      exact ⟨J1, m1, st1, h1, ih.mpr ⟨J2, m2, st2, h3, h4⟩⟩
theorem RLs_p {i : Nat} {J' : IM} {m' : Nat} {st' : Nat → Nat} : ∀ {L : List (Nat × Nat)} {J : IM} {m : Nat} {st : Nat → Nat}, RLs i L J m st J' m' st' → RE J J' ∧ m ≤ m' ∧ (∀ j, j < m → st' j = st j ∧ J' 1 22 j = J 1 22 j ∧ J' 1 23 j = J 1 23 j) ∧ ∀ j, m ≤ j → j < m' → ∃ x, x ∈ L ∧ st' j = x.1 := by
  intro L
  induction L with
  | nil =>
    rintro J m st ⟨rfl, rfl, rfl⟩
    exact ⟨RE_r, Nat.le_refl _, fun j _ => ⟨rfl, rfl, rfl⟩, fun j z1 z2 => by omega⟩
  | cons x L ih =>
    rintro J m st ⟨J1, m1, st1, h1, h2⟩
    obtain ⟨a1, a2, a3, a4⟩ := Rch_p h1
    obtain ⟨b1, b2, b3, b4⟩ := ih h2
    refine ⟨RE_t a1 b1, by omega, fun j hj => ?_, fun j z1 z2 => ?_⟩
    · obtain ⟨x1, x2, x3⟩ := a3 j hj
      obtain ⟨y1, y2, y3⟩ := b3 j (by omega)
      exact ⟨by rw [y1, x1], by rw [y2, x2], by rw [y3, x3]⟩
    · by_cases e : j < m1
      · refine ⟨x, List.mem_cons_self, ?_⟩
        rw [(b3 j e).1, a4 j z1 e]
      · obtain ⟨y, y1, y2⟩ := b4 j (by omega) z2
        exact ⟨y, List.mem_cons_of_mem _ y1, y2⟩
def EVs (J : IM) (a : Nat → Int32) (w : Nat → Nat) (n : Nat) (tp : Bool) (c : Nat) : Prop := J 1 0 25 = nI n ∧ J 1 0 26 = tpI tp c ∧ (∀ j, j < n → J 1 20 j = nI (w j)) ∧ ∀ k, J 1 2 k = a k
theorem EV_e {J J' : IM} {a : Nat → Int32} {w : Nat → Nat} {n c : Nat} {tp : Bool} (h : EVs J a w n tp c) (e : RE J J') : EVs J' a w n tp c := by
  obtain ⟨h1, h2, h3, h4⟩ := h
  refine ⟨?_, ?_, fun j hj => ?_, fun k => ?_⟩
  · rw [e _ _ _ (fun z => by omega), h1]
  · rw [e _ _ _ (fun z => by omega), h2]
  · rw [e _ _ _ (fun z => by omega), h3 j hj]
  · rw [e _ _ _ (fun z => by omega), h4]
section MV
variable {N d : Nat} {F : FM} {a : Nat → Int32} {nk nx key n c ts P i s : Nat} {w : Nat → Nat} {tp hp : Bool}
theorem mv_f (hs : s < 8192) : ∀ (k t : Nat) (J : IM) (m : Nat) (st : Nat → Nat), t + k = 3 → BQ J m st → ∃ J' m' st', RLs i (mL (mvF s) k t) J m st J' m' st' ∧ BQ J' m' st' ∧ ∀ q, sg (sem N (d + 2)) 0 zc279 (q + k) 9 [vR (some (1, 0)), vI (nI i), vI (nI s), vI (nI t)] J F = sg (sem N (d + 2)) 0 zc279 q 9 [vR (some (1, 0)), vI (nI i), vI (nI s), vI (nI 3)] J' F := by
  intro k
  induction k with
  | zero =>
    intro t J m st ht hB
    obtain rfl : t = 3 := by omega
    exact ⟨J, m, st, ⟨rfl, rfl, rfl⟩, hB, fun q => rfl⟩
  | succ k ih =>
    intro t J m st ht hB
    have hc := cs_lt s t
    by_cases z : cs s t = 0
    · obtain ⟨J', m', st', h1, h2, h3⟩ := ih (t + 1) J m st (by omega) hB
      refine ⟨J', m', st', ?_, h2, fun q => ?_⟩
      · show RLs i ((mvF s t).toList ++ mL (mvF s) k (t + 1)) J m st J' m' st'
        rw [show mvF s t = none by unfold mvF; rw [if_pos z]]
        exact h1
      · rw [show q + (k + 1) = (q + k) + 1 by omega, u279_9]; unfold b279_9
        rw [if_neg (show ¬ (3 : Int32) ≤ nI t from nI_ge (show t < 3 by omega) (by decide)), m273 hs (by omega), bI_v, if_pos ((pI_m (by omega)).mpr z), nI_1, h3 q]
    · obtain ⟨J1, m1, st1, e1, e2, e3⟩ := m278 (N := N) (d := d + 1) (F := F) (fls_l hs) hB (nI i) (nI (10 + t))
      obtain ⟨J', m', st', h1, h2, h3⟩ := ih (t + 1) J1 m1 st1 (by omega) e3
      refine ⟨J', m', st', ?_, h2, fun q => ?_⟩
      · show RLs i ((mvF s t).toList ++ mL (mvF s) k (t + 1)) J m st J' m' st'
        rw [show mvF s t = some (fls s t, 10 + t) by unfold mvF; rw [if_neg z]]
        exact ⟨J1, m1, st1, e2, h1⟩
      · rw [show q + (k + 1) = (q + k) + 1 by omega, u279_9]; unfold b279_9
        rw [if_neg (show ¬ (3 : Int32) ≤ nI t from nI_ge (show t < 3 by omega) (by decide)), m273 hs (by omega), bI_v, if_neg (fun y => z ((pI_m (by omega)).mp y)), bs_2 hs (by omega), L10, nI_add, e1, bV_v, nI_1, h3 q]
theorem mv_g (hN : 20 ≤ N) (hW : WayR a nk nx key w n tp c ts hp P) (hn : n ≤ 10) (hnk : nk ≤ 10) (h13 : a 13 = nI nk) (hpar : ∀ k, k < nk → a (180 + 4 * k) = -1 ∨ ∃ p, p < k ∧ a (180 + 4 * k) = nI p) (hs : s < 8192) (hl : lfN s < 3) : ∀ (k t : Nat) (J : IM) (m : Nat) (st : Nat → Nat), t + k = nk → EVs J a w n tp c → BQ J m st → ∃ J' m' st', RLs i (mL (mvG a w n s) k t) J m st J' m' st' ∧ BQ J' m' st' ∧ ∀ q, sg (sem N (d + 2)) 0 zc279 (q + k) 56 [vR (some (1, 0)), vI (nI i), vI (nI s), vI (lfI s), vI (nI t)] J F = sg (sem N (d + 2)) 0 zc279 q 56 [vR (some (1, 0)), vI (nI i), vI (nI s), vI (lfI s), vI (nI nk)] J' F := by
  have elf : lfI s = nI (lfN s) := by unfold lfI; rw [if_neg (by omega)]
  intro k
  induction k with
  | zero =>
    intro t J m st ht hE hB
    obtain rfl : t = nk := by omega
    exact ⟨J, m, st, ⟨rfl, rfl, rfl⟩, hB, fun q => rfl⟩
  | succ k ih =>
    intro t J m st ht hE hB
    obtain ⟨v1, v2, v3, v4⟩ := hE
    have hE : EVs J a w n tp c := ⟨v1, v2, v3, v4⟩
    have a0 : ∀ q, sg (sem N (d + 2)) 0 zc279 (q + (k + 1)) 56 [vR (some (1, 0)), vI (nI i), vI (nI s), vI (lfI s), vI (nI t)] J F = b279_56 (sem N (d + 2)) (sg (sem N (d + 2)) 0 zc279 (q + k)) (nI i) (nI s) (lfI s) (nI t) J F := fun q => u279_56 _ _ _ _ _ _ _ _
    have w9 : ∀ j, j < n → w j < 2 ^ 20 := fun j hj => by have := (hW.2.2.2.2.1 j hj).1; omega
    have c1 := m280 (N := N) (d := d) (F := F) hN hn v1 v3 w9 (k := t) (by omega) (a (183 + 4 * t)) (v4 _)
    have c2 := m275 (N := N) (d := d) (I := J) (F := F) hs (k := t) (by omega)
    have c3 : ∀ p, p < 100 → sem N (d + 2) 275 [vI (nI s), vI (nI p)] J F = some (vI (bz (cld s p)), J, F) := fun p hp => m275 hs hp
    have go : (mvG a w n s t = none ∧ ∀ q, sg (sem N (d + 2)) 0 zc279 (q + (k + 1)) 56 [vR (some (1, 0)), vI (nI i), vI (nI s), vI (lfI s), vI (nI t)] J F = sg (sem N (d + 2)) 0 zc279 (q + k) 56 [vR (some (1, 0)), vI (nI i), vI (nI s), vI (lfI s), vI (nI (t + 1))] J F) ∨ (mvG a w n s t = some (pts s (lfN s) (t + 1), 20 + t) ∧ ∀ q, sg (sem N (d + 2)) 0 zc279 (q + (k + 1)) 56 [vR (some (1, 0)), vI (nI i), vI (nI s), vI (lfI s), vI (nI t)] J F = bV (sem N (d + 2) 278 [vR (some (1, 0)), vI (nI (pts s (lfN s) (t + 1))), vI (nI i), vI (nI (20 + t))] J F) (fun I12 F12 => sg (sem N (d + 2)) 0 zc279 (q + k) 56 [vR (some (1, 0)), vI (nI i), vI (nI s), vI (lfI s), vI (nI (t + 1))] I12 F12)) := by
      by_cases z1 : onw w t n ∧ a (183 + 4 * t) = -1
      · by_cases z2 : cld s t
        · refine Or.inl ⟨?_, fun q => ?_⟩
          · unfold mvG; rw [if_neg (fun y => y.2.2.1 z2)]
          · rw [a0]; unfold b279_56
            rw [v4, h13, if_neg (nI_ge (by omega) (by omega)), if_neg (by rw [elf]; exact fun y => nI_ne1 (by omega) y), m194, bI_v, Int32.add_zero, if_pos (inb_nI (by omega) (by decide)), c1, bI_v, ite_bzif, if_pos z1, c2, bI_v, ite_bzif, if_pos z2, nI_1]
        · rcases hpar t (by omega) with z3 | ⟨p, z3, z4⟩
          · refine Or.inr ⟨?_, fun q => ?_⟩
            · unfold mvG; rw [if_pos ⟨hl, z1, z2, Or.inl z3⟩]
            · rw [a0]; unfold b279_56
              rw [v4, h13, if_neg (nI_ge (by omega) (by omega)), if_neg (by rw [elf]; exact fun y => nI_ne1 (by omega) y), m194, bI_v, Int32.add_zero, if_pos (inb_nI (by omega) (by decide)), c1, bI_v, ite_bzif, if_pos z1, c2, bI_v, ite_bzif, if_neg z2, nI_clamp (by omega), v4, if_pos z3, nI_1, elf, bs_3 hs hl (lf3 hl) (by omega), L20, nI_add]
          · by_cases z5 : cld s p
            · refine Or.inr ⟨?_, fun q => ?_⟩
              · unfold mvG; rw [if_pos ⟨hl, z1, z2, Or.inr (by rw [z4, nI_clamp (by omega)]; exact z5)⟩]
              · rw [a0]; unfold b279_56
                rw [v4, h13, if_neg (nI_ge (by omega) (by omega)), if_neg (by rw [elf]; exact fun y => nI_ne1 (by omega) y), m194, bI_v, Int32.add_zero, if_pos (inb_nI (by omega) (by decide)), c1, bI_v, ite_bzif, if_pos z1, c2, bI_v, ite_bzif, if_neg z2, nI_clamp (by omega), v4, z4, if_neg (fun y => nI_ne1 (by omega) y), c3 p (by omega), bI_v, ite_bzif, if_pos z5, nI_1, elf, bs_3 hs hl (lf3 hl) (by omega), L20, nI_add]
            · refine Or.inl ⟨?_, fun q => ?_⟩
              · unfold mvG; rw [if_neg (fun y => by
                  rcases y.2.2.2 with y | y
                  · rw [z4] at y; exact nI_ne1 (by omega) y
                  · rw [z4, nI_clamp (by omega)] at y; exact z5 y)]
              · rw [a0]; unfold b279_56
                rw [v4, h13, if_neg (nI_ge (by omega) (by omega)), if_neg (by rw [elf]; exact fun y => nI_ne1 (by omega) y), m194, bI_v, Int32.add_zero, if_pos (inb_nI (by omega) (by decide)), c1, bI_v, ite_bzif, if_pos z1, c2, bI_v, ite_bzif, if_neg z2, nI_clamp (by omega), v4, z4, if_neg (fun y => nI_ne1 (by omega) y), c3 p (by omega), bI_v, ite_bzif, if_neg z5, nI_1]
      · refine Or.inl ⟨?_, fun q => ?_⟩
        · unfold mvG; rw [if_neg (fun y => z1 y.2.1)]
        · rw [a0]; unfold b279_56
          rw [v4, h13, if_neg (nI_ge (by omega) (by omega)), if_neg (by rw [elf]; exact fun y => nI_ne1 (by omega) y), m194, bI_v, Int32.add_zero, if_pos (inb_nI (by omega) (by decide)), c1, bI_v, ite_bzif, if_neg z1, nI_1]
    rcases go with ⟨g1, g2⟩ | ⟨g1, g2⟩
    · obtain ⟨J', m', st', h1, h2, h3⟩ := ih (t + 1) J m st (by omega) hE hB
      refine ⟨J', m', st', ?_, h2, fun q => ?_⟩
      · show RLs i ((mvG a w n s t).toList ++ mL (mvG a w n s) k (t + 1)) J m st J' m' st'
        rw [g1]
        exact h1
      · rw [g2 q, h3 q]
    · obtain ⟨J1, m1, st1, e1, e2, e3⟩ := m278 (N := N) (d := d + 1) (F := F) (pts_l hl hs (lf3 hl) (show t + 1 < 16 by omega)) hB (nI i) (nI (20 + t))
      obtain ⟨J', m', st', h1, h2, h3⟩ := ih (t + 1) J1 m1 st1 (by omega) (EV_e hE (Rch_p e2).1) e3
      refine ⟨J', m', st', ?_, h2, fun q => ?_⟩
      · show RLs i ((mvG a w n s t).toList ++ mL (mvG a w n s) k (t + 1)) J m st J' m' st'
        rw [g1]
        exact ⟨J1, m1, st1, e2, h1⟩
      · rw [g2 q, e1, bV_v, h3 q]
theorem mL_none {f : Nat → Option (Nat × Nat)} (h : ∀ k, f k = none) : ∀ k t, mL f k t = [] := by
  intro k
  induction k with
  | zero => intro t; rfl
  | succ k ih =>
    intro t
    show (f t).toList ++ mL f k (t + 1) = []
    rw [h, ih]
    rfl
theorem mv_s (hW : WayR a nk nx key w n tp c ts hp P) (hnk : nk ≤ 10) (hnx : nx ≤ 12) (h13 : a 13 = nI nk) (hs : s < 8192) {J : IM} {m : Nat} {st : Nat → Nat} (hE : EVs J a w n tp c) (hB : BQ J m st) (x4 : Int32) (hx : nI nk ≤ x4 ∨ lfI s = -1) : ∃ J' m' st', RLs i (mvSw w n tp c ts s) J m st J' m' st' ∧ BQ J' m' st' ∧ ∀ q, sg (sem N (d + 2)) 0 zc279 (q + 1) 56 [vR (some (1, 0)), vI (nI i), vI (nI s), vI (lfI s), vI x4] J F = some (vI 0, J', F) := by
  obtain ⟨w1, w2, w3, w4, w5, w6, w7, w8⟩ := hW
  obtain ⟨v1, v2, v3, v4⟩ := hE
  have hh : ∀ (A B : Option Rs), (if J 1 2 13 ≤ x4 then A else (if lfI s = -1 then A else B)) = A := by
    intro A B
    rw [v4, h13]
    rcases hx with z | z
    · rw [if_pos z]
    · by_cases y : nI nk ≤ x4
      · rw [if_pos y]
      · rw [if_neg y, if_pos z]
  have stay : mvSw w n tp c ts s = [] → (∀ q, sg (sem N (d + 2)) 0 zc279 (q + 1) 56 [vR (some (1, 0)), vI (nI i), vI (nI s), vI (lfI s), vI x4] J F = some (vI 0, J, F)) → ∃ J' m' st', RLs i (mvSw w n tp c ts s) J m st J' m' st' ∧ BQ J' m' st' ∧ ∀ q, sg (sem N (d + 2)) 0 zc279 (q + 1) 56 [vR (some (1, 0)), vI (nI i), vI (nI s), vI (lfI s), vI x4] J F = some (vI 0, J', F) := by
    intro e h
    rw [e]
    exact ⟨J, m, st, ⟨rfl, rfl, rfl⟩, hB, h⟩
  cases ht : tp with
  | false =>
    rw [ht] at stay v2
    refine stay (by unfold mvSw; rw [if_neg (fun z => Bool.noConfusion z.1)]) (fun q => ?_)
    rw [u279_56]; unfold b279_56
    rw [hh, v2, show tpI false c = -1 from rfl, if_pos rfl]
  | true =>
    rw [ht] at stay v2 w3
    have hn1 : 1 ≤ n := Nat.le_of_not_lt (fun z => Bool.noConfusion (w3 (by omega)).2)
    obtain ⟨y1, y2, y3, y4⟩ := w7 hn1 ht
    have hw := (w5 (n - 1) (by omega)).1
    have e26 : J 1 0 26 = nI c := v2
    by_cases z1 : cuu s = 0
    · by_cases z2 : cs s ts = 0
      · have h4 : s < 4096 := by unfold cuu at z1; omega
        have e5 : pts (s + 4096) ts (w (n - 1) + 1) = pts s ts (w (n - 1) + 1) + 4096 := by unfold pts; omega
        have lt : pts (s + 4096) ts (w (n - 1) + 1) < 8192 := pts_l w2 (by omega) (by rw [sw_c ts w2]; exact z2) (by omega)
        obtain ⟨J1, m1, st1, e1, e2, e3⟩ := m278 (N := N) (d := d + 1) (F := F) lt hB (nI i) (nI (40 + c))
        refine ⟨J1, m1, st1, ?_, e3, fun q => ?_⟩
        · rw [show mvSw w n true c ts s = [(pts s ts (w (n - 1) + 1) + 4096, 40 + c)] by unfold mvSw; rw [if_pos ⟨rfl, z1, z2⟩], ← e5]
          exact ⟨J1, m1, st1, e2, rfl, rfl, rfl⟩
        · rw [u279_56]; unfold b279_56
          rw [hh, e26, if_neg (fun y => nI_ne1 (by omega) y), if_pos ((bs_5 hs).mpr z1), m195, bI_v, L2, nI_add, nI_1]
          have b2 : inb (nI (220 + 4 * c + 2)) 406 := inb_nI (by omega) (by decide)
          have b1 : inb (nI (220 + 4 * c + 1)) 406 := inb_nI (by omega) (by decide)
          have k2 : J 1 2 (nI (220 + 4 * c + 2)).toNatClampNeg = nI ts := by rw [nI_clamp (by omega), v4, show 220 + 4 * c + 2 = 222 + 4 * c by omega, y4]
          have k1 : J 1 2 (nI (220 + 4 * c + 1)).toNatClampNeg = nI (w (n - 1)) := by rw [nI_clamp (by omega), v4, show 220 + 4 * c + 1 = 221 + 4 * c by omega, y3]
          rw [if_pos b2, k2, m273 hs w2, bI_v, if_pos ((pI_m (by omega)).mpr z2), if_pos b1, if_pos b2, k2, k1, e26, nI_1, bs_6 h4, bs_3 (by omega) w2 (by rw [sw_c ts w2]; exact z2) (by omega), L40, nI_add, e1, bV_v]
      · refine stay (by unfold mvSw; rw [if_neg (fun z => z2 z.2.2)]) (fun q => ?_)
        rw [u279_56]; unfold b279_56
        have b2 : inb (nI (220 + 4 * c + 2)) 406 := inb_nI (by omega) (by decide)
        have k2 : J 1 2 (nI (220 + 4 * c + 2)).toNatClampNeg = nI ts := by rw [nI_clamp (by omega), v4, show 220 + 4 * c + 2 = 222 + 4 * c by omega, y4]
        rw [hh, e26, if_neg (fun y => nI_ne1 (by omega) y), if_pos ((bs_5 hs).mpr z1), m195, bI_v, L2, nI_add, if_pos b2, k2, m273 hs w2, bI_v, if_neg (fun y => z2 ((pI_m (by have := cs_lt s ts; omega)).mp y))]
    · refine stay (by unfold mvSw; rw [if_neg (fun z => z1 z.2.1)]) (fun q => ?_)
      rw [u279_56]; unfold b279_56
      rw [hh, e26, if_neg (fun y => nI_ne1 (by omega) y), if_neg (fun y => z1 ((bs_5 hs).mp y))]
theorem m279 (hN : 40 ≤ N) (hW : WayR a nk nx key w n tp c ts hp P) (hn : n ≤ 10) (hnk : nk ≤ 10) (hnx : nx ≤ 12) (h13 : a 13 = nI nk) (hpar : ∀ k, k < nk → a (180 + 4 * k) = -1 ∨ ∃ p, p < k ∧ a (180 + 4 * k) = nI p) {J : IM} {m : Nat} {st : Nat → Nat} (hE : EVs J a w n tp c) (hB : BQ J m st) (hi : i < m) : ∃ J' m' st', RLs i (mvs a nk w n tp c ts (st i)) J m st J' m' st' ∧ BQ J' m' st' ∧ sem N (d + 3) 279 [vR (some (1, 0)), vI (nI i)] J F = some (vI 0, J', F) := by
  obtain ⟨hs, es⟩ := hB.2.2.1 i hi
  have hm : m ≤ 8192 := by rw [hB.2.1]; exact cnt_le _ _
  obtain ⟨M, rfl⟩ : ∃ M, N = M + 40 := ⟨N - 40, by omega⟩
  obtain ⟨J1, m1, st1, a1, a2, a3⟩ := mv_f (N := M + 40) (d := d) (F := F) (i := i) hs 3 0 J m st rfl hB
  have hE1 := EV_e hE (RLs_p a1).1
  have go : ∃ J' m' st', RLs i (mL (mvG a w n (st i)) nk 0 ++ mvSw w n tp c ts (st i)) J1 m1 st1 J' m' st' ∧ BQ J' m' st' ∧ ∀ q, 11 ≤ q → sg (sem (M + 40) (d + 2)) 0 zc279 q 56 [vR (some (1, 0)), vI (nI i), vI (nI (st i)), vI (lfI (st i)), vI (nI 0)] J1 F = some (vI 0, J', F) := by
    by_cases hl : lfN (st i) < 3
    · obtain ⟨J2, m2, st2, b1, b2, b3⟩ := mv_g (N := M + 40) (d := d) (F := F) (i := i) (by omega) hW hn hnk h13 hpar hs hl nk 0 J1 m1 st1 (by omega) hE1 a2
      obtain ⟨J3, m3, st3, d1, d2, d3⟩ := mv_s (N := M + 40) (d := d) (F := F) (i := i) hW hnk hnx h13 hs (EV_e hE1 (RLs_p b1).1) b2 (nI nk) (Or.inl (nI_le (Nat.le_refl _) (by omega)))
      refine ⟨J3, m3, st3, RLs_a.mpr ⟨J2, m2, st2, b1, d1⟩, d2, fun q hq => ?_⟩
      obtain ⟨r, rfl⟩ : ∃ r, q = (r + 1) + nk := ⟨q - nk - 1, by omega⟩
      rw [b3 (r + 1), d3 r]
    · have e3 : lfN (st i) = 3 := by rcases lfN_p (st i) with z | z <;> omega
      obtain ⟨J3, m3, st3, d1, d2, d3⟩ := mv_s (N := M + 40) (d := d) (F := F) (i := i) hW hnk hnx h13 hs hE1 a2 (nI 0) (Or.inr (by unfold lfI; rw [if_pos e3]))
      refine ⟨J3, m3, st3, ?_, d2, fun q hq => ?_⟩
      · rw [mL_none (fun k => by unfold mvG; rw [if_neg (fun z => hl z.1)])]
        exact d1
      · obtain ⟨r, rfl⟩ : ∃ r, q = r + 1 := ⟨q - 1, by omega⟩
        exact d3 r
  obtain ⟨J', m', st', g1, g2, g3⟩ := go
  refine ⟨J', m', st', RLs_a.mpr ⟨J1, m1, st1, a1, g1⟩, g2, ?_⟩
  rw [s279]; unfold b279
  rw [if_pos (inb_nI (by omega) (by decide)), nI_clamp (by omega), es]
  refine Eq.trans (a3 (M + 37)) ?_
  rw [show M + 37 = (M + 36) + 1 by omega, u279_9]; unfold b279_9
  rw [if_pos (by decide), m274 (by omega) hs, bI_v]
  exact g3 (M + 36) (by omega)
end MV
