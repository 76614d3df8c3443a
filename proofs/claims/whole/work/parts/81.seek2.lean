/-! REACH: the reference's search finds the least moves -/
theorem cnt_no {P : Nat → Prop} [DecidablePred P] : ∀ {m : Nat}, (∀ i, i < m → ¬ P i) → cnt P m = 0 := by
  intro m
  induction m with
  | zero => intro _; rfl
  | succ m ih =>
    intro h
    have e : cnt P (m + 1) = if P m then cnt P m + 1 else cnt P m := rfl
    rw [e, if_neg (h m (by omega)), ih (fun i hi => h i (by omega))]
theorem Rch_n {J J' : IM} {m m' s : Nat} {st st' : Nat → Nat} {f mv : Int32} (h : Rch J m st s f mv J' m' st') (hn : ¬ ∃ j, j < m ∧ st j = s) : m' = m + 1 ∧ st' m = s ∧ J' 1 22 m = f ∧ J' 1 23 m = mv := by
  rcases h with ⟨h1, -⟩ | ⟨h1, h2, rfl, rfl, rfl⟩
  · exact absurd h1 hn
  · refine ⟨rfl, ?_, ?_, ?_⟩
    · unfold updN; rw [if_pos rfl]
    · rw [wI_eq, if_neg (fun z => by omega), wI_eq, if_neg (fun z => by omega), wI_s]
    · rw [wI_eq, if_neg (fun z => by omega), wI_s]
def QI (w : Nat → Nat) (n : Nat) (tp : Bool) (c ts : Nat) (hp : Bool) (P s0 : Nat) (J : IM) (m : Nat) (st ix : Nat → Nat) (t i : Nat) : Prop :=
  t ≤ cph w n tp ts hp P s0 ∧ i ≤ ix t ∧ (∀ j, j < m → cph w n tp ts hp P s0 ≤ cph w n tp ts hp P (st j) + t) ∧ (∀ j, j < ix t → cph w n tp ts hp P s0 < cph w n tp ts hp P (st j) + t) ∧
  (∀ r, r ≤ t → ix r < m ∧ st (ix r) = gS w n tp ts hp P s0 r) ∧ J 1 22 (ix 0) = -1 ∧ ∀ r, r < t → J 1 22 (ix (r + 1)) = nI (ix r) ∧ J 1 23 (ix (r + 1)) = nI (gmv w n tp c ts hp P (gS w n tp ts hp P s0 r))
section SK
variable {N d : Nat} {F : FM} {a : Nat → Int32} {nk nx key n c ts P s0 : Nat} {w : Nat → Nat} {tp hp : Bool}
/-- one state is gone through -/
theorem QI_st (hW : WayR a nk nx key w n tp c ts hp P) (hn1 : 1 ≤ n) (hn : n ≤ 11) (hnk : nk ≤ 10) (hnx : nx ≤ 12) (hS : SGs w n tp ts hp P s0) {J J' : IM} {m m' t i : Nat} {st st' ix : Nat → Nat} (hQ : QI w n tp c ts hp P s0 J m st ix t i) (hB' : BQ J' m' st') (hno : ¬ (t = cph w n tp ts hp P s0 ∧ i = ix t)) (hR : RLs i (mvs a nk w n tp c ts (st i)) J m st J' m' st') : ∃ t' ix', QI w n tp c ts hp P s0 J' m' st' ix' t' (i + 1) := by
  obtain ⟨q1, q2, q3, q4, q5, q6, q7⟩ := hQ
  have hlt := (q5 t (Nat.le_refl _)).1
  by_cases hi : i = ix t
  · have ht : t < cph w n tp ts hp P s0 := by
      by_cases e : t = cph w n tp ts hp P s0
      · exact absurd ⟨e, hi⟩ hno
      · omega
    have est : st i = gS w n tp ts hp P s0 t := by rw [hi]; exact (q5 t (Nat.le_refl _)).2
    obtain ⟨g1, g2⟩ := gS_p hW hn1 hn hnk hnx hS t q1
    have g0 : ¬ cph w n tp ts hp P (gS w n tp ts hp P s0 t) = 0 := by omega
    obtain ⟨⟨L1, L2, e1, e2⟩, e3⟩ := mvs_g hW hn1 hn hnk hnx g1 g0
    have all : ∀ x, x ∈ mvs a nk w n tp c ts (gS w n tp ts hp P s0 t) → cph w n tp ts hp P s0 ≤ cph w n tp ts hp P x.1 + (t + 1) := fun x hx => by
      have := mvs_1 hW hn1 hn hnk hnx hx
      omega
    rw [est, e1] at hR
    obtain ⟨J1, m1, st1, r1, J2, m2, st2, r2, r3⟩ := RLs_a.mp hR
    obtain ⟨a1, a2, a3, a4⟩ := RLs_p r1
    obtain ⟨b1, b2, b3, b4⟩ := RLs_p r3
    have old : ∀ j, j < m1 → cph w n tp ts hp P s0 ≤ cph w n tp ts hp P (st1 j) + t := fun j hj => by
      by_cases e : j < m
      · rw [(a3 j e).1]; exact q3 j e
      · obtain ⟨x, x1, x2⟩ := a4 j (by omega) hj
        rw [x2]
        have := e2 x x1
        omega
    have hgs : gS w n tp ts hp P s0 (t + 1) = gst w n tp ts hp P (gS w n tp ts hp P s0 t) := rfl
    have hnew : ¬ ∃ j, j < m1 ∧ st1 j = gst w n tp ts hp P (gS w n tp ts hp P s0 t) := fun ⟨j, z1, z2⟩ => by
      have := old j z1
      rw [z2] at this
      omega
    obtain ⟨n1, n2, n3, n4⟩ := Rch_n r2 hnew
    obtain ⟨-, -, c3, -⟩ := Rch_p r2
    obtain ⟨ix', i1, i2⟩ : ∃ f : Nat → Nat, f (t + 1) = m1 ∧ ∀ r, r ≤ t → f r = ix r := ⟨fun r => if r = t + 1 then m1 else ix r, if_pos rfl, fun r hr => if_neg (by omega)⟩
    have n4 : J2 1 23 m1 = nI (gmv w n tp c ts hp P (gS w n tp ts hp P s0 t)) := n4
    have n2 : st2 m1 = gst w n tp ts hp P (gS w n tp ts hp P s0 t) := n2
    refine ⟨t + 1, ix', ht, by rw [i1]; omega, fun j hj => ?_, fun j hj => ?_, fun r hr => ?_, ?_, fun r hr => ?_⟩
    · by_cases e : j < m1
      · rw [(b3 j (by omega)).1, (c3 j e).1]
        have := old j e
        omega
      · by_cases e' : j = m1
        · rw [(b3 j (by omega)).1, e', n2]
          omega
        · obtain ⟨x, x1, x2⟩ := b4 j (by omega) hj
          rw [x2]
          refine all x ?_
          rw [e1]
          exact List.mem_append_right _ (List.mem_cons_of_mem _ x1)
    · rw [i1] at hj
      rw [(b3 j (by omega)).1, (c3 j hj).1]
      have := old j hj
      omega
    · by_cases e : r = t + 1
      · rw [e, i1]
        refine ⟨by omega, ?_⟩
        rw [(b3 m1 (by omega)).1, n2, hgs]
      · rw [i2 r (by omega)]
        obtain ⟨y1, y2⟩ := q5 r (by omega)
        refine ⟨by omega, ?_⟩
        rw [(b3 (ix r) (by omega)).1, (c3 (ix r) (by omega)).1, (a3 (ix r) y1).1, y2]
    · have y1 := (q5 0 (by omega)).1
      rw [i2 0 (by omega), (b3 (ix 0) (by omega)).2.1, (c3 (ix 0) (by omega)).2.1, (a3 (ix 0) y1).2.1, q6]
    · have y1 := (q5 r (by omega)).1
      by_cases e : r = t
      · subst e
        rw [i1, i2 r (by omega), (b3 m1 (by omega)).2.1, (b3 m1 (by omega)).2.2, n3, n4, hi]
        exact ⟨rfl, rfl⟩
      · have y2 := (q5 (r + 1) (by omega)).1
        rw [i2 (r + 1) (by omega), i2 r (by omega), (b3 (ix (r + 1)) (by omega)).2.1, (b3 (ix (r + 1)) (by omega)).2.2, (c3 _ (show ix (r + 1) < m1 by omega)).2.1, (c3 _ (show ix (r + 1) < m1 by omega)).2.2, (a3 _ y2).2.1, (a3 _ y2).2.2]
        exact q7 r (by omega)
  · have hi' : i < ix t := by omega
    have all : ∀ x, x ∈ mvs a nk w n tp c ts (st i) → cph w n tp ts hp P s0 ≤ cph w n tp ts hp P x.1 + t := fun x hx => by
      have h1 := mvs_1 hW hn1 hn hnk hnx hx
      have h2 := q4 i hi'
      omega
    obtain ⟨a1, a2, a3, a4⟩ := RLs_p hR
    refine ⟨t, ix, q1, by omega, fun j hj => ?_, fun j hj => ?_, fun r hr => ?_, ?_, fun r hr => ?_⟩
    · by_cases e : j < m
      · rw [(a3 j e).1]; exact q3 j e
      · obtain ⟨x, x1, x2⟩ := a4 j (by omega) hj
        rw [x2]
        exact all x x1
    · rw [(a3 j (by omega)).1]; exact q4 j hj
    · obtain ⟨y1, y2⟩ := q5 r hr
      exact ⟨by omega, by rw [(a3 _ y1).1, y2]⟩
    · rw [(a3 _ (q5 0 (by omega)).1).2.1, q6]
    · have y2 := (q5 (r + 1) (by omega)).1
      rw [(a3 _ y2).2.1, (a3 _ y2).2.2]
      exact q7 r hr
/-- until the key is in -/
theorem bfs (hN : 40 ≤ N) (hW : WayR a nk nx key w n tp c ts hp P) (hn1 : 1 ≤ n) (hn : n ≤ 10) (hnk : nk ≤ 10) (hnx : nx ≤ 12) (hk : key < nk) (h13 : a 13 = nI nk) (hpar : ∀ k, k < nk → a (180 + 4 * k) = -1 ∨ ∃ p, p < k ∧ a (180 + 4 * k) = nI p) (hS : SGs w n tp ts hp P s0) (y : Int32) : ∀ (k i t q : Nat) (J : IM) (m : Nat) (st ix : Nat → Nat), i + k = 8192 → k < q → EVs J a w n tp c → BQ J m st → QI w n tp c ts hp P s0 J m st ix t i → ∃ J' m' st' ix' q', RE J J' ∧ BQ J' m' st' ∧ QI w n tp c ts hp P s0 J' m' st' ix' (cph w n tp ts hp P s0) (ix' (cph w n tp ts hp P s0)) ∧ q ≤ q' + 1 + k ∧ sg (sem N (d + 3)) 6 zc282 q 44 [vR (some (1, 0)), vI (nI key), vI y, vI (nI i)] J F = sg (sem N (d + 3)) 6 zc282 (q' + 1) 44 [vR (some (1, 0)), vI (nI key), vI y, vI (nI (ix' (cph w n tp ts hp P s0)))] J' F := by
  intro k
  induction k with
  | zero =>
    intro i t q J m st ix hk0 hq hE hB hQ
    have hm : m ≤ 8192 := by rw [hB.2.1]; exact cnt_le _ _
    have h1 := hQ.2.1
    have h2 := (hQ.2.2.2.2.1 t (Nat.le_refl _)).1
    omega
  | succ k ih =>
    intro i t q J m st ix hk0 hq hE hB hQ
    have hm : m ≤ 8192 := by rw [hB.2.1]; exact cnt_le _ _
    by_cases hfin : t = cph w n tp ts hp P s0 ∧ i = ix t
    · obtain ⟨e1, e2⟩ := hfin
      obtain ⟨q', rfl⟩ : ∃ q', q = q' + 1 := ⟨q - 1, by omega⟩
      subst e1
      subst e2
      exact ⟨J, m, st, ix, q', RE_r, hB, hQ, by omega, rfl⟩
    · obtain ⟨q, rfl⟩ : ∃ r, q = r + 1 := ⟨q - 1, by omega⟩
      have hix := (hQ.2.2.2.2.1 t (Nat.le_refl _)).1
      have hile := hQ.2.1
      have him : i < m := by omega
      obtain ⟨hs, es⟩ := hB.2.2.1 i him
      have hpos : ¬ cph w n tp ts hp P (st i) = 0 := by
        by_cases e : i = ix t
        · have h5 := (hQ.2.2.2.2.1 t (Nat.le_refl _)).2
          have h1 := hQ.1
          rw [e, h5]
          have := (gS_p hW hn1 (by omega) hnk hnx hS t h1).2
          have : ¬ t = cph w n tp ts hp P s0 := fun z => hfin ⟨z, e⟩
          omega
        · have h4 := hQ.2.2.2.1 i (by omega)
          have h1 := hQ.1
          omega
      have hncl : ¬ cld (st i) key := fun z => by
        have e := hW.2.2.2.1 hn1
        rw [← e] at z
        exact hpos ((ph_0 hn1).mpr z)
      obtain ⟨J1, m1, st1, r1, r2, r3⟩ := m279 (N := N) (d := d) (F := F) hN hW hn hnk hnx h13 hpar hE hB him
      obtain ⟨t', ix', hQ'⟩ := QI_st hW hn1 (by omega) hnk hnx hS hQ r2 hfin r1
      have hr := (RLs_p r1).1
      obtain ⟨J', m', st', ix2, q', h1, h2, h3, h4, h6⟩ := ih (i + 1) t' q J1 m1 st1 ix' (by omega) (by omega) (EV_e hE hr) r2 hQ'
      refine ⟨J', m', st', ix2, q', RE_t hr h1, h2, h3, by omega, ?_⟩
      rw [← h6, u282_44]; unfold b282_44
      rw [hB.1, if_neg (nI_ge him (by omega)), if_pos (inb_nI (by omega) (by decide)), nI_clamp (by omega), es, m275 hs (by omega), bI_v, ite_bzif, if_neg hncl, r3, bV_v, nI_1]
/-- the moves are written behind those there are -/
def mvI (J : IM) (f : Nat → Nat) (nm D x : Nat) : IM := fun b o k => if b = 1 ∧ o = 25 ∧ nm + x ≤ k ∧ k < nm + D then nI (f (k - nm)) else J b o k
theorem mvI_e (J : IM) (f : Nat → Nat) (nm D x b o k : Nat) : mvI J f nm D x b o k = if b = 1 ∧ o = 25 ∧ nm + x ≤ k ∧ k < nm + D then nI (f (k - nm)) else J b o k := rfl
theorem wr_mv {J : IM} {f ix : Nat → Nat} {nm D : Nat} (hN : D < N) (h33 : J 1 0 33 = nI nm) (h6 : nm + D ≤ 6) (hl : ∀ r, r ≤ D → ix r < 8192) (h1 : ∀ r, r < D → J 1 22 (ix (r + 1)) = nI (ix r) ∧ J 1 23 (ix (r + 1)) = nI (f r)) {q : Nat} (hq : D < q) : sg (sem N d) 6 zc282 q 111 [vR (some (1, 0)), vI (nI D), vI (nI (ix D)), vI (pI D)] J F = some (vI 1, wI (mvI J f nm D 0) 1 0 33 (nI (nm + D)), F) := by
  have e0 : mvI J f nm D D = J := by
    funext b o k
    rw [mvI_e, if_neg (fun z => by omega)]
  have h0 : J = mvI J f nm D D := e0.symm
  have hz := lpd (S := fun m x => sg (sem N d) 6 zc282 m 111 [vR (some (1, 0)), vI (nI D), vI (nI (ix x)), vI (pI x)] (mvI J f nm D x) F) (T := some (vI 1, wI (mvI J f nm D 0) 1 0 33 (nI (nm + D)), F)) (m := D) ?_ ?_ hq
  · try dsimp only at hz
    rw [e0] at hz
    exact hz
  · intro m x hx
    try dsimp only
    have a1 : ∀ k, mvI J f nm D (x + 1) 1 22 k = J 1 22 k := fun k => by rw [mvI_e, if_neg (fun z => by omega)]
    have a2 : ∀ k, mvI J f nm D (x + 1) 1 23 k = J 1 23 k := fun k => by rw [mvI_e, if_neg (fun z => by omega)]
    have a3 : mvI J f nm D (x + 1) 1 0 33 = nI nm := by rw [mvI_e, if_neg (fun z => by omega), h33]
    have a4 : wI (mvI J f nm D (x + 1)) 1 25 (nm + x) (nI (f x)) = mvI J f nm D x := by
      funext b o k
      rw [wI_eq, mvI_e, mvI_e]
      by_cases e : b = 1 ∧ o = 25 ∧ k = nm + x
      · rw [if_pos e, if_pos ⟨e.1, e.2.1, by omega, by omega⟩, show k - nm = x by omega]
      · rw [if_neg e]
        by_cases e2 : b = 1 ∧ o = 25 ∧ nm + (x + 1) ≤ k ∧ k < nm + D
        · rw [if_pos e2, if_pos ⟨e2.1, e2.2.1, by omega, by omega⟩]
        · rw [if_neg e2, if_neg (fun z => by
            by_cases e3 : k = nm + x
            · exact e ⟨z.1, z.2.1, e3⟩
            · exact e2 ⟨z.1, z.2.1, by omega, by omega⟩)]
    have a5 : ∀ k, mvI J f nm D x 1 22 k = J 1 22 k := fun k => by rw [mvI_e, if_neg (fun z => by omega)]
    have ii : inb (nI (ix (x + 1))) 8192 := inb_nI (hl _ (by omega)) (by decide)
    have ic : (nI (ix (x + 1))).toNatClampNeg = ix (x + 1) := nI_clamp (by have := hl (x + 1) (by omega); omega)
    rw [u282_111]; unfold b282_111
    rw [pI_s, if_neg (nI_pos (by omega)), if_pos ii, a3, nI_add, if_pos (inb_nI (show nm + x < 6 by omega) (by decide)), nI_clamp (show nm + x < 2 ^ 31 by omega)]
    simp only [ic, a2, (h1 x hx).2, a4, eq_true ii, ↓reduceIte, a5, (h1 x hx).1]
    rw [pI_d]
  · intro m
    try dsimp only
    rw [u282_111]; unfold b282_111
    have a3 : mvI J f nm D 0 1 0 33 = nI nm := by rw [mvI_e, if_neg (fun z => by omega), h33]
    rw [pI_0, if_pos (by decide), a3, nI_add]
def sD (w : Nat → Nat) (n : Nat) (tp : Bool) (ts : Nat) (hp : Bool) (P s : Nat) : Nat := if n = 0 then 0 else cph w n tp ts hp P s
theorem m282 {B : Nat → Nat → Int32} {I : IM} {most nm : Nat} (hN : 16500 ≤ N) (hW : WayR (I 1 2) nk nx key w n tp c ts hp P) (hR : kyR B (I 1 2) nk nx) (hk : key < nk) (h33 : I 1 0 33 = nI nm) (hmm : nm + most = 6) (hs4 : s0 < 4096) (hsB : ∀ t, t < 3 → B 14 t = pI (cs s0 t)) (hS : 1 ≤ n → SGs w n tp ts hp P s0) (hld : n = 0 → cld s0 key) : ∃ J', sem N (d + 4) 282 [vR (some (1, 0)), vI (nI key), vI (nI most)] I F = some (vI (bz (sD w n tp ts hp P s0 ≤ most)), J', F) ∧ (∀ b o k, ¬ (b = 1 ∧ ((o = 0 ∧ (k = 25 ∨ k = 26 ∨ k = 31 ∨ k = 33)) ∨ (20 ≤ o ∧ o ≤ 25))) → J' b o k = I b o k) ∧ (sD w n tp ts hp P s0 ≤ most → J' 1 0 33 = nI (nm + sD w n tp ts hp P s0) ∧ (∀ t, t < sD w n tp ts hp P s0 → J' 1 25 (nm + t) = nI (gmv w n tp c ts hp P (gS w n tp ts hp P s0 t))) ∧ ∀ k, k < nm → J' 1 25 k = I 1 25 k) := by
  have hnk : nk ≤ 10 := hR.2.2.1
  have hnx : nx ≤ 12 := hR.2.2.2.2.2.1
  have h13 : I 1 2 13 = nI nk := hR.2.1
  have hpar : ∀ k, k < nk → I 1 2 (180 + 4 * k) = -1 ∨ ∃ p, p < k ∧ I 1 2 (180 + 4 * k) = nI p := fun k hk => (hR.2.2.2.2.2.2.1 k hk).2.2
  have hn : n ≤ 10 := by have := hW.1; omega
  have l1 := m277 (N := N) (d := d + 1) (F := F) (by omega) (fun k => rfl) hnk hnx hk hpar hW
  -- the store after the clearing
  have clr : ∀ q, sg (sem N (d + 3)) 6 zc282 (q + 8192) 7 [vR (some (1, 0)), vI (nI key), vI (nI most), vI (nI 0)] (wlI I w n (tpI tp c)) F = sg (sem N (d + 3)) 6 zc282 q 7 [vR (some (1, 0)), vI (nI key), vI (nI most), vI (nI 8192)] (fl (wlI I w n (tpI tp c)) 1 24 8192 (fun _ => 0)) F := by
    have st : ∀ k x q, x + k = 8192 → sg (sem N (d + 3)) 6 zc282 (q + k) 7 [vR (some (1, 0)), vI (nI key), vI (nI most), vI (nI x)] (fl (wlI I w n (tpI tp c)) 1 24 x (fun _ => 0)) F = sg (sem N (d + 3)) 6 zc282 q 7 [vR (some (1, 0)), vI (nI key), vI (nI most), vI (nI 8192)] (fl (wlI I w n (tpI tp c)) 1 24 8192 (fun _ => 0)) F := by
      intro k
      induction k with
      | zero =>
        intro x q hx
        obtain rfl : x = 8192 := by omega
        rfl
      | succ k ih =>
        intro x q hx
        rw [← ih (x + 1) q (by omega), show q + (k + 1) = (q + k) + 1 by omega, u282_7]; unfold b282_7
        rw [if_neg (show ¬ (8192 : Int32) ≤ nI x from nI_ge (show x < 8192 by omega) (by decide)), if_pos (inb_nI (by omega) (by decide)), nI_clamp (by omega), show vp_nar .boolean (0 : Int32) = 0 from nar_01 (Or.inl rfl), nI_1]
        try dsimp only
        rw [fl_s (f := fun _ => (0 : Int32))]
    intro q
    have := st 8192 0 q rfl
    rw [fl_0] at this
    exact this
  obtain ⟨J0, hJ0⟩ : ∃ J0, J0 = wI (fl (wlI I w n (tpI tp c)) 1 24 8192 (fun _ => 0)) 1 0 31 0 := ⟨_, rfl⟩
  have j0 : ∀ b o k, ¬ (b = 1 ∧ ((o = 0 ∧ (k = 25 ∨ k = 26 ∨ k = 31)) ∨ o = 20 ∨ o = 24)) → J0 b o k = I b o k := fun b o k z => by
    rw [hJ0, wI_eq, if_neg (fun y => z ⟨y.1, Or.inl ⟨y.2.1, Or.inr (Or.inr y.2.2)⟩⟩), fl_eq, if_neg (fun y => z ⟨y.1, Or.inr (Or.inr y.2.1)⟩), wlI_2 (fun y => z ⟨y.1, by omega⟩)]
  have jrow : J0 1 2 = I 1 2 := by funext k; exact j0 1 2 k (fun z => by omega)
  have hB0 : BQ J0 0 (fun _ => 0) := by
    have z24 : ∀ s, s < 8192 → J0 1 24 s = 0 := fun s hs => by rw [hJ0, wI_eq, if_neg (fun z => by omega), fl_eq, if_pos ⟨rfl, rfl, hs⟩]
    refine ⟨by rw [hJ0, wI_s, nI_0], (cnt_no (fun i hi z => by rw [z24 i hi] at z; exact absurd z (by decide))).symm, fun j hj => by omega, fun s hs => ⟨Or.inl (z24 s hs), fun z => ?_, fun ⟨j, hj, _⟩ => by omega⟩⟩
    rw [z24 s hs] at z
    exact absurd z (by decide)
  have hR0 : kyR B (J0 1 2) nk nx := by rw [jrow]; exact hR
  obtain ⟨s1, x1, x2, x3, x4⟩ := m276 (N := N) (d := d) (F := F) (by omega) hR0
  have es : s1 = s0 := by
    have h : ∀ t, t < 3 → cs s1 t = cs s0 t := fun t ht => by
      have e := x2 t ht
      rw [hsB t ht] at e
      have l1 := cs_lt s1 t
      have l0 := cs_lt s0 t
      by_cases z : cs s0 t = 0
      · rw [z, pI_0] at e
        rw [(pI_m (by omega)).mp e.symm, z]
      · obtain ⟨v, hv⟩ : ∃ v, cs s0 t = v + 1 := ⟨cs s0 t - 1, by omega⟩
        rw [hv, pI_s] at e
        rw [(pI_e (by omega) (by omega)).mp e.symm, hv]
    have h0 := h 0 (by omega)
    have h1 := h 1 (by omega)
    have h2 := h 2 (by omega)
    rw [cs_0, cs_0] at h0
    rw [cs_1, cs_1] at h1
    rw [cs_2, cs_2] at h2
    omega
  subst es
  obtain ⟨J1, m1, st1, r1, r2, r3⟩ := m278 (N := N) (d := d + 2) (F := F) (show s1 < 8192 by omega) hB0 (-1) 0
  rcases r2 with ⟨⟨j, z, _⟩, _⟩ | ⟨-, -, rfl, rfl, hJ1⟩
  · omega
  have e31 : J1 1 0 31 = nI 1 := r3.1
  have j1 : ∀ b o k, ¬ (b = 1 ∧ ((o = 0 ∧ (k = 25 ∨ k = 26 ∨ k = 31)) ∨ (20 ≤ o ∧ o ≤ 24))) → J1 b o k = I b o k := fun b o k z => by
    rw [hJ1, wI_eq, if_neg (fun y => z ⟨y.1, by omega⟩), wI_eq, if_neg (fun y => z ⟨y.1, by omega⟩), wI_eq, if_neg (fun y => z ⟨y.1, by omega⟩), wI_eq, if_neg (fun y => z ⟨y.1, by omega⟩), wI_eq, if_neg (fun y => z ⟨y.1, by omega⟩)]
    exact j0 b o k (fun y => z ⟨y.1, by omega⟩)
  have k1 : ∀ b o k, ¬ (b = 1 ∧ ((o = 0 ∧ k = 31) ∨ (21 ≤ o ∧ o ≤ 24))) → J1 b o k = wlI I w n (tpI tp c) b o k := fun b o k z => by
    rw [hJ1, wI_eq, if_neg (fun y => z ⟨y.1, by omega⟩), wI_eq, if_neg (fun y => z ⟨y.1, by omega⟩), wI_eq, if_neg (fun y => z ⟨y.1, by omega⟩), wI_eq, if_neg (fun y => z ⟨y.1, by omega⟩), wI_eq, if_neg (fun y => z ⟨y.1, by omega⟩), hJ0, wI_eq, if_neg (fun y => z ⟨y.1, by omega⟩), fl_eq, if_neg (fun y => z ⟨y.1, by omega⟩)]
  have hE1 : EVs J1 (I 1 2) w n tp c := by
    refine ⟨?_, ?_, fun j hj => ?_, fun k => ?_⟩
    · rw [k1 _ _ _ (fun z => by omega), wlI_25]
    · rw [k1 _ _ _ (fun z => by omega), wlI_26]
    · rw [k1 _ _ _ (fun z => by omega), wlI_20 hj]
    · rw [k1 _ _ _ (fun z => by omega), wlI_2 (fun z => by omega)]
  have h22 : J1 1 22 0 = -1 := by rw [hJ1, wI_eq, if_neg (fun z => by omega), wI_eq, if_neg (fun z => by omega), wI_s]
  -- to the found state
  have fnd : ∃ (J2 : IM) (m2 : Nat) (st2 ix : Nat → Nat) (q2 : Nat), RE J1 J2 ∧ BQ J2 m2 st2 ∧ ix (sD w n tp ts hp P s1) < m2 ∧ cld (st2 (ix (sD w n tp ts hp P s1))) key ∧ (∀ r, r ≤ sD w n tp ts hp P s1 → ix r < m2) ∧ J2 1 22 (ix 0) = -1 ∧ (∀ r, r < sD w n tp ts hp P s1 → J2 1 22 (ix (r + 1)) = nI (ix r) ∧ J2 1 23 (ix (r + 1)) = nI (gmv w n tp c ts hp P (gS w n tp ts hp P s1 r))) ∧ 100 ≤ q2 ∧ sg (sem N (d + 3)) 6 zc282 (N - 8193) 44 [vR (some (1, 0)), vI (nI key), vI (nI most), vI (nI 0)] J1 F = sg (sem N (d + 3)) 6 zc282 (q2 + 1) 44 [vR (some (1, 0)), vI (nI key), vI (nI most), vI (nI (ix (sD w n tp ts hp P s1)))] J2 F := by
    by_cases hn0 : n = 0
    · have eD : sD w n tp ts hp P s1 = 0 := by unfold sD; rw [if_pos hn0]
      rw [eD]
      refine ⟨J1, 1, _, fun _ => 0, N - 8194, RE_r, r3, Nat.zero_lt_one, ?_, fun r _ => Nat.zero_lt_one, h22, fun r hr => by omega, by omega, ?_⟩
      · show cld (updN (fun _ => 0) 0 s1 0) key
        unfold updN
        rw [if_pos rfl]
        exact hld hn0
      · rw [show N - 8194 + 1 = N - 8193 by omega]
    · have hn1 : 1 ≤ n := by omega
      have eD : sD w n tp ts hp P s1 = cph w n tp ts hp P s1 := by unfold sD; rw [if_neg hn0]
      have hQ : QI w n tp c ts hp P s1 J1 1 (updN (fun _ => 0) 0 s1) (fun _ => 0) 0 0 := by
        have u0 : updN (fun _ => 0) 0 s1 0 = s1 := by unfold updN; rw [if_pos rfl]
        refine ⟨by omega, Nat.le_refl 0, fun j hj => ?_, fun j hj => absurd hj (Nat.not_lt_zero j), fun r hr => ⟨Nat.zero_lt_one, ?_⟩, h22, fun r hr => by omega⟩
        · obtain rfl : j = 0 := by omega
          rw [u0]
          exact Nat.le_refl _
        · obtain rfl : r = 0 := by omega
          exact u0
      obtain ⟨J2, m2, st2, ix, q2, b1, b2, b3, b4, b6⟩ := bfs (N := N) (d := d) (F := F) (by omega) hW hn1 hn hnk hnx hk h13 hpar (hS hn1) (nI most) 8192 0 0 (N - 8193) J1 1 _ (fun _ => 0) rfl (by omega) hE1 r3 hQ
      rw [eD]
      obtain ⟨y1, y2, y3, y4, y5, y6, y7⟩ := b3
      refine ⟨J2, m2, st2, ix, q2, b1, b2, (y5 _ (Nat.le_refl _)).1, ?_, fun r hr => (y5 r hr).1, y6, y7, by omega, b6⟩
      rw [(y5 _ (Nat.le_refl _)).2]
      have e := (gS_p hW hn1 (by omega) hnk hnx (hS hn1) _ (Nat.le_refl _)).2
      have := (ph_0 (w := w) (n := n) (tp := tp) (ts := ts) (hp := hp) (P := P) (s := gS w n tp ts hp P s1 (cph w n tp ts hp P s1)) hn1).mp (by omega)
      rw [hW.2.2.2.1 hn1] at this
      exact this
  have hDb : sD w n tp ts hp P s1 ≤ 1000 := by
    unfold sD
    split
    · omega
    · exact cph_b (by omega)
  obtain ⟨D, hD⟩ : ∃ D, D = sD w n tp ts hp P s1 := ⟨_, rfl⟩
  rw [← hD] at fnd hDb ⊢
  obtain ⟨J2, m2, st2, ix, q2, f1, f2, f3, f4, f5, f6, f7, f8, f9⟩ := fnd
  have hm2 : m2 ≤ 8192 := by rw [f2.2.1]; exact cnt_le _ _
  have j2 : ∀ b o k, ¬ (b = 1 ∧ ((o = 0 ∧ (k = 25 ∨ k = 26 ∨ k = 31)) ∨ (20 ≤ o ∧ o ≤ 24))) → J2 b o k = I b o k := fun b o k z => by
    rw [f1 b o k (fun y => z ⟨y.1, by omega⟩), j1 b o k z]
  have dep := m281 (N := N) (d := d + 2) (F := F) (J := J2) (T := D) (ix := ix) (by omega) (by omega) f6 (fun t ht => (f7 t ht).1) (fun t ht => by have := f5 t ht; omega)
  have hst := f2.2.2.1 (ix D) f3
  have start : sem N (d + 4) 282 [vR (some (1, 0)), vI (nI key), vI (nI most)] I F = if nI D ≤ nI most then sg (sem N (d + 3)) 6 zc282 q2 111 [vR (some (1, 0)), vI (nI D), vI (nI (ix D)), vI (pI D)] J2 F else some (vI 0, J2, F) := by
    rw [s282]; unfold b282
    rw [l1, bV_v]
    have e1 := clr (N - 8192)
    rw [show N - 8192 + 8192 = N by omega] at e1
    refine Eq.trans e1 ?_
    rw [show N - 8192 = (N - 8193) + 1 by omega, u282_7]; unfold b282_7
    rw [if_pos (by decide)]
    try dsimp only
    rw [← hJ0, x4, bI_v, r1, bV_v]
    refine Eq.trans f9 ?_
    rw [u282_44]; unfold b282_44
    rw [f2.1, if_neg (nI_ge f3 (by omega)), if_pos (inb_nI (by omega) (by decide)), nI_clamp (by omega), hst.2, m275 hst.1 (by omega), bI_v, ite_bzif, if_pos f4, f2.1, if_neg (fun z => by have := nI_inj (by omega) (by omega) z; omega), dep, bI_v]
    by_cases z : nI D ≤ nI most
    · rw [if_pos z, if_pos z, dep, bI_v, pI_n]
    · rw [if_neg z, if_neg z]
  by_cases hle : D ≤ most
  · have e33 : J2 1 0 33 = nI nm := by rw [j2 _ _ _ (fun z => by omega), h33]
    refine ⟨wI (mvI J2 (fun r => gmv w n tp c ts hp P (gS w n tp ts hp P s1 r)) nm D 0) 1 0 33 (nI (nm + D)), ?_, fun b o k z => ?_, fun _ => ⟨wI_s _ _ _ _ _, fun t ht => ?_, fun k hk' => ?_⟩⟩
    · rw [start, if_pos (nI_le hle (by omega)), bz_t hle]
      exact wr_mv (f := fun r => gmv w n tp c ts hp P (gS w n tp ts hp P s1 r)) (by omega) e33 (by omega) (fun r hr => by have := f5 r hr; omega) f7 (by omega)
    · rw [wI_eq, if_neg (fun y => z ⟨y.1, by omega⟩), mvI_e, if_neg (fun y => z ⟨y.1, by omega⟩), j2 b o k (fun y => z ⟨y.1, by omega⟩)]
    · rw [wI_eq, if_neg (fun z => by omega), mvI_e, if_pos ⟨rfl, rfl, by omega, by omega⟩, show nm + t - nm = t by omega]
    · rw [wI_eq, if_neg (fun z => by omega), mvI_e, if_neg (fun z => by omega), j2 _ _ _ (fun z => by omega)]
  · refine ⟨J2, ?_, fun b o k z => j2 b o k (fun y => z ⟨y.1, by omega⟩), fun z => absurd z hle⟩
    rw [start, if_neg (nI_ge (by omega) (by omega)), bz_f hle]
end SK
