/-! REACH: the locality, and the whole -/
abbrev LT (a : Nat → Int32) (nl na np : Nat) (x l : Int32) : Prop := x = -1 ∨ (inb x np ∧ ¬ tv (hF a l nl na) x.toNatClampNeg = 0)
def lo4 (a : Nat → Int32) (nl na np : Nat) (x : Int32) : Nat := fidx (fun l => LT a nl na np x (nI l)) 4
def FJ (I J : IM) : Prop := ∀ b o k, ¬ (b = 0 ∧ 1 ≤ o ∧ o ≤ 9) → J b o k = I b o k
theorem FJ_j {I J : IM} {a : Nat → Int32} {l : Int32} {nl np na : Nat} (h : FJ I J) : FJ I (jdgI J a l nl np na) := fun b o k z => by
  by_cases e : b = 0
  · subst e
    rw [jdg_1 (fun y => z ⟨rfl, y.1, y.2⟩), h 0 o k z]
  · rw [jdg_b e, h b o k z]
section LC
variable {N d nl np na nk : Nat} {I : IM} {F : FM} {a : Nat → Int32}
theorem m182 (x : Int32) (hN : 300 ≤ N) (hj : jok (I 2) a nl np na nk) : ∃ J, FJ I J ∧ sem N (d + 6) 182 [vR (some (0, 0)), vI x] I F = some (vI (if LT a nl na np x (I 2 1 2) then -1 else nI (lo4 a nl na np x)), J, F) := by
  have hnp : np ≤ 24 := hj.2.2.2.2.2.2.1
  have one : ∀ (J : IM) (l : Int32), FJ I J → sem N (d + 5) 33 [vR (some (0, 1)), vR (some (2, 0)), vI l] J F = some (vI 0, jdgI J a l nl np na, F) ∧ sem N (d + 5) 34 [vR (some (0, 1)), vI x] (jdgI J a l nl np na) F = some (vI (bz (LT a nl na np x l)), jdgI J a l nl np na, F) := by
    intro J l hJ
    have e2 : J 2 = I 2 := funext (fun o => funext (fun k => hJ 2 o k (fun z => by omega)))
    exact ⟨m33 l (by omega) hN (by rw [e2]; exact hj), m34 (a := a) (l := l) (nl := nl) (na := na) (np := np) x hnp jdg_w (fun q hq => by rw [jdg_t rfl hq, j5])⟩
  have loop : ∀ (k l q : Nat) (J : IM), l + k = 4 → k < q → FJ I J → (∀ j, j < l → ¬ LT a nl na np x (nI j)) → ∃ J', FJ I J' ∧ sg (sem N (d + 5)) 1 zc182 q 36 [vR (some (0, 0)), vI x, vI (nI l)] J F = some (vI (nI (lo4 a nl na np x)), J', F) := by
    intro k
    induction k with
    | zero =>
      intro l q J hl hq hJ hno
      obtain ⟨q, rfl⟩ : ∃ r, q = r + 1 := ⟨q - 1, by omega⟩
      obtain rfl : l = 4 := by omega
      have e : lo4 a nl na np x = 4 := fidx_e (Nat.le_refl _) hno (fun z => absurd z (by omega))
      refine ⟨J, hJ, ?_⟩
      rw [e, u182_36]; unfold b182_36
      rw [if_pos (by decide)]
      rfl
    | succ k ih =>
      intro l q J hl hq hJ hno
      obtain ⟨q, rfl⟩ : ∃ r, q = r + 1 := ⟨q - 1, by omega⟩
      obtain ⟨o1, o2⟩ := one J (nI l) hJ
      by_cases z : LT a nl na np x (nI l)
      · have e : lo4 a nl na np x = l := fidx_e (by omega) hno (fun _ => z)
        refine ⟨jdgI J a (nI l) nl np na, FJ_j hJ, ?_⟩
        rw [e, u182_36]; unfold b182_36
        rw [if_neg (show ¬ (4 : Int32) ≤ nI l from nI_ge (show l < 4 by omega) (by decide)), o1, bV_v, o2, bI_v, ite_bzif, if_pos z]
      · obtain ⟨J', h1, h2⟩ := ih (l + 1) q (jdgI J a (nI l) nl np na) (by omega) (by omega) (FJ_j hJ) (fun j hj => by
          by_cases e : j = l
          · rw [e]; exact z
          · exact hno j (by omega))
        refine ⟨J', h1, ?_⟩
        rw [u182_36]; unfold b182_36
        rw [if_neg (show ¬ (4 : Int32) ≤ nI l from nI_ge (show l < 4 by omega) (by decide)), o1, bV_v, o2, bI_v, ite_bzif, if_neg z, nI_1]
        exact h2
  obtain ⟨o1, o2⟩ := one I (I 2 1 2) (fun b o k _ => rfl)
  by_cases z : LT a nl na np x (I 2 1 2)
  · refine ⟨jdgI I a (I 2 1 2) nl np na, FJ_j (fun b o k _ => rfl), ?_⟩
    rw [s182]; unfold b182
    rw [o1, bV_v, o2, bI_v, ite_bzif, if_pos z, if_pos z]
  · obtain ⟨J', h1, h2⟩ := loop 4 0 N (jdgI I a (I 2 1 2) nl np na) rfl (by omega) (FJ_j (fun b o k _ => rfl)) (fun j hj => by omega)
    refine ⟨J', h1, ?_⟩
    rw [s182]; unfold b182
    rw [o1, bV_v, o2, bI_v, ite_bzif, if_neg z, if_neg z]
    exact h2
/-- the reference's locality -/
def FR (I J : IM) : Prop := ∀ b o k, ¬ (b = 1 ∧ ((o = 0 ∧ k = 22) ∨ (10 ≤ o ∧ o ≤ 19) ∨ (o = 2 ∧ k = 8))) → J b o k = I b o k
def itK (a : Nat → Int32) (nl na np : Nat) (x : Int32) : Nat → Int32
  | 0 => -1
  | k + 1 => if LT a nl na np x (nI (3 - k)) then nI (3 - k) else itK a nl na np x k
theorem itK_4 {x : Int32} : itK a nl na np x 4 = if lo4 a nl na np x < 4 then nI (lo4 a nl na np x) else -1 := by
  show (if LT a nl na np x (nI 0) then nI 0 else if LT a nl na np x (nI 1) then nI 1 else if LT a nl na np x (nI 2) then nI 2 else if LT a nl na np x (nI 3) then nI 3 else -1) = _
  have e : ∀ i, i ≤ 4 → (∀ j, j < i → ¬ LT a nl na np x (nI j)) → (i < 4 → LT a nl na np x (nI i)) → lo4 a nl na np x = i := fun i h1 h2 h3 => fidx_e h1 h2 h3
  by_cases h0 : LT a nl na np x (nI 0)
  · rw [if_pos h0, e 0 (by omega) (fun j hj => by omega) (fun _ => h0), if_pos (by omega)]
  · rw [if_neg h0]
    by_cases h1 : LT a nl na np x (nI 1)
    · rw [if_pos h1, e 1 (by omega) (fun j hj => by obtain rfl : j = 0 := by omega
                                                    exact h0) (fun _ => h1), if_pos (by omega)]
    · rw [if_neg h1]
      by_cases h2 : LT a nl na np x (nI 2)
      · rw [if_pos h2, e 2 (by omega) (fun j hj => by
          rcases (show j = 0 ∨ j = 1 by omega) with rfl | rfl
          · exact h0
          · exact h1) (fun _ => h2), if_pos (by omega)]
      · rw [if_neg h2]
        by_cases h3 : LT a nl na np x (nI 3)
        · rw [if_pos h3, e 3 (by omega) (fun j hj => by
            rcases (show j = 0 ∨ j = 1 ∨ j = 2 by omega) with rfl | rfl | rfl
            · exact h0
            · exact h1
            · exact h2) (fun _ => h3), if_pos (by omega)]
        · rw [if_neg h3, e 4 (by omega) (fun j hj => by
            rcases (show j = 0 ∨ j = 1 ∨ j = 2 ∨ j = 3 by omega) with rfl | rfl | rfl | rfl
            · exact h0
            · exact h1
            · exact h2
            · exact h3) (fun z => absurd z (by omega)), if_neg (by omega)]
theorem m283 {x : Int32} (hN : 300 ≤ N) (hok : rok (I 1 2) nl np na nk) (hx : x = -1 ∨ ∃ p, p < np ∧ x = nI p) : ∃ J, (∀ b o k, ¬ (b = 1 ∧ ((o = 0 ∧ k = 22) ∨ (10 ≤ o ∧ o ≤ 19))) → J b o k = I b o k) ∧ sem N (d + 5) 283 [vR (some (1, 0)), vI x] I F = some (vI (if LT (I 1 2) nl na np x (I 1 2 8) then I 1 2 8 else itK (I 1 2) nl na np x 4), J, F) := by
  have hnp : np ≤ 24 := hok.2.2.2.2.1
  -- the policies over another locality
  have one : ∀ (J : IM) (v : Int32), FR I J → FR I (layI (wI J 1 2 8 v) nl np na) ∧ layI (wI J 1 2 8 v) nl np na 1 2 8 = v ∧ sem N (d + 4) 237 [vR (some (1, 0))] (wI J 1 2 8 v) F = some (vI 0, layI (wI J 1 2 8 v) nl np na, F) ∧ ∀ k, k < np → layI (wI J 1 2 8 v) nl np na 1 10 k = tv (hF (I 1 2) v nl na) k := by
    intro J v hJ
    have e8 : wI J 1 2 8 v 1 2 8 = v := wI_s _ _ _ _ _
    have er : ∀ k, k ≠ 8 → wI J 1 2 8 v 1 2 k = I 1 2 k := fun k hk => by rw [wI_eq, if_neg (fun y => hk y.2.2), hJ 1 2 k (fun y => by omega)]
    have r := rlay2 (J := wI J 1 2 8 v) (F := F) (N := N) (d := d) (a := I 1 2) (nl := nl) (np := np) (na := na) (nk := nk) hN (fun k hk => er k (by omega)) (er 11 (by omega)) (er 15 (by omega)) (er 18 (by omega)) hok
    rw [e8] at r
    refine ⟨fun b o k z => ?_, by rw [lay_2, e8], r.1, r.2⟩
    by_cases e : b = 1
    · subst e
      rw [lay_1 (fun y => z ⟨rfl, by omega⟩), wI_eq, if_neg (fun y => z ⟨rfl, by omega⟩), hJ 1 o k z]
    · rw [lay_b e, wI_eq, if_neg (fun y => e y.1), hJ b o k z]
  -- the choice
  have pick : ∀ (J : IM) (v x3 y : Int32) (q : Nat), (∀ k, k < np → J 1 10 k = tv (hF (I 1 2) v nl na) k) → J 1 2 8 = v → (if x = (-1 : Int32) then (sg (sem N (d + 4)) 1 zc283 q 13 [vR (some (1, 0)), vI x, vI (I 1 2 8), vI (J 1 2 8), vI y] J F) else (if inb x 24 then (if (J 1 10 x.toNatClampNeg) = 0 then (sg (sem N (d + 4)) 1 zc283 q 13 [vR (some (1, 0)), vI x, vI (I 1 2 8), vI x3, vI y] J F) else (sg (sem N (d + 4)) 1 zc283 q 13 [vR (some (1, 0)), vI x, vI (I 1 2 8), vI (J 1 2 8), vI y] J F)) else none)) = sg (sem N (d + 4)) 1 zc283 q 13 [vR (some (1, 0)), vI x, vI (I 1 2 8), vI (if LT (I 1 2) nl na np x v then v else x3), vI y] J F := by
    intro J v x3 y q h10 h8
    rw [h8]
    rcases hx with hx | ⟨p, hp, hx⟩
    · rw [if_pos hx, if_pos (show LT (I 1 2) nl na np x v from Or.inl hx)]
    · have e10 : J 1 10 x.toNatClampNeg = tv (hF (I 1 2) v nl na) x.toNatClampNeg := by rw [hx, nI_clamp (by omega), h10 p hp]
      have ix : inb x np := by rw [hx]; exact inb_nI hp (by omega)
      have nx : ¬ x = -1 := fun z => by rw [hx] at z; exact nI_ne1 (by omega) z
      rw [if_neg nx, if_pos (inb_mono hnp ix), e10]
      by_cases z : tv (hF (I 1 2) v nl na) x.toNatClampNeg = 0
      · rw [if_pos z, if_neg (show ¬ LT (I 1 2) nl na np x v from fun u => u.elim nx (fun u => u.2 z))]
      · rw [if_neg z, if_pos (show LT (I 1 2) nl na np x v from Or.inr ⟨ix, z⟩)]
  have loop : ∀ (k q : Nat) (J : IM), k ≤ 4 → FR I J → ∃ J', FR I J' ∧ sg (sem N (d + 4)) 1 zc283 (q + k) 13 [vR (some (1, 0)), vI x, vI (I 1 2 8), vI (itK (I 1 2) nl na np x (4 - k)), vI (nI k)] J F = sg (sem N (d + 4)) 1 zc283 q 13 [vR (some (1, 0)), vI x, vI (I 1 2 8), vI (itK (I 1 2) nl na np x 4), vI (nI 0)] J' F := by
    intro k
    induction k with
    | zero => intro q J _ hJ; exact ⟨J, hJ, rfl⟩
    | succ k ih =>
      intro q J hk hJ
      obtain ⟨o1, o2, o3, o4⟩ := one J (nI k) hJ
      obtain ⟨J', h1, h2⟩ := ih q _ (by omega) o1
      refine ⟨J', h1, ?_⟩
      rw [← h2, show q + (k + 1) = (q + k) + 1 by omega, u283_13]; unfold b283_13
      rw [if_neg (nI_pos (by omega)), if_neg (fun z => absurd ((nI_z (by omega)).mp z) (by omega)), pI_n, pI_s]
      try dsimp only
      rw [o3, bV_v, pick _ (nI k) _ _ _ o4 o2, pI_d, pI_s]
      have ek : itK (I 1 2) nl na np x (4 - k) = if LT (I 1 2) nl na np x (nI k) then nI k else itK (I 1 2) nl na np x (4 - (k + 1)) := by
        rw [show 4 - k = (3 - k) + 1 by omega, show 4 - (k + 1) = 3 - k by omega]
        show (if LT (I 1 2) nl na np x (nI (3 - (3 - k))) then nI (3 - (3 - k)) else itK (I 1 2) nl na np x (3 - k)) = _
        rw [show 3 - (3 - k) = k by omega]
      rw [ek]
  obtain ⟨J1, f1, f2⟩ := loop 4 (N - 4) I (by omega) (fun b o k _ => rfl)
  obtain ⟨o1, o2, o3, o4⟩ := one J1 (I 1 2 8) f1
  refine ⟨wI (layI (wI J1 1 2 8 (I 1 2 8)) nl np na) 1 2 8 (I 1 2 8), fun b o k z => ?_, ?_⟩
  · rw [wI_eq]
    by_cases e : b = 1 ∧ o = 2 ∧ k = 8
    · rw [if_pos e]
      obtain ⟨rfl, rfl, rfl⟩ := e
      rfl
    · rw [if_neg e, o1 b o k (fun y => z ⟨y.1, by omega⟩)]
  · rw [s283]; unfold b283
    rw [show N - 4 + 4 = N by omega] at f2
    refine Eq.trans f2 ?_
    rw [show N - 4 = (N - 6) + 1 + 1 by omega, u283_13]; unfold b283_13
    rw [if_neg (by decide), if_pos (by decide)]
    try dsimp only
    rw [o3, bV_v, pick _ (I 1 2 8) _ _ _ o4 o2, u283_13]; unfold b283_13
    rw [if_pos (by decide)]
end LC
/-! the state that both begin from -/
theorem cld_0 {B : Nat → Nat → Int32} {a : Nat → Int32} {nk nx s k : Nat} (h : kyR B a nk nx) (hs : ∀ t, t < 3 → B 14 t = pI (cs s t)) (hk : k < nk) : cld s k ↔ ¬ a (182 + 4 * k) = -1 := by
  have h1 := slOf_c h hk
  have h2 := slk (S := B 14) hs (k := k) (by have := h.2.2.1; omega)
  rw [h1] at h2
  by_cases z : cld s k
  · exact ⟨fun _ y => h2.mp y z, fun _ => z⟩
  · exact ⟨fun y => absurd y z, fun y => absurd (h2.mpr z) y⟩
theorem SG_0 {B : Nat → Nat → Int32} {a : Nat → Int32} {nk nx key n c ts P s : Nat} {w : Nat → Nat} {tp hp : Bool} (h : kyR B a nk nx) (hW : WayR a nk nx key w n tp c ts hp P) (hn1 : 1 ≤ n) (hn : n ≤ 11) (h4 : s < 4096) (hs : ∀ t, t < 3 → B 14 t = pI (cs s t)) (hc : ∀ t, t < 3 → cs s t ≤ nk) : SGs w n tp ts hp P s := by
  have hnk := h.2.2.1
  have hu : cuu s = 0 := by unfold cuu; omega
  have hd : ¬ cdd w n tp hp P s := fun z => by
    rcases z.2 with ⟨-, y⟩ | ⟨y1, y2, y3⟩
    · omega
    · rcases (hW.2.2.2.2.2.2.2 hn1 y1).2 with ⟨u, -⟩ | ⟨-, u1, u2, u3, u4⟩
      · rw [y2] at u; exact Bool.noConfusion u
      · exact y3 ((cld_0 h hs u1).mpr u4)
  refine ⟨by omega, ?_, fun r q hr hq e1 e2 => ?_, fun t ht => by have := hc t ht; omega⟩
  · rw [cph_n hd]
    have h1 := cix_le (w := w) (n := n) (s := s)
    have h2 := cwn_le (w := w) (n := n) (tp := tp) (ts := ts) (s := s)
    omega
  · obtain ⟨k, hk⟩ : ∃ k, cs s r = k + 1 := ⟨cs s r - 1, by omega⟩
    have hkn : k < nk := by have := hc r hr; omega
    have a1 : B 14 r = nI k := by rw [hs r hr, hk, pI_s]
    have a2 : B 14 q = nI k := by rw [hs q hq, ← e1, hk, pI_s]
    have q10 := h.2.2.2.2.2.2.2.2.2.1
    have b1 := (q10 k r hkn hr).mpr a1
    have b2 := (q10 k q hkn hq).mpr a2
    rw [b1] at b2
    exact nI_inj (by omega) (by omega) b2
theorem KS_0 {B : Nat → Nat → Int32} {J : IM} {a : Nat → Int32} {nk nx key n c ts P s : Nat} {w : Nat → Nat} {tp hp : Bool} (h : kyR B a nk nx) (hW : WayR a nk nx key w n tp c ts hp P) (h4 : s < 4096) (hs : ∀ t, t < 3 → B 14 t = pI (cs s t)) (hJ : ∀ o k, cpd o k → 10 ≤ o → o ≤ 18 → J 3 o k = B o k) : KSt J a nk nx w n tp c ts s := by
  obtain ⟨q1, q2, q3, q4, q5, q6, q7, q8, q9, q10, q11, q12⟩ := h
  obtain ⟨w1, w2, w3, w4, w5, w6, w7, w8⟩ := hW
  have hu : cuu s = 0 := by unfold cuu; omega
  refine ⟨by rw [hJ 10 3 (cp10 (by omega)) (by omega) (by omega), q1], by rw [hJ 10 9 (cp10 (by omega)) (by omega) (by omega), q4], fun k hk => by rw [hJ 11 k (cp11 (by omega)) (by omega) (by omega), (q7 k hk).1], fun t ht => by rw [hJ 14 t (cp14 ht) (by omega) (by omega), hs t ht], fun i hi => ?_, fun hn1 htp => ?_⟩
  · have hw := (w5 i hi).1
    rw [hJ 13 (w i) (cp13 (by omega)) (by omega) (by omega)]
    have ha : (¬ B 13 (w i) = 0) ↔ ¬ a (183 + 4 * w i) = -1 := by
      rcases q11 (w i) hw with ⟨y1, y2⟩ | ⟨y1, y2, c', y3, y4, -⟩
      · exact ⟨fun z => absurd y1 z, fun z => absurd y2 z⟩
      · exact ⟨fun _ z => by rw [y4] at z; exact nI_ne1 (by omega) z, fun _ z => by rw [y1] at z; exact absurd z (by decide)⟩
    rw [ha]
    by_cases e : i + 1 < n
    · exact ⟨fun z => absurd (w6 i e).2.2 z, fun z => by omega⟩
    · have ei : n - 1 = i := by omega
      cases ht : tp with
      | true =>
        obtain ⟨y1, y2, -⟩ := w7 (by omega) ht
        rw [ei] at y1
        exact ⟨fun _ => ⟨rfl, by omega, hu⟩, fun _ z => by rw [y1] at z; exact nI_ne1 (by omega) z⟩
      | false =>
        have y := (w8 (by omega) ht).1
        rw [ei] at y
        exact ⟨fun z => absurd y z, fun z => Bool.noConfusion z.1⟩
  · obtain ⟨y1, y2, y3, y4⟩ := w7 hn1 htp
    have hw := (w5 (n - 1) (by omega)).1
    rcases q11 (w (n - 1)) hw with ⟨u1, u2⟩ | ⟨u1, u2, c', u3, u4, u5, u6, -⟩
    · rw [u2] at y1; exact absurd y1.symm (fun z => nI_ne1 (by omega) z)
    · have ec : c' = c := nI_inj (by omega) (by omega) (by rw [← u4, y1])
      subst ec
      refine ⟨ltc_ge (by omega) u3 (by rw [hJ 16 c' (cp16 (by omega)) (by omega) (by omega), u5]) (fun j j1 j2 => by rw [hJ 16 j (cp16 (by omega)) (by omega) (by omega)]; exact u6 j j1 j2), by rw [hJ 16 c' (cp16 (by omega)) (by omega) (by omega), u5], ?_⟩
      rw [hJ 17 c' (cp17 (by omega)) (by omega) (by omega), (q12 c' u3).2.1, y4]
