/-! REACH -/
theorem sm_FJ {I J K : IM} {F G : FM} (h : smI I J F G) (e : FJ J K) : smI I K F G := by
  obtain ⟨q1, q2, q3, q4⟩ := h
  refine ⟨fun b o k z => ?_, fun o k => ?_, fun k => ?_, q4⟩
  · rw [e b o k (fun y => by unfold kpl at z; omega), q1 b o k z]
  · rw [e 2 o k (fun y => by omega), q2]
  · rw [e 1 2 k (fun y => by omega), q3]
theorem sm_RF {I J K : IM} {F G : FM} (h : smI I J F G) (e : RF J K) : smI I K F G := by
  obtain ⟨q1, q2, q3, q4⟩ := h
  refine ⟨fun b o k z => ?_, fun o k => ?_, fun k => ?_, q4⟩
  · rw [e b o k (fun y => by unfold kpl at z; omega), q1 b o k z]
  · rw [e 2 o k (fun y => by omega), q2]
  · rw [e 1 2 k (fun y => by omega), q3]
theorem sm_3 {I J K : IM} {F G : FM} (h : smI I J F G) (e : ∀ b o k, b ≠ 3 → K b o k = J b o k) : smI I K F G := by
  obtain ⟨q1, q2, q3, q4⟩ := h
  refine ⟨fun b o k z => ?_, fun o k => ?_, fun k => ?_, q4⟩
  · rw [e b o k (fun y => by unfold kpl at z; omega), q1 b o k z]
  · rw [e 2 o k (fun y => by omega), q2]
  · rw [e 1 2 k (fun y => by omega), q3]
theorem sm_m {I J K : IM} {F G : FM} (h : smI I J F G) (e : ∀ b o k, ¬ (b = 1 ∧ ((o = 0 ∧ (k = 0 ∨ k = 22 ∨ k = 25 ∨ k = 26 ∨ k = 31 ∨ k = 33)) ∨ (10 ≤ o ∧ o ≤ 25))) → K b o k = J b o k) : smI I K F G := by
  obtain ⟨q1, q2, q3, q4⟩ := h
  refine ⟨fun b o k z => ?_, fun o k => ?_, fun k => ?_, q4⟩
  · rw [e b o k (fun y => by unfold kpl at z; omega), q1 b o k z]
  · rw [e 2 o k (fun y => by omega), q2]
  · rw [e 1 2 k (fun y => by omega), q3]
/-- the reference's search for a seal: zz is the move of a locality, D how many follow -/
theorem m284 {N d nl np na nk nx ns key n c ts P s0 s : Nat} {w : Nat → Nat} {tp hp : Bool} {B : Nat → Nat → Int32} {I : IM} {F : FM} {x : Int32} (hN : 16500 ≤ N) (hok : rok (I 1 2) nl np na nk) (hs : s < 10) (hx : x = -1 ∨ ∃ p, p < np ∧ x = nI p) (ex : I 1 2 (342 + 3 * s) = x) (ek : I 1 2 (341 + 3 * s) = nI key) (hk : key < nk) (hl : ∃ l, l < 4 ∧ I 1 2 8 = nI l) (hW : WayR (I 1 2) nk nx key w n tp c ts hp P) (hR : kyR B (I 1 2) nk nx) (hs4 : s0 < 4096) (hsB : ∀ t, t < 3 → B 14 t = pI (cs s0 t)) (hS : 1 ≤ n → SGs w n tp ts hp P s0) (hld : n = 0 → cld s0 key) :
    ∃ J, (∀ b o k, ¬ (b = 1 ∧ ((o = 0 ∧ (k = 0 ∨ k = 22 ∨ k = 25 ∨ k = 26 ∨ k = 31 ∨ k = 33)) ∨ (10 ≤ o ∧ o ≤ 25))) → J b o k = I b o k) ∧
      ((¬ LT (I 1 2) nl na np x (I 1 2 8) ∧ lo4 (I 1 2) nl na np x = 4 ∧ sem N (d + 6) 284 [vR (some (1, 0)), vI (nI s)] I F = some (vI 0, J, F)) ∨
       (∃ z, z ≤ 1 ∧ ((LT (I 1 2) nl na np x (I 1 2 8) ∧ z = 0) ∨ (¬ LT (I 1 2) nl na np x (I 1 2 8) ∧ lo4 (I 1 2) nl na np x < 4 ∧ z = 1)) ∧ sem N (d + 6) 284 [vR (some (1, 0)), vI (nI s)] I F = some (vI (bz (z + sD w n tp ts hp P s0 ≤ 6)), J, F) ∧ (z + sD w n tp ts hp P s0 ≤ 6 → J 1 0 33 = nI (z + sD w n tp ts hp P s0) ∧ (∀ t, t < sD w n tp ts hp P s0 → J 1 25 (z + t) = nI (gmv w n tp c ts hp P (gS w n tp ts hp P s0 t))) ∧ (z = 1 → J 1 25 0 = nI (lo4 (I 1 2) nl na np x))))) := by
  obtain ⟨l, hl4, el⟩ := hl
  have row1 : wI I 1 0 33 0 1 2 = I 1 2 := by funext k; rw [wI_eq, if_neg (fun z => by omega)]
  obtain ⟨J1, f1, f2⟩ := m283 (N := N) (d := d) (I := wI I 1 0 33 0) (F := F) (x := x) (nl := nl) (np := np) (na := na) (nk := nk) (by omega) (by rw [row1]; exact hok) hx
  rw [row1] at f2
  have j1 : J1 1 2 = I 1 2 := by funext k; rw [f1 1 2 k (fun z => by omega), row1]
  have h33 : J1 1 0 33 = nI 0 := by rw [f1 1 0 33 (fun z => by omega), wI_s, nI_0]
  have k2 : inb (nI (340 + 3 * s + 2)) 406 := inb_nI (by omega) (by decide)
  have k1 : inb (nI (340 + 3 * s + 1)) 406 := inb_nI (by omega) (by decide)
  have g2 : (nI (340 + 3 * s + 2)).toNatClampNeg = 342 + 3 * s := by rw [nI_clamp (by omega)]; omega
  have g1 : (nI (340 + 3 * s + 1)).toNatClampNeg = 341 + 3 * s := by rw [nI_clamp (by omega)]; omega
  have e2 : wI I 1 0 33 0 1 2 (342 + 3 * s) = x := by rw [row1, ex]
  have fr0 : ∀ b o k, ¬ (b = 1 ∧ ((o = 0 ∧ (k = 0 ∨ k = 22 ∨ k = 25 ∨ k = 26 ∨ k = 31 ∨ k = 33)) ∨ (10 ≤ o ∧ o ≤ 25))) → J1 b o k = I b o k := fun b o k z => by
    rw [f1 b o k (fun y => z ⟨y.1, by omega⟩), wI_eq, if_neg (fun y => z ⟨y.1, by omega⟩)]
  have beg : ∀ (T : Option Rs), (if (if LT (I 1 2) nl na np x (I 1 2 8) then I 1 2 8 else itK (I 1 2) nl na np x 4) = (-1 : Int32) then some (vI (0 : Int32), J1, F) else (if (if LT (I 1 2) nl na np x (I 1 2 8) then I 1 2 8 else itK (I 1 2) nl na np x 4) = (J1 1 2 8) then (bI (sem N (d + 5) 197 [vI (nI s)] J1 F) (fun r4 I4 F4 => (if inb (r4 + (1 : Int32)) 406 then (bI (sem N (d + 5) 282 [vR (some (1, 0)), vI (I4 1 2 (r4 + (1 : Int32)).toNatClampNeg), vI ((6 : Int32) - (I4 1 0 33))] I4 F4) (fun r5 I5 F5 => (if r5 = 0 ∨ r5 = 1 then some (vI r5, I5, F5) else none))) else none))) else (bI (sem N (d + 5) 197 [vI (nI s)] (wI (wI J1 1 25 0 (if LT (I 1 2) nl na np x (I 1 2 8) then I 1 2 8 else itK (I 1 2) nl na np x 4)) 1 0 33 1) F) (fun r8 I8 F8 => (if inb (r8 + (1 : Int32)) 406 then (bI (sem N (d + 5) 282 [vR (some (1, 0)), vI (I8 1 2 (r8 + (1 : Int32)).toNatClampNeg), vI ((6 : Int32) - (I8 1 0 33))] I8 F8) (fun r9 I9 F9 => (if r9 = 0 ∨ r9 = 1 then some (vI r9, I9, F9) else none))) else none))))) = T → sem N (d + 6) 284 [vR (some (1, 0)), vI (nI s)] I F = T := by
    intro T h
    rw [s284]; unfold b284
    try dsimp only
    rw [m197, bI_v, L2, nI_add, if_pos k2, g2, e2, f2, bI_v]
    exact h
  by_cases hz : LT (I 1 2) nl na np x (I 1 2 8)
  · rw [if_pos hz] at beg
    obtain ⟨J, q1, q2, q3⟩ := m282 (N := N) (d := d + 1) (F := F) (I := J1) (most := 6) (nm := 0) (B := B) (nk := nk) (nx := nx) (key := key) (w := w) (n := n) (tp := tp) (c := c) (ts := ts) (hp := hp) (P := P) (s0 := s0) hN (by rw [j1]; exact hW) (by rw [j1]; exact hR) hk h33 rfl hs4 hsB hS hld
    refine ⟨J, fun b o k z => by rw [q2 b o k (fun y => z ⟨y.1, by omega⟩), fr0 b o k z], Or.inr ⟨0, by omega, Or.inl ⟨hz, rfl⟩, beg _ ?_, fun h => ?_⟩⟩
    · rw [el, if_neg (fun z => nI_ne1 (by omega) z), j1, el, if_pos rfl, m197, bI_v, nI_1, if_pos k1, g1, j1, ek, h33, show (6 : Int32) - nI 0 = nI 6 from rfl, q1, bI_v, if_pos bz_01, Nat.zero_add]
    · rw [Nat.zero_add] at h ⊢
      obtain ⟨u1, u2, -⟩ := q3 h
      rw [Nat.zero_add] at u1
      refine ⟨u1, fun t ht => ?_, fun z => by omega⟩
      exact u2 t ht
  · rw [if_neg hz, itK_4] at beg
    by_cases h4 : lo4 (I 1 2) nl na np x < 4
    · rw [if_pos h4] at beg
      have hne : ¬ nI (lo4 (I 1 2) nl na np x) = J1 1 2 8 := fun z => by
        rw [j1, el] at z
        have e := nI_inj (by omega) (by omega) z
        have hh := (fidx_p (P := fun l => LT (I 1 2) nl na np x (nI l)) 4).2.2 h4
        have hh : LT (I 1 2) nl na np x (nI (lo4 (I 1 2) nl na np x)) := hh
        rw [e, ← el] at hh
        exact hz hh
      obtain ⟨J2, hJ2⟩ : ∃ J2, J2 = wI (wI J1 1 25 0 (nI (lo4 (I 1 2) nl na np x))) 1 0 33 1 := ⟨_, rfl⟩
      rw [← hJ2] at beg
      have r2 : J2 1 2 = I 1 2 := by funext k; rw [hJ2, wI_eq, if_neg (fun z => by omega), wI_eq, if_neg (fun z => by omega), j1]
      have s33 : J2 1 0 33 = nI 1 := by rw [hJ2, wI_s]; rfl
      obtain ⟨J, q1, q2, q3⟩ := m282 (N := N) (d := d + 1) (F := F) (I := J2) (most := 5) (nm := 1) (B := B) (nk := nk) (nx := nx) (key := key) (w := w) (n := n) (tp := tp) (c := c) (ts := ts) (hp := hp) (P := P) (s0 := s0) hN (by rw [r2]; exact hW) (by rw [r2]; exact hR) hk s33 rfl hs4 hsB hS hld
      have eb : bz (sD w n tp ts hp P s0 ≤ 5) = bz (1 + sD w n tp ts hp P s0 ≤ 6) := bz_congr (by omega)
      refine ⟨J, fun b o k z => ?_, Or.inr ⟨1, by omega, Or.inr ⟨hz, h4, rfl⟩, beg _ ?_, fun h => ?_⟩⟩
      · rw [q2 b o k (fun y => z ⟨y.1, by omega⟩), hJ2, wI_eq, if_neg (fun y => z ⟨y.1, by omega⟩), wI_eq, if_neg (fun y => z ⟨y.1, by omega⟩), fr0 b o k z]
      · rw [if_neg (fun z => nI_ne1 (by omega) z), if_neg hne, m197, bI_v, nI_1, if_pos k1, g1, r2, ek, s33, show (6 : Int32) - nI 1 = nI 5 from rfl, q1, bI_v, if_pos bz_01, eb]
      · obtain ⟨u1, u2, u3⟩ := q3 (by omega)
        refine ⟨u1, u2, fun _ => ?_⟩
        rw [u3 0 (by omega), hJ2, wI_eq, if_neg (fun z => by omega), wI_s]
    · rw [if_neg h4, if_pos rfl] at beg
      have e4 : lo4 (I 1 2) nl na np x = 4 := by
        have : lo4 (I 1 2) nl na np x ≤ 4 := (fidx_p (P := fun l => LT (I 1 2) nl na np x (nI l)) 4).1
        omega
      exact ⟨J1, fr0, Or.inl ⟨hz, e4, beg _ rfl⟩⟩
theorem st161 : StpI InvC 161 285 2 := by
  intro as I F hl hI
  obtain ⟨x0, x1, rfl⟩ := len2 hl
  simp only [List.map_cons, List.map_nil]
  obtain ⟨nl, nc, nk, nx, np, na, ns, hR⟩ := hI.1
  have hjk := jok_of hR
  have hok := rok_of hR
  have hky := hR.2.2.2.2.1
  obtain ⟨t1, t2, tr3', t4⟩ := hR.2.2.2.2.2.2.1
  obtain ⟨p1, -, -, -, -, hl8⟩ := hR.2.1
  have c98 := m98 (N := zN) (d := 7) (b := 2) (I := I) (F := F) (n := ns) (by omega) x0 t1 tr3'
  have c201 := fun (J : IM) (h : J 1 2 16 = nI ns) => m201 (N := zN) (d := 6) (I := J) (F := F) (n := ns) x0 h (by omega)
  by_cases hx0 : inb x0 ns
  · obtain ⟨s, hs, hs31, rfl, ecl⟩ := inb_get hx0
    obtain ⟨u1, u2, u3, ⟨key, hkey, ekey⟩, hpol⟩ := t4 s hs
    have is : inb (nI s) 10 := inb_nI (by omega) (by decide)
    obtain ⟨w, n, tp, c, ts, hp, P, hW⟩ := way_ex hky key hkey
    have hnk := hky.2.2.1
    have hnx := hky.2.2.2.2.2.1
    have hpar : ∀ k, k < nk → I 1 2 (180 + 4 * k) = -1 ∨ ∃ p, p < k ∧ I 1 2 (180 + 4 * k) = nI p := fun k hk => (hky.2.2.2.2.2.2.1 k hk).2.2
    obtain ⟨s0, b1, b2, b3, -⟩ := m276 (N := zN) (d := 0) (F := F) (by decide) hky
    have hn : n ≤ 10 := by have := hW.1; omega
    have hS : 1 ≤ n → SGs w n tp ts hp P s0 := fun h1 => SG_0 hky hW h1 (by omega) b1 b2 b3
    have hld : n = 0 → cld s0 key := fun h0 => (cld_0 hky b2 hkey).mpr (hW.2.2.1 h0).1
    -- the class
    obtain ⟨C1, f1, f2⟩ := m182 (N := zN) (d := 2) (I := I) (F := F) (a := I 1 2) (nl := nl) (np := np) (na := na) (nk := nk) (I 1 2 (342 + 3 * s)) (by decide) hjk
    rw [p1] at f2
    obtain ⟨C2, f3, f4, f5, f6⟩ := m46 (N := zN) (d := 7) (I := C1) (F := F) (b := 3) (c := 2) (by omega) (by omega) (by omega)
    have hK : KSt C2 (I 1 2) nk nx w n tp c ts s0 := KS_0 hky hW b1 b2 (fun o k h1 h2 h3 => by rw [f6 o k h1 h2 h3, f1 2 o k (fun z => by omega)])
    have smC : smI I C2 F F := sm_3 (sm_FJ sm_rfl f1) f4
    have e29 : C2 2 29 s = nI key := by rw [f4 _ _ _ (by omega), f1 _ _ _ (fun z => by omega), u2, ekey]
    have g30 : I 2 30 s = I 1 2 (342 + 3 * s) := u3
    -- the reference, over what the class leaves
    have ref : ∀ (K : IM), smI I K F F → ∃ J, smI K J F F ∧ ((¬ LT (I 1 2) nl na np (I 1 2 (342 + 3 * s)) (I 1 2 8) ∧ lo4 (I 1 2) nl na np (I 1 2 (342 + 3 * s)) = 4 ∧ sem zN 8 284 [vR (some (1, 0)), vI (nI s)] (wI K 1 0 0 0) F = some (vI 0, J, F)) ∨
       (∃ z, z ≤ 1 ∧ ((LT (I 1 2) nl na np (I 1 2 (342 + 3 * s)) (I 1 2 8) ∧ z = 0) ∨ (¬ LT (I 1 2) nl na np (I 1 2 (342 + 3 * s)) (I 1 2 8) ∧ lo4 (I 1 2) nl na np (I 1 2 (342 + 3 * s)) < 4 ∧ z = 1)) ∧ sem zN 8 284 [vR (some (1, 0)), vI (nI s)] (wI K 1 0 0 0) F = some (vI (bz (z + sD w n tp ts hp P s0 ≤ 6)), J, F) ∧ (z + sD w n tp ts hp P s0 ≤ 6 → J 1 0 33 = nI (z + sD w n tp ts hp P s0) ∧ (∀ t, t < sD w n tp ts hp P s0 → J 1 25 (z + t) = nI (gmv w n tp c ts hp P (gS w n tp ts hp P s0 t))) ∧ (z = 1 → J 1 25 0 = nI (lo4 (I 1 2) nl na np (I 1 2 (342 + 3 * s))))))) := by
      intro K hK'
      have row : wI K 1 0 0 0 1 2 = I 1 2 := by funext k; rw [w0_12, hK'.2.2.1 k]
      obtain ⟨J, j1, j2⟩ := m284 (N := zN) (d := 2) (I := wI K 1 0 0 0) (F := F) (B := I 2) (nl := nl) (np := np) (na := na) (nk := nk) (nx := nx) (ns := ns) (key := key) (w := w) (n := n) (tp := tp) (c := c) (ts := ts) (hp := hp) (P := P) (s0 := s0) (s := s) (x := I 1 2 (342 + 3 * s)) (by decide) (by rw [row]; exact hok) (by omega) hpol (by rw [row]) (by rw [row]; exact ekey) hkey (by rw [row]; exact hl8) (by rw [row]; exact hW) (by rw [row]; exact hky) b1 b2 hS hld
      rw [row] at j2
      exact ⟨J, sm_m (sm_0 sm_rfl) j1, j2⟩
    -- what the class answers
    have cls : ∀ (T : Option Rs), (if (if LT (I 1 2) nl na np (I 1 2 (342 + 3 * s)) (I 1 2 8) then (-1 : Int32) else nI (lo4 (I 1 2) nl na np (I 1 2 (342 + 3 * s)))) = (4 : Int32) then some (vI (-1 : Int32), C1, F) else bI (sem zN 8 91 [vR (some (0, 10)), vR (some (3, 10)), vI (nI key), vI (if LT (I 1 2) nl na np (I 1 2 (342 + 3 * s)) (I 1 2 8) then (-1 : Int32) else nI (lo4 (I 1 2) nl na np (I 1 2 (342 + 3 * s))))] C2 F) (fun r4 I4 F4 => (if r4 = 0 then some (vI (-1 : Int32), I4, F4) else (if x1 = (-1 : Int32) then some (vI (I4 0 10 1), I4, F4) else (if x1 < 0 then some (vI (-1 : Int32), I4, F4) else (if (I4 0 10 1) ≤ x1 then some (vI (-1 : Int32), I4, F4) else (if (6 : Int32) ≤ x1 then some (vI (-1 : Int32), I4, F4) else (if inb x1 6 then some (vI (I4 0 11 x1.toNatClampNeg), I4, F4) else none)))))))) = T → sem zN 9 161 [vR (some (0, 0)), vI (nI s), vI x1] I F = T := by
      intro T h
      rw [s161]; unfold b161
      simp only [c98, bI_v, ite_bzif, eq_true hx0, eq_true is, ↓reduceIte, ecl, g30, f2, f3, bV_v, e29]
      exact h
    -- what the reference answers
    have rfr : ∀ (K : IM) (T : Option Rs), smI I K F F → (if x1 < (-1 : Int32) then some (vI (-1 : Int32), wI K 1 0 0 0, F) else (bI (sem zN 8 284 [vR (some (1, 0)), vI (nI s)] (wI K 1 0 0 0) F) (fun r3 I3 F3 => (if r3 = 0 then some (vI (-1 : Int32), I3, F3) else (if x1 = (-1 : Int32) then some (vI (I3 1 0 33), I3, F3) else (if (I3 1 0 33) ≤ x1 then some (vI (-1 : Int32), I3, F3) else (if inb x1 6 then some (vI (I3 1 25 x1.toNatClampNeg), I3, F3) else none))))))) = T → sem zN 9 285 [vR (some (1, 0)), vI (nI s), vI x1] K F = T := by
      intro K T hK' h
      rw [s285]; unfold b285
      try dsimp only
      rw [c201 (wI K 1 0 0 0) (by rw [w0_12, hK'.2.2.1]; exact t2), bI_v, ite_bzif, if_pos hx0]
      exact h
    by_cases hz : ¬ LT (I 1 2) nl na np (I 1 2 (342 + 3 * s)) (I 1 2 8) ∧ lo4 (I 1 2) nl na np (I 1 2 (342 + 3 * s)) = 4
    · -- by no locality
      have smC1 : smI I C1 F F := sm_FJ sm_rfl f1
      obtain ⟨J, j1, j2⟩ := ref C1 smC1
      have j3 : sem zN 8 284 [vR (some (1, 0)), vI (nI s)] (wI C1 1 0 0 0) F = some (vI 0, J, F) := by
        rcases j2 with ⟨-, -, z⟩ | ⟨z, -, z2, -⟩
        · exact z
        · rcases z2 with ⟨y, -⟩ | ⟨-, y, -⟩
          · exact absurd y hz.1
          · omega
      have ec := cls (some (vI (-1 : Int32), C1, F)) (by rw [if_neg hz.1, hz.2, if_pos (by decide)])
      by_cases hx1 : x1 < -1
      · exact qs_of hI ec (rfr C1 (some (vI (-1 : Int32), wI C1 1 0 0 0, F)) smC1 (by rw [if_pos hx1])) smC1 (sm_0 sm_rfl)
      · exact qs_of hI ec (rfr C1 (some (vI (-1 : Int32), J, F)) smC1 (by rw [if_neg hx1, j3, bI_v, if_pos rfl])) smC1 j1
    · -- by some
      obtain ⟨z, hz1, hzc, hzx⟩ : ∃ z, z ≤ 1 ∧ ((LT (I 1 2) nl na np (I 1 2 (342 + 3 * s)) (I 1 2 8) ∧ z = 0) ∨ (¬ LT (I 1 2) nl na np (I 1 2 (342 + 3 * s)) (I 1 2 8) ∧ lo4 (I 1 2) nl na np (I 1 2 (342 + 3 * s)) < 4 ∧ z = 1)) ∧ (((if LT (I 1 2) nl na np (I 1 2 (342 + 3 * s)) (I 1 2 8) then (-1 : Int32) else nI (lo4 (I 1 2) nl na np (I 1 2 (342 + 3 * s)))) = -1 ∧ z = 0) ∨ (¬ (if LT (I 1 2) nl na np (I 1 2 (342 + 3 * s)) (I 1 2 8) then (-1 : Int32) else nI (lo4 (I 1 2) nl na np (I 1 2 (342 + 3 * s)))) = -1 ∧ z = 1)) := by
        by_cases y : LT (I 1 2) nl na np (I 1 2 (342 + 3 * s)) (I 1 2 8)
        · exact ⟨0, by omega, Or.inl ⟨y, rfl⟩, Or.inl ⟨if_pos y, rfl⟩⟩
        · have l4 : lo4 (I 1 2) nl na np (I 1 2 (342 + 3 * s)) ≤ 4 := (fidx_p (P := fun l => LT (I 1 2) nl na np (I 1 2 (342 + 3 * s)) (nI l)) 4).1
          have l3 : ¬ lo4 (I 1 2) nl na np (I 1 2 (342 + 3 * s)) = 4 := fun u => hz ⟨y, u⟩
          exact ⟨1, by omega, Or.inr ⟨y, by omega, rfl⟩, Or.inr ⟨by rw [if_neg y]; exact fun u => nI_ne1 (by omega) u, rfl⟩⟩
      obtain ⟨C3, g1, g2, g3⟩ := m91 (N := zN) (d := 3) (F := F) (J := C2) (x := if LT (I 1 2) nl na np (I 1 2 (342 + 3 * s)) (I 1 2 8) then (-1 : Int32) else nI (lo4 (I 1 2) nl na np (I 1 2 (342 + 3 * s)))) (z := z) (by decide) hW hnk hnx hkey hpar hK (by omega) hS hld hzx
      have n4 : ¬ (if LT (I 1 2) nl na np (I 1 2 (342 + 3 * s)) (I 1 2 8) then (-1 : Int32) else nI (lo4 (I 1 2) nl na np (I 1 2 (342 + 3 * s)))) = (4 : Int32) := by
        rcases hzc with ⟨y, -⟩ | ⟨y, y2, -⟩
        · rw [if_pos y]; decide
        · rw [if_neg y]
          intro u
          have := nI_inj (x := lo4 (I 1 2) nl na np (I 1 2 (342 + 3 * s))) (y := 4) (by omega) (by omega) u
          omega
      have smC3 : smI I C3 F F := sm_RF smC g2
      obtain ⟨J, j1, j2⟩ := ref C3 smC3
      have j3 : sem zN 8 284 [vR (some (1, 0)), vI (nI s)] (wI C3 1 0 0 0) F = some (vI (bz (z + sD w n tp ts hp P s0 ≤ 6)), J, F) ∧ (z + sD w n tp ts hp P s0 ≤ 6 → J 1 0 33 = nI (z + sD w n tp ts hp P s0) ∧ (∀ t, t < sD w n tp ts hp P s0 → J 1 25 (z + t) = nI (gmv w n tp c ts hp P (gS w n tp ts hp P s0 t))) ∧ (z = 1 → J 1 25 0 = nI (lo4 (I 1 2) nl na np (I 1 2 (342 + 3 * s))))) := by
        rcases j2 with ⟨y1, y2, -⟩ | ⟨z', hz', y1, y2, y3⟩
        · exact absurd ⟨y1, y2⟩ hz
        · have ez : z' = z := by
            rcases hzc with ⟨u1, u2⟩ | ⟨u1, -, u2⟩
            · rcases y1 with ⟨v1, v2⟩ | ⟨v1, -, v2⟩
              · omega
              · exact absurd u1 v1
            · rcases y1 with ⟨v1, v2⟩ | ⟨v1, -, v2⟩
              · exact absurd v1 u1
              · omega
          rw [ez] at y2 y3
          exact ⟨y2, y3⟩
      obtain ⟨j3, j4⟩ := j3
      by_cases hle : z + sD w n tp ts hp P s0 ≤ 6
      · obtain ⟨a1, a2, a3⟩ := g3 hle
        obtain ⟨d1, d2, d3⟩ := j4 hle
        rw [bz_t hle] at g1 j3
        have n10 : ¬ (1 : Int32) = 0 := by decide
        by_cases hm1 : x1 = -1
        · refine qs_of hI (cls (some (vI (nI (z + sD w n tp ts hp P s0)), C3, F)) ?_) (rfr C3 (some (vI (nI (z + sD w n tp ts hp P s0)), J, F)) smC3 ?_) smC3 j1
          · rw [if_neg n4, g1, bI_v, if_neg n10, if_pos hm1, a1]
          · rw [if_neg (by rw [hm1]; decide), j3, bI_v, if_neg n10, if_pos hm1, d1]
        · by_cases hx1 : x1 < 0
          · have hlt : x1 < -1 := by
              rw [i_lt, i_m1]
              rw [i_lt, i_0] at hx1
              rw [i_eq, i_m1] at hm1
              omega
            refine qs_of hI (cls (some (vI (-1 : Int32), C3, F)) ?_) (rfr C3 (some (vI (-1 : Int32), wI C3 1 0 0 0, F)) smC3 (by rw [if_pos hlt])) smC3 (sm_0 sm_rfl)
            rw [if_neg n4, g1, bI_v, if_neg n10, if_neg hm1, if_pos hx1]
          · have hge : ¬ x1 < -1 := by
              rw [i_lt, i_m1]
              rw [i_lt, i_0] at hx1
              omega
            by_cases hb : nI (z + sD w n tp ts hp P s0) ≤ x1
            · refine qs_of hI (cls (some (vI (-1 : Int32), C3, F)) ?_) (rfr C3 (some (vI (-1 : Int32), J, F)) smC3 ?_) smC3 j1
              · rw [if_neg n4, g1, bI_v, if_neg n10, if_neg hm1, if_neg hx1, a1, if_pos hb]
              · rw [if_neg hge, j3, bI_v, if_neg n10, if_neg hm1, d1, if_pos hb]
            · have ex := nI_cl hx1
              obtain ⟨i, hi⟩ : ∃ i, i = x1.toNatClampNeg := ⟨_, rfl⟩
              rw [← hi] at ex
              have hi31 : i < 2 ^ 31 := by
                have h1 := i_hi x1
                have h2 : i = x1.toInt.toNat := hi
                omega
              have hil : i < z + sD w n tp ts hp P s0 := by
                refine Nat.lt_of_not_le (fun y => hb ?_)
                rw [ex]
                exact nI_le y hi31
              have ib : inb x1 6 := by rw [ex]; exact inb_nI (by omega) (by decide)
              have n6 : ¬ (6 : Int32) ≤ x1 := by rw [ex]; exact nI_ge (show i < 6 by omega) (by decide)
              -- the move itself
              have same : C3 0 11 i = J 1 25 i := by
                by_cases e : i < z
                · have hz' : z = 1 := by omega
                  obtain rfl : i = 0 := by omega
                  rw [a3 hz', d3 hz']
                  rcases hzc with ⟨-, y⟩ | ⟨y, -⟩
                  · omega
                  · rw [if_neg y]
                · have := a2 (i - z) (by omega)
                  rw [show z + (i - z) = i by omega] at this
                  have t2 := d2 (i - z) (by omega)
                  rw [show z + (i - z) = i by omega] at t2
                  rw [this, t2]
              refine qs_of hI (cls (some (vI (C3 0 11 i), C3, F)) ?_) (rfr C3 (some (vI (C3 0 11 i), J, F)) smC3 ?_) smC3 j1
              · rw [if_neg n4, g1, bI_v, if_neg n10, if_neg hm1, if_neg hx1, a1, if_neg hb, if_neg n6, if_pos ib, ← hi]
              · rw [if_neg hge, j3, bI_v, if_neg n10, if_neg hm1, d1, if_neg hb, if_pos ib, ← hi, same]
      · rw [bz_f hle] at g1 j3
        have ec := cls (some (vI (-1 : Int32), C3, F)) (by rw [if_neg n4, g1, bI_v, if_pos rfl])
        by_cases hx1 : x1 < -1
        · exact qs_of hI ec (rfr C3 (some (vI (-1 : Int32), wI C3 1 0 0 0, F)) smC3 (by rw [if_pos hx1])) smC3 (sm_0 sm_rfl)
        · exact qs_of hI ec (rfr C3 (some (vI (-1 : Int32), J, F)) smC3 (by rw [if_neg hx1, j3, bI_v, if_pos rfl])) smC3 j1
  · refine qs_0 (x := -1) hI ?_ ?_
    · rw [s161]; unfold b161
      rw [c98, bI_v, ite_bzif, if_neg hx0]
    · rw [s285]; unfold b285
      try dsimp only
      rw [c201 (wI I 1 0 0 0) (by rw [w0_12]; exact t2), bI_v, ite_bzif, if_neg hx0]
