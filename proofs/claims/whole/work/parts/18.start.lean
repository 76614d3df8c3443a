/-! THE START: what the constructors leave -/
def zMk1 : Option (Nat × WIl × WRl) := rA 400 115 (zCA 115) [(0, vR (some (0, 0)))] [] 1 [] []
def zMk2 : Option (Nat × WIl × WRl) := match zMk1 with
  | some (n, WI, WR) => rA 400 183 (zCA 183) [(0, vR (some (1, 0)))] [] (n + 1) WI WR
  | none => none
def zWI1 : WIl := (zMk1.getD (0, [], [])).2.1
def zWR1 : WRl := (zMk1.getD (0, [], [])).2.2
def zWI2 : WIl := (zMk2.getD (0, [], [])).2.1
def zWR2 : WRl := (zMk2.getD (0, [], [])).2.2
/-- the whole numbers at the start -/
def I00 : IM := dI zWI2
theorem zMk1_ok : zMk1 = some (438, zWI1, zWR1) := by
  have h : (match zMk1 with | some r => r.1 == 438 | none => false) = true := by decide +kernel
  unfold zWI1 zWR1
  cases hz : zMk1 with
  | none => rw [hz] at h; cases h
  | some r =>
    rw [hz] at h
    obtain ⟨n, a, b⟩ := r
    have hn : n = 438 := eq_of_beq h
    subst hn
    rfl
theorem zMk2_ok : zMk2 = some (464, zWI2, zWR2) := by
  have h : (match zMk2 with | some r => r.1 == 464 | none => false) = true := by decide +kernel
  unfold zWI2 zWR2
  cases hz : zMk2 with
  | none => rw [hz] at h; cases h
  | some r =>
    rw [hz] at h
    obtain ⟨n, a, b⟩ := r
    have hn : n = 464 := eq_of_beq h
    subst hn
    rfl
theorem zMk2_eq : rA 400 183 (zCA 183) [(0, vR (some (1, 0)))] [] 439 zWI1 zWR1 = some (464, zWI2, zWR2) := by
  have h := zMk2_ok
  unfold zMk2 at h
  rw [zMk1_ok] at h
  exact h
/-- the references that were made are R0's -/
def zRok : Bool := PL.all (fun q => (K0 q.1 q.2).1 != 0 && (K0 q.1 q.2).1 != 4 || (List.range (zsz q.1 q.2)).all (fun k => ((K0 q.1 q.2).1 == 0 && (nth zFT (K0 q.1 q.2).2 [])[k]? != some 2) || decide (dR zWR2 q.1 q.2 k = R0 q.1 q.2 k)))
theorem zRok_ok : zRok = true := by decide +kernel
theorem arrV_ext {cA : ClassId} {N : Nat} {f h : Nat → Value} (hf : ∀ j, j < N → f j = h j) : arrV cA N f = arrV cA N h := by
  unfold arrV
  congr 1
  apply Array.ext
  · simp
  · intro i h1 h2
    simp at h1
    simp [hf i h1]
theorem zR_use {q : Nat × Nat} (hq : q ∈ PL) (hk : (K0 q.1 q.2).1 = 0 ∨ (K0 q.1 q.2).1 = 4) {k : Nat} (hl : k < zsz q.1 q.2) (h2 : (K0 q.1 q.2).1 = 0 → (nth zFT (K0 q.1 q.2).2 [])[k]? = some 2) : dR zWR2 q.1 q.2 k = R0 q.1 q.2 k := by
  have h := List.all_eq_true.mp zRok_ok q hq
  have e1 : ((K0 q.1 q.2).1 != 0 && (K0 q.1 q.2).1 != 4) = false := by rcases hk with z | z <;> rw [z] <;> rfl
  simp only [e1, Bool.false_or] at h
  have h3 := List.all_eq_true.mp h k (List.mem_range.mpr hl)
  rw [Bool.or_eq_true] at h3
  rcases h3 with h3 | h3
  · rw [Bool.and_eq_true] at h3
    rw [h2 (eq_of_beq h3.1)] at h3
    exact absurd h3.2 (by decide)
  · exact of_decide_eq_true h3
theorem zFT_two : ∀ n i t : Nat, (nth zFT n [])[i]? = some t → 2 ≤ t → t = 2 := by
  intro n i t h ht
  have hall : zFT.all (fun l => l.all (fun t => decide (t ≤ 2))) = true := by decide +kernel
  have hm : t ∈ nth zFT n [] := List.mem_of_getElem? h
  have hn : nth zFT n [] = [] ∨ nth zFT n [] ∈ zFT := by
    clear h hm hall
    generalize zFT = L
    induction L generalizing n with
    | nil => exact Or.inl rfl
    | cons a l ih =>
      cases n with
      | zero => exact Or.inr List.mem_cons_self
      | succ n =>
        rcases ih n with z | z
        · exact Or.inl z
        · exact Or.inr (List.mem_cons_of_mem _ z)
  rcases hn with z | z
  · rw [z] at hm; cases hm
  · have h1 := of_decide_eq_true (List.all_eq_true.mp (List.all_eq_true.mp hall _ z) _ hm)
    omega
theorem K0_four : ∀ a ∈ PL, ∀ kd n : Nat, K0 a.1 a.2 = (kd, n) → 4 ≤ kd → kd = 4 := by
  intro a ha kd n h hk
  have hall : PL.all (fun a => decide ((K0 a.1 a.2).1 ≤ 4)) = true := by decide +kernel
  have h1 := of_decide_eq_true (List.all_eq_true.mp hall a ha)
  rw [h] at h1
  simp only at h1
  omega
/-- the world as it was made is the world of the small machine -/
theorem AW_PLg {g : GG} {H : Heap} {WI : WIl} {WR : WRl} {R : RM} (hz : ∀ q : Nat × Nat, q ∈ PL → ((K0 q.1 q.2).1 = 0 ∨ (K0 q.1 q.2).1 = 4) → ∀ k : Nat, k < zsz q.1 q.2 → ((K0 q.1 q.2).1 = 0 → (nth zFT (K0 q.1 q.2).2 [])[k]? = some 2) → dR WR q.1 q.2 k = R q.1 q.2 k) (hP : va_P g.1 vwCl (AW g 464 WI WR) H) : va_P g.1 vwCl (wsL PL R g (dI WI) Fz) H := by
  intro k q hk
  have ht : PL.take 464 = PL := List.take_of_length_le (by rw [PL_len]; exact Nat.le_refl _)
  unfold wsL at hk
  rw [List.getElem?_map] at hk
  cases hq : PL[k]? with
  | none => rw [hq] at hk; cases hk
  | some a =>
    rw [hq] at hk
    cases hk
    have h1 := hP k (zad g a, zcl g (dR WR) (dI WI) Fz a.1 a.2) (by unfold AW wsL; rw [ht, List.getElem?_map, hq]; rfl)
    have ha : a ∈ PL := List.mem_of_getElem? hq
    show va_at g.1 vwCl (zad g a, zcl g R (dI WI) Fz a.1 a.2) H
    obtain ⟨kd, n, hK⟩ : ∃ kd n, K0 a.1 a.2 = (kd, n) := ⟨_, _, rfl⟩
    match kd, hK with
    | 0, hK =>
      rw [zcl_obj hK] at h1 ⊢
      have e : ((nth zFT n []).mapIdx fun k t => zfv g (dR WR) (dI WI) Fz a.1 a.2 k t) = (nth zFT n []).mapIdx fun k t => zfv g R (dI WI) Fz a.1 a.2 k t := by
        apply List.ext_getElem?
        intro i
        rw [List.getElem?_mapIdx, List.getElem?_mapIdx]
        cases hi : (nth zFT n [])[i]? with
        | none => rfl
        | some t =>
          match t, hi with
          | 0, _ => rfl
          | 1, _ => rfl
          | t + 2, hi =>
            show some (va_rf ((dR WR a.1 a.2 i).map (zad g))) = some (va_rf ((R a.1 a.2 i).map (zad g)))
            have ht2 : t + 2 = 2 := zFT_two n i (t + 2) hi (by omega)
            rw [hz a ha (Or.inl (by rw [hK])) i (by unfold zsz; rw [hK]; exact (List.getElem?_eq_some_iff.mp hi).1) (fun _ => by rw [hK]; rw [hi, ht2])]
      rw [e] at h1
      exact h1
    | 1, hK => rw [zcl_int hK] at h1 ⊢; exact h1
    | 2, hK => rw [zcl_bool hK] at h1 ⊢; exact h1
    | 3, hK => rw [zcl_flt hK] at h1 ⊢; exact h1
    | kd + 4, hK =>
      have hk4 : kd + 4 = 4 := K0_four a ha (kd + 4) n hK (by omega)
      rw [hk4] at hK
      rw [zcl_ref hK] at h1 ⊢
      refine Eq.trans h1 ?_
      show some (vp_cell g.2.1.2.2.2 (n, .inr (.inr (.inr (.inr fun k => (dR WR a.1 a.2 k).map (zad g)))))) = some (vp_cell g.2.1.2.2.2 (n, .inr (.inr (.inr (.inr fun k => (R a.1 a.2 k).map (zad g))))))
      rw [vp_cell_q, vp_cell_q]
      congr 1
      apply arrV_ext
      intro j hj
      show va_rf ((dR WR a.1 a.2 j).map (zad g)) = va_rf ((R a.1 a.2 j).map (zad g))
      rw [hz a ha (Or.inr (by rw [hK])) j (by unfold zsz; rw [hK]; exact hj) (fun z => by rw [hK] at z; cases z)]
theorem AW_PL {g : GG} {H : Heap} (hP : va_P g.1 vwCl (AW g 464 zWI2 zWR2) H) : va_P g.1 vwCl (wsL PL R0 g I00 Fz) H := AW_PLg (fun _ hq hk _ hl h2 => zR_use hq hk hl h2) hP
theorem and63 (x : Int32) : 0 ≤ (x &&& 63).toInt ∧ (x &&& 63).toInt ≤ 63 := by
  have h1 : (x &&& 63).toBitVec = x.toBitVec &&& 63#32 := rfl
  have h2 : (x.toBitVec &&& 63#32).toNat ≤ 63 := by
    rw [BitVec.toNat_and]
    exact Nat.and_le_right
  have h3 : (x &&& 63).toInt = ((x.toBitVec &&& 63#32).toNat : Int) := by
    show (x &&& 63).toBitVec.toInt = _
    rw [h1, BitVec.toInt_eq_toNat_of_lt (by omega)]
  rw [h3]
  omega
theorem law_sub {L : Nat} (hL : L ≤ 3584) : (Int32.ofNat L - 7).toInt = (L : Int) - 7 := by
  have h1 : (Int32.ofNat L).toInt = (L : Int) := nI_toInt (by omega)
  rw [Int32.toInt_sub, h1, show (7 : Int32).toInt = 7 from by decide]
  exact Int.bmod_eq_of_le (by omega) (by omega)
theorem law_lt {L ii : Nat} (hL : L ≤ 3584) (hi : ii ≤ 4000) (h : ¬ ii + 6 < L) : Int32.ofNat L - 7 < nI ii := by
  rw [Int32.lt_iff_toInt_lt, law_sub hL, nI_toInt (by omega)]
  omega
theorem law_nlt {L ii : Nat} (hL : L ≤ 3584) (hi : ii ≤ 4000) (h : ii + 6 < L) : ¬ Int32.ofNat L - 7 < nI ii := by
  rw [Int32.lt_iff_toInt_lt, law_sub hL, nI_toInt (by omega)]
  omega
set_option maxHeartbeats 4000000 in
set_option maxRecDepth 100000 in
theorem law_loop {p : Program} {l : Launch} {e : Env} {s : State} {m : MethodId} {below : List Frame} {meth : Method} {c : Code} {Q : State → Prop} {A : Nat → Prop} {b L : Nat} {xs : Nat → Int32} {g : GG} {Inv : IM → FM → Prop} {cells slots : Nat} (C0 : law_ctx p s m meth c b L xs A g) (hst : StpAll Inv) (hL : L ≤ 3584) (hce : cells ≤ room_1.cells) (hsl : slots ≤ room_1.slots)
    (hend : ∀ (H : Heap) (locs : List Loc) (ls : Array Slot), va_S A s.heap H locs → W p l e room_1 s m #[Value.ref b] below meth c H locs cells slots Q (F0 m 1782 ls [.int 1])) :
    ∀ (k ii : Nat), L ≤ ii + 7 * k → ii ≤ 4000 → ∀ (H : Heap) (locs : List Loc) (I : IM) (F : FM) (ls : Array Slot), va_P g.1 vwCl (wsL PL R0 g I F) H → Inv I F → va_D A (wsL PL R0 g I F) → va_S A s.heap H locs → lv_has ls 4 (law_lv g b (nI ii)) → W p l e room_1 s m #[Value.ref b] below meth c H locs cells slots Q (F0 m 18 ls []) := by
  obtain ⟨S, hN, hK, hX, hbl, hbA⟩ := id C0
  intro k
  induction k with
  | zero =>
    intro ii hk hi4 H locs I F ls hP hI hD hS hl
    refine lv_iload_n S.1 S.2.1 dl18 rfl (lv_at hl 3 rfl) ?_
    refine lv_aload_n S.1 S.2.1 dl19 rfl (lv_at hl 0 rfl) ?_
    refine va_slen S.1 S.2.1 hX hbl hbA hS dl20 ?_
    refine lv_bipush (v := 7) S.1 S.2.1 dl21 (by decide) ?_
    refine lv_isub S.1 S.2.1 dl23 ?_
    refine lv_icmp_gt (tgt := 1781) S.1 S.2.1 dl24 (by decide) (fun _ => ?_) (fun h => absurd (law_lt hL hi4 (by omega)) h)
    refine lv_iconst (v := 1) S.1 S.2.1 dl1781 (by decide) ?_
    exact hend H locs ls hS
  | succ k ih =>
    intro ii hk hi4 H locs I F ls hP hI hD hS hl
    refine lv_iload_n S.1 S.2.1 dl18 rfl (lv_at hl 3 rfl) ?_
    refine lv_aload_n S.1 S.2.1 dl19 rfl (lv_at hl 0 rfl) ?_
    refine va_slen S.1 S.2.1 hX hbl hbA hS dl20 ?_
    refine lv_bipush (v := 7) S.1 S.2.1 dl21 (by decide) ?_
    refine lv_isub S.1 S.2.1 dl23 ?_
    by_cases hii : ii + 6 < L
    · refine lv_icmp_gt (tgt := 1781) S.1 S.2.1 dl24 (by decide) (fun h => absurd h (law_nlt hL hi4 hii)) (fun _ => ?_)
      refine lv_aload_n S.1 S.2.1 dl27 rfl (lv_at hl 0 rfl) ?_
      refine lv_iload_n S.1 S.2.1 dl28 rfl (lv_at hl 3 rfl) ?_
      refine va_sld S.1 S.2.1 hX hbl hbA hS (vp_in_nI (by omega) (by omega)) dl29 ?_
      refine lv_bipush (v := 63) S.1 S.2.1 dl30 (by decide) ?_
      refine lv_iand S.1 S.2.1 dl32 ?_
      have hnext : ∀ (H1 : Heap) (locs1 : List Loc) (I1 : IM) (F1 : FM), va_P g.1 vwCl (wsL PL R0 g I1 F1) H1 → Inv I1 F1 → va_S A s.heap H1 locs1 → W p l e room_1 s m #[Value.ref b] below meth c H1 locs1 cells slots Q (F0 m 1775 ls []) := by
        intro H1 locs1 I1 F1 hP1 hI1 hS1
        refine lv_iinc (v := nI (ii + 7)) (lv' := [(3, .int (nI (ii + 7))), (0, .ref b), (1, .ref (zad g (0, 0))), (2, .ref (zad g (1, 0)))]) S.1 S.2.1 dl1775 hl (k := 3) rfl (by rw [show Int32.ofInt 7 = nI 7 from by decide, nI_add]) (by decide) rfl (fun ls hl => ?_)
        refine lv_goto (tgt := 18) S.1 S.2.1 dl1778 (by decide) ?_
        exact ih (ii + 7) (by omega) (by omega) H1 locs1 I1 F1 ls hP1 hI1 (wsL_D hD) hS1 (lv_sub hl [1, 2, 3, 0] rfl)
      generalize hv : xs (nI ii).toNatClampNeg &&& 63 = v
      have hv2 : 0 ≤ v.toInt ∧ v.toInt ≤ 63 := by rw [← hv]; exact and63 _
      clear hv ih
      obtain ⟨t0, t1, t2, t3, t4, t5, t6, t7, t8, t9, t10, t11, t12, t13, t14, t15, t16, t17, t18, t19, t20, t21, t22, t23, t24, t25, t26, t27, t28, t29, t30, t31, t32, t33, t34, t35, t36, t37, t38, t39, t40, t41, t42, t43, t44, t45, t46, t47, t48, t49, t50, t51⟩ := hst
      rcases (show v.toInt = 0 ∨ v.toInt = 1 ∨ v.toInt = 2 ∨ v.toInt = 3 ∨ v.toInt = 4 ∨ v.toInt = 5 ∨ v.toInt = 6 ∨ v.toInt = 7 ∨ v.toInt = 8 ∨ v.toInt = 9 ∨ v.toInt = 10 ∨ v.toInt = 11 ∨ v.toInt = 12 ∨ v.toInt = 13 ∨ v.toInt = 14 ∨ v.toInt = 15 ∨ v.toInt = 16 ∨ v.toInt = 17 ∨ v.toInt = 18 ∨ v.toInt = 19 ∨ v.toInt = 20 ∨ v.toInt = 21 ∨ v.toInt = 22 ∨ v.toInt = 23 ∨ v.toInt = 24 ∨ v.toInt = 25 ∨ v.toInt = 26 ∨ v.toInt = 27 ∨ v.toInt = 28 ∨ v.toInt = 29 ∨ v.toInt = 30 ∨ v.toInt = 31 ∨ v.toInt = 32 ∨ v.toInt = 33 ∨ v.toInt = 34 ∨ v.toInt = 35 ∨ v.toInt = 36 ∨ v.toInt = 37 ∨ v.toInt = 38 ∨ v.toInt = 39 ∨ v.toInt = 40 ∨ v.toInt = 41 ∨ v.toInt = 42 ∨ v.toInt = 43 ∨ v.toInt = 44 ∨ v.toInt = 45 ∨ v.toInt = 46 ∨ v.toInt = 47 ∨ v.toInt = 48 ∨ v.toInt = 49 ∨ v.toInt = 50 ∨ v.toInt = 51 ∨ 52 ≤ v.toInt by omega) with h0 | h1 | h2 | h3 | h4 | h5 | h6 | h7 | h8 | h9 | h10 | h11 | h12 | h13 | h14 | h15 | h16 | h17 | h18 | h19 | h20 | h21 | h22 | h23 | h24 | h25 | h26 | h27 | h28 | h29 | h30 | h31 | h32 | h33 | h34 | h35 | h36 | h37 | h38 | h39 | h40 | h41 | h42 | h43 | h44 | h45 | h46 | h47 | h48 | h49 | h50 | h51 | hout
      · exact lv_tableIn (off := 223) (tgt := 256) S.1 S.2.1 dl33 (by omega) (by omega) (by rw [h0]; rfl) (by decide) (law_c0 C0 t0 hL hii hP hI hD hS hl hce hsl hnext)
      · exact lv_tableIn (off := 236) (tgt := 269) S.1 S.2.1 dl33 (by omega) (by omega) (by rw [h1]; rfl) (by decide) (law_c1 C0 t1 hL hii hP hI hD hS hl hce hsl hnext)
      · exact lv_tableIn (off := 259) (tgt := 292) S.1 S.2.1 dl33 (by omega) (by omega) (by rw [h2]; rfl) (by decide) (law_c2 C0 t2 hL hii hP hI hD hS hl hce hsl hnext)
      · exact lv_tableIn (off := 282) (tgt := 315) S.1 S.2.1 dl33 (by omega) (by omega) (by rw [h3]; rfl) (by decide) (law_c3 C0 t3 hL hii hP hI hD hS hl hce hsl hnext)
      · exact lv_tableIn (off := 315) (tgt := 348) S.1 S.2.1 dl33 (by omega) (by omega) (by rw [h4]; rfl) (by decide) (law_c4 C0 t4 hL hii hP hI hD hS hl hce hsl hnext)
      · exact lv_tableIn (off := 348) (tgt := 381) S.1 S.2.1 dl33 (by omega) (by omega) (by rw [h5]; rfl) (by decide) (law_c5 C0 t5 hL hii hP hI hD hS hl hce hsl hnext)
      · exact lv_tableIn (off := 371) (tgt := 404) S.1 S.2.1 dl33 (by omega) (by omega) (by rw [h6]; rfl) (by decide) (law_c6 C0 t6 hL hii hP hI hD hS hl hce hsl hnext)
      · exact lv_tableIn (off := 404) (tgt := 437) S.1 S.2.1 dl33 (by omega) (by omega) (by rw [h7]; rfl) (by decide) (law_c7 C0 t7 hL hii hP hI hD hS hl hce hsl hnext)
      · exact lv_tableIn (off := 427) (tgt := 460) S.1 S.2.1 dl33 (by omega) (by omega) (by rw [h8]; rfl) (by decide) (law_c8 C0 t8 hL hii hP hI hD hS hl hce hsl hnext)
      · exact lv_tableIn (off := 460) (tgt := 493) S.1 S.2.1 dl33 (by omega) (by omega) (by rw [h9]; rfl) (by decide) (law_c9 C0 t9 hL hii hP hI hD hS hl hce hsl hnext)
      · exact lv_tableIn (off := 493) (tgt := 526) S.1 S.2.1 dl33 (by omega) (by omega) (by rw [h10]; rfl) (by decide) (law_c10 C0 t10 hL hii hP hI hD hS hl hce hsl hnext)
      · exact lv_tableIn (off := 526) (tgt := 559) S.1 S.2.1 dl33 (by omega) (by omega) (by rw [h11]; rfl) (by decide) (law_c11 C0 t11 hL hii hP hI hD hS hl hce hsl hnext)
      · exact lv_tableIn (off := 549) (tgt := 582) S.1 S.2.1 dl33 (by omega) (by omega) (by rw [h12]; rfl) (by decide) (law_c12 C0 t12 hL hii hP hI hD hS hl hce hsl hnext)
      · exact lv_tableIn (off := 572) (tgt := 605) S.1 S.2.1 dl33 (by omega) (by omega) (by rw [h13]; rfl) (by decide) (law_c13 C0 t13 hL hii hP hI hD hS hl hce hsl hnext)
      · exact lv_tableIn (off := 595) (tgt := 628) S.1 S.2.1 dl33 (by omega) (by omega) (by rw [h14]; rfl) (by decide) (law_c14 C0 t14 hL hii hP hI hD hS hl hce hsl hnext)
      · exact lv_tableIn (off := 618) (tgt := 651) S.1 S.2.1 dl33 (by omega) (by omega) (by rw [h15]; rfl) (by decide) (law_c15 C0 t15 hL hii hP hI hD hS hl hce hsl hnext)
      · exact lv_tableIn (off := 661) (tgt := 694) S.1 S.2.1 dl33 (by omega) (by omega) (by rw [h16]; rfl) (by decide) (law_c16 C0 t16 hL hii hP hI hD hS hl hce hsl hnext)
      · exact lv_tableIn (off := 684) (tgt := 717) S.1 S.2.1 dl33 (by omega) (by omega) (by rw [h17]; rfl) (by decide) (law_c17 C0 t17 hL hii hP hI hD hS hl hce hsl hnext)
      · exact lv_tableIn (off := 727) (tgt := 760) S.1 S.2.1 dl33 (by omega) (by omega) (by rw [h18]; rfl) (by decide) (law_c18 C0 t18 hL hii hP hI hD hS hl hce hsl hnext)
      · exact lv_tableIn (off := 760) (tgt := 793) S.1 S.2.1 dl33 (by omega) (by omega) (by rw [h19]; rfl) (by decide) (law_c19 C0 t19 hL hii hP hI hD hS hl hce hsl hnext)
      · exact lv_tableIn (off := 783) (tgt := 816) S.1 S.2.1 dl33 (by omega) (by omega) (by rw [h20]; rfl) (by decide) (law_c20 C0 t20 hL hii hP hI hD hS hl hce hsl hnext)
      · exact lv_tableIn (off := 826) (tgt := 859) S.1 S.2.1 dl33 (by omega) (by omega) (by rw [h21]; rfl) (by decide) (law_c21 C0 t21 hL hii hP hI hD hS hl hce hsl hnext)
      · exact lv_tableIn (off := 869) (tgt := 902) S.1 S.2.1 dl33 (by omega) (by omega) (by rw [h22]; rfl) (by decide) (law_c22 C0 t22 hL hii hP hI hD hS hl hce hsl hnext)
      · exact lv_tableIn (off := 912) (tgt := 945) S.1 S.2.1 dl33 (by omega) (by omega) (by rw [h23]; rfl) (by decide) (law_c23 C0 t23 hL hii hP hI hD hS hl hce hsl hnext)
      · exact lv_tableIn (off := 955) (tgt := 988) S.1 S.2.1 dl33 (by omega) (by omega) (by rw [h24]; rfl) (by decide) (law_c24 C0 t24 hL hii hP hI hD hS hl hce hsl hnext)
      · exact lv_tableIn (off := 968) (tgt := 1001) S.1 S.2.1 dl33 (by omega) (by omega) (by rw [h25]; rfl) (by decide) (law_c25 C0 t25 hL hii hP hI hD hS hl hce hsl hnext)
      · exact lv_tableIn (off := 991) (tgt := 1024) S.1 S.2.1 dl33 (by omega) (by omega) (by rw [h26]; rfl) (by decide) (law_c26 C0 t26 hL hii hP hI hD hS hl hce hsl hnext)
      · exact lv_tableIn (off := 1014) (tgt := 1047) S.1 S.2.1 dl33 (by omega) (by omega) (by rw [h27]; rfl) (by decide) (law_c27 C0 t27 hL hii hP hI hD hS hl hce hsl hnext)
      · exact lv_tableIn (off := 1037) (tgt := 1070) S.1 S.2.1 dl33 (by omega) (by omega) (by rw [h28]; rfl) (by decide) (law_c28 C0 t28 hL hii hP hI hD hS hl hce hsl hnext)
      · exact lv_tableIn (off := 1060) (tgt := 1093) S.1 S.2.1 dl33 (by omega) (by omega) (by rw [h29]; rfl) (by decide) (law_c29 C0 t29 hL hii hP hI hD hS hl hce hsl hnext)
      · exact lv_tableIn (off := 1103) (tgt := 1136) S.1 S.2.1 dl33 (by omega) (by omega) (by rw [h30]; rfl) (by decide) (law_c30 C0 t30 hL hii hP hI hD hS hl hce hsl hnext)
      · exact lv_tableIn (off := 1146) (tgt := 1179) S.1 S.2.1 dl33 (by omega) (by omega) (by rw [h31]; rfl) (by decide) (law_c31 C0 t31 hL hii hP hI hD hS hl hce hsl hnext)
      · exact lv_tableIn (off := 1169) (tgt := 1202) S.1 S.2.1 dl33 (by omega) (by omega) (by rw [h32]; rfl) (by decide) (law_c32 C0 t32 hL hii hP hI hD hS hl hce hsl hnext)
      · exact lv_tableIn (off := 1182) (tgt := 1215) S.1 S.2.1 dl33 (by omega) (by omega) (by rw [h33]; rfl) (by decide) (law_c33 C0 t33 hL hii hP hI hD hS hl hce hsl hnext)
      · exact lv_tableIn (off := 1225) (tgt := 1258) S.1 S.2.1 dl33 (by omega) (by omega) (by rw [h34]; rfl) (by decide) (law_c34 C0 t34 hL hii hP hI hD hS hl hce hsl hnext)
      · exact lv_tableIn (off := 1268) (tgt := 1301) S.1 S.2.1 dl33 (by omega) (by omega) (by rw [h35]; rfl) (by decide) (law_c35 C0 t35 hL hii hP hI hD hS hl hce hsl hnext)
      · exact lv_tableIn (off := 1343) (tgt := 1376) S.1 S.2.1 dl33 (by omega) (by omega) (by rw [h36]; rfl) (by decide) (law_c36 C0 t36 hL hii hP hI hD hS hl hce hsl hnext)
      · exact lv_tableIn (off := 1376) (tgt := 1409) S.1 S.2.1 dl33 (by omega) (by omega) (by rw [h37]; rfl) (by decide) (law_c37 C0 t37 hL hii hP hI hD hS hl hce hsl hnext)
      · exact lv_tableIn (off := 1399) (tgt := 1432) S.1 S.2.1 dl33 (by omega) (by omega) (by rw [h38]; rfl) (by decide) (law_c38 C0 t38 hL hii hP hI hD hS hl hce hsl hnext)
      · exact lv_tableIn (off := 1422) (tgt := 1455) S.1 S.2.1 dl33 (by omega) (by omega) (by rw [h39]; rfl) (by decide) (law_c39 C0 t39 hL hii hP hI hD hS hl hce hsl hnext)
      · exact lv_tableIn (off := 1455) (tgt := 1488) S.1 S.2.1 dl33 (by omega) (by omega) (by rw [h40]; rfl) (by decide) (law_c40 C0 t40 hL hii hP hI hD hS hl hce hsl hnext)
      · exact lv_tableIn (off := 1478) (tgt := 1511) S.1 S.2.1 dl33 (by omega) (by omega) (by rw [h41]; rfl) (by decide) (law_c41 C0 t41 hL hii hP hI hD hS hl hce hsl hnext)
      · exact lv_tableIn (off := 1501) (tgt := 1534) S.1 S.2.1 dl33 (by omega) (by omega) (by rw [h42]; rfl) (by decide) (law_c42 C0 t42 hL hii hP hI hD hS hl hce hsl hnext)
      · exact lv_tableIn (off := 1544) (tgt := 1577) S.1 S.2.1 dl33 (by omega) (by omega) (by rw [h43]; rfl) (by decide) (law_c43 C0 t43 hL hii hP hI hD hS hl hce hsl hnext)
      · exact lv_tableIn (off := 1557) (tgt := 1590) S.1 S.2.1 dl33 (by omega) (by omega) (by rw [h44]; rfl) (by decide) (law_c44 C0 t44 hL hii hP hI hD hS hl hce hsl hnext)
      · exact lv_tableIn (off := 1590) (tgt := 1623) S.1 S.2.1 dl33 (by omega) (by omega) (by rw [h45]; rfl) (by decide) (law_c45 C0 t45 hL hii hP hI hD hS hl hce hsl hnext)
      · exact lv_tableIn (off := 1623) (tgt := 1656) S.1 S.2.1 dl33 (by omega) (by omega) (by rw [h46]; rfl) (by decide) (law_c46 C0 t46 hL hii hP hI hD hS hl hce hsl hnext)
      · exact lv_tableIn (off := 1646) (tgt := 1679) S.1 S.2.1 dl33 (by omega) (by omega) (by rw [h47]; rfl) (by decide) (law_c47 C0 t47 hL hii hP hI hD hS hl hce hsl hnext)
      · exact lv_tableIn (off := 1679) (tgt := 1712) S.1 S.2.1 dl33 (by omega) (by omega) (by rw [h48]; rfl) (by decide) (law_c48 C0 t48 hL hii hP hI hD hS hl hce hsl hnext)
      · exact lv_tableIn (off := 1693) (tgt := 1726) S.1 S.2.1 dl33 (by omega) (by omega) (by rw [h49]; rfl) (by decide) (law_c49 C0 t49 hL hii hP hI hD hS hl hce hsl hnext)
      · exact lv_tableIn (off := 1706) (tgt := 1739) S.1 S.2.1 dl33 (by omega) (by omega) (by rw [h50]; rfl) (by decide) (law_c50 C0 t50 hL hii hP hI hD hS hl hce hsl hnext)
      · exact lv_tableIn (off := 1729) (tgt := 1762) S.1 S.2.1 dl33 (by omega) (by omega) (by rw [h51]; rfl) (by decide) (law_c51 C0 t51 hL hii hP hI hD hS hl hce hsl hnext)
      · exact lv_tableOut (tgt := 1775) S.1 S.2.1 dl33 (Or.inr (by omega)) (by decide) (hnext H locs I F hP hI hS)
    · refine lv_icmp_gt (tgt := 1781) S.1 S.2.1 dl24 (by decide) (fun _ => ?_) (fun h => absurd (law_lt hL hi4 (by omega)) h)
      refine lv_iconst (v := 1) S.1 S.2.1 dl1781 (by decide) ?_
      exact hend H locs ls hS
section ZW
variable {p : Program} {l : Launch} {e : Env} {s : State} {m : MethodId} {args : Array Value} {below : List Frame} {meth : Method} {c : Code} {H : Heap} {locs : List Loc} {cells slots : Nat} {Q : State → Prop} {A : Nat → Prop} {ls : Array Slot}
theorem w_new {cc : ByteArray} {nL pc idx ci0 b o N n : Nat} {own C : String} {T : u_T} {g : GG} {WI : WIl} {WR : WRl} {R : Room} {rest : List Value} (S : CallFix p m c cc nL s args lw_gd own) (hK : va_K g.1 vwCl (tyG g) s) (hJ : InvA n WI WR) (hP : va_P g.1 vwCl (AW g n WI WR) H) (hD : va_D A (AW g n WI WR)) (hS : va_S A s.heap H locs) (hA : ∀ q, s.heap.size ≤ q → A q) (hp : PL[n]? = some (b, o)) (hc : vwCl[ci0]? = some (C, T, N)) (hk : K0 b o = (0, ci0)) (hty : ∀ j, j < N → ∃ ty, parseFieldDescriptor (T j).2.2.1 = some ty ∧ defaultValue ty = vp_V ((nth zFT ci0 []).map (fun t => match t with | 0 => Value.int 0 | 1 => Value.float 0 | _ => Value.null)) j) (w1 : Cond.classLink own idx C ∈ lw_gd) (w2 : Cond.instantiable C N ∈ lw_gd) (w3 : Cond.initialized C ∈ lw_gd) (hce : cells + 1 ≤ R.cells) (hsl : slots + N ≤ R.slots) (hd : decode cc pc = .ok (.new idx, 3))
    (kk : ∀ (q : Nat) (H1 : Heap), zad (gset g n q) (b, o) = q → va_P (gset g n q).1 vwCl (AW (gset g n q) (n + 1) WI WR) H1 → va_D A (AW (gset g n q) (n + 1) WI WR) → va_S A s.heap H1 locs → W p l e R s m args below meth c H1 locs (cells + 1) (slots + N) Q (F0 m (pc + 3) ls (.ref q :: rest))) : W p l e R s m args below meth c H locs cells slots Q (F0 m pc ls rest) := by
  obtain ⟨ty0, hty0⟩ := (zCls_all _ _ _ _ hc).2.1
  refine va_new (ci := ci0) (fs := (nth zFT ci0 []).map (fun t => match t with | 0 => Value.int 0 | 1 => Value.float 0 | _ => Value.null)) S.1 S.2.1 S.2.2.2.2 (zCls_all _ _ _ _ hc).1 ty0 hty0 S.2.2.2.1 (S.2.2.2.2 _ w1) (S.2.2.2.2 _ w2) (S.2.2.2.2 _ w3) hK hP hD hS hA hc (fun j hj => by obtain ⟨ty, h1, h2⟩ := hty j hj; rw [hty0 j hj] at h1; cases h1; exact h2) hce hsl hd (fun q H1 hP1 hD1 hS1 => ?_)
  have hAm := A_made (g := g) (q := q) hp hJ (fun g' _ => zobj_new hk (dI_new hJ.1 (new_not hp)) (dR_new hJ.2 (new_not hp)))
  refine kk q H1 (by unfold zad; rw [show ix b o = n from PL_okL n (b, o) hp, gset_at]) ?_ ?_ hS1
  · rw [hAm]; exact hP1
  · rw [hAm]; exact hD1
theorem w_init {cc : ByteArray} {nL pc idx n n2 : Nat} {own : String} {g : GG} {WI WI2 : WIl} {WR WR2 : WRl} {R : Room} {rest : List Value} {m1 : MR} {q : Nat × Nat} (S : CallFix p m c cc nL s args lw_gd own) (hN : NstOK s) (hO : va_AO "StartLedger$State" s) (hK : va_K g.1 vwCl (tyG g) s) (hJ : InvA n WI WR) (hP : va_P g.1 vwCl (AW g n WI WR) H) (hD : va_D A (AW g n WI WR)) (hS : va_S A s.heap H locs) (hA : ∀ q, s.heap.size ≤ q → A q) (hls : ls.size = nL) (hd : decode cc pc = .ok (.invokespecial idx, 3)) (w1 : Cond.methodLink own idx m1.1 ∈ lw_gd) (w2 : CW m1) (w3 : Cond.initialized m1.1.cls ∈ lw_gd) (w4 : Cond.instanceMethod m1.1 ∈ lw_gd) (hin : m1.1.name = "<init>") (hret : m1.2.2.2.1 = none) (hds : zdesc m1 0) (hf0 : m1.2.2.2.2.2.1 + 1 ≤ R.frames) (hl0 : 8 + (m1.2.2.1 + 11) + m1.2.2.2.2.2.2 ≤ R.locals) (hst : (rest.map fun v => v.category).sum ≤ 8) (hq : okA (PL.take n) q) (hM : MetA m1 q n WI WR n2 WI2 WR2) (hce : cells + (n2 - n) ≤ R.cells) (hsl : slots + (SZ n2 - SZ n) ≤ R.slots)
    (kk : ∀ (g1 : GG) (H1 : Heap) (locs1 : List Loc), agr n g g1 → InvA n2 WI2 WR2 → va_P g1.1 vwCl (AW g1 n2 WI2 WR2) H1 → va_D A (AW g1 n2 WI2 WR2) → va_S A s.heap H1 locs1 → W p l e R s m args below meth c H1 locs1 (cells + (n2 - n)) (slots + (SZ n2 - SZ n)) Q (F0 m (pc + 3) ls rest)) : W p l e R s m args below meth c H locs cells slots Q (F0 m pc ls (.ref (zad g q) :: rest)) := by
  have hts := S.2.2.2.2
  have hMm := hM.2 hq hJ g l H.size
  have cw : CallB R s args own idx m1.1 m1.2.1 m1.2.2.1 none (wsM m1) (rmA m1 (n2 - n) (SZ n2 - SZ n)) (n2 - n) (SZ n2 - SZ n) 0 ∧ m1.1.name = "<init>" ∧ (Cond.instanceMethod m1.1).before args s = true := ⟨callB_of 0 hts (gd_good w2) (by unfold wsM; rw [hret]) rfl rfl (hts _ w3) (hts _ w1) hds ⟨hf0, hl0⟩, hin, hts _ w4⟩
  have hrun := va_runI (H := H) (locs := locs) (cells := cells) (slots := slots) (below := below) (meth := meth) (e := e) (b := zad g q) (As := []) (rest := rest) (g := F0 m pc ls (.ref (zad g q) :: rest)) S hMm cw ⟨zPa_blind, fun U hU hW => ⟨rfl, by rw [hU], by rw [hU]; exact hP, va_K.moved hW.alike hK, hD.weaken (fun _ _ _ _ => trivial), hN.warm hW, hO.moved hW.alike⟩⟩ rfl rfl hls rfl (lv_room hst) hd ⟨hce, hsl⟩
  exact z_callA hrun hS (z_vaA hD hS hA) kk
end ZW
theorem new_ty {c N : Nat} {T : u_T} (h : (List.range N).all (fun j => match parseFieldDescriptor (T j).2.2.1 with | some ty => decide (defaultValue ty = vp_V ((nth zFT c []).map (fun t => match t with | 0 => Value.int 0 | 1 => Value.float 0 | _ => Value.null)) j) | none => false) = true) : ∀ j, j < N → ∃ ty, parseFieldDescriptor (T j).2.2.1 = some ty ∧ defaultValue ty = vp_V ((nth zFT c []).map (fun t => match t with | 0 => Value.int 0 | 1 => Value.float 0 | _ => Value.null)) j := by
  intro j hj
  have h2 := List.all_eq_true.mp h j (List.mem_range.mpr hj)
  split at h2
  · rename_i ty hty
    exact ⟨ty, hty, of_decide_eq_true h2⟩
  · cases h2
theorem SZ1 : SZ 1 = 7 := by decide +kernel
theorem SZa : SZ 438 = 5957 := by decide +kernel
theorem SZb : SZ (438 + 1) = 5957 + 34 := by decide +kernel
theorem SZc : SZ 464 = 43899 := by decide +kernel
theorem SZ0 : SZ 0 = 0 := rfl
set_option maxHeartbeats 4000000 in
set_option maxRecDepth 100000 in
/-- THE LAW from its entry, out of an invariant that the start has and every call keeps -/
theorem whole_of {Inv : IM → FM → Prop} (hst : StpAll Inv) (h0 : Inv I00 Fz) {p : Program} {e : Env} {s : State} {m : MethodId} {below : List Frame} {meth : Method} {c : Code} (l : Launch) {b L : Nat} {xs : Nat → Int32} (hL : L ≤ 3584) (C0 : lw_At p s m meth c b L xs) : W p l e room_1 s m #[Value.ref b] below meth c s.heap [] 0 0 (lw_Z below #[Value.ref b] s) (entryFrame m ([Value.ref b] : List Value).toArray 4) := by
  obtain ⟨hx, hb, hr, hml, hown, hts, hX, hbl, hlocks, -⟩ := C0
  have hA : ∀ q : Nat, s.heap.size ≤ q → (fun q : Nat => s.heap.size ≤ q) q := fun _ h => h
  have hbA : ¬ (fun q : Nat => s.heap.size ≤ q) b := Nat.not_le.mpr hbl
  have hN : NstOK s := NstOK.of hts
  have hO : va_AO "StartLedger$State" s := va_AO.of (hts (.arrayOver (.object "StartLedger$State")) (List.mem_of_getElem? (i := 394) (by decide +kernel)))
  obtain ⟨c0, iS0, hKn0⟩ := u_known (C := RX0) (T := TX0) (N := 6) (n := 6) hts (fun w hw => (List.mem_filter.mp (zinX0 w hw)).1) (hts (.instantiable RX0 6) (List.mem_of_getElem? (i := 109) (by decide +kernel)))
  obtain ⟨c1, iS1, hKn1⟩ := u_known (C := RX1) (T := TX1) (N := 3) (n := 3) hts (fun w hw => (List.mem_filter.mp (zinX1 w hw)).1) (hts (.instantiable RX1 3) (List.mem_of_getElem? (i := 144) (by decide +kernel)))
  obtain ⟨c2, iS2, hKn2⟩ := u_known (C := RX2) (T := TX2) (N := 6) (n := 6) hts (fun w hw => (List.mem_filter.mp (zinX2 w hw)).1) (hts (.instantiable RX2 6) (List.mem_of_getElem? (i := 388) (by decide +kernel)))
  obtain ⟨c3, iS3, hKn3⟩ := u_known (C := RX3) (T := TX3) (N := 9) (n := 9) hts (fun w hw => (List.mem_filter.mp (zinX3 w hw)).1) (hts (.instantiable RX3 9) (List.mem_of_getElem? (i := 333) (by decide +kernel)))
  obtain ⟨c4, iS4, hKn4⟩ := u_known (C := RX4) (T := TX4) (N := 10) (n := 10) hts (fun w hw => (List.mem_filter.mp (zinX4 w hw)).1) (hts (.instantiable RX4 10) (List.mem_of_getElem? (i := 165) (by decide +kernel)))
  obtain ⟨c5, iS5, hKn5⟩ := u_known (C := RX6) (T := TX6) (N := 9) (n := 9) hts (fun w hw => (List.mem_filter.mp (zinX6 w hw)).1) (hts (.instantiable RX6 9) (List.mem_of_getElem? (i := 208) (by decide +kernel)))
  obtain ⟨c6, iS6, hKn6⟩ := u_known (C := RX7) (T := TX7) (N := 2) (n := 2) hts (fun w hw => (List.mem_filter.mp (zinX7 w hw)).1) (hts (.instantiable RX7 2) (List.mem_of_getElem? (i := 373) (by decide +kernel)))
  obtain ⟨c7, iS7, hKn7⟩ := u_known (C := RX8) (T := TX8) (N := 4) (n := 4) hts (fun w hw => (List.mem_filter.mp (zinX8 w hw)).1) (hts (.instantiable RX8 4) (List.mem_of_getElem? (i := 255) (by decide +kernel)))
  obtain ⟨c8, iS8, hKn8⟩ := u_known (C := RX9) (T := TX9) (N := 4) (n := 4) hts (fun w hw => (List.mem_filter.mp (zinX9 w hw)).1) (hts (.instantiable RX9 4) (List.mem_of_getElem? (i := 278) (by decide +kernel)))
  obtain ⟨c9, iS9, hKn9⟩ := u_known (C := RX10) (T := TX10) (N := 7) (n := 7) hts (fun w hw => (List.mem_filter.mp (zinX10 w hw)).1) (hts (.instantiable RX10 7) (List.mem_of_getElem? (i := 103) (by decide +kernel)))
  obtain ⟨c10, iS10, hKn10⟩ := u_known (C := RX11) (T := TX11) (N := 7) (n := 7) hts (fun w hw => (List.mem_filter.mp (zinX11 w hw)).1) (hts (.instantiable RX11 7) (List.mem_of_getElem? (i := 95) (by decide +kernel)))
  obtain ⟨c11, iS11, hKn11⟩ := u_known (C := RX12) (T := TX12) (N := 34) (n := 34) hts (fun w hw => (List.mem_filter.mp (zinX12 w hw)).1) (hts (.instantiable RX12 34) (List.mem_of_getElem? (i := 1185) (by decide +kernel)))
  obtain ⟨dC, dI0, hKc⟩ : ∃ (dC : Nat → ClassId) (dI0 : Nat → Nat → Nat), ∀ (k : Nat) (q : vw_C), vwCl[k]? = some q → u_Kn s q.1 q.2.1 q.2.2 (dC k) (dI0 k) := by
    refine ⟨fun k => match k with | 0 => c0 | 1 => c1 | 2 => c2 | 3 => c3 | 4 => c4 | 5 => c5 | 6 => c6 | 7 => c7 | 8 => c8 | 9 => c9 | 10 => c10 | _ => c11, fun k => match k with | 0 => iS0 | 1 => iS1 | 2 => iS2 | 3 => iS3 | 4 => iS4 | 5 => iS5 | 6 => iS6 | 7 => iS7 | 8 => iS8 | 9 => iS9 | 10 => iS10 | _ => iS11, ?_⟩
    intro k q hq
    match k, hq with
    | 0, hq => cases hq; exact hKn0
    | 1, hq => cases hq; exact hKn1
    | 2, hq => cases hq; exact hKn2
    | 3, hq => cases hq; exact hKn3
    | 4, hq => cases hq; exact hKn4
    | 5, hq => cases hq; exact hKn5
    | 6, hq => cases hq; exact hKn6
    | 7, hq => cases hq; exact hKn7
    | 8, hq => cases hq; exact hKn8
    | 9, hq => cases hq; exact hKn9
    | 10, hq => cases hq; exact hKn10
    | 11, hq => cases hq; exact hKn11
    | k + 12, hq => simp [vwCl] at hq
  obtain ⟨a0, ka0, co0, x01, x02, x03⟩ := Cond.arrayClass_spec (hts (.arrayClass .int) (List.mem_of_getElem? (i := 142) (by decide +kernel)))
  obtain ⟨a1, ka1, co1, x11, x12, x13⟩ := Cond.arrayClass_spec (hts (.arrayClass .boolean) (List.mem_of_getElem? (i := 371) (by decide +kernel)))
  obtain ⟨a2, ka2, co2, x21, x22, x23⟩ := Cond.arrayClass_spec (hts (.arrayClass .float) (List.mem_of_getElem? (i := 1293) (by decide +kernel)))
  obtain ⟨cm, a3, ka3, x31, -, x33, x34, x35⟩ := Cond.arrayOver_spec hO
  have hK : va_K (dC, dI0) vwCl (tyG ((dC, dI0), (a0, a1, a2, a3), fun _ => 0)) s := by
    refine ⟨hKc, fun k q hq => ?_⟩
    match k, hq with
    | 0, hq => cases hq; exact ⟨fun n z => ⟨(fun k h => by cases h), ka0, x02, co0, x03⟩, x01⟩
    | 1, hq => cases hq; exact ⟨fun n z => ⟨(fun k h => by cases h), ka1, x12, co1, x13⟩, x11⟩
    | 2, hq => cases hq; exact ⟨fun n z => ⟨(fun k h => by cases h), ka2, x22, co2, x23⟩, x21⟩
    | 3, hq => cases hq; exact ⟨fun n z => ⟨(fun k h => by cases h), ka3, x33, cm, x34⟩, ⟨ka3, cm, x33, x34, x31, x35⟩⟩
    | k + 4, hq => simp [tyG] at hq
  generalize hg : (((dC, dI0), (a0, a1, a2, a3), fun _ => 0) : GG) = g at hK
  have hg1 : g.1 = (dC, dI0) := by rw [← hg]
  rw [← hg1] at hK
  clear hKc
  have S : CallFix p m c code 4 s #[Value.ref b] lw_gd "StartLedgerLaw" := ⟨hx, hb, hml, hown, fun w hw => hts w (List.mem_filter.mp hw).1⟩
  have hJ : InvA 0 [] [] := ⟨(fun e h => by cases h), (fun e h => by cases h)⟩
  have hP : va_P g.1 vwCl (AW g 0 [] []) s.heap := fun k q h => by simp [AW, wsL] at h
  have hD : va_D (fun q : Nat => s.heap.size ≤ q) (AW g 0 [] []) := ⟨fun i j p q h => by simp [AW, wsL] at h, fun k q h => by simp [AW, wsL] at h⟩
  have hS : va_S (fun q : Nat => s.heap.size ≤ q) s.heap s.heap [] := va_S.rf
  have hl := lv_entry ([.ref b]) (n := 4) (Nat.le_of_ble_eq_true rfl)
  rw [lg_entry_eq]
  generalize (lg_sl ([.ref b]) ++ List.replicate (4 - (lg_sl ([.ref b])).length) Slot.unset).toArray = ls at hl ⊢
  have hl : lv_has ls 4 [(0, .ref b)] := hl
  refine w_new (n := 0) (b := 0) (o := 0) (ci0 := 10) (C := RX11) (T := TX11) (N := 7) S hK hJ hP hD hS hA rfl rfl rfl (new_ty (by decide +kernel)) (hasW_mem (i := 94) (by decide +kernel) : Cond.classLink "StartLedgerLaw" 7 RX11 ∈ lw_gd) (hasW_mem (i := 95) (by decide +kernel) : Cond.instantiable RX11 7 ∈ lw_gd) (hasW_mem (i := 76) (by decide +kernel) : Cond.initialized RX11 ∈ lw_gd) (Nat.le_of_ble_eq_true rfl) (Nat.le_of_ble_eq_true rfl) dl0 (fun q0 H0 hz0 hP hD hS => ?_)
  refine lv_dup S.1 S.2.1 dl3 rfl ?_
  have hJ1 : InvA 1 [] [] := ⟨(fun e h => by cases h), (fun e h => by cases h)⟩
  have hK1 : va_K (gset g 0 q0).1 vwCl (tyG (gset g 0 q0)) s := hK
  generalize hgg : gset g 0 q0 = g1 at hP hD hK1 hz0
  rw [← hz0]
  refine w_init (m1 := zMA 115) (q := (0, 0)) (n := 1) (n2 := 438) (WI2 := zWI1) (WR2 := zWR1) (rest := [.ref (zad g1 (0, 0))]) S hN hO hK1 hJ1 hP hD hS hA hl.1 dl4 (hasW_mem (i := 96) (by decide +kernel) : Cond.methodLink "StartLedgerLaw" 9 (zMA 115).1 ∈ lw_gd) (CWA_all 115) (hasW_mem (i := 76) (by decide +kernel) : Cond.initialized (zMA 115).1.cls ∈ lw_gd) (hasW_mem (i := 97) (by decide +kernel) : Cond.instanceMethod (zMA 115).1 ∈ lw_gd) (by decide +kernel) (by decide +kernel) ⟨by decide +kernel, by decide +kernel, by decide +kernel⟩ (by decide +kernel) (by decide +kernel) (by show (1 : Nat) ≤ 8; decide) (by show (PL.take 1)[ix 0 0]? = some (0, 0); decide +kernel) (rA_met zMk1_ok) (Nat.le_of_ble_eq_true rfl) (by rw [SZa, SZ1]; exact Nat.le_of_ble_eq_true rfl) (fun g2 H2 locs2 ha2 hJ2 hP hD hS => ?_)
  refine lv_astore_n (lv' := [(1, .ref (zad g1 (0, 0))), (0, .ref b)]) S.1 S.2.1 dl7 rfl hl (by decide) rfl (fun ls hl => ?_)
  have hK2 : va_K g2.1 vwCl (tyG g2) s := by rw [ha2.1, show tyG g2 = tyG g1 by unfold tyG; rw [ha2.2.1]]; exact hK1
  have hzS : zad g2 (0, 0) = zad g1 (0, 0) := zad_agr ha2 (by show (PL.take 1)[ix 0 0]? = some (0, 0); decide +kernel)
  rw [← hzS] at hl
  refine w_new (n := 438) (b := 1) (o := 0) (ci0 := 11) (C := RX12) (T := TX12) (N := 34) S hK2 hJ2 hP hD hS hA (by decide +kernel) rfl rfl (new_ty (by decide +kernel)) (hasW_mem (i := 1184) (by decide +kernel) : Cond.classLink "StartLedgerLaw" 10 RX12 ∈ lw_gd) (hasW_mem (i := 1185) (by decide +kernel) : Cond.instantiable RX12 34 ∈ lw_gd) (hasW_mem (i := 87) (by decide +kernel) : Cond.initialized RX12 ∈ lw_gd) (Nat.le_of_ble_eq_true rfl) (by rw [SZa, SZ1]; exact Nat.le_of_ble_eq_true rfl) dl8 (fun q3 H3 hz3 hP hD hS => ?_)
  refine lv_dup S.1 S.2.1 dl11 rfl ?_
  have hK3 : va_K (gset g2 438 q3).1 vwCl (tyG (gset g2 438 q3)) s := hK2
  have ha3 : agr 438 g2 (gset g2 438 q3) := gset_agr
  generalize gset g2 438 q3 = g3 at hP hD hK3 hz3 ha3
  have hok0 : okA (PL.take 438) (0, 0) := by show (PL.take 438)[ix 0 0]? = some (0, 0); decide +kernel
  rw [← zad_agr ha3 hok0] at hl
  rw [← hz3]
  refine w_init (m1 := zMA 183) (q := (1, 0)) (n := 438 + 1) (n2 := 464) (WI2 := zWI2) (WR2 := zWR2) (rest := [.ref (zad g3 (1, 0))]) S hN hO hK3 (hJ2.mono (by decide)) hP hD hS hA hl.1 dl12 (hasW_mem (i := 1186) (by decide +kernel) : Cond.methodLink "StartLedgerLaw" 12 (zMA 183).1 ∈ lw_gd) (CWA_all 183) (hasW_mem (i := 87) (by decide +kernel) : Cond.initialized (zMA 183).1.cls ∈ lw_gd) (hasW_mem (i := 1187) (by decide +kernel) : Cond.instanceMethod (zMA 183).1 ∈ lw_gd) (by decide +kernel) (by decide +kernel) ⟨by decide +kernel, by decide +kernel, by decide +kernel⟩ (by decide +kernel) (by decide +kernel) (by show (1 : Nat) ≤ 8; decide) (new_ok (by decide +kernel)) (rA_met zMk2_eq) (Nat.le_of_ble_eq_true rfl) (by rw [SZa, SZ1, SZb, SZc]; exact Nat.le_of_ble_eq_true rfl) (fun g4 H4 locs4 ha4 hJ4 hP hD hS => ?_)
  have hK4 : va_K g4.1 vwCl (tyG g4) s := by rw [ha4.1, show tyG g4 = tyG g3 by unfold tyG; rw [ha4.2.1]]; exact hK3
  have hok1 : okA (PL.take (438 + 1)) (1, 0) := new_ok (by decide +kernel)
  refine lv_astore_n (lv' := [(2, .ref (zad g3 (1, 0))), (1, .ref (zad g3 (0, 0))), (0, .ref b)]) S.1 S.2.1 dl15 rfl hl (by decide) rfl (fun ls hl => ?_)
  rw [← zad_agr ha4 hok1, ← zad_agr ha4 (okA_mono (by decide) hok0)] at hl
  refine lv_iconst (v := 0) S.1 S.2.1 dl16 (by decide) ?_
  refine lv_istore_n (lv' := [(3, .int 0), (2, .ref (zad g4 (1, 0))), (1, .ref (zad g4 (0, 0))), (0, .ref b)]) S.1 S.2.1 dl17 rfl hl (by decide) rfl (fun ls hl => ?_)
  have hP5 := AW_PL hP
  have hD5 : va_D (fun q : Nat => s.heap.size ≤ q) (wsL PL R0 g4 I00 Fz) := by
    have ht : PL.take 464 = PL := List.take_of_length_le (by rw [PL_len]; exact Nat.le_refl _)
    unfold AW at hD
    rw [ht] at hD
    exact wsL_D hD
  refine W.widen (k := 464) (n := 43899) (by decide) (by rw [SZa, SZ1, SZb, SZc]; exact Nat.le_of_ble_eq_true rfl) ?_
  refine law_loop (meth := meth) (g := g4) (xs := xs) (b := b) ⟨S, hN, hK4, hX, hbl, hbA⟩ hst hL (Nat.le_of_ble_eq_true rfl) (Nat.le_of_ble_eq_true rfl) (fun H locs ls hS => ?_) 600 0 (by omega) (by omega) H4 locs4 I00 Fz ls hP5 h0 hD5 hS (lv_sub hl [3, 2, 1, 0] rfl)
  refine va_forget hS.2.2 ?_
  refine W.widen (k := 600000) (n := 7302250) (Nat.le_of_ble_eq_true rfl) (Nat.le_of_ble_eq_true rfl) ?_
  exact lw_ret (d0 := s.drawn) (Drawn.sameBut.refl s.drawn lw_cs) hx hb hr hlocks dl1782
