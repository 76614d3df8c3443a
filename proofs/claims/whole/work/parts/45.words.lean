/-! WORDS: acts that may end in a refusal; what is said in a session -/
/-- an act that is remembered and ends in a refusal -/
theorem actr_of {I : IM} {F : FM} {yC yM e : Nat} {as bs : List Vl} {KC KM : IM → FM → Option Rs} {x y : Int32} {j : Nat} (act : Int32) (CC MM XX : IM → IM) (CF MF : FM → FM) (hI : InvC I F) (hj : j < 7)
    (ec : sem zN 9 yC as I F = bV (sem zN 8 28 [vR (some (0, 12)), vR (some (2, 0)), vI act] I F) KC)
    (em : ∀ J G, (∀ o k, J 1 o k = I 1 o k) → (∀ o k, G 1 o k = F 1 o k) → sem zN 9 yM bs J G = bV (sem zN (e + 2) 190 [vR (some (1, 0)), vI act] (XX J) G) KM)
    (ex : ∀ J, (∀ o k, J 1 o k = I 1 o k) → ∀ b o k, ¬ scM b o k → XX J b o k = J b o k)
    (hc : ∀ J G, agC I J F G → KC J G = some (vI y, rC (CC J) x j, CF G) ∧ pC J G (CC J) (CF G) ∧ CC J 0 0 6 = J 0 0 6)
    (hm : ∀ R H, agM I R F H → KM R H = some (vI y, rM (MM R) x (j + 1), MF H) ∧ pM R H (MM R) (MF H) ∧ MM R 1 0 1 = R 1 0 1)
    (hn : ∀ J R G H, agC I J F G → agM I R F H → CR (CC J 2) (CF G 2 1 5) (MM R 1 2) (MF H 1 0 4)) :
    ∃ (x : Int32) (I1 : IM) (F1 : FM) (I2 : IM) (F2 : FM), sem zN 9 yC as I F = some (vI x, I1, F1) ∧ sem zN 9 yM bs I1 F1 = some (vI x, I2, F2) ∧ InvC I2 F2 := by
  have hI' := hI
  obtain ⟨i1, ⟨n, q, h1, h2, h3, h4, h5, h6⟩, i3, i4, i5⟩ := hI'
  obtain ⟨J, k0, hK⟩ := keepC (N := zN) (d := 5) (I := I) (F := F) act h5 h2 h4 h1
  have k1 := hK.1
  have aC : agC I J F (wF F (q + 4) 1 5 (F 2 1 5)) := ⟨fun o k => k1 2 o k (by omega) (by omega) (by omega) (by omega), fun o k => k1 1 o k (by omega) (by omega) (by omega) (by omega), fun o k => by rw [wF_eq, if_neg (fun z => by omega)], fun o k => by rw [wF_eq, if_neg (fun z => by omega)]⟩
  obtain ⟨c1, ⟨c2, c3⟩, c4⟩ := hc J _ aC
  have b1 : ∀ o k, rC (CC J) x j 1 o k = I 1 o k := fun o k => by rw [rC_1, c2 1 o k (by omega) (by unfold scC; omega), aC.2.1]
  have g1 : ∀ o k, CF (wF F (q + 4) 1 5 (F 2 1 5)) 1 o k = F 1 o k := fun o k => by rw [c3 1 o k (by omega) (by omega), aC.2.2.2]
  have x1 := ex (rC (CC J) x j) b1
  obtain ⟨R, FR, r0, hR⟩ := remember (N := zN) (d := e) (I := XX (rC (CC J) x j)) (F := CF (wF F (q + 4) 1 5 (F 2 1 5))) zN_ge act h1 (by rw [x1 1 0 8 (by unfold scM; omega), b1, h3])
  have aM : agM I R F FR := ⟨fun k => by rw [hR.1 1 2 k (by omega), x1 1 2 k (by unfold scM; omega), b1], by rw [hR.2.1 1 0 4 (by omega), g1]⟩
  obtain ⟨m1, ⟨m2, m3⟩, m4⟩ := hm R FR aM
  refine ⟨y, rC (CC J) x j, CF (wF F (q + 4) 1 5 (F 2 1 5)), rM (MM R) x (j + 1), MF FR, ?_, ?_, ?_⟩
  · rw [ec, k0, bV_v, c1]
  · rw [em _ _ b1 g1, r0, bV_v, m1]
  · -- as if there were no refusal, then the refusal
    have hM0 : ∀ b o k, b ≠ 1 → MM R b o k = rC (CC J) x j b o k := fun b o k z => by
      rw [m2 b o k (fun y => z y.1) (fun y => z y.1) (fun y => z y.1), hR.1 b o k (fun y => z y.1), x1 b o k (fun y => z y.1)]
    have hrC : ∀ b o k, b ≠ 0 → rC (CC J) x j b o k = CC J b o k := fun b o k z => by
      unfold rC
      rw [wI_eq, if_neg (fun y => z y.1), wI_eq, if_neg (fun y => z y.1)]
    have hD : InvC (fun b o k => if b = 0 then CC J b o k else MM R b o k) (MF FR) := by
      refine Inv_mut (J := J) (C := CC J) (X := fun b o k => if b = 0 then CC J b o k else XX (rC (CC J) x j) b o k) (R := fun b o k => if b = 0 then CC J b o k else R b o k) hI h2 h1 h5 h4 h3 hK c2 c3 ?_ (FR := FR) ?_ ?_ m3 ?_ ?_
      · intro b o k z
        by_cases e0 : b = 0
        · rw [if_pos e0]
        · rw [if_neg e0, x1 b o k z, hrC b o k e0]
      · obtain ⟨r1, r2, r3, r4, r5, r6, r7⟩ := hR
        refine ⟨fun b o k z => ?_, r2, r3, r4, r5, r6, r7⟩
        try dsimp only
        by_cases e0 : b = 0
        · rw [if_pos e0, if_pos e0]
        · rw [if_neg e0, if_neg e0, r1 b o k z]
      · intro b o k z1 z2 z3
        by_cases e0 : b = 0
        · rw [if_pos e0, if_pos e0]
        · rw [if_neg e0, if_neg e0, m2 b o k z1 z2 z3]
      · exact hn J R _ FR aC aM
      · show CC J 0 0 6 = MM R 1 0 1
        rw [c4, k1 0 0 6 (by omega) (by omega) (by omega) (by omega), m4, hR.1 1 0 1 (by omega), x1 1 0 1 (by unfold scM; omega), b1, i4]
    refine Inv_rf hD hj ⟨fun b o k _ => ?_, fun o k => ?_, fun k => ?_, fun _ _ _ _ => rfl⟩
    · by_cases e0 : b = 0
      · subst e0
        rw [hM0 0 o k (by omega)]
        rfl
      · unfold rC
        rw [wI_eq, if_neg (fun y => e0 y.1), wI_eq, if_neg (fun y => e0 y.1), if_neg e0]
    · unfold rC
      rw [wI_eq, if_neg (fun y => by omega), wI_eq, if_neg (fun y => by omega), if_neg (by omega)]
    · unfold rC
      rw [wI_eq, if_neg (fun y => by omega), wI_eq, if_neg (fun y => by omega), if_neg (by omega)]
theorem bI_bV (r : Option Rs) (f : IM → FM → Option Rs) (g : Int32 → IM → FM → Option Rs) : bI (bV r f) g = bV r (fun I F => bI (f I F) g) := by
  match r with
  | some (v, I, F) => rfl
  | none => rfl
/-- the strain locks -/
def strd (f : UInt32) : Prop := ¬ (Op.cmpValue (FP.fcmp f (1077936128 : UInt32)) CmpOp.l) < 0
noncomputable def hrd (f : UInt32) (p w due : Int32) : Int32 := if (Op.cmpValue (FP.fcmp f (1077936128 : UInt32)) CmpOp.l) < 0 then (if p = 0 then (if w = due then 0 else -6) else p) else -3
noncomputable def stn (r : Int32) (f : UInt32) : UInt32 := if r = -6 then FP.fadd f FP.fconst1 else f
theorem wF_id (F : FM) (b o k : Nat) : wF F b o k (F b o k) = F := by
  funext b' o' k'
  rw [wF_eq]
  by_cases h : b' = b ∧ o' = o ∧ k' = k
  · obtain ⟨rfl, rfl, rfl⟩ := h
    rw [if_pos ⟨rfl, rfl, rfl⟩]
  · rw [if_neg h]
def c247 (gc gl : Nat → List Vl → IM → FM → Option Rs) (x1 x2 x3 x4 x5 : Int32) (I1 : IM) (F1 : FM) : Option Rs := (bI (gc 245 [vR (some (1, 0)), vI x1, vI x2, vI x3] I1 F1) (fun r2 I2 F2 => (if x5 = r2 then (bI (gc 198 [vI x1] I2 F2) (fun r3 I3 F3 => (if inb (r3 + (2 : Int32)) 406 then (bI (gc 188 [vI (I3 1 2 (r3 + (2 : Int32)).toNatClampNeg), vI x5] I3 F3) (fun r4 I4 F4 => (if inb (r3 + (2 : Int32)) 406 then (let I5 : IM := wI I4 1 2 (r3 + (2 : Int32)).toNatClampNeg r4; (bI (gc 246 [vR (some (1, 0))] I5 F4) (fun r6 I6 F6 => (if r6 = 0 then (if x4 = 0 then (if (1 : Int32) = 0 then (gl 87 [vR (some (1, 0)), vI (-6 : Int32)] I6 F6) else (gl 87 [vR (some (1, 0)), vI (0 : Int32)] I6 F6)) else (gl 87 [vR (some (1, 0)), vI x4] I6 F6)) else (gl 87 [vR (some (1, 0)), vI (-3 : Int32)] I6 F6))))) else none))) else none))) else (bI (gc 198 [vI x1] I2 F2) (fun r7 I7 F7 => (if inb (r7 + (2 : Int32)) 406 then (bI (gc 188 [vI (I7 1 2 (r7 + (2 : Int32)).toNatClampNeg), vI x5] I7 F7) (fun r8 I8 F8 => (if inb (r7 + (2 : Int32)) 406 then (let I9 : IM := wI I8 1 2 (r7 + (2 : Int32)).toNatClampNeg r8; (bI (gc 246 [vR (some (1, 0))] I9 F8) (fun r10 I10 F10 => (if r10 = 0 then (if x4 = 0 then (if (0 : Int32) = 0 then (gl 87 [vR (some (1, 0)), vI (-6 : Int32)] I10 F10) else (gl 87 [vR (some (1, 0)), vI (0 : Int32)] I10 F10)) else (gl 87 [vR (some (1, 0)), vI x4] I10 F10)) else (gl 87 [vR (some (1, 0)), vI (-3 : Int32)] I10 F10))))) else none))) else none))))))
theorem b247_c (gc gl : Nat → List Vl → IM → FM → Option Rs) (x0 x1 x2 x3 x4 x5 : Int32) (I : IM) (F : FM) : b247 gc gl x0 x1 x2 x3 x4 x5 I F = bV (gc 190 [vR (some (1, 0)), vI x0] I F) (c247 gc gl x1 x2 x3 x4 x5) := rfl
def due (c n : Int32) (u v : Int32) : Int32 := mixF (mixF (mixF (mixF 17 c) n) u) v
section WD
variable {N d s k nk : Nat} {I : IM} {F : FM}
theorem m245 (c n : Int32) (hs : s < 4) (hk : k < 10) (e1 : I 1 2 (371 + 4 * s) = nI k) : sem N (d + 2) 245 [vR (some (1, 0)), vI (nI s), vI c, vI n] I F = some (vI (due c n (I 1 2 (372 + 4 * s)) (I 1 2 (181 + 4 * k))), I, F) := by
  rw [s245]; unfold b245
  have i1 : inb (nI (370 + 4 * s + 1)) 406 := inb_nI (by omega) (by decide)
  have i2 : inb (nI (370 + 4 * s + 2)) 406 := inb_nI (by omega) (by decide)
  have k1 : inb (nI (180 + 4 * k + 1)) 406 := inb_nI (by omega) (by decide)
  have c1 : (nI (370 + 4 * s + 1)).toNatClampNeg = 371 + 4 * s := by rw [nI_clamp (by omega)]; omega
  have c2 : (nI (370 + 4 * s + 2)).toNatClampNeg = 372 + 4 * s := by rw [nI_clamp (by omega)]; omega
  have c3 : (nI (180 + 4 * k + 1)).toNatClampNeg = 181 + 4 * k := by rw [nI_clamp (by omega)]; omega
  simp only [m198, m194, m188, bI_v, L2, nI_add, nI_1, eq_true i1, eq_true i2, eq_true k1, ↓reduceIte, c1, c2, c3, e1, due]
theorem m246 : sem N (d + 1) 246 [vR (some (1, 0))] I F = some (vI (if (Op.cmpValue (FP.fcmp (F 1 0 4) (1077936128 : UInt32)) CmpOp.l) < 0 then 0 else 1), I, F) := by
  rw [s246]; unfold b246
  by_cases h : (Op.cmpValue (FP.fcmp (F 1 0 4) (1077936128 : UInt32)) CmpOp.l) < 0
  · rw [if_pos h, if_pos h]
  · rw [if_neg h, if_neg h]
theorem m8 {b : Nat} (hb : 2 ≤ b) : sem N (d + 1) 8 [vR (some (b, 1))] I F = some (vI (if (Op.cmpValue (FP.fcmp (F b 1 5) (1077936128 : UInt32)) CmpOp.l) < 0 then 0 else 1), I, F) := by
  obtain ⟨j, rfl⟩ := blk hb
  rw [s8]; unfold b8
  by_cases h : (Op.cmpValue (FP.fcmp (F (j + 2) 1 5) (1077936128 : UInt32)) CmpOp.l) < 0
  · rw [if_pos h, if_pos h]
  · rw [if_neg h, if_neg h]
/-- what the reference does with a word, once it has remembered -/
theorem l247 (hN : 2 ≤ N) (c n p w : Int32) (hs : s < 4) (hk : k < 10) (e1 : I 1 2 (371 + 4 * s) = nI k) (hnan : hrd (F 1 0 4) p w (due c n (I 1 2 (372 + 4 * s)) (I 1 2 (181 + 4 * k))) = -6 → (FP.fadd (F 1 0 4) FP.fconst1) &&& 0x7fffffff ≤ 0x7f800000) : c247 (sem N (d + 2)) (sg (sem N (d + 2)) 1 zc247 N) (nI s) c n p w I F = some (vI (hrd (F 1 0 4) p w (due c n (I 1 2 (372 + 4 * s)) (I 1 2 (181 + 4 * k)))), wI I 1 2 (372 + 4 * s) (mixF (I 1 2 (372 + 4 * s)) w), wF F 1 0 4 (stn (hrd (F 1 0 4) p w (due c n (I 1 2 (372 + 4 * s)) (I 1 2 (181 + 4 * k)))) (F 1 0 4))) := by
  have hg : ∀ (r : Int32) (J : IM), (r = -6 → (FP.fadd (F 1 0 4) FP.fconst1) &&& 0x7fffffff ≤ 0x7f800000) → sg (sem N (d + 2)) 1 zc247 N 87 [vR (some (1, 0)), vI r] J F = some (vI r, J, wF F 1 0 4 (stn r (F 1 0 4))) := fun r J hr => by
    obtain ⟨M, rfl⟩ : ∃ M, N = M + 1 := ⟨N - 1, by omega⟩
    rw [u247_87]; unfold b247_87 stn
    by_cases h : r = -6
    · rw [if_pos h, if_pos h, if_pos (hr h)]
    · rw [if_neg h, if_neg h]
  have i2 : inb (nI (370 + 4 * s + 2)) 406 := inb_nI (by omega) (by decide)
  have c2 : (nI (370 + 4 * s + 2)).toNatClampNeg = 372 + 4 * s := by rw [nI_clamp (by omega)]; omega
  have n1 : ¬ ((1 : Int32) = 0) := by decide
  unfold c247
  rw [m245 c n hs hk e1, bI_v]
  generalize due c n (I 1 2 (372 + 4 * s)) (I 1 2 (181 + 4 * k)) = dw at hnan ⊢
  unfold hrd at hnan ⊢
  by_cases hw : w = dw
  · rw [if_pos hw]
    simp only [m198, m188, bI_v, L2, nI_add, eq_true i2, ↓reduceIte, c2, m246]
    by_cases hf : (Op.cmpValue (FP.fcmp (F 1 0 4) (1077936128 : UInt32)) CmpOp.l) < 0
    · simp only [hf, ↓reduceIte, hw] at hnan ⊢
      by_cases hp : p = 0
      · simp only [hp, n1, ↓reduceIte] at hnan ⊢
        exact hg 0 _ hnan
      · simp only [hp, ↓reduceIte] at hnan ⊢
        exact hg p _ hnan
    · simp only [hf, n1, ↓reduceIte] at hnan ⊢
      exact hg (-3) _ hnan
  · rw [if_neg hw]
    simp only [m198, m188, bI_v, L2, nI_add, eq_true i2, ↓reduceIte, c2, m246]
    by_cases hf : (Op.cmpValue (FP.fcmp (F 1 0 4) (1077936128 : UInt32)) CmpOp.l) < 0
    · simp only [hf, ↓reduceIte, hw] at hnan ⊢
      by_cases hp : p = 0
      · simp only [hp, ↓reduceIte] at hnan ⊢
        exact hg (-6) _ (fun _ => hnan trivial)
      · simp only [hp, ↓reduceIte] at hnan ⊢
        exact hg p _ hnan
    · simp only [hf, n1, ↓reduceIte] at hnan ⊢
      exact hg (-3) _ hnan
theorem m248 (c n r : Int32) (hs : s < 4) : sem N (d + 2) 248 [vR (some (1, 0)), vI (nI s), vI c, vI n, vI r] I F = some (vI r, wI I 1 2 (373 + 4 * s) (mixF (I 1 2 (373 + 4 * s)) (mixF (mixF (mixF 17 c) n) r)), F) := by
  rw [s248]; unfold b248
  have i3 : inb (nI (370 + 4 * s + 3)) 406 := inb_nI (by omega) (by decide)
  have c3 : (nI (370 + 4 * s + 3)).toNatClampNeg = 373 + 4 * s := by rw [nI_clamp (by omega)]; omega
  simp only [m198, m188, bI_v, L3, nI_add, eq_true i3, ↓reduceIte, c3]
theorem m249 (hs : s < 4) : sem N (d + 2) 249 [vR (some (1, 0)), vI (nI s)] I F = some (vI (I 1 2 (371 + 4 * s)), I, F) := by
  rw [s249]; unfold b249
  have i1 : inb (nI (370 + 4 * s + 1)) 406 := inb_nI (by omega) (by decide)
  have c1 : (nI (370 + 4 * s + 1)).toNatClampNeg = 371 + 4 * s := by rw [nI_clamp (by omega)]; omega
  rw [m198, bI_v, nI_1, if_pos i1, c1]
theorem m179 (c n : Int32) (hs : s < 4) (hk : k < nk) (e1 : I 2 32 s = nI k) (e2 : I 2 10 3 = nI nk) (h10 : nk ≤ 10) : sem N (d + 3) 179 [vR (some (0, 0)), vI (nI s), vI c, vI n] I F = some (vI (due c n (I 2 33 s) (I 2 12 k)), I, F) := by
  rw [s179]; unfold b179
  have i4 : inb (nI s) 4 := inb_nI hs (by decide)
  have hkn : inb (nI k) nk := inb_nI hk (by omega)
  have c0 : (nI s).toNatClampNeg = s := nI_clamp (by omega)
  have ck : (nI k).toNatClampNeg = k := nI_clamp (by omega)
  have ho : ¬ nI k = -1 := fun w => nI_ne1 (by omega) w
  have c103 := m103 (N := N) (d := d + 1) (I := I) (F := F) (b := 2) (by omega) (nI s)
  have c51 := m51 (N := N) (d := d) (I := I) (F := F) (b := 2) (nk := nk) (by omega) (nI k) e2 h10
  simp only [c0, e1] at c103
  rw [if_pos hkn] at c51
  rw [ck] at c51
  simp only [c103, bI_v, ite_bzif, ho, not_false_eq_true, and_true, eq_true i4, ↓reduceIte, m74, m69, c0, e1, c51, due]
theorem m180 (c n p w : Int32) (hs : s < 4) (hk : k < nk) (e1 : I 2 32 s = nI k) (e2 : I 2 10 3 = nI nk) (h10 : nk ≤ 10) (hp6 : ¬ p = -6) (hnan : hrd (F 2 1 5) p w (due c n (I 2 33 s) (I 2 12 k)) = -6 → (FP.fadd (F 2 1 5) FP.fconst1) &&& 0x7fffffff ≤ 0x7f800000) : sem N (d + 4) 180 [vR (some (0, 0)), vI (nI s), vI c, vI n, vI w, vI (if (Op.cmpValue (FP.fcmp (F 2 1 5) (1077936128 : UInt32)) CmpOp.l) < 0 then p else -3)] I F = some (vI (hrd (F 2 1 5) p w (due c n (I 2 33 s) (I 2 12 k))), I, wF F 2 1 5 (stn (hrd (F 2 1 5) p w (due c n (I 2 33 s) (I 2 12 k))) (F 2 1 5))) := by
  rw [s180]; unfold b180
  have c179 := m179 (N := N) (d := d) (I := I) (F := F) c n hs hk e1 e2 h10
  generalize due c n (I 2 33 s) (I 2 12 k) = dw at c179 hnan ⊢
  unfold hrd stn at *
  have n3 : ¬ ((-3 : Int32) = 0) := by decide
  have n36 : ¬ ((-3 : Int32) = -6) := by decide
  have n06 : ¬ ((0 : Int32) = -6) := by decide
  by_cases hf : (Op.cmpValue (FP.fcmp (F 2 1 5) (1077936128 : UInt32)) CmpOp.l) < 0
  · simp only [hf, ↓reduceIte] at hnan ⊢
    by_cases hp : p = 0
    · simp only [hp, ↓reduceIte, c179, bI_v] at hnan ⊢
      by_cases hw : w = dw
      · simp only [hw, ↓reduceIte, n06, wF_id]
      · simp only [hw, ↓reduceIte] at hnan ⊢
        have := hnan trivial
        simp only [this, ↓reduceIte]
    · simp only [hp, hp6, ↓reduceIte, wF_id]
  · simp only [hf, n3, n36, ↓reduceIte, wF_id]
end WD
