/-! POLICY, POLICYNOW -/
theorem rf_s {I Y : IM} {F G : FM} {yC yM : Nat} {as bs : List Vl} {x y : Int32} {j : Nat} (hI : InvC I F) (hj : j < 7)
    (ec : sem zN 9 yC as I F = some (vI y, rC I x j, F))
    (em : sem zN 9 yM bs (rC I x j) F = some (vI y, rM Y x (j + 1), G)) (hs : smI (rC I x j) Y F G) :
    ∃ (x : Int32) (I1 : IM) (F1 : FM) (I2 : IM) (F2 : FM), sem zN 9 yC as I F = some (vI x, I1, F1) ∧ sem zN 9 yM bs I1 F1 = some (vI x, I2, F2) ∧ InvC I2 F2 :=
  ⟨y, _, _, _, _, ec, em, Inv_rf hI hj hs⟩
theorem act_k {I : IM} {F : FM} {yC yM e e' : Nat} {as bs : List Vl} {KC KM : IM → FM → Option Rs} {x : Int32} (act : Int32) (CC MM XX : IM → IM) (CF MF : FM → FM) (hI : InvC I F)
    (ec : sem zN 9 yC as I F = bV (sem zN (e' + 3) 28 [vR (some (0, 12)), vR (some (2, 0)), vI act] I F) KC)
    (em : ∀ J G, (∀ o k, J 1 o k = I 1 o k) → (∀ o k, G 1 o k = F 1 o k) → sem zN 9 yM bs J G = bV (sem zN (e + 2) 190 [vR (some (1, 0)), vI act] (XX J) G) KM)
    (ex : ∀ J, (∀ o k, J 1 o k = I 1 o k) → ∀ b o k, ¬ scM b o k → XX J b o k = J b o k)
    (hc : ∀ J G, agC I J F G → KC J G = some (vI x, CC J, CF G) ∧ okC J G (CC J) (CF G))
    (hm : ∀ R H, agM I R F H → KM R H = some (vI x, MM R, MF H) ∧ okMm R H (MM R) (MF H))
    (hn : ∀ J R G H, agC I J F G → agM I R F H → CR (CC J 2) (CF G 2 1 5) (MM R 1 2) (MF H 1 0 4)) :
    ∃ (x : Int32) (I1 : IM) (F1 : FM) (I2 : IM) (F2 : FM), sem zN 9 yC as I F = some (vI x, I1, F1) ∧ sem zN 9 yM bs I1 F1 = some (vI x, I2, F2) ∧ InvC I2 F2 := by
  have hI' := hI
  obtain ⟨i1, ⟨n, q, h1, h2, h3, h4, h5, h6⟩, i3, i4⟩ := hI'
  obtain ⟨J, k0, hK⟩ := keepC (N := zN) (d := e') (I := I) (F := F) act h5 h2 h4 h1
  have k1 := hK.1
  have aC : agC I J F (wF F (q + 4) 1 5 (F 2 1 5)) := ⟨fun o k => k1 2 o k (by omega) (by omega) (by omega) (by omega), fun o k => k1 1 o k (by omega) (by omega) (by omega) (by omega), fun o k => by rw [wF_eq, if_neg (fun z => by omega)], fun o k => by rw [wF_eq, if_neg (fun z => by omega)]⟩
  obtain ⟨c1, c2, c3, c4⟩ := hc J _ aC
  have b1 : ∀ o k, CC J 1 o k = I 1 o k := fun o k => by rw [c2 1 o k (by omega) (by unfold scC; omega), aC.2.1]
  have g1 : ∀ o k, CF (wF F (q + 4) 1 5 (F 2 1 5)) 1 o k = F 1 o k := fun o k => by rw [c3 1 o k (by omega) (by omega), aC.2.2.2]
  have x1 := ex (CC J) b1
  obtain ⟨R, FR, r0, hR⟩ := remember (N := zN) (d := e) (I := XX (CC J)) (F := CF (wF F (q + 4) 1 5 (F 2 1 5))) zN_ge act h1 (by rw [x1 1 0 8 (by unfold scM; omega), b1, h3])
  have aM : agM I R F FR := ⟨fun k => by rw [hR.1 1 2 k (by omega), x1 1 2 k (by unfold scM; omega), b1], by rw [hR.2.1 1 0 4 (by omega), g1]⟩
  obtain ⟨m1, m2, m3, m4⟩ := hm R FR aM
  refine ⟨x, CC J, CF (wF F (q + 4) 1 5 (F 2 1 5)), MM R, MF FR, ?_, ?_, ?_⟩
  · rw [ec, k0, bV_v, c1]
  · rw [em _ _ b1 g1, r0, bV_v, m1]
  · exact Inv_mut hI h2 h1 h5 h4 h3 hK c2 c3 x1 hR m2 m3 (hn J R _ FR aC aM) (by rw [c4, m4])
theorem tab_eq {f g : Nat → (Nat → Int32) → Int32} {n : Nat} (h : ∀ q t, q < n → f q t = g q t) {q : Nat} (hq : q < n) : tv f q = tv g q := by
  rw [← tv_lt (f := f) hq, ← tv_lt (f := g) hq, tab_congr h]
theorem op_pol {B B' : Nat → Nat → Int32} {a a' : Nat → Int32} {f g : UInt32} {nl nc nk nx np na ns : Nat} (h : CRep B f a g nl nc nk nx np na ns) {k x y : Int32} (hn : np < 24) (e0 : B' 20 np = k) (e1 : B' 21 np = x) (e2 : B' 22 np = y) (e3 : B' 23 np = mkd (B 23) k x y) (e4 : B' 24 np = nmd (B 24) k x y) (e5 : B' 19 5 = nI (np + 1)) (d0 : a' (268 + 3 * np) = k) (d1 : a' (269 + 3 * np) = x) (d2 : a' (270 + 3 * np) = y) (d3 : a' 15 = nI (np + 1)) (hok : plOK a' nk np) (hB : ∀ o i, cpd o i → ¬ (((o = 20 ∨ o = 21 ∨ o = 22 ∨ o = 23 ∨ o = 24) ∧ i = np) ∨ (o = 19 ∧ i = 5)) → B' o i = B o i) (ha : ∀ i, i < 406 → ¬ ((268 + 3 * np ≤ i ∧ i ≤ 270 + 3 * np) ∨ i = 15) → a' i = a i) : CRep B' f a' g nl nc nk nx (np + 1) na ns := by
  obtain ⟨h0, h1, h2, h3, h4, h5, h6, h7⟩ := h
  obtain ⟨q1, q2, q3, q4, q5, q6, q7, q8⟩ := h5
  have hm : ∀ q t, q < np → mdT a' q t = mdT a q t := fun q t hq => by unfold mdT; rw [ha (268 + 3 * q) (by omega) (by omega), ha (269 + 3 * q) (by omega) (by omega), ha (270 + 3 * q) (by omega) (by omega)]
  have hn' : ∀ q t, q < np → nmT a' q t = nmT a q t := fun q t hq => by unfold nmT; rw [ha (268 + 3 * q) (by omega) (by omega), ha (269 + 3 * q) (by omega) (by omega), ha (270 + 3 * q) (by omega) (by omega)]
  have c1 : ∀ q, q < np → tabl (mdT a') np q = B 23 q := fun q hq => by rw [tab_congr hm, (q4 q hq).2.2.2.1]
  have c2 : ∀ q, q < np → tabl (nmT a') np q = B 24 q := fun q hq => by rw [tab_congr hn', (q4 q hq).2.2.2.2.1]
  have hj := jn_ok hok
  have hjl := fun hk => jn_lt hj hn hk
  rw [d0, d1, d2] at hjl
  refine ⟨h0, bdR_congr h1 (fun o k z1 z2 => hB o k z2 (by omega)) (fun k z => ha k (by omega) (by omega)) (fun k z1 z2 => ha k (by omega) (by omega)), enR_congr h2 (fun o k z => hB o k (cpe4 z) (by omega)) (ha 11 (by omega) (by omega)) (fun k z1 z2 => ha k (by omega) (by omega)), enR_congr h3 (fun o k z => hB o k (cpe7 z) (by omega)) (ha 12 (by omega) (by omega)) (fun k z1 z2 => ha k (by omega) (by omega)), kyR_congr h4 (fun o k z1 z2 z => hB o k z (by omega)) (ha 10 (by omega) (by omega)) (ha 13 (by omega) (by omega)) (ha 14 (by omega) (by omega)) (fun k z1 z2 => ha k (by omega) (by omega)), ⟨e5, d3, by omega, ?_, ?_, ?_, q7, ?_⟩, slR_congr h6 (by omega) (by omega) (fun o k z1 z2 z => hB o k z (by omega)) (ha 16 (by omega) (by omega)) (fun k z1 z2 => ha k (by omega) (by omega)), seR_congr h7 (by omega) (fun o k z1 z2 z => hB o k z (by omega)) (ha 17 (by omega) (by omega)) (fun k z1 z2 => ha k (by omega) (by omega))⟩
  · intro p hp
    by_cases e : p = np
    · subst e
      refine ⟨by rw [e0, d0], by rw [e1, d1], by rw [e2, d2], ?_, ?_, hok⟩
      · rw [e3, tab_at]
        generalize tabl (mdT a') p = T at c1 ⊢
        unfold mdT
        rw [d0, d1, d2]
        unfold mkd
        by_cases hk : k = 3 ∨ k = 4
        · rw [if_pos hk, if_pos hk, c1 _ (hjl hk).1, c1 _ (hjl hk).2]
        · rw [if_neg hk, if_neg hk]
      · rw [e4, tab_at]
        generalize tabl (nmT a') p = T at c2 ⊢
        unfold nmT
        rw [d0, d1, d2]
        unfold nmd
        by_cases hk : k = 3 ∨ k = 4
        · rw [if_pos hk, if_pos hk, c2 _ (hjl hk).1, c2 _ (hjl hk).2]
        · rw [if_neg hk, if_neg hk]
    · have hp' : p < np := by omega
      obtain ⟨z1, z2, z3, z4, z5, z6⟩ := q4 p hp'
      rw [tab_lt (f := mdT a') (p := np) hp' (by omega), tab_lt (f := nmT a') (p := np) hp' (by omega), tab_congr hm, tab_congr hn']
      unfold plOK at z6 ⊢
      rw [hB 20 p (cp20 (by omega)) (by omega), hB 21 p (cp21 (by omega)) (by omega), hB 22 p (cp22 (by omega)) (by omega), hB 23 p (cp23 (by omega)) (by omega), hB 24 p (cp24 (by omega)) (by omega), ha (268 + 3 * p) (by omega) (by omega), ha (269 + 3 * p) (by omega) (by omega), ha (270 + 3 * p) (by omega) (by omega)]
      exact ⟨z1, z2, z3, z4, z5, z6⟩
  · rw [hB 19 8 (cp19 (by omega)) (by omega), q5]
  · rw [ha 18 (by omega) (by omega), q6]
  · intro i hi
    rw [hB 25 i (cp25 (by omega)) (by omega), hB 26 i (cp26 (by omega)) (by omega), ha (390 + 2 * i) (by omega) (by omega), ha (391 + 2 * i) (by omega) (by omega)]
    obtain ⟨z1, z2, z3, p, z4, z5⟩ := q8 i hi
    exact ⟨z1, z2, z3, p, by omega, z5⟩
def newOK (nk np : Nat) (k x y : Int32) : Prop := (k = 0 ∧ inb x 256) ∨ (k = 1 ∧ inb x 4) ∨ k = 2 ∨ ((k = 3 ∨ k = 4) ∧ inb x np ∧ inb y np) ∨ k = 5 ∨ (k = 6 ∧ inb x nk) ∨ (k = 7 ∧ inb x 8)
theorem addp {I : IM} {F : FM} {yC yM : Nat} {as bs : List Vl} {k x y : Int32} {nl nc nk nx np na ns : Nat} (hI : InvC I F) (hR : CRep (I 2) (F 2 1 5) (I 1 2) (F 1 0 4) nl nc nk nx np na ns) (hnew : newOK nk np k (if k = 5 then 0 else x) (if k = 2 ∨ k = 6 then 0 else y))
    (ec : sem zN 9 yC as I F = bI (sem zN 8 178 [vR (some (0, 0)), vI k, vI (if k = 5 then 0 else x), vI (if k = 2 ∨ k = 6 then 0 else y)] I F) (fun r I F => some (vI r, I, F)))
    (em : ∀ J G, (∀ o k, J 1 o k = I 1 o k) → sem zN 9 yM bs J G = bI (sem zN 8 239 [vR (some (1, 0)), vI k, vI x, vI y] (wI J 1 0 0 0) G) (fun r I F => some (vI r, I, F))) :
    ∃ (x : Int32) (I1 : IM) (F1 : FM) (I2 : IM) (F2 : FM), sem zN 9 yC as I F = some (vI x, I1, F1) ∧ sem zN 9 yM bs I1 F1 = some (vI x, I2, F2) ∧ InvC I2 F2 := by
  obtain ⟨v1, v2, v3, v4, v5, v6, v7, v8⟩ := hR.2.2.2.2.2.1
  have hro := rok_of hR
  generalize hx' : (if k = 5 then (0 : Int32) else x) = x' at *
  generalize hy' : (if k = 2 ∨ k = 6 then (0 : Int32) else y) = y' at *
  have hjn : k = 3 ∨ k = 4 → x' = x ∧ y' = y ∧ inb x np ∧ inb y np := fun hk => by
    have z5 : ¬ k = 5 := fun z => by rw [z] at hk; exact absurd hk (by decide)
    have z26 : ¬ (k = 2 ∨ k = 6) := fun z => by rcases z with z | z <;> (rw [z] at hk; exact absurd hk (by decide))
    rw [if_neg z5] at hx'
    rw [if_neg z26] at hy'
    subst hx'
    subst hy'
    rcases hnew with ⟨z, -⟩ | ⟨z, -⟩ | z | ⟨-, z1, z2⟩ | z | ⟨z, -⟩ | ⟨z, -⟩
    · rw [z] at hk; exact absurd hk (by decide)
    · rw [z] at hk; exact absurd hk (by decide)
    · rw [z] at hk; exact absurd hk (by decide)
    · exact ⟨rfl, rfl, z1, z2⟩
    · exact absurd z z5
    · exact absurd (Or.inr z) z26
    · rw [z] at hk; exact absurd hk (by decide)
  have c83 := m83 (N := zN) (d := 5) (I := I) (F := F) (b := 2) (n := np) (by omega) k x' y' v1 v3 (fun hk => by obtain ⟨e1, e2, z1, z2⟩ := hjn hk; rw [e1, e2]; exact ⟨z1, z2⟩)
  have e24 : ((24 : Int32) ≤ nI np) ↔ ¬ np < 24 := by rw [L24, i_le, i_nI (by omega), i_nI (by omega)]; omega
  have e24' : (nI np = (24 : Int32)) ↔ ¬ np < 24 := by rw [L24, nI_eq (by omega) (by omega)]; omega
  -- the reference, up to its end
  have hmod : ∀ J G, (∀ o k, J 1 o k = I 1 o k) → sem zN 8 239 [vR (some (1, 0)), vI k, vI x, vI y] (wI J 1 0 0 0) G = b239_42 (sem zN 7) (sg (sem zN 7) 1 zc239 19999) k x y (nI np) (mkd (I 2 23) k x' y') (layI (wI J 1 0 0 0) nl np na) G := fun J G hJ => by
    have row : wI J 1 0 0 0 1 2 = I 1 2 := funext (fun k => by rw [w0_12, hJ])
    have d237 := m237 (N := zN) (d := 3) (I := wI J 1 0 0 0) (F := G) (nl := nl) (np := np) (na := na) (nk := nk) (by decide) (by rw [row]; exact hro)
    have a15 : layI (wI J 1 0 0 0) nl np na 1 2 15 = nI np := by rw [lay_2, w0_12, hJ, v2]
    have a14 : ∀ q, q < np → layI (wI J 1 0 0 0) nl np na 1 14 q = I 2 23 q := fun q hq => by
      rw [lay_t rfl hq]
      show tv (mdT (wI J 1 0 0 0 1 2)) q = _
      rw [row, ← tv_lt hq]
      exact (v4 q hq).2.2.2.1.symm
    have u42 : ∀ (s0 : Int32) (X : IM), sg (sem zN 7) 1 zc239 zN 42 [vR (some (1, 0)), vI k, vI x, vI y, vI (nI np), vI s0] X G = b239_42 (sem zN 7) (sg (sem zN 7) 1 zc239 19999) k x y (nI np) s0 X G := fun s0 X => u239_42 (sem zN 7) 19999 k x y (nI np) s0 X G
    rw [s239]; unfold b239
    rw [d237, bV_v, a15]
    unfold mkd
    by_cases hk : k = 3 ∨ k = 4
    · obtain ⟨e1, e2, z1, z2⟩ := hjn hk
      rw [e1, e2]
      obtain ⟨u, hu, hu2, rfl, eu⟩ := inb_get z1
      obtain ⟨v, hv, hv2, rfl, ev⟩ := inb_get z2
      have iu : inb (nI u) 24 := inb_mono v3 z1
      have iv : inb (nI v) 24 := inb_mono v3 z2
      rw [if_pos hk]
      by_cases h3 : k = 3
      · rw [if_pos h3, if_pos iu, if_pos iv]
        rw [nI_clamp (by omega), nI_clamp (by omega), a14 u hu, a14 v hv]
        exact u42 _ _
      · rw [if_neg h3, if_pos (hk.resolve_left h3), if_pos iu, if_pos iv]
        rw [nI_clamp (by omega), nI_clamp (by omega), a14 u hu, a14 v hv]
        exact u42 _ _
    · rw [if_neg (fun z => hk (Or.inl z)), if_neg (fun z => hk (Or.inr z)), if_neg hk]
      exact u42 _ _
  by_cases hn : np < 24
  · by_cases h40 : mkd (I 2 23) k x' y' ≤ 40
    · have i0 : inb (nI (268 + 3 * np)) 406 := inb_nI (by omega) (by decide)
      have i1 : inb (nI (268 + 3 * np + 1)) 406 := inb_nI (by omega) (by decide)
      have i2 : inb (nI (268 + 3 * np + 2)) 406 := inb_nI (by omega) (by decide)
      have k0 : (nI (268 + 3 * np)).toNatClampNeg = 268 + 3 * np := nI_clamp (by omega)
      have k1 : (nI (268 + 3 * np + 1)).toNatClampNeg = 268 + 3 * np + 1 := nI_clamp (by omega)
      have k2 : (nI (268 + 3 * np + 2)).toNatClampNeg = 268 + 3 * np + 2 := nI_clamp (by omega)
      have hKM : ∃ KM : IM → FM → Option Rs, (∀ X G, b239_42 (sem zN 7) (sg (sem zN 7) 1 zc239 19999) k x y (nI np) (mkd (I 2 23) k x' y') X G = bV (sem zN 7 190 [vR (some (1, 0)), vI 15] X G) KM) ∧ ∀ R H, agM I R F H → KM R H = some (vI (nI np), wI (wI (wI (wI (wI R 1 2 (268 + 3 * np) k) 1 2 (268 + 3 * np + 1) x') 1 2 (268 + 3 * np + 2) y') 1 2 15 (nI (np + 1))) 1 0 1 0, H) := by
        refine ⟨?w, ?a, ?b⟩
        case a =>
          intro X G
          unfold b239_42
          rw [if_neg (fun z => e24'.mp z hn), if_pos h40]
        case b =>
          intro R H aM
          have a15 : ∀ u v w, wI (wI (wI R 1 2 (268 + 3 * np) u) 1 2 (268 + 3 * np + 1) v) 1 2 (268 + 3 * np + 2) w 1 2 15 = nI np := fun u v w => by rw [wI_eq, if_neg (fun z => by omega), wI_eq, if_neg (fun z => by omega), wI_eq, if_neg (fun z => by omega), aM.1, v2]
          simp only [m196, bI_v, L2, nI_add, nI_1, eq_true i0, eq_true i1, eq_true i2, ↓reduceIte, k0, k1, k2, a15, m185]
          by_cases h5 : k = 5
          · rw [if_pos h5] at hx'
            subst hx'
            have h2 : ¬ k = nI 2 := fun z => by rw [h5] at z; exact absurd z (by decide)
            have h6 : ¬ k = 6 := fun z => by rw [h5] at z; exact absurd z (by decide)
            have h26 : ¬ (k = 2 ∨ k = 6) := fun z => z.elim h2 h6
            rw [if_neg h26] at hy'
            subst hy'
            rw [if_pos h5, if_neg h2, if_neg h6]
          · rw [if_neg h5] at hx'
            subst hx'
            rw [if_neg h5]
            by_cases h2 : k = nI 2
            · rw [if_pos (show k = 2 ∨ k = 6 from Or.inl h2)] at hy'
              subst hy'
              rw [if_pos h2]
            · rw [if_neg h2]
              by_cases h6 : k = 6
              · rw [if_pos (show k = 2 ∨ k = 6 from Or.inr h6)] at hy'
                subst hy'
                rw [if_pos h6]
              · rw [if_neg (show ¬ (k = 2 ∨ k = 6) from fun z => z.elim h2 h6)] at hy'
                subst hy'
                rw [if_neg h6]
      obtain ⟨KM, hKM1, hKM2⟩ := hKM
      apply act_k (x := nI np) (e := 5) (e' := 4) (KM := fun I F => bI (KM I F) (fun r I F => some (vI r, I, F))) 15 (fun J => wI (wI (wI (wI (wI (wI (wI J 2 20 np k) 2 21 np x') 2 22 np y') 2 23 np (mkd (J 2 23) k x' y')) 2 24 np (nmd (J 2 24) k x' y')) 2 19 5 (nI (np + 1))) 0 0 6 0) (fun R => wI (wI (wI (wI (wI R 1 2 (268 + 3 * np) k) 1 2 (268 + 3 * np + 1) x') 1 2 (268 + 3 * np + 2) y') 1 2 15 (nI (np + 1))) 1 0 1 0) (fun J => layI (wI J 1 0 0 0) nl np na) (fun G => G) (fun H => H) hI
      · rw [ec, s178]
        unfold b178
        rw [v1, if_neg (fun z => e24.mp z hn), c83, bI_v, if_pos h40, bI_bV]
      · intro J G hJ hG
        rw [em J G hJ, hmod J G hJ, hKM1, bI_bV]
      · intro J hJ b o i z
        unfold scM at z
        by_cases e : b = 1
        · subst e
          rw [lay_1 (by omega), wI_eq, if_neg (fun z => by omega)]
        · rw [lay_b e, wI_eq, if_neg (fun y => e y.1)]
      · intro J G aC
        refine ⟨?_, okC_of (pC_w (pC_w (pC_w (pC_w (pC_w (pC_w pC_rfl))))))⟩
        try dsimp only
        rw [m85 (n := np) (by omega) k x' y' (by rw [aC.1, v1]) hn (fun hk => by obtain ⟨e1, e2, z1, z2⟩ := hjn hk; rw [e1, e2]; exact ⟨z1, z2⟩), bI_v, m168, bI_v, bI_v]
      · intro R H aM
        refine ⟨?_, okM_of (pM_w (pM_w (pM_w (pM_w pM_rfl))))⟩
        try dsimp only
        rw [hKM2 R H aM, bI_v]
      · intro J R G H aC aM
        try dsimp only
        rw [aC.2.2.1, aM.2]
        have eB : ∀ o, J 2 o = I 2 o := fun o => funext (fun k => aC.1 o k)
        refine ⟨_, _, _, _, _, _, _, op_pol hR (k := k) (x := x') (y := y') hn ?_ ?_ ?_ ?_ ?_ ?_ ?_ ?_ ?_ ?_ ?_ ?_ ?_⟩
        · rw [wI_eq, if_neg (fun z => by omega), wI_eq, if_neg (fun z => by omega), wI_eq, if_neg (fun z => by omega), wI_eq, if_neg (fun z => by omega), wI_eq, if_neg (fun z => by omega), wI_eq, if_neg (fun z => by omega), wI_s]
        · rw [wI_eq, if_neg (fun z => by omega), wI_eq, if_neg (fun z => by omega), wI_eq, if_neg (fun z => by omega), wI_eq, if_neg (fun z => by omega), wI_eq, if_neg (fun z => by omega), wI_s]
        · rw [wI_eq, if_neg (fun z => by omega), wI_eq, if_neg (fun z => by omega), wI_eq, if_neg (fun z => by omega), wI_eq, if_neg (fun z => by omega), wI_s]
        · rw [wI_eq, if_neg (fun z => by omega), wI_eq, if_neg (fun z => by omega), wI_eq, if_neg (fun z => by omega), wI_s, eB]
        · rw [wI_eq, if_neg (fun z => by omega), wI_eq, if_neg (fun z => by omega), wI_s, eB]
        · rw [wI_eq, if_neg (fun z => by omega), wI_s]
        · rw [wI_eq, if_neg (fun z => by omega), wI_eq, if_neg (fun z => by omega), wI_eq, if_neg (fun z => by omega), wI_eq, if_neg (fun z => by omega), wI_s]
        · rw [wI_eq, if_neg (fun z => by omega), wI_eq, if_neg (fun z => by omega), wI_eq, if_neg (fun z => by omega), show 269 + 3 * np = 268 + 3 * np + 1 by omega, wI_s]
        · rw [wI_eq, if_neg (fun z => by omega), wI_eq, if_neg (fun z => by omega), show 270 + 3 * np = 268 + 3 * np + 2 by omega, wI_s]
        · rw [wI_eq, if_neg (fun z => by omega), wI_s]
        · unfold plOK
          rw [show wI (wI (wI (wI (wI R 1 2 (268 + 3 * np) k) 1 2 (268 + 3 * np + 1) x') 1 2 (268 + 3 * np + 2) y') 1 2 15 (nI (np + 1))) 1 0 1 0 1 2 (268 + 3 * np) = k by rw [wI_eq, if_neg (fun z => by omega), wI_eq, if_neg (fun z => by omega), wI_eq, if_neg (fun z => by omega), wI_eq, if_neg (fun z => by omega), wI_s], show wI (wI (wI (wI (wI R 1 2 (268 + 3 * np) k) 1 2 (268 + 3 * np + 1) x') 1 2 (268 + 3 * np + 2) y') 1 2 15 (nI (np + 1))) 1 0 1 0 1 2 (269 + 3 * np) = x' by rw [wI_eq, if_neg (fun z => by omega), wI_eq, if_neg (fun z => by omega), wI_eq, if_neg (fun z => by omega), show 269 + 3 * np = 268 + 3 * np + 1 by omega, wI_s], show wI (wI (wI (wI (wI R 1 2 (268 + 3 * np) k) 1 2 (268 + 3 * np + 1) x') 1 2 (268 + 3 * np + 2) y') 1 2 15 (nI (np + 1))) 1 0 1 0 1 2 (270 + 3 * np) = y' by rw [wI_eq, if_neg (fun z => by omega), wI_eq, if_neg (fun z => by omega), show 270 + 3 * np = 268 + 3 * np + 2 by omega, wI_s]]
          exact hnew
        · intro o i z1 z2
          rw [wI_eq, if_neg (fun z => by omega), wI_eq, if_neg (fun z => by omega), wI_eq, if_neg (fun z => by omega), wI_eq, if_neg (fun z => by omega), wI_eq, if_neg (fun z => by omega), wI_eq, if_neg (fun z => by omega), wI_eq, if_neg (fun z => by omega), aC.1]
        · intro i z1 z2
          rw [wI_eq, if_neg (fun z => by omega), wI_eq, if_neg (fun z => by omega), wI_eq, if_neg (fun z => by omega), wI_eq, if_neg (fun z => by omega), wI_eq, if_neg (fun z => by omega), aM.1]
    · refine rf_s (x := -5) (y := -5) (j := 4) (Y := layI (wI (rC I (-5) 4) 1 0 0 0) nl np na) (G := F) hI (by omega) ?_ ?_ (sm_lay (sm_0 sm_rfl))
      · rw [ec, s178]
        unfold b178
        rw [v1, if_neg (fun z => e24.mp z hn), c83, bI_v, if_neg h40, r169_5, bI_v, bI_v]
      · rw [em _ _ rC_1, hmod _ _ rC_1]
        unfold b239_42
        rw [if_neg (fun z => e24'.mp z hn), if_neg h40, r186_5, bI_v, bI_v]
  · refine rf_s (x := -5) (y := -5) (j := 4) (Y := layI (wI (rC I (-5) 4) 1 0 0 0) nl np na) (G := F) hI (by omega) ?_ ?_ (sm_lay (sm_0 sm_rfl))
    · rw [ec, s178]
      unfold b178
      rw [v1, if_pos (e24.mpr hn), r169_5, bI_v, bI_v]
    · rw [em _ _ rC_1, hmod _ _ rC_1]
      unfold b239_42
      rw [if_pos (e24'.mpr hn), r186_5, bI_v, bI_v]
theorem st132 : StpI InvC 132 241 1 := by
  intro as I F hl hI
  obtain ⟨x, rfl⟩ := len1 hl
  simp only [List.map_cons, List.map_nil]
  obtain ⟨nl, nc, nk, nx, np, na, ns, hR⟩ := hI.1
  have p4 := hR.2.1.2.2.2.1
  by_cases hx : inb x 256
  · refine addp (k := 0) (x := x) (y := dig (I 2 2) x 8) hI hR (by rw [if_neg (by decide)]; exact Or.inl ⟨rfl, hx⟩) ?_ ?_
    · rw [s132]; unfold b132
      rw [m172, bI_v, ite_bzif, if_pos hx, m6 (by omega) (by decide), bI_v, if_neg (by decide), if_neg (by decide)]
    · intro J G hJ
      rw [s241]; unfold b241
      dsimp only
      rw [m204, bI_v, ite_bzif, if_pos hx, m229 (by decide), bI_v, dig_c (r' := I 2 2) (fun i hi => by rw [w0_12, hJ, p4 i hi])]
  · refine rf_of (x := -1) (y := -1) (j := 0) hI (by omega) ?_ ?_
    · rw [s132]; unfold b132
      rw [m172, bI_v, ite_bzif, if_neg hx, r169_1, bI_v]
    · rw [s241]; unfold b241
      dsimp only
      rw [m204, bI_v, ite_bzif, if_neg hx, r186_1, bI_v]
theorem has2b {α : Type} {x M : Int32} {m : Nat} (hM : M = nI m) (hm : m + 1 < 2 ^ 31) (A B : α) : (if x < 0 then A else (if M < x then A else B)) = if inb x (m + 1) then B else A := by
  subst hM
  have e1 : (x < 0) ↔ x.toInt < 0 := by rw [i_lt, i_0]
  have e2 : (nI m < x) ↔ (m : Int) < x.toInt := by rw [i_lt, i_nI (by omega)]
  have e3 := @inb_iff x (m + 1)
  by_cases h : x < 0
  · rw [if_pos h, if_neg (fun z => by rw [e3] at z; rw [e1] at h; omega)]
  · rw [if_neg h]
    by_cases h2 : nI m < x
    · rw [if_pos h2, if_neg (fun z => by rw [e3] at z; rw [e2] at h2; omega)]
    · rw [if_neg h2, if_pos (by rw [e3]; rw [e1] at h; rw [e2] at h2; omega)]
def toldI (k x y : Int32) : Int32 := if k = 0 then bz (inb x 256) else if k = 1 then (if inb x 4 then bz (inb y 10000) else 0) else if k = 2 then bz (inb x 4) else if k = 3 then 1 else if k = 4 then 1 else if k = 5 then bz (inb y 100000) else if k = 6 then 1 else if k = 7 then bz (inb x 8) else 0
section TD
variable {N d : Nat} {I : IM} {F : FM}
theorem m176 (k x y : Int32) : sem N (d + 2) 176 [vI k, vI x, vI y] I F = some (vI (toldI k x y), I, F) := by
  rw [s176]; unfold b176 toldI
  by_cases h0 : k = 0
  · simp only [h0, ↓reduceIte, m172, bI_v, bz_or]
  by_cases h1 : k = 1
  · subst h1
    rw [if_neg h0, if_pos rfl, if_neg h0, if_pos rfl, has2 (M := 4) (m := 4) rfl (by decide), has2b (M := 9999) (m := 9999) rfl (by decide), ite_bz]
    by_cases hx : inb x 4
    · rw [if_pos hx, if_pos hx]
    · rw [if_neg hx, if_neg hx]
  by_cases h2 : k = 2
  · subst h2
    simp only [h0, h1, ↓reduceIte, m173, bI_v, bz_or]
  by_cases h3 : k = 3
  · simp only [h3, show ((3 : Int32) = 0) = False from eq_false (by decide), show ((3 : Int32) = 1) = False from eq_false (by decide), show ((3 : Int32) = 2) = False from eq_false (by decide), ↓reduceIte]
  by_cases h4 : k = 4
  · subst h4
    simp only [h0, h1, h2, h3, ↓reduceIte]
  by_cases h5 : k = 5
  · subst h5
    simp only [h0, h1, h2, h3, h4, ↓reduceIte]
    rw [has2b (M := 99999) (m := 99999) rfl (by decide), ite_bz]
  by_cases h6 : k = 6
  · subst h6
    simp only [h0, h1, h2, h3, h4, h5, ↓reduceIte]
  by_cases h7 : k = 7
  · subst h7
    simp only [h0, h1, h2, h3, h4, h5, h6, ↓reduceIte, m171, bI_v, bz_or]
  simp only [h0, h1, h2, h3, h4, h5, h6, h7, ↓reduceIte]
theorem m238 (k x y : Int32) : sem N (d + 3) 238 [vI k, vI x, vI y] I F = some (vI (toldI k x y), I, F) := by
  rw [s238]; unfold b238 toldI
  by_cases h0 : k = 0
  · simp only [h0, ↓reduceIte, m204, bI_v, bz_or]
  by_cases h1 : k = 1
  · subst h1
    rw [if_neg h0, if_pos rfl, if_neg h0, if_pos rfl, m184 N _ (n := 4) rfl, bI_v, ite_bzif]
    by_cases hx : inb x 4
    · rw [if_pos hx, if_pos hx, m184 N _ (n := 10000) rfl, bI_v, ite_bzif, ite_bz]
    · rw [if_neg hx, if_neg hx]
  by_cases h2 : k = 2
  · subst h2
    rw [if_neg h0, if_neg h1, if_pos rfl, if_neg h0, if_neg h1, if_pos rfl, m184 N _ (n := 4) rfl, bI_v, if_pos bz_01]
  by_cases h3 : k = 3
  · subst h3
    rw [if_neg h0, if_neg h1, if_neg h2, if_pos rfl, if_neg h0, if_neg h1, if_neg h2, if_pos rfl, m184g N _ 3 6 rfl rfl, bI_v, if_pos bz_01, bz_t (by decide)]
  by_cases h4 : k = 4
  · subst h4
    rw [if_neg h0, if_neg h1, if_neg h2, if_neg h3, if_pos rfl, if_neg h0, if_neg h1, if_neg h2, if_neg h3, if_pos rfl, m184g N _ 3 6 rfl rfl, bI_v, if_pos bz_01, bz_t (by decide)]
  by_cases h5 : k = 5
  · subst h5
    rw [if_neg h0, if_neg h1, if_neg h2, if_neg h3, if_neg h4, if_pos rfl, if_neg h0, if_neg h1, if_neg h2, if_neg h3, if_neg h4, if_pos rfl, m184 N _ (n := 100000) rfl, bI_v, if_pos bz_01]
  by_cases h6 : k = 6
  · subst h6
    rw [if_neg h0, if_neg h1, if_neg h2, if_neg h3, if_neg h4, if_neg h5, if_pos rfl, if_neg h0, if_neg h1, if_neg h2, if_neg h3, if_neg h4, if_neg h5, if_pos rfl, m184g N _ 3 6 rfl rfl, bI_v, if_pos bz_01, bz_t (by decide)]
  by_cases h7 : k = 7
  · subst h7
    rw [if_neg h0, if_neg h1, if_neg h2, if_neg h3, if_neg h4, if_neg h5, if_neg h6, if_pos rfl, if_neg h0, if_neg h1, if_neg h2, if_neg h3, if_neg h4, if_neg h5, if_neg h6, if_pos rfl, m203, bI_v, if_pos bz_01]
  rw [if_neg h0, if_neg h1, if_neg h2, if_neg h3, if_neg h4, if_neg h5, if_neg h6, if_neg h7, if_neg h0, if_neg h1, if_neg h2, if_neg h3, if_neg h4, if_neg h5, if_neg h6, if_neg h7, m184g N _ 3 6 rfl rfl, bI_v, if_pos bz_01, bz_f]
  intro z
  rw [i_eq, show (3 : Int32).toInt = 3 from by decide] at h3
  rw [i_eq, show (4 : Int32).toInt = 4 from by decide] at h4
  rw [i_eq, show (5 : Int32).toInt = 5 from by decide] at h5
  rw [i_eq, show (6 : Int32).toInt = 6 from by decide] at h6
  omega
def stdI (nk np : Nat) (k x y : Int32) : Int32 := if k = 6 then bz (inb x nk) else if k = 3 ∨ k = 4 then (if inb x np then bz (inb y np) else 0) else 1
theorem m177 {nk np : Nat} (k x y : Int32) (hk : I 2 10 3 = nI nk) (hk2 : nk ≤ 10) (hp : I 2 19 5 = nI np) (hp2 : np ≤ 24) : sem N (d + 2) 177 [vR (some (0, 0)), vI k, vI x, vI y] I F = some (vI (stdI nk np k x y), I, F) := by
  rw [s177]; unfold b177 stdI
  by_cases h6 : k = 6
  · rw [if_pos h6, if_pos h6, m48 (by omega) x hk hk2, bI_v, if_pos bz_01]
  rw [if_neg h6, if_neg h6]
  by_cases h3 : k = 3
  · rw [if_pos h3, if_pos (Or.inl h3), m81 (by omega) x hp hp2, bI_v, ite_bzif]
    by_cases hx : inb x np
    · rw [if_pos hx, if_pos hx, m81 (by omega) y hp hp2, bI_v, ite_bzif, ite_bz]
    · rw [if_neg hx, if_neg hx]
  rw [if_neg h3]
  by_cases h4 : k = 4
  · rw [if_pos h4, if_pos (Or.inr h4), m81 (by omega) x hp hp2, bI_v, ite_bzif]
    by_cases hx : inb x np
    · rw [if_pos hx, if_pos hx, m81 (by omega) y hp hp2, bI_v, ite_bzif, ite_bz]
    · rw [if_neg hx, if_neg hx]
  rw [if_neg h4, if_neg (fun z => z.elim h3 h4)]
theorem c240 {nk np : Nat} (k x y : Int32) (hk : I 1 2 13 = nI nk) (hk2 : nk ≤ 10) (hp : I 1 2 15 = nI np) (hp2 : np ≤ 24) (ht : toldI k x y ≠ 0) : sem zN 9 240 [vR (some (1, 0)), vI k, vI x, vI y] I F = if stdI nk np k x y = 0 then some (vI (-2), rM (wI I 1 0 0 0) (-2) 2, F) else bI (sem zN 8 239 [vR (some (1, 0)), vI k, vI x, vI y] (wI I 1 0 0 0) F) (fun r I F => some (vI r, I, F)) := by
  have u35 : ∀ (s0 : Int32) (X : IM), sg (sem zN 8) 1 zc240 zN 35 [vR (some (1, 0)), vI k, vI x, vI y, vI s0] X F = b240_35 (sem zN 8) (sg (sem zN 8) 1 zc240 19999) k x y s0 X F := fun s0 X => u240_35 (sem zN 8) 19999 k x y s0 X F
  have k13 : wI I 1 0 0 0 1 2 13 = nI nk := by rw [w0_12, hk]
  have k15 : wI I 1 0 0 0 1 2 15 = nI np := by rw [w0_12, hp]
  rw [s240]; unfold b240
  dsimp only
  rw [m238, bI_v, if_neg ht]
  unfold stdI
  by_cases h6 : k = 6
  · have h3 : ¬ k = 3 := fun z => by rw [h6] at z; exact absurd z (by decide)
    have h4 : ¬ k = 4 := fun z => by rw [h6] at z; exact absurd z (by decide)
    rw [if_neg h3, if_neg h4, u35, if_pos h6, ite_bzif]
    unfold b240_35
    rw [if_pos rfl, if_pos h6, m199 x k13 (by omega), bI_v, ite_bzif]
    by_cases hx : inb x nk
    · rw [if_pos hx, if_pos hx]
    · rw [if_neg hx, if_neg hx, r186_2, bI_v]
  · rw [if_neg h6]
    by_cases h34 : k = 3 ∨ k = 4
    · have e : (if k = 3 then sg (sem zN 8) 1 zc240 zN 35 [vR (some (1, 0)), vI k, vI x, vI y, vI 1] (wI I 1 0 0 0) F else if k = 4 then sg (sem zN 8) 1 zc240 zN 35 [vR (some (1, 0)), vI k, vI x, vI y, vI 1] (wI I 1 0 0 0) F else sg (sem zN 8) 1 zc240 zN 35 [vR (some (1, 0)), vI k, vI x, vI y, vI 0] (wI I 1 0 0 0) F) = sg (sem zN 8) 1 zc240 zN 35 [vR (some (1, 0)), vI k, vI x, vI y, vI 1] (wI I 1 0 0 0) F := by
        rcases h34 with h | h
        · rw [if_pos h]
        · by_cases h3 : k = 3
          · rw [if_pos h3]
          · rw [if_neg h3, if_pos h]
      rw [e, u35, if_pos h34]
      unfold b240_35
      rw [if_neg (by decide), m200 x k15 (by omega), bI_v, ite_bzif]
      by_cases hx : inb x np
      · rw [if_pos hx, if_pos hx, m200 y k15 (by omega), bI_v, ite_bzif, ite_bzif]
        by_cases hy : inb y np
        · rw [if_pos hy, if_pos hy, if_neg h6]
        · rw [if_neg hy, if_neg hy, r186_2, bI_v]
      · rw [if_neg hx, if_neg hx, if_pos rfl, r186_2, bI_v]
    · rw [if_neg (fun z => h34 (Or.inl z)), if_neg (fun z => h34 (Or.inr z)), u35, if_neg h34, if_neg (by decide)]
      unfold b240_35
      rw [if_pos rfl, if_neg h6]
end TD
theorem new_of {nk np : Nat} {k x y : Int32} (ht : toldI k x y ≠ 0) (hs : stdI nk np k x y ≠ 0) : newOK nk np k (if k = 5 then 0 else x) (if k = 2 ∨ k = 6 then 0 else y) := by
  unfold toldI at ht
  unfold stdI at hs
  unfold newOK
  by_cases h0 : k = 0
  · subst h0
    rw [if_pos rfl] at ht
    rw [if_neg (by decide)]
    exact Or.inl ⟨rfl, Classical.byContradiction (fun z => ht (bz_f z))⟩
  rw [if_neg h0] at ht
  by_cases h1 : k = 1
  · subst h1
    rw [if_pos rfl] at ht
    rw [if_neg (by decide)]
    exact Or.inr (Or.inl ⟨rfl, Classical.byContradiction (fun z => ht (by rw [if_neg z]))⟩)
  rw [if_neg h1] at ht
  by_cases h2 : k = 2
  · exact Or.inr (Or.inr (Or.inl h2))
  rw [if_neg h2] at ht
  by_cases h34 : k = 3 ∨ k = 4
  · have h6 : ¬ k = 6 := fun z => by rw [z] at h34; exact absurd h34 (by decide)
    have h5 : ¬ k = 5 := fun z => by rw [z] at h34; exact absurd h34 (by decide)
    rw [if_neg h6, if_pos h34] at hs
    rw [if_neg h5, if_neg (fun z => z.elim h2 h6)]
    refine Or.inr (Or.inr (Or.inr (Or.inl ⟨h34, ?_, ?_⟩)))
    · exact Classical.byContradiction (fun z => hs (by rw [if_neg z]))
    · refine Classical.byContradiction (fun z => hs ?_)
      by_cases hx : inb x np
      · rw [if_pos hx, bz_f z]
      · rw [if_neg hx]
  rw [if_neg (fun z => h34 (Or.inl z)), if_neg (fun z => h34 (Or.inr z))] at ht
  by_cases h5 : k = 5
  · exact Or.inr (Or.inr (Or.inr (Or.inr (Or.inl h5))))
  rw [if_neg h5] at ht
  by_cases h6 : k = 6
  · rw [if_pos h6] at hs
    rw [if_neg h5]
    exact Or.inr (Or.inr (Or.inr (Or.inr (Or.inr (Or.inl ⟨h6, Classical.byContradiction (fun z => hs (bz_f z))⟩)))))
  rw [if_neg h6] at ht
  by_cases h7 : k = 7
  · rw [if_pos h7] at ht
    rw [if_neg h5]
    exact Or.inr (Or.inr (Or.inr (Or.inr (Or.inr (Or.inr ⟨h7, Classical.byContradiction (fun z => ht (bz_f z))⟩)))))
  rw [if_neg h7] at ht
  exact absurd rfl ht
theorem st131 : StpI InvC 131 240 3 := by
  intro as I F hl hI
  obtain ⟨k, x, y, rfl⟩ := len3 hl
  simp only [List.map_cons, List.map_nil]
  obtain ⟨nl, nc, nk, nx, np, na, ns, hR⟩ := hI.1
  obtain ⟨k1, k2, k3, -⟩ := hR.2.2.2.2.1
  obtain ⟨p1, p2, p3, -⟩ := hR.2.2.2.2.2.1
  have c177 := m177 (N := zN) (d := 6) (I := I) (F := F) k x y k1 k3 p1 p3
  by_cases ht : toldI k x y = 0
  · refine rf_of (x := -1) (y := -1) (j := 0) hI (by omega) ?_ ?_
    · rw [s131]; unfold b131
      rw [m176, bI_v, if_pos ht, r169_1, bI_v]
    · rw [s240]; unfold b240
      dsimp only
      rw [m238, bI_v, if_pos ht, r186_1, bI_v]
  · by_cases hs : stdI nk np k x y = 0
    · refine rf_of (x := -2) (y := -2) (j := 1) hI (by omega) ?_ ?_
      · rw [s131]; unfold b131
        rw [m176, bI_v, if_neg ht, c177, bI_v, if_pos hs, r169_2, bI_v]
      · rw [c240 k x y (by rw [rC_1, k2]) k3 (by rw [rC_1, p2]) p3 ht, if_pos hs]
    · refine addp (k := k) (x := x) (y := y) hI hR (new_of ht hs) ?_ ?_
      · rw [s131]; unfold b131
        rw [m176, bI_v, if_neg ht, c177, bI_v, if_neg hs]
        by_cases h5 : k = 5
        · have h2 : ¬ k = 2 := fun z => by rw [h5] at z; exact absurd z (by decide)
          have h6 : ¬ k = 6 := fun z => by rw [h5] at z; exact absurd z (by decide)
          rw [if_pos h5, if_neg h2, if_neg h6, if_pos h5, if_neg (fun z => z.elim h2 h6)]
        · rw [if_neg h5, if_neg h5]
          by_cases h2 : k = 2
          · rw [if_pos h2, if_pos (Or.inl h2)]
          · rw [if_neg h2]
            by_cases h6 : k = 6
            · rw [if_pos h6, if_pos (Or.inr h6)]
            · rw [if_neg h6, if_neg (fun z => z.elim h2 h6)]
      · intro J G hJ
        rw [c240 k x y (by rw [hJ, k2]) k3 (by rw [hJ, p2]) p3 ht, if_neg hs]
