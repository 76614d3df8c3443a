/-! THE CALLS: refusals, acts, questions -/
def rC (I : IM) (x : Int32) (j : Nat) : IM := wI (wI I 0 0 6 x) 0 17 j (I 0 17 j + 1)
def rM (I : IM) (x : Int32) (j : Nat) : IM := wI (wI I 1 0 1 x) 1 1 j (I 1 1 j + 1)
section RF
variable {N d : Nat} {I : IM} {F : FM}
theorem r169_1 : sem N (d + 1) 169 [vR (some (0, 0)), vI (-1)] I F = some (vI (-1), rC I (-1) 0, F) := by rw [s169k1]; rfl
theorem r170_1 : sem N (d + 2) 170 [vR (some (0, 0)), vI (-1)] I F = some (vI 0, rC I (-1) 0, F) := by rw [s170]; unfold b170; rw [r169_1, bI_v]
theorem r186_1 : sem N (d + 1) 186 [vR (some (1, 0)), vI (-1)] I F = some (vI (-1), rM I (-1) 1, F) := by rw [s186k1]; rfl
theorem r187_1 : sem N (d + 2) 187 [vR (some (1, 0)), vI (-1)] I F = some (vI 0, rM I (-1) 1, F) := by rw [s187]; unfold b187; rw [r186_1, bI_v]
theorem r169_2 : sem N (d + 1) 169 [vR (some (0, 0)), vI (-2)] I F = some (vI (-2), rC I (-2) 1, F) := by rw [s169k2]; rfl
theorem r170_2 : sem N (d + 2) 170 [vR (some (0, 0)), vI (-2)] I F = some (vI 0, rC I (-2) 1, F) := by rw [s170]; unfold b170; rw [r169_2, bI_v]
theorem r186_2 : sem N (d + 1) 186 [vR (some (1, 0)), vI (-2)] I F = some (vI (-2), rM I (-2) 2, F) := by rw [s186k2]; rfl
theorem r187_2 : sem N (d + 2) 187 [vR (some (1, 0)), vI (-2)] I F = some (vI 0, rM I (-2) 2, F) := by rw [s187]; unfold b187; rw [r186_2, bI_v]
theorem r169_3 : sem N (d + 1) 169 [vR (some (0, 0)), vI (-3)] I F = some (vI (-3), rC I (-3) 2, F) := by rw [s169k3]; rfl
theorem r170_3 : sem N (d + 2) 170 [vR (some (0, 0)), vI (-3)] I F = some (vI 0, rC I (-3) 2, F) := by rw [s170]; unfold b170; rw [r169_3, bI_v]
theorem r186_3 : sem N (d + 1) 186 [vR (some (1, 0)), vI (-3)] I F = some (vI (-3), rM I (-3) 3, F) := by rw [s186k3]; rfl
theorem r187_3 : sem N (d + 2) 187 [vR (some (1, 0)), vI (-3)] I F = some (vI 0, rM I (-3) 3, F) := by rw [s187]; unfold b187; rw [r186_3, bI_v]
theorem r169_4 : sem N (d + 1) 169 [vR (some (0, 0)), vI (-4)] I F = some (vI (-4), rC I (-4) 3, F) := by rw [s169k4]; rfl
theorem r170_4 : sem N (d + 2) 170 [vR (some (0, 0)), vI (-4)] I F = some (vI 0, rC I (-4) 3, F) := by rw [s170]; unfold b170; rw [r169_4, bI_v]
theorem r186_4 : sem N (d + 1) 186 [vR (some (1, 0)), vI (-4)] I F = some (vI (-4), rM I (-4) 4, F) := by rw [s186k4]; rfl
theorem r187_4 : sem N (d + 2) 187 [vR (some (1, 0)), vI (-4)] I F = some (vI 0, rM I (-4) 4, F) := by rw [s187]; unfold b187; rw [r186_4, bI_v]
theorem r169_5 : sem N (d + 1) 169 [vR (some (0, 0)), vI (-5)] I F = some (vI (-5), rC I (-5) 4, F) := by rw [s169k5]; rfl
theorem r170_5 : sem N (d + 2) 170 [vR (some (0, 0)), vI (-5)] I F = some (vI 0, rC I (-5) 4, F) := by rw [s170]; unfold b170; rw [r169_5, bI_v]
theorem r186_5 : sem N (d + 1) 186 [vR (some (1, 0)), vI (-5)] I F = some (vI (-5), rM I (-5) 5, F) := by rw [s186k5]; rfl
theorem r187_5 : sem N (d + 2) 187 [vR (some (1, 0)), vI (-5)] I F = some (vI 0, rM I (-5) 5, F) := by rw [s187]; unfold b187; rw [r186_5, bI_v]
theorem r169_6 : sem N (d + 1) 169 [vR (some (0, 0)), vI (-6)] I F = some (vI (-6), rC I (-6) 5, F) := by rw [s169k6]; rfl
theorem r170_6 : sem N (d + 2) 170 [vR (some (0, 0)), vI (-6)] I F = some (vI 0, rC I (-6) 5, F) := by rw [s170]; unfold b170; rw [r169_6, bI_v]
theorem r186_6 : sem N (d + 1) 186 [vR (some (1, 0)), vI (-6)] I F = some (vI (-6), rM I (-6) 6, F) := by rw [s186k6]; rfl
theorem r187_6 : sem N (d + 2) 187 [vR (some (1, 0)), vI (-6)] I F = some (vI 0, rM I (-6) 6, F) := by rw [s187]; unfold b187; rw [r186_6, bI_v]
theorem r169_7 : sem N (d + 1) 169 [vR (some (0, 0)), vI (-7)] I F = some (vI (-7), rC I (-7) 6, F) := by rw [s169k7]; rfl
theorem r170_7 : sem N (d + 2) 170 [vR (some (0, 0)), vI (-7)] I F = some (vI 0, rC I (-7) 6, F) := by rw [s170]; unfold b170; rw [r169_7, bI_v]
theorem r186_7 : sem N (d + 1) 186 [vR (some (1, 0)), vI (-7)] I F = some (vI (-7), rM I (-7) 7, F) := by rw [s186k7]; rfl
theorem r187_7 : sem N (d + 2) 187 [vR (some (1, 0)), vI (-7)] I F = some (vI 0, rM I (-7) 7, F) := by rw [s187]; unfold b187; rw [r186_7, bI_v]
theorem m168 (x : Int32) : sem N (d + 1) 168 [vR (some (0, 0)), vI x] I F = some (vI x, wI I 0 0 6 0, F) := by rw [s168]; rfl
theorem m185 (x : Int32) : sem N (d + 1) 185 [vR (some (1, 0)), vI x] I F = some (vI x, wI I 1 0 1 0, F) := by rw [s185]; rfl
end RF
/-- what the invariant sees is the same -/
def smI (I J : IM) (F G : FM) : Prop := (∀ b o k, kpl b o k → J b o k = I b o k) ∧ (∀ o k, J 2 o k = I 2 o k) ∧ (∀ k, J 1 2 k = I 1 2 k) ∧ ∀ b o k, b ≠ 3 → G b o k = F b o k
theorem sm_rfl {I : IM} {F : FM} : smI I I F F := ⟨fun _ _ _ _ => rfl, fun _ _ => rfl, fun _ => rfl, fun _ _ _ _ => rfl⟩
theorem sm_trans {I J K : IM} {F G H : FM} (h : smI I J F G) (h2 : smI J K G H) : smI I K F H := ⟨fun b o k z => by rw [h2.1 b o k z, h.1 b o k z], fun o k => by rw [h2.2.1, h.2.1], fun k => by rw [h2.2.2.1, h.2.2.1], fun b o k z => by rw [h2.2.2.2 b o k z, h.2.2.2 b o k z]⟩
theorem sm_w {I J : IM} {F G : FM} {b o k : Nat} (x : Int32) (h : smI I J F G) (hk : ¬ kpl b o k) (h2 : b ≠ 2) (h12 : ¬ (b = 1 ∧ o = 2)) : smI I (wI J b o k x) F G := by
  obtain ⟨q1, q2, q3, q4⟩ := h
  refine ⟨fun b' o' k' z => ?_, fun o' k' => ?_, fun k' => ?_, q4⟩
  · rw [wI_eq, if_neg (fun y => hk (by obtain ⟨rfl, rfl, rfl⟩ := y; exact z)), q1 b' o' k' z]
  · rw [wI_eq, if_neg (fun y => h2 y.1.symm), q2]
  · rw [wI_eq, if_neg (fun y => h12 ⟨y.1.symm, y.2.1.symm⟩), q3]
theorem sm_0 {I J : IM} {F G : FM} {x : Int32} (h : smI I J F G) : smI I (wI J 1 0 0 x) F G := sm_w x h (by unfold kpl; omega) (by omega) (by omega)
theorem Inv_sm {I J : IM} {F G : FM} (hI : InvC I F) (h : smI I J F G) : InvC J G := Inv_q hI h.1 h.2.1 h.2.2.1 h.2.2.2
/-- a refusal -/
theorem Inv_rf {I J : IM} {F G : FM} {x : Int32} {j : Nat} (hI : InvC I F) (hj : j < 7) (h : smI (rC I x j) J F G) : InvC (rM J x (j + 1)) G := by
  obtain ⟨i1, i2, i3, i4, i5⟩ := hI
  obtain ⟨q1, q2, q3, q4⟩ := h
  have a1 : ∀ b o k, kq b o k → rM J x (j + 1) b o k = I b o k := fun b o k z => by
    unfold rM
    rw [wI_eq, if_neg (fun y => by unfold kq at z; omega), wI_eq, if_neg (fun y => by unfold kq at z; omega), q1 b o k (by unfold kpl; unfold kq at z; omega)]
    unfold rC
    rw [wI_eq, if_neg (fun y => by unfold kq at z; omega), wI_eq, if_neg (fun y => by unfold kq at z; omega)]
  refine ⟨CR_congr i1 (q4 _ _ _ (by omega)) (q4 _ _ _ (by omega)) (fun o k _ => ?_) (fun k _ => ?_), Hist_congr i2 (eqH_of a1 (fun b k hb => q4 _ _ _ (by omega)) (fun k => q4 _ _ _ (by omega))), Img_congr i3 (eqM_of a1 (fun b k hb => q4 _ _ _ (by omega)) (fun k => q4 _ _ _ (by omega))), ?_, ?_⟩
  · unfold rM
    rw [wI_eq, if_neg (fun y => by omega), wI_eq, if_neg (fun y => by omega), q2]
    unfold rC
    rw [wI_eq, if_neg (fun y => by omega), wI_eq, if_neg (fun y => by omega)]
  · unfold rM
    rw [wI_eq, if_neg (fun y => by omega), wI_eq, if_neg (fun y => by omega), q3]
    unfold rC
    rw [wI_eq, if_neg (fun y => by omega), wI_eq, if_neg (fun y => by omega)]
  · have e1 : rM J x (j + 1) 0 0 6 = x := by
      unfold rM
      rw [wI_eq, if_neg (fun y => by omega), wI_eq, if_neg (fun y => by omega), q1 0 0 6 (by unfold kpl; omega)]
      unfold rC
      rw [wI_eq, if_neg (fun y => by omega), wI_s]
    rw [e1]
    unfold rM
    rw [wI_eq, if_neg (fun y => by omega), wI_s]
  · intro i hi
    have e1 : rM J x (j + 1) 0 17 i = if i = j then I 0 17 j + 1 else I 0 17 i := by
      unfold rM
      rw [wI_eq, if_neg (fun y => by omega), wI_eq, if_neg (fun y => by omega), q1 0 17 i (by unfold kpl; omega)]
      unfold rC
      rw [wI_eq]
      by_cases e : i = j
      · rw [if_pos ⟨rfl, rfl, e⟩, if_pos e]
      · rw [if_neg (fun y => e y.2.2), if_neg e, wI_eq, if_neg (fun y => by omega)]
    have e2 : ∀ m, J 1 1 m = I 1 1 m := fun m => by
      rw [q1 1 1 m (by unfold kpl; omega)]
      unfold rC
      rw [wI_eq, if_neg (fun y => by omega), wI_eq, if_neg (fun y => by omega)]
    have e3 : rM J x (j + 1) 1 1 (i + 1) = if i = j then I 1 1 (j + 1) + 1 else I 1 1 (i + 1) := by
      unfold rM
      rw [wI_eq]
      by_cases e : i = j
      · rw [if_pos ⟨rfl, rfl, by omega⟩, if_pos e, e2]
      · rw [if_neg (fun y => e (by omega)), if_neg e, wI_eq, if_neg (fun y => by omega), e2]
    rw [e1, e3, i5 j hj, i5 i hi]
/-- an act -/
def agC (I J : IM) (F G : FM) : Prop := (∀ o k, J 2 o k = I 2 o k) ∧ (∀ o k, J 1 o k = I 1 o k) ∧ (∀ o k, G 2 o k = F 2 o k) ∧ ∀ o k, G 1 o k = F 1 o k
def agM (I R : IM) (F H : FM) : Prop := (∀ k, R 1 2 k = I 1 2 k) ∧ H 1 0 4 = F 1 0 4
def okC (J : IM) (G : FM) (C : IM) (FC : FM) : Prop := (∀ b o k, b ≠ 2 → ¬ scC b o → C b o k = J b o k) ∧ (∀ b o k, b ≠ 2 → b ≠ 3 → FC b o k = G b o k) ∧ C 0 0 6 = 0
def okMm (R : IM) (H : FM) (M : IM) (FX : FM) : Prop := (∀ b o k, ¬ (b = 1 ∧ o = 2) → ¬ scM b o k → ¬ (b = 1 ∧ o = 0 ∧ k = 1) → M b o k = R b o k) ∧ (∀ b o k, ¬ (b = 1 ∧ o = 0) → FX b o k = H b o k) ∧ M 1 0 1 = 0
theorem zN_ge : 3000 ≤ zN := by decide
theorem act_of {I : IM} {F : FM} {yC yM e : Nat} {as bs : List Vl} {KC KM : IM → FM → Option Rs} {x : Int32} (act : Int32) (CC MM XX : IM → IM) (CF MF : FM → FM) (hI : InvC I F)
    (ec : sem zN 9 yC as I F = bV (sem zN 8 28 [vR (some (0, 12)), vR (some (2, 0)), vI act] I F) KC)
    (em : ∀ J G, (∀ o k, J 1 o k = I 1 o k) → (∀ o k, G 1 o k = F 1 o k) → sem zN 9 yM bs J G = bV (sem zN (e + 2) 190 [vR (some (1, 0)), vI act] (XX J) G) KM)
    (ex : ∀ J, (∀ o k, J 1 o k = I 1 o k) → ∀ b o k, ¬ scM b o k → XX J b o k = J b o k)
    (hc : ∀ J G, agC I J F G → KC J G = some (vI x, CC J, CF G) ∧ okC J G (CC J) (CF G))
    (hm : ∀ R H, agM I R F H → KM R H = some (vI x, MM R, MF H) ∧ okMm R H (MM R) (MF H))
    (hn : ∀ J R G H, agC I J F G → agM I R F H → CR (CC J 2) (CF G 2 1 5) (MM R 1 2) (MF H 1 0 4)) :
    ∃ (x : Int32) (I1 : IM) (F1 : FM) (I2 : IM) (F2 : FM), sem zN 9 yC as I F = some (vI x, I1, F1) ∧ sem zN 9 yM bs I1 F1 = some (vI x, I2, F2) ∧ InvC I2 F2 := by
  have hI' := hI
  obtain ⟨i1, ⟨n, q, h1, h2, h3, h4, h5, h6⟩, i3, i4⟩ := hI'
  obtain ⟨J, k0, hK⟩ := keepC (N := zN) (d := 5) (I := I) (F := F) act h5 h2 h4 h1
  have k1 := hK.1
  have aC : agC I J F (wF F (q + 4) 1 5 (F 2 1 5)) := ⟨fun o k => k1 2 o k (by omega) (by omega) (by omega) (by omega), fun o k => k1 1 o k (by omega) (by omega) (by omega) (by omega), fun o k => by rw [wF_eq, if_neg (fun z => by omega)], fun o k => by rw [wF_eq, if_neg (fun z => by omega)]⟩
  obtain ⟨c1, c2, c3, c4⟩ := hc J _ aC
  have b1 : ∀ o k, CC J 1 o k = I 1 o k := fun o k => by rw [c2 1 o k (by omega) (by unfold scC; omega), aC.2.1]
  have g1 : ∀ o k, CF (wF F (q + 4) 1 5 (F 2 1 5)) 1 o k = F 1 o k := fun o k => by rw [c3 1 o k (by omega) (by omega), aC.2.2.2]
  have x1 := ex (CC J) b1
  obtain ⟨R, FR, r0, hR⟩ := remember (N := zN) (d := e) (I := XX (CC J)) (F := CF (wF F (q + 4) 1 5 (F 2 1 5))) zN_ge act h1 (by rw [x1 1 0 8 (by unfold scM; omega), b1, h3])
  have aM : agM I R F FR := ⟨fun k => by rw [hR.1 1 2 k (by omega), x1 1 2 k (by unfold scM; omega), b1], by rw [hR.2.1 1 0 4 (by omega), g1]⟩
  obtain ⟨m1, m2, m3, m4⟩ := hm R FR aM
  refine ⟨x, CC J, CF (wF F (q + 4) 1 5 (F 2 1 5)), MM R, MF FR, ?_, ?_, ?_⟩
  · rw [ec, k0, bV_v, c1]
  · rw [em _ _ b1 g1, r0, bV_v, m1]
  · exact Inv_mut hI h2 h1 h5 h4 h3 hK c2 c3 x1 hR m2 m3 (hn J R _ FR aC aM) (by rw [c4, m4])
theorem len0 {as : List Int32} (h : as.length = 0) : as = [] := List.length_eq_zero_iff.mp h
theorem len1 {as : List Int32} (h : as.length = 1) : ∃ x, as = [x] := by
  match as, h with
  | [x], _ => exact ⟨x, rfl⟩
theorem len2 {as : List Int32} (h : as.length = 2) : ∃ x y, as = [x, y] := by
  match as, h with
  | [x, y], _ => exact ⟨x, y, rfl⟩
theorem len3 {as : List Int32} (h : as.length = 3) : ∃ x y z, as = [x, y, z] := by
  match as, h with
  | [x, y, z], _ => exact ⟨x, y, z, rfl⟩
theorem len6 {as : List Int32} (h : as.length = 6) : ∃ x y z u v w, as = [x, y, z, u, v, w] := by
  match as, h with
  | [x, y, z, u, v, w], _ => exact ⟨x, y, z, u, v, w, rfl⟩
theorem rf_of {I : IM} {F : FM} {yC yM : Nat} {as bs : List Vl} {x y : Int32} {j : Nat} (hI : InvC I F) (hj : j < 7)
    (ec : sem zN 9 yC as I F = some (vI y, rC I x j, F))
    (em : sem zN 9 yM bs (rC I x j) F = some (vI y, rM (wI (rC I x j) 1 0 0 0) x (j + 1), F)) :
    ∃ (x : Int32) (I1 : IM) (F1 : FM) (I2 : IM) (F2 : FM), sem zN 9 yC as I F = some (vI x, I1, F1) ∧ sem zN 9 yM bs I1 F1 = some (vI x, I2, F2) ∧ InvC I2 F2 :=
  ⟨y, _, _, _, _, ec, em, Inv_rf hI hj (sm_0 sm_rfl)⟩
theorem rC_1 {I : IM} {x : Int32} {j : Nat} (o k : Nat) : rC I x j 1 o k = I 1 o k := by
  unfold rC
  rw [wI_eq, if_neg (fun y => by omega), wI_eq, if_neg (fun y => by omega)]
theorem w0_12 {I : IM} {x : Int32} (k : Nat) : wI I 1 0 0 x 1 2 k = I 1 2 k := by rw [wI_eq, if_neg (fun y => by omega)]
