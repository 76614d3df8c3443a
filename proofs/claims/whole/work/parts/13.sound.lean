/-! THE SMALL MACHINE IS SOUND -/
theorem hasW_mem {i : Nat} {w : Cond} (h : hasW i w = true) : w ∈ lw_gd := by
  unfold hasW at h
  rw [Bool.and_eq_true] at h
  exact List.mem_filter.mpr ⟨List.mem_of_getElem? (of_decide_eq_true h.1), h.2⟩
theorem okCall_spec {mr m1 : MR} {na rt : Nat} (h : okCall mr m1 na rt = true) : zdesc m1 na ∧ m1.2.2.2.2.2.1 + 1 ≤ mr.2.2.2.2.2.1 ∧ 12 + (m1.2.2.1 + 11) + m1.2.2.2.2.2.2 ≤ mr.2.2.2.2.2.2 ∧ (rt = 0 ↔ m1.2.2.2.2.1 = 0) := by
  unfold okCall at h
  simp only [Bool.and_eq_true, decide_eq_true_eq] at h
  obtain ⟨h1, h2, h3, h4, h5, h6⟩ := h
  refine ⟨⟨h1, h2, h3⟩, h4, h5, ?_⟩
  have h7 := eq_of_beq h6
  constructor
  · intro z
    subst z
    exact Nat.eq_of_beq_eq_true h7.symm
  · intro z
    rw [z] at h7
    exact Nat.eq_of_beq_eq_true h7
theorem okM_spec {mr : MR} {cd : Cd} {hs : List (List Nat)} (h : okM mr cd hs = true) : (chain cd = true ∧ ∀ e ∈ cd, 1 ≤ e.2.2.2.1) ∧ (∀ e ∈ cd, ∃ q, okE mr e q = true) ∧ ∀ e tl, cd = e :: tl → e.1 = 0 := by
  unfold okM at h
  simp only [Bool.and_eq_true] at h
  obtain ⟨h1, h2, h3, h4⟩ := h
  refine ⟨⟨h1.1, fun e he => Nat.le_of_ble_eq_true (List.all_eq_true.mp h1.2 e he)⟩, fun e he => ?_, fun e tl z => ?_⟩
  · obtain ⟨i, hi⟩ := List.getElem?_of_mem he
    have hl : i < cd.length := (List.getElem?_eq_some_iff.mp hi).1
    have hl2 : i < hs.length := by rw [← Nat.eq_of_beq_eq_true h3]; exact hl
    have hz : (cd.zip hs)[i]? = some (e, hs[i]) := by rw [List.getElem?_zip_eq_some]; exact ⟨hi, List.getElem?_eq_getElem hl2⟩
    have h5 : (fun q : Ent × List Nat => okE mr q.1 q.2) (e, hs[i]) = true := List.all_eq_true.mp h2 (e, hs[i]) (List.mem_of_getElem? hz)
    exact ⟨hs[i], h5⟩
  · subst z
    exact Nat.eq_of_beq_eq_true h4
/-- cur is the rest of the code from pc on -/
def AtPc (full cur : Cd) (pc : Nat) : Prop := (∃ pre, full = pre ++ cur) ∧ ∀ e tl, cur = e :: tl → e.1 = pc
theorem jmp_at (t : Nat) : ∀ (full pre : Cd), AtPc (pre ++ full) (jmp t full) t
  | [], pre => ⟨⟨pre, rfl⟩, fun e tl h => by cases h⟩
  | e :: r, pre => by
    unfold jmp
    cases hb : Nat.beq e.1 t with
    | true => exact ⟨⟨pre, rfl⟩, fun e2 tl h => by cases h; exact Nat.eq_of_beq_eq_true hb⟩
    | false =>
      have h := jmp_at t r (pre ++ [e])
      rw [List.append_assoc] at h
      exact h
theorem jmp_at0 (t : Nat) (full : Cd) : AtPc full (jmp t full) t := jmp_at t full []
theorem chain_app : ∀ (pre : Cd) (cur : Cd), chain (pre ++ cur) = true → chain cur = true
  | [], _, h => h
  | [a], cur, h => by
    cases cur with
    | nil => rfl
    | cons e r =>
      have h' : (Nat.beq e.1 (a.1 + a.2.2.2.1) && chain (e :: r)) = true := h
      rw [Bool.and_eq_true] at h'
      exact h'.2
  | a :: b :: pre, cur, h => by
    have h' : (Nat.beq b.1 (a.1 + a.2.2.2.1) && chain (b :: (pre ++ cur))) = true := h
    rw [Bool.and_eq_true] at h'
    exact chain_app (b :: pre) cur h'.2
theorem at_tl {full : Cd} (hc : chain full = true) {e : Ent} {tl : Cd} {pc : Nat} (h : AtPc full (e :: tl) pc) : AtPc full tl (e.1 + e.2.2.2.1) := by
  obtain ⟨⟨pre, hp⟩, -⟩ := h
  refine ⟨⟨pre ++ [e], by rw [hp, List.append_assoc]; rfl⟩, fun e2 tl2 z => ?_⟩
  subst z
  have hch := chain_app pre _ (hp ▸ hc)
  have h' : (Nat.beq e2.1 (e.1 + e.2.2.2.1) && chain (e2 :: tl2)) = true := hch
  rw [Bool.and_eq_true] at h'
  exact Nat.eq_of_beq_eq_true h'.1
theorem pop_spec : ∀ (n : Nat) (acc st as st' : List Vl), pop n acc st = some (as, st') → ∃ xs, st = xs ++ st' ∧ xs.length = n ∧ as = xs.reverse ++ acc
  | 0, acc, st, as, st', h => by cases h; exact ⟨[], rfl, rfl, rfl⟩
  | n + 1, acc, [], as, st', h => by cases h
  | n + 1, acc, v :: st, as, st', h => by
    obtain ⟨xs, h1, h2, h3⟩ := pop_spec n (v :: acc) st as st' h
    exact ⟨v :: xs, by rw [h1]; rfl, by rw [List.length_cons, h2], by rw [h3]; simp⟩
theorem pop_spec0 {n : Nat} {st as st' : List Vl} (h : pop n [] st = some (as, st')) : st = as.reverse ++ st' ∧ as.length = n := by
  obtain ⟨xs, h1, h2, h3⟩ := pop_spec n [] st as st' h
  rw [List.append_nil] at h3
  subst h3
  exact ⟨by rw [List.reverse_reverse]; exact h1, by rw [List.length_reverse]; exact h2⟩
theorem bI_some {q : Option Rs} {k : Int32 → IM → FM → Option Rs} {r : Rs} (h : bI q k = some r) : ∃ x I F, q = some (vI x, I, F) ∧ k x I F = some r := by
  unfold bI at h
  split at h
  · exact ⟨_, _, _, rfl, h⟩
  · cases h
theorem bL_some {q : Option Rs} {k : Int64 → IM → FM → Option Rs} {r : Rs} (h : bL q k = some r) : ∃ x I F, q = some (vL x, I, F) ∧ k x I F = some r := by
  unfold bL at h
  split at h
  · exact ⟨_, _, _, rfl, h⟩
  · cases h
theorem bF_some {q : Option Rs} {k : UInt32 → IM → FM → Option Rs} {r : Rs} (h : bF q k = some r) : ∃ x I F, q = some (vF x, I, F) ∧ k x I F = some r := by
  unfold bF at h
  split at h
  · exact ⟨_, _, _, rfl, h⟩
  · cases h
theorem bD_some {q : Option Rs} {k : UInt64 → IM → FM → Option Rs} {r : Rs} (h : bD q k = some r) : ∃ x I F, q = some (vD x, I, F) ∧ k x I F = some r := by
  unfold bD at h
  split at h
  · exact ⟨_, _, _, rfl, h⟩
  · cases h
theorem bR_some {q : Option Rs} {k : Option (Nat × Nat) → IM → FM → Option Rs} {r : Rs} (h : bR q k = some r) : ∃ x I F, q = some (vR x, I, F) ∧ k x I F = some r := by
  unfold bR at h
  split at h
  · exact ⟨_, _, _, rfl, h⟩
  · cases h
theorem bV_some {q : Option Rs} {k : IM → FM → Option Rs} {r : Rs} (h : bV q k = some r) : ∃ v I F, q = some (v, I, F) ∧ k I F = some r := by
  unfold bV at h
  split at h
  · exact ⟨_, _, _, rfl, h⟩
  · cases h
theorem isO_spec {q : Nat × Nat} {c : Nat} (h : isO q c = true) : q = (0, c) := by
  unfold isO at h
  rw [Bool.and_eq_true] at h
  obtain ⟨a, b⟩ := q
  have e1 := Nat.eq_of_beq_eq_true h.1
  have e2 := Nat.eq_of_beq_eq_true h.2
  simp only at e1 e2
  rw [e1, e2]
theorem K0_of {b o k : Nat} (h : Nat.beq (K0 b o).1 k = true) : K0 b o = (k, (K0 b o).2) := by
  have e := Nat.eq_of_beq_eq_true h
  rw [← e]
theorem cond_some {α : Type} {c : Bool} {x : Option α} {r : α} (h : cond c x none = some r) : c = true ∧ x = some r := by
  cases c with
  | true => exact ⟨rfl, h⟩
  | false => cases h
theorem cond_some' {α : Type} {c : Bool} {x : Option α} {r : α} (h : cond c none x = some r) : c = false ∧ x = some r := by
  cases c with
  | true => cases h
  | false => exact ⟨rfl, h⟩
theorem ite_some {α : Type} {c : Prop} [Decidable c] {x : Option α} {r : α} (h : (if c then x else none) = some r) : c ∧ x = some r := by
  by_cases hc : c
  · rw [if_pos hc] at h; exact ⟨hc, h⟩
  · rw [if_neg hc] at h; cases h
/-- a switch -/
theorem swt_sound {mr : MR} {pc : Nat} {lv : Lv} {st : List Vl} {I : IM} {F : FM} {r : Rs} {d lo hi : Int} {offs : Array Int} {len : Nat} {x : Int32} {k : Nat → Option Rs} {dt : Nat} (hd : decode mr.2.1 pc = .ok (.tableswitch d lo hi offs, len)) (hdt : (pc : Int) + d = (dt : Int)) (hk : ∀ t, k t = some r → FromOK mr t lv st I F r) :
    ∀ (ts : List Nat) (fs : List Int) (j : Nat), tabOK pc (lo + j) fs ts = true → (∀ i f, fs[i]? = some f → offs[j + i]? = some f) → lo + j + ts.length = hi + 1 → (∀ i : Nat, i < j → x.toInt ≠ lo + i) → swt k x dt (lo + j) ts = some r → FromOK mr pc lv (vI x :: st) I F r := by
  intro ts
  induction ts with
  | nil =>
    intro fs j hok hof hlen hlt h
    refine S_tabOut hd ?_ hdt (hk dt h)
    simp only [List.length_nil] at hlen
    by_cases h1 : x.toInt < lo
    · exact Or.inl h1
    · right
      have h2 := hlt (x.toInt - lo).toNat
      by_cases h3 : (x.toInt - lo).toNat < j
      · have := h2 h3
        omega
      · omega
  | cons t ts ih =>
    intro fs j hok hof hlen hlt h
    cases fs with
    | nil => cases hok
    | cons f fs =>
      have hok' : (decide ((pc : Int) + f = (t : Int)) && (decide ((ci (lo + j)).toInt = lo + j) && tabOK pc (lo + j + 1) fs ts)) = true := hok
      simp only [Bool.and_eq_true, decide_eq_true_eq] at hok'
      obtain ⟨e1, e2, e3⟩ := hok'
      unfold swt at h
      by_cases hx : x = ci (lo + j)
      · rw [if_pos hx] at h
        have hxi : x.toInt = lo + j := by rw [hx, e2]
        simp only [List.length_cons] at hlen
        refine S_tabIn hd (by omega) (by omega) (off := f) ?_ e1 (hk t h)
        have h0 := hof 0 f rfl
        rw [show (x.toInt - lo).toNat = j + 0 by omega]
        exact h0
      · rw [if_neg hx] at h
        have ea : lo + ((j + 1 : Nat) : Int) = lo + j + 1 := by omega
        refine ih fs (j + 1) (by rw [ea]; exact e3) (fun i f2 hf2 => ?_) (by simp only [List.length_cons] at hlen; omega) (fun i hi => ?_) (by rw [ea]; exact h)
        · have := hof (i + 1) f2 hf2
          rw [show j + 1 + i = j + (i + 1) by omega]
          exact this
        · by_cases hij : i = j
          · subst hij
            intro z
            apply hx
            rw [← Int32.toInt_inj, e2, z]
          · exact hlt i (by omega)
abbrev GC : Type := Nat → List Vl → IM → FM → Option Rs
def SoundC (gc : GC) : Prop := ∀ (y : Nat) (as : List Vl) (I : IM) (F : FM) (r : Rs), gc y as I F = some r → CallOK y as I F r
set_option maxHeartbeats 4000000 in
set_option maxRecDepth 100000 in
theorem ex_sound {gc : GC} (hcd : ∀ y, CW (zM y)) (hgc : SoundC gc) {mr : MR} {full : Cd} {k : Cd → Lv → List Vl → IM → FM → Option Rs} (hk : ∀ cur pc lv st I F r, AtPc full cur pc → k cur lv st I F = some r → FromOK mr pc lv st I F r) {pc len : Nat} {ins : Instr} {aux : List Nat} {z : Int} {tl : Cd} {lv : Lv} {st : List Vl} {I : IM} {F : FM} {r : Rs} {hh : List Nat} (hd : decode mr.2.1 pc = .ok (ins, len)) (hlen : lenOK ins len = true) (hok : okI mr pc ins aux z hh = true) (htl : AtPc full tl (pc + len)) (h : ex gc mr.2.2.2.2.1 full k ins aux z tl lv st I F = some r) : FromOK mr pc lv st I F r := by
  cases ins
  case iload_n j =>
    obtain rfl : len = 1 := Nat.eq_of_beq_eq_true hlen
    simp only [ex] at h
    split at h
    · rename_i x hx
      exact S_iload_n hd hx (hk _ _ _ _ _ _ _ htl h)
    · cases h
  case iload j =>
    obtain rfl : len = 2 := Nat.eq_of_beq_eq_true hlen
    simp only [ex] at h
    split at h
    · rename_i x hx
      exact S_iload hd hx (hk _ _ _ _ _ _ _ htl h)
    · cases h
  case istore_n j =>
    obtain rfl : len = 1 := Nat.eq_of_beq_eq_true hlen
    simp only [ex] at h
    split at h
    · exact S_istore_n hd (of_decide_eq_true hok) (hk _ _ _ _ _ _ _ htl h)
    · cases h
  case istore j =>
    obtain rfl : len = 2 := Nat.eq_of_beq_eq_true hlen
    simp only [ex] at h
    split at h
    · exact S_istore hd (of_decide_eq_true hok) (hk _ _ _ _ _ _ _ htl h)
    · cases h
  case lload_n j =>
    obtain rfl : len = 1 := Nat.eq_of_beq_eq_true hlen
    simp only [ex] at h
    split at h
    · rename_i x hx
      exact S_lload_n hd hx (hk _ _ _ _ _ _ _ htl h)
    · cases h
  case lload j =>
    obtain rfl : len = 2 := Nat.eq_of_beq_eq_true hlen
    simp only [ex] at h
    split at h
    · rename_i x hx
      exact S_lload hd hx (hk _ _ _ _ _ _ _ htl h)
    · cases h
  case lstore_n j =>
    obtain rfl : len = 1 := Nat.eq_of_beq_eq_true hlen
    simp only [ex] at h
    split at h
    · exact S_lstore_n hd (of_decide_eq_true hok) (hk _ _ _ _ _ _ _ htl h)
    · cases h
  case lstore j =>
    obtain rfl : len = 2 := Nat.eq_of_beq_eq_true hlen
    simp only [ex] at h
    split at h
    · exact S_lstore hd (of_decide_eq_true hok) (hk _ _ _ _ _ _ _ htl h)
    · cases h
  case fload_n j =>
    obtain rfl : len = 1 := Nat.eq_of_beq_eq_true hlen
    simp only [ex] at h
    split at h
    · rename_i x hx
      exact S_fload_n hd hx (hk _ _ _ _ _ _ _ htl h)
    · cases h
  case fload j =>
    obtain rfl : len = 2 := Nat.eq_of_beq_eq_true hlen
    simp only [ex] at h
    split at h
    · rename_i x hx
      exact S_fload hd hx (hk _ _ _ _ _ _ _ htl h)
    · cases h
  case fstore_n j =>
    obtain rfl : len = 1 := Nat.eq_of_beq_eq_true hlen
    simp only [ex] at h
    split at h
    · exact S_fstore_n hd (of_decide_eq_true hok) (hk _ _ _ _ _ _ _ htl h)
    · cases h
  case fstore j =>
    obtain rfl : len = 2 := Nat.eq_of_beq_eq_true hlen
    simp only [ex] at h
    split at h
    · exact S_fstore hd (of_decide_eq_true hok) (hk _ _ _ _ _ _ _ htl h)
    · cases h
  case dload_n j =>
    obtain rfl : len = 1 := Nat.eq_of_beq_eq_true hlen
    simp only [ex] at h
    split at h
    · rename_i x hx
      exact S_dload_n hd hx (hk _ _ _ _ _ _ _ htl h)
    · cases h
  case dload j =>
    obtain rfl : len = 2 := Nat.eq_of_beq_eq_true hlen
    simp only [ex] at h
    split at h
    · rename_i x hx
      exact S_dload hd hx (hk _ _ _ _ _ _ _ htl h)
    · cases h
  case dstore_n j =>
    obtain rfl : len = 1 := Nat.eq_of_beq_eq_true hlen
    simp only [ex] at h
    split at h
    · exact S_dstore_n hd (of_decide_eq_true hok) (hk _ _ _ _ _ _ _ htl h)
    · cases h
  case dstore j =>
    obtain rfl : len = 2 := Nat.eq_of_beq_eq_true hlen
    simp only [ex] at h
    split at h
    · exact S_dstore hd (of_decide_eq_true hok) (hk _ _ _ _ _ _ _ htl h)
    · cases h
  case aload_n j =>
    obtain rfl : len = 1 := Nat.eq_of_beq_eq_true hlen
    simp only [ex] at h
    split at h
    · rename_i x hx
      exact S_aload_n hd hx (hk _ _ _ _ _ _ _ htl h)
    · cases h
  case aload j =>
    obtain rfl : len = 2 := Nat.eq_of_beq_eq_true hlen
    simp only [ex] at h
    split at h
    · rename_i x hx
      exact S_aload hd hx (hk _ _ _ _ _ _ _ htl h)
    · cases h
  case astore_n j =>
    obtain rfl : len = 1 := Nat.eq_of_beq_eq_true hlen
    simp only [ex] at h
    split at h
    · exact S_astore_n hd (of_decide_eq_true hok) (hk _ _ _ _ _ _ _ htl h)
    · cases h
  case astore j =>
    obtain rfl : len = 2 := Nat.eq_of_beq_eq_true hlen
    simp only [ex] at h
    split at h
    · exact S_astore hd (of_decide_eq_true hok) (hk _ _ _ _ _ _ _ htl h)
    · cases h
  case iinc j n =>
    obtain rfl : len = 3 := Nat.eq_of_beq_eq_true hlen
    simp only [ex] at h
    split at h
    · rename_i x hx
      simp only [okI, Bool.and_eq_true, decide_eq_true_eq] at hok
      exact S_iinc hd hx hok.1 hok.2 (hk _ _ _ _ _ _ _ htl h)
    · cases h
  case iconst n =>
    obtain rfl : len = 1 := Nat.eq_of_beq_eq_true hlen
    simp only [ex] at h
    exact S_iconst hd (of_decide_eq_true hok) (hk _ _ _ _ _ _ _ htl h)
  case bipush n =>
    obtain rfl : len = 2 := Nat.eq_of_beq_eq_true hlen
    simp only [ex] at h
    exact S_bipush hd (of_decide_eq_true hok) (hk _ _ _ _ _ _ _ htl h)
  case sipush n =>
    obtain rfl : len = 3 := Nat.eq_of_beq_eq_true hlen
    simp only [ex] at h
    exact S_sipush hd (of_decide_eq_true hok) (hk _ _ _ _ _ _ _ htl h)
  case lconst n =>
    obtain rfl : len = 1 := Nat.eq_of_beq_eq_true hlen
    simp only [ex] at h
    exact S_lconst hd (hk _ _ _ _ _ _ _ htl h)
  case fconst n =>
    obtain rfl : len = 1 := Nat.eq_of_beq_eq_true hlen
    match n, hd, h with
    | 0, hd, h => exact S_fconst0 hd (hk _ _ _ _ _ _ _ htl h)
    | 1, hd, h => exact S_fconst1 hd (hk _ _ _ _ _ _ _ htl h)
    | 2, hd, h => exact S_fconst2 hd (hk _ _ _ _ _ _ _ htl h)
  case dconst n =>
    obtain rfl : len = 1 := Nat.eq_of_beq_eq_true hlen
    match n, hd, h with
    | 0, hd, h => exact S_dconst0 hd (hk _ _ _ _ _ _ _ htl h)
    | 1, hd, h => exact S_dconst1 hd (hk _ _ _ _ _ _ _ htl h)
  case aconst_null =>
    obtain rfl : len = 1 := Nat.eq_of_beq_eq_true hlen
    simp only [ex] at h
    exact S_null hd (hk _ _ _ _ _ _ _ htl h)
  case ldc idx =>
    obtain rfl : len = 2 := Nat.eq_of_beq_eq_true hlen
    simp only [ex] at h
    split at h
    · simp only [okI] at hok
      split at hok
      · exact S_ldcI hd (hasW_mem hok) (hk _ _ _ _ _ _ _ htl h)
      · exact absurd ‹([0] : List Nat) = [1]› (by decide)
      · cases hok
    · simp only [okI] at hok
      split at hok
      · exact absurd ‹([1] : List Nat) = [0]› (by decide)
      · exact S_ldcF hd (hasW_mem hok) (hk _ _ _ _ _ _ _ htl h)
      · cases hok
    · cases h
  case ldc_w idx =>
    obtain rfl : len = 3 := Nat.eq_of_beq_eq_true hlen
    simp only [ex] at h
    split at h
    · simp only [okI] at hok
      split at hok
      · exact S_ldcw hd (hasW_mem hok) (hk _ _ _ _ _ _ _ htl h)
      · cases hok
    · cases h
  case ldc2_w idx =>
    obtain rfl : len = 3 := Nat.eq_of_beq_eq_true hlen
    simp only [ex] at h
    split at h
    · simp only [okI] at hok
      split at hok
      · exact S_ldc2L hd (hasW_mem hok) (hk _ _ _ _ _ _ _ htl h)
      · exact absurd ‹([0] : List Nat) = [1]› (by decide)
      · cases hok
    · simp only [okI] at hok
      split at hok
      · exact absurd ‹([1] : List Nat) = [0]› (by decide)
      · exact S_ldc2D hd (hasW_mem hok) (hk _ _ _ _ _ _ _ htl h)
      · cases hok
    · cases h
  case iadd =>
    obtain rfl : len = 1 := Nat.eq_of_beq_eq_true hlen
    simp only [ex] at h
    split at h
    · exact S_iadd hd (hk _ _ _ _ _ _ _ htl h)
    · cases h
  case isub =>
    obtain rfl : len = 1 := Nat.eq_of_beq_eq_true hlen
    simp only [ex] at h
    split at h
    · exact S_isub hd (hk _ _ _ _ _ _ _ htl h)
    · cases h
  case imul =>
    obtain rfl : len = 1 := Nat.eq_of_beq_eq_true hlen
    simp only [ex] at h
    split at h
    · exact S_imul hd (hk _ _ _ _ _ _ _ htl h)
    · cases h
  case ineg =>
    obtain rfl : len = 1 := Nat.eq_of_beq_eq_true hlen
    simp only [ex] at h
    split at h
    · exact S_ineg hd (hk _ _ _ _ _ _ _ htl h)
    · cases h
  case iand =>
    obtain rfl : len = 1 := Nat.eq_of_beq_eq_true hlen
    simp only [ex] at h
    split at h
    · exact S_iand hd (hk _ _ _ _ _ _ _ htl h)
    · cases h
  case ior =>
    obtain rfl : len = 1 := Nat.eq_of_beq_eq_true hlen
    simp only [ex] at h
    split at h
    · exact S_ior hd (hk _ _ _ _ _ _ _ htl h)
    · cases h
  case ixor =>
    obtain rfl : len = 1 := Nat.eq_of_beq_eq_true hlen
    simp only [ex] at h
    split at h
    · exact S_ixor hd (hk _ _ _ _ _ _ _ htl h)
    · cases h
  case ishl =>
    obtain rfl : len = 1 := Nat.eq_of_beq_eq_true hlen
    simp only [ex] at h
    split at h
    · exact S_ishl hd (hk _ _ _ _ _ _ _ htl h)
    · cases h
  case ishr =>
    obtain rfl : len = 1 := Nat.eq_of_beq_eq_true hlen
    simp only [ex] at h
    split at h
    · exact S_ishr hd (hk _ _ _ _ _ _ _ htl h)
    · cases h
  case iushr =>
    obtain rfl : len = 1 := Nat.eq_of_beq_eq_true hlen
    simp only [ex] at h
    split at h
    · exact S_iushr hd (hk _ _ _ _ _ _ _ htl h)
    · cases h
  case ladd =>
    obtain rfl : len = 1 := Nat.eq_of_beq_eq_true hlen
    simp only [ex] at h
    split at h
    · exact S_ladd hd (hk _ _ _ _ _ _ _ htl h)
    · cases h
  case lsub =>
    obtain rfl : len = 1 := Nat.eq_of_beq_eq_true hlen
    simp only [ex] at h
    split at h
    · exact S_lsub hd (hk _ _ _ _ _ _ _ htl h)
    · cases h
  case lor =>
    obtain rfl : len = 1 := Nat.eq_of_beq_eq_true hlen
    simp only [ex] at h
    split at h
    · exact S_lor hd (hk _ _ _ _ _ _ _ htl h)
    · cases h
  case lshl =>
    obtain rfl : len = 1 := Nat.eq_of_beq_eq_true hlen
    simp only [ex] at h
    split at h
    · exact S_lshl hd (hk _ _ _ _ _ _ _ htl h)
    · cases h
  case lcmp =>
    obtain rfl : len = 1 := Nat.eq_of_beq_eq_true hlen
    simp only [ex] at h
    split at h
    · exact S_lcmp hd (hk _ _ _ _ _ _ _ htl h)
    · cases h
  case i2l =>
    obtain rfl : len = 1 := Nat.eq_of_beq_eq_true hlen
    simp only [ex] at h
    split at h
    · exact S_i2l hd (hk _ _ _ _ _ _ _ htl h)
    · cases h
  case i2f =>
    obtain rfl : len = 1 := Nat.eq_of_beq_eq_true hlen
    simp only [ex] at h
    split at h
    · exact S_i2f hd (hk _ _ _ _ _ _ _ htl h)
    · cases h
  case i2d =>
    obtain rfl : len = 1 := Nat.eq_of_beq_eq_true hlen
    simp only [ex] at h
    split at h
    · exact S_i2d hd (hk _ _ _ _ _ _ _ htl h)
    · cases h
  case f2i =>
    obtain rfl : len = 1 := Nat.eq_of_beq_eq_true hlen
    simp only [ex] at h
    split at h
    · exact S_f2i hd (hk _ _ _ _ _ _ _ htl h)
    · cases h
  case d2l =>
    obtain rfl : len = 1 := Nat.eq_of_beq_eq_true hlen
    simp only [ex] at h
    split at h
    · exact S_d2l hd (hk _ _ _ _ _ _ _ htl h)
    · cases h
  case dneg =>
    obtain rfl : len = 1 := Nat.eq_of_beq_eq_true hlen
    simp only [ex] at h
    split at h
    · exact S_dneg hd (hk _ _ _ _ _ _ _ htl h)
    · cases h
  case irem =>
    obtain rfl : len = 1 := Nat.eq_of_beq_eq_true hlen
    simp only [ex] at h
    split at h
    · split at h
      · cases h
      · rename_i hne
        exact S_irem hd hne (hk _ _ _ _ _ _ _ htl h)
    · cases h
  case fadd =>
    obtain rfl : len = 1 := Nat.eq_of_beq_eq_true hlen
    simp only [ex] at h
    split at h
    · obtain ⟨hne, h⟩ := ite_some h
      exact S_fadd hd hne (hk _ _ _ _ _ _ _ htl h)
    · cases h
  case fmul =>
    obtain rfl : len = 1 := Nat.eq_of_beq_eq_true hlen
    simp only [ex] at h
    split at h
    · obtain ⟨hne, h⟩ := ite_some h
      exact S_fmul hd hne (hk _ _ _ _ _ _ _ htl h)
    · cases h
  case fdiv =>
    obtain rfl : len = 1 := Nat.eq_of_beq_eq_true hlen
    simp only [ex] at h
    split at h
    · obtain ⟨hne, h⟩ := ite_some h
      exact S_fdiv hd hne (hk _ _ _ _ _ _ _ htl h)
    · cases h
  case dadd =>
    obtain rfl : len = 1 := Nat.eq_of_beq_eq_true hlen
    simp only [ex] at h
    split at h
    · obtain ⟨hne, h⟩ := ite_some h
      exact S_dadd hd hne (hk _ _ _ _ _ _ _ htl h)
    · cases h
  case dmul =>
    obtain rfl : len = 1 := Nat.eq_of_beq_eq_true hlen
    simp only [ex] at h
    split at h
    · obtain ⟨hne, h⟩ := ite_some h
      exact S_dmul hd hne (hk _ _ _ _ _ _ _ htl h)
    · cases h
  case ddiv =>
    obtain rfl : len = 1 := Nat.eq_of_beq_eq_true hlen
    simp only [ex] at h
    split at h
    · obtain ⟨hne, h⟩ := ite_some h
      exact S_ddiv hd hne (hk _ _ _ _ _ _ _ htl h)
    · cases h
  case fcmp op =>
    obtain rfl : len = 1 := Nat.eq_of_beq_eq_true hlen
    simp only [ex] at h
    split at h
    · exact S_fcmp hd (hk _ _ _ _ _ _ _ htl h)
    · cases h
  case dcmp op =>
    obtain rfl : len = 1 := Nat.eq_of_beq_eq_true hlen
    simp only [ex] at h
    split at h
    · exact S_dcmp hd (hk _ _ _ _ _ _ _ htl h)
    · cases h
  case dup =>
    obtain rfl : len = 1 := Nat.eq_of_beq_eq_true hlen
    simp only [ex] at h
    split at h
    · obtain ⟨hc, h⟩ := cond_some' h
      exact S_dup hd hc (hk _ _ _ _ _ _ _ htl h)
    · cases h
  case pop =>
    obtain rfl : len = 1 := Nat.eq_of_beq_eq_true hlen
    simp only [ex] at h
    split at h
    · obtain ⟨hc, h⟩ := cond_some' h
      exact S_pop hd hc (hk _ _ _ _ _ _ _ htl h)
    · cases h
  case dup2 =>
    obtain rfl : len = 1 := Nat.eq_of_beq_eq_true hlen
    simp only [ex] at h
    split at h
    · obtain ⟨hc, h⟩ := cond_some' h
      rw [Bool.or_eq_false_iff] at hc
      exact S_dup2 hd hc.1 hc.2 (hk _ _ _ _ _ _ _ htl h)
    · cases h
  case goto off =>
    obtain rfl : len = 3 := Nat.eq_of_beq_eq_true hlen
    simp only [ex] at h
    split at h
    · exact S_goto hd (of_decide_eq_true hok) (hk _ _ _ _ _ _ _ (jmp_at0 _ full) h)
    · cases h
  case ifCond c off =>
    obtain rfl : len = 3 := Nat.eq_of_beq_eq_true hlen
    simp only [ex] at h
    split at h
    · rename_i t _ _
      have ht : (pc : Int) + off = (t : Int) := of_decide_eq_true hok
      cases c
      · exact S_if_eq hd ht (fun q => by rw [if_pos q] at h; exact hk _ _ _ _ _ _ _ (jmp_at0 _ full) h) (fun q => by rw [if_neg q] at h; exact hk _ _ _ _ _ _ _ htl h)
      · try dsimp only at h
        exact S_if_ne hd ht (fun q => by rw [if_neg q] at h; exact hk _ _ _ _ _ _ _ (jmp_at0 _ full) h) (fun q => by rw [if_pos q] at h; exact hk _ _ _ _ _ _ _ htl h)
      · exact S_if_lt hd ht (fun q => by rw [if_pos q] at h; exact hk _ _ _ _ _ _ _ (jmp_at0 _ full) h) (fun q => by rw [if_neg q] at h; exact hk _ _ _ _ _ _ _ htl h)
      · exact S_if_ge hd ht (fun q => by rw [if_pos q] at h; exact hk _ _ _ _ _ _ _ (jmp_at0 _ full) h) (fun q => by rw [if_neg q] at h; exact hk _ _ _ _ _ _ _ htl h)
      · exact S_if_gt hd ht (fun q => by rw [if_pos q] at h; exact hk _ _ _ _ _ _ _ (jmp_at0 _ full) h) (fun q => by rw [if_neg q] at h; exact hk _ _ _ _ _ _ _ htl h)
      · exact S_if_le hd ht (fun q => by rw [if_pos q] at h; exact hk _ _ _ _ _ _ _ (jmp_at0 _ full) h) (fun q => by rw [if_neg q] at h; exact hk _ _ _ _ _ _ _ htl h)
    · cases h
  case if_icmp c off =>
    obtain rfl : len = 3 := Nat.eq_of_beq_eq_true hlen
    simp only [ex] at h
    split at h
    · rename_i t _ _ _
      have ht : (pc : Int) + off = (t : Int) := of_decide_eq_true hok
      cases c
      · exact S_icmp_eq hd ht (fun q => by rw [if_pos q] at h; exact hk _ _ _ _ _ _ _ (jmp_at0 _ full) h) (fun q => by rw [if_neg q] at h; exact hk _ _ _ _ _ _ _ htl h)
      · try dsimp only at h
        exact S_icmp_ne hd ht (fun q => by rw [if_neg q] at h; exact hk _ _ _ _ _ _ _ (jmp_at0 _ full) h) (fun q => by rw [if_pos q] at h; exact hk _ _ _ _ _ _ _ htl h)
      · exact S_icmp_lt hd ht (fun q => by rw [if_pos q] at h; exact hk _ _ _ _ _ _ _ (jmp_at0 _ full) h) (fun q => by rw [if_neg q] at h; exact hk _ _ _ _ _ _ _ htl h)
      · exact S_icmp_ge hd ht (fun q => by rw [if_pos q] at h; exact hk _ _ _ _ _ _ _ (jmp_at0 _ full) h) (fun q => by rw [if_neg q] at h; exact hk _ _ _ _ _ _ _ htl h)
      · exact S_icmp_gt hd ht (fun q => by rw [if_pos q] at h; exact hk _ _ _ _ _ _ _ (jmp_at0 _ full) h) (fun q => by rw [if_neg q] at h; exact hk _ _ _ _ _ _ _ htl h)
      · exact S_icmp_le hd ht (fun q => by rw [if_pos q] at h; exact hk _ _ _ _ _ _ _ (jmp_at0 _ full) h) (fun q => by rw [if_neg q] at h; exact hk _ _ _ _ _ _ _ htl h)
    · cases h
  case ifnull off =>
    obtain rfl : len = 3 := Nat.eq_of_beq_eq_true hlen
    simp only [ex] at h
    split at h
    · exact S_ifnullN hd (of_decide_eq_true hok) (hk _ _ _ _ _ _ _ (jmp_at0 _ full) h)
    · exact S_ifnull hd (hk _ _ _ _ _ _ _ htl h)
    · cases h
  case ifnonnull off =>
    obtain rfl : len = 3 := Nat.eq_of_beq_eq_true hlen
    simp only [ex] at h
    split at h
    · exact S_ifnonnullN hd (hk _ _ _ _ _ _ _ htl h)
    · exact S_ifnonnull hd (of_decide_eq_true hok) (hk _ _ _ _ _ _ _ (jmp_at0 _ full) h)
    · cases h
  case tableswitch d lo hi offs =>
    simp only [ex] at h
    split at h
    · rename_i t ts _ _
      have hok' : (decide ((pc : Int) + d = (t : Int)) && (tabOK pc lo offs.toList ts && decide (lo + ts.length = hi + 1))) = true := hok
      simp only [Bool.and_eq_true, decide_eq_true_eq] at hok'
      obtain ⟨e1, e2, e3⟩ := hok'
      have ez : lo + ((0 : Nat) : Int) = lo := by omega
      refine swt_sound hd e1 (fun t h => hk _ _ _ _ _ _ _ (jmp_at0 _ full) h) ts offs.toList 0 (by rw [ez]; exact e2) (fun i f hf => by rw [Nat.zero_add, ← Array.getElem?_toList]; exact hf) (by rw [ez]; exact e3) (fun i hi => by omega) (by rw [ez]; exact h)
    · cases h
  case getfield idx =>
    obtain rfl : len = 3 := Nat.eq_of_beq_eq_true hlen
    simp only [ex] at h
    split at h
    · rename_i c f t b o _
      obtain ⟨hO, h⟩ := cond_some h
      have hK := isO_spec hO
      simp only [okI] at hok
      split at hok
      · cases ‹[c, f, _] = [_, _, _]›
        split at hok
        · rename_i hc
          simp only [Bool.and_eq_true, decide_eq_true_eq] at hok
          obtain ⟨e1, e2, e3⟩ := hok
          match t, e3, h with
          | 0, e3, h => exact S_getI hc e1 (hasW_mem e2) hK e3 hd (hk _ _ _ _ _ _ _ htl h)
          | 1, e3, h => exact S_getF hc e1 (hasW_mem e2) hK e3 hd (hk _ _ _ _ _ _ _ htl h)
          | t + 2, e3, h => exact S_getR hc e1 (hasW_mem e2) hK e3 hd (hk _ _ _ _ _ _ _ htl h)
        · cases hok
      · cases hok
    · cases h
  case putfield idx =>
    obtain rfl : len = 3 := Nat.eq_of_beq_eq_true hlen
    simp only [ex] at h
    split at h
    · rename_i c f x b o _
      obtain ⟨hO, h⟩ := cond_some h
      have hK := isO_spec hO
      simp only [okI] at hok
      split at hok
      · cases ‹[c, f, _] = [_, _, _]›
        split at hok
        · rename_i hc
          simp only [Bool.and_eq_true, decide_eq_true_eq] at hok
          obtain ⟨e1, e2, e3, e4, e5⟩ := hok
          exact S_putI hc e1 (hasW_mem e2) hK e3 e4 e5 hd (hk _ _ _ _ _ _ _ htl h)
        · cases hok
      · cases hok
    · rename_i c f x b o _
      obtain ⟨hO, h⟩ := cond_some h
      have hK := isO_spec hO
      simp only [okI] at hok
      split at hok
      · cases ‹[c, f, _] = [_, _, _]›
        split at hok
        · rename_i hc
          simp only [Bool.and_eq_true, decide_eq_true_eq] at hok
          obtain ⟨e1, e2, e3, e4, e5⟩ := hok
          exact S_putF hc e1 (hasW_mem e2) hK e3 e4 e5 hd (hk _ _ _ _ _ _ _ htl h)
        · cases hok
      · cases hok
    · cases h
  case iaload =>
    obtain rfl : len = 1 := Nat.eq_of_beq_eq_true hlen
    simp only [ex] at h
    split at h
    · obtain ⟨hO, h⟩ := cond_some h
      obtain ⟨hi, h⟩ := ite_some h
      exact S_iald (K0_of hO) hi hd (hk _ _ _ _ _ _ _ htl h)
    · cases h
  case baload =>
    obtain rfl : len = 1 := Nat.eq_of_beq_eq_true hlen
    simp only [ex] at h
    split at h
    · obtain ⟨hO, h⟩ := cond_some h
      obtain ⟨hi, h⟩ := ite_some h
      exact S_zald (K0_of hO) hi hd (hk _ _ _ _ _ _ _ htl h)
    · cases h
  case faload =>
    obtain rfl : len = 1 := Nat.eq_of_beq_eq_true hlen
    simp only [ex] at h
    split at h
    · obtain ⟨hO, h⟩ := cond_some h
      obtain ⟨hi, h⟩ := ite_some h
      exact S_fald (K0_of hO) hi hd (hk _ _ _ _ _ _ _ htl h)
    · cases h
  case aaload =>
    obtain rfl : len = 1 := Nat.eq_of_beq_eq_true hlen
    simp only [ex] at h
    split at h
    · obtain ⟨hO, h⟩ := cond_some h
      obtain ⟨hi, h⟩ := ite_some h
      exact S_aald (K0_of hO) hi hd (hk _ _ _ _ _ _ _ htl h)
    · cases h
  case iastore =>
    obtain rfl : len = 1 := Nat.eq_of_beq_eq_true hlen
    simp only [ex] at h
    split at h
    · obtain ⟨hO, h⟩ := cond_some h
      obtain ⟨hi, h⟩ := ite_some h
      exact S_iast (K0_of hO) hi hd (hk _ _ _ _ _ _ _ htl h)
    · cases h
  case bastore =>
    obtain rfl : len = 1 := Nat.eq_of_beq_eq_true hlen
    simp only [ex] at h
    split at h
    · obtain ⟨hO, h⟩ := cond_some h
      obtain ⟨hi, h⟩ := ite_some h
      exact S_zast (K0_of hO) hi hd (hk _ _ _ _ _ _ _ htl h)
    · cases h
  case fastore =>
    obtain rfl : len = 1 := Nat.eq_of_beq_eq_true hlen
    simp only [ex] at h
    split at h
    · obtain ⟨hO, h⟩ := cond_some h
      obtain ⟨hi, h⟩ := ite_some h
      exact S_fast (K0_of hO) hi hd (hk _ _ _ _ _ _ _ htl h)
    · cases h
  case arraylength =>
    obtain rfl : len = 1 := Nat.eq_of_beq_eq_true hlen
    simp only [ex] at h
    split at h
    · obtain ⟨hO, h⟩ := cond_some h
      rw [Bool.and_eq_true] at hO
      exact S_alen rfl (Nat.le_of_ble_eq_true hO.1) (Nat.le_of_ble_eq_true hO.2) hd (hk _ _ _ _ _ _ _ htl h)
    · cases h
  case ireturn =>
    obtain rfl : len = 1 := Nat.eq_of_beq_eq_true hlen
    simp only [ex] at h
    split at h
    · cases hb : Nat.beq mr.2.2.2.2.1 1 with
      | true =>
        rw [hb] at h
        cases h
        exact S_ret1 (Nat.eq_of_beq_eq_true hb) hd
      | false =>
        rw [hb] at h
        obtain ⟨hc, h⟩ := cond_some (show cond (Nat.beq mr.2.2.2.2.1 6) _ none = some r from h)
        obtain ⟨hx, h⟩ := ite_some h
        cases h
        exact S_ret6 hx (Nat.eq_of_beq_eq_true hc) hd
    · cases h
  case lreturn =>
    obtain rfl : len = 1 := Nat.eq_of_beq_eq_true hlen
    simp only [ex] at h
    split at h
    · obtain ⟨hb, h⟩ := cond_some h
      cases h
      exact S_ret2 (Nat.eq_of_beq_eq_true hb) hd
    · cases h
  case freturn =>
    obtain rfl : len = 1 := Nat.eq_of_beq_eq_true hlen
    simp only [ex] at h
    split at h
    · obtain ⟨hb, h⟩ := cond_some h
      cases h
      exact S_ret3 (Nat.eq_of_beq_eq_true hb) hd
    · cases h
  case dreturn =>
    obtain rfl : len = 1 := Nat.eq_of_beq_eq_true hlen
    simp only [ex] at h
    split at h
    · obtain ⟨hb, h⟩ := cond_some h
      cases h
      exact S_ret4 (Nat.eq_of_beq_eq_true hb) hd
    · cases h
  case areturn =>
    obtain rfl : len = 1 := Nat.eq_of_beq_eq_true hlen
    simp only [ex] at h
    split at h
    · obtain ⟨hb, h⟩ := cond_some h
      cases h
      exact S_ret5 (Nat.eq_of_beq_eq_true hb) hd
    · cases h
  case return_ =>
    obtain rfl : len = 1 := Nat.eq_of_beq_eq_true hlen
    simp only [ex] at h
    split at h
    · obtain ⟨hb, h⟩ := cond_some h
      cases h
      exact S_ret0 (Nat.eq_of_beq_eq_true hb) hd
    · cases h
  case invokevirtual idx =>
    obtain rfl : len = 3 := Nat.eq_of_beq_eq_true hlen
    simp only [ex] at h
    split at h
    · rename_i y na rt c
      split at h
      · rename_i b o as st' hp
        obtain ⟨hO, h⟩ := cond_some h
        rw [Bool.and_eq_true] at hO
        have hK := isO_spec hO.1
        have hst := Nat.le_of_ble_eq_true hO.2
        obtain ⟨hs1, hs2⟩ := pop_spec0 hp
        simp only [List.length_cons, Nat.add_right_cancel_iff] at hs2
        simp only [List.reverse_cons, List.append_assoc, List.singleton_append] at hs1
        subst hs1
        simp only [okI] at hok
        split at hok
        · cases ‹[y, na, rt, c] = [_, _, _, _]›
          simp only [Bool.and_eq_true] at hok
          obtain ⟨e1, e3, e4, e5, e6, e7⟩ := hok
          obtain ⟨hds, hf0, hl0, hrt⟩ := okCall_spec e6
          split at e7
          · rename_i hc
            have hC := of_decide_eq_true e7
            match rt, hrt, h with
            | 0, hrt, h =>
              obtain ⟨v, I1, F1, hq, h⟩ := bV_some h
              have hz : (zM y).2.2.2.2.1 = 0 := hrt.mp rfl
              have hkk := hk _ _ _ _ _ _ _ htl h
              have hkk2 : FromOK mr (pc + 3) lv (rsv (zM y).2.2.2.2.1 v ++ st') I1 F1 r := by rw [hz]; exact hkk
              exact S_callV hd (hasW_mem e1) (hcd _) (hasW_mem e3) (hasW_mem e4) (hasW_mem e5) hc hC hds hf0 hl0 hK hs2 hst (hgc _ _ _ _ _ hq) hkk2
            | 1, hrt, h =>
              obtain ⟨x, I1, F1, hq, h⟩ := bI_some h
              have hz : rsv (zM y).2.2.2.2.1 (vI x) = [vI x] := by
                cases hq : (zM y).2.2.2.2.1 with
                | zero => exact absurd (hrt.mpr hq) (by omega)
                | succ n => rfl
              have hkk := hk _ _ _ _ _ _ _ htl h
              have hkk2 : FromOK mr (pc + 3) lv (rsv (zM y).2.2.2.2.1 (vI x) ++ st') I1 F1 r := by rw [hz]; exact hkk
              exact S_callV hd (hasW_mem e1) (hcd _) (hasW_mem e3) (hasW_mem e4) (hasW_mem e5) hc hC hds hf0 hl0 hK hs2 hst (hgc _ _ _ _ _ hq) hkk2
            | 2, hrt, h =>
              obtain ⟨x, I1, F1, hq, h⟩ := bL_some h
              have hz : rsv (zM y).2.2.2.2.1 (vL x) = [vL x] := by
                cases hq : (zM y).2.2.2.2.1 with
                | zero => exact absurd (hrt.mpr hq) (by omega)
                | succ n => rfl
              have hkk := hk _ _ _ _ _ _ _ htl h
              have hkk2 : FromOK mr (pc + 3) lv (rsv (zM y).2.2.2.2.1 (vL x) ++ st') I1 F1 r := by rw [hz]; exact hkk
              exact S_callV hd (hasW_mem e1) (hcd _) (hasW_mem e3) (hasW_mem e4) (hasW_mem e5) hc hC hds hf0 hl0 hK hs2 hst (hgc _ _ _ _ _ hq) hkk2
            | 3, hrt, h =>
              obtain ⟨x, I1, F1, hq, h⟩ := bF_some h
              have hz : rsv (zM y).2.2.2.2.1 (vF x) = [vF x] := by
                cases hq : (zM y).2.2.2.2.1 with
                | zero => exact absurd (hrt.mpr hq) (by omega)
                | succ n => rfl
              have hkk := hk _ _ _ _ _ _ _ htl h
              have hkk2 : FromOK mr (pc + 3) lv (rsv (zM y).2.2.2.2.1 (vF x) ++ st') I1 F1 r := by rw [hz]; exact hkk
              exact S_callV hd (hasW_mem e1) (hcd _) (hasW_mem e3) (hasW_mem e4) (hasW_mem e5) hc hC hds hf0 hl0 hK hs2 hst (hgc _ _ _ _ _ hq) hkk2
            | 4, hrt, h =>
              obtain ⟨x, I1, F1, hq, h⟩ := bD_some h
              have hz : rsv (zM y).2.2.2.2.1 (vD x) = [vD x] := by
                cases hq : (zM y).2.2.2.2.1 with
                | zero => exact absurd (hrt.mpr hq) (by omega)
                | succ n => rfl
              have hkk := hk _ _ _ _ _ _ _ htl h
              have hkk2 : FromOK mr (pc + 3) lv (rsv (zM y).2.2.2.2.1 (vD x) ++ st') I1 F1 r := by rw [hz]; exact hkk
              exact S_callV hd (hasW_mem e1) (hcd _) (hasW_mem e3) (hasW_mem e4) (hasW_mem e5) hc hC hds hf0 hl0 hK hs2 hst (hgc _ _ _ _ _ hq) hkk2
            | n + 5, hrt, h =>
              obtain ⟨x, I1, F1, hq, h⟩ := bR_some h
              have hz : rsv (zM y).2.2.2.2.1 (vR x) = [vR x] := by
                cases hq : (zM y).2.2.2.2.1 with
                | zero => exact absurd (hrt.mpr hq) (by omega)
                | succ n => rfl
              have hkk := hk _ _ _ _ _ _ _ htl h
              have hkk2 : FromOK mr (pc + 3) lv (rsv (zM y).2.2.2.2.1 (vR x) ++ st') I1 F1 r := by rw [hz]; exact hkk
              exact S_callV hd (hasW_mem e1) (hcd _) (hasW_mem e3) (hasW_mem e4) (hasW_mem e5) hc hC hds hf0 hl0 hK hs2 hst (hgc _ _ _ _ _ hq) hkk2
          · cases e7
        · cases hok
      · cases h
    · cases h
  case invokestatic idx =>
    obtain rfl : len = 3 := Nat.eq_of_beq_eq_true hlen
    simp only [ex] at h
    split at h
    · rename_i y na rt
      split at h
      · rename_i as st' hp
        obtain ⟨hO, h⟩ := cond_some h
        have hst := Nat.le_of_ble_eq_true hO
        obtain ⟨hs1, hs2⟩ := pop_spec0 hp
        subst hs1
        simp only [okI] at hok
        split at hok
        · cases ‹[y, na, rt] = [_, _, _]›
          simp only [Bool.and_eq_true] at hok
          obtain ⟨e1, e3, e4, e6⟩ := hok
          obtain ⟨hds, hf0, hl0, hrt⟩ := okCall_spec e6
          match rt, hrt, h with
          | 0, hrt, h =>
            obtain ⟨v, I1, F1, hq, h⟩ := bV_some h
            have hz : (zM y).2.2.2.2.1 = 0 := hrt.mp rfl
            have hkk := hk _ _ _ _ _ _ _ htl h
            have hkk2 : FromOK mr (pc + 3) lv (rsv (zM y).2.2.2.2.1 v ++ st') I1 F1 r := by rw [hz]; exact hkk
            exact S_callS hd (hasW_mem e1) (hcd _) (hasW_mem e3) (hasW_mem e4) hds hf0 (by omega) hs2 hst (hgc _ _ _ _ _ hq) hkk2
          | 1, hrt, h =>
            obtain ⟨x, I1, F1, hq, h⟩ := bI_some h
            have hz : rsv (zM y).2.2.2.2.1 (vI x) = [vI x] := by
              cases hq : (zM y).2.2.2.2.1 with
              | zero => exact absurd (hrt.mpr hq) (by omega)
              | succ n => rfl
            have hkk := hk _ _ _ _ _ _ _ htl h
            have hkk2 : FromOK mr (pc + 3) lv (rsv (zM y).2.2.2.2.1 (vI x) ++ st') I1 F1 r := by rw [hz]; exact hkk
            exact S_callS hd (hasW_mem e1) (hcd _) (hasW_mem e3) (hasW_mem e4) hds hf0 (by omega) hs2 hst (hgc _ _ _ _ _ hq) hkk2
          | 2, hrt, h =>
            obtain ⟨x, I1, F1, hq, h⟩ := bL_some h
            have hz : rsv (zM y).2.2.2.2.1 (vL x) = [vL x] := by
              cases hq : (zM y).2.2.2.2.1 with
              | zero => exact absurd (hrt.mpr hq) (by omega)
              | succ n => rfl
            have hkk := hk _ _ _ _ _ _ _ htl h
            have hkk2 : FromOK mr (pc + 3) lv (rsv (zM y).2.2.2.2.1 (vL x) ++ st') I1 F1 r := by rw [hz]; exact hkk
            exact S_callS hd (hasW_mem e1) (hcd _) (hasW_mem e3) (hasW_mem e4) hds hf0 (by omega) hs2 hst (hgc _ _ _ _ _ hq) hkk2
          | 3, hrt, h =>
            obtain ⟨x, I1, F1, hq, h⟩ := bF_some h
            have hz : rsv (zM y).2.2.2.2.1 (vF x) = [vF x] := by
              cases hq : (zM y).2.2.2.2.1 with
              | zero => exact absurd (hrt.mpr hq) (by omega)
              | succ n => rfl
            have hkk := hk _ _ _ _ _ _ _ htl h
            have hkk2 : FromOK mr (pc + 3) lv (rsv (zM y).2.2.2.2.1 (vF x) ++ st') I1 F1 r := by rw [hz]; exact hkk
            exact S_callS hd (hasW_mem e1) (hcd _) (hasW_mem e3) (hasW_mem e4) hds hf0 (by omega) hs2 hst (hgc _ _ _ _ _ hq) hkk2
          | 4, hrt, h =>
            obtain ⟨x, I1, F1, hq, h⟩ := bD_some h
            have hz : rsv (zM y).2.2.2.2.1 (vD x) = [vD x] := by
              cases hq : (zM y).2.2.2.2.1 with
              | zero => exact absurd (hrt.mpr hq) (by omega)
              | succ n => rfl
            have hkk := hk _ _ _ _ _ _ _ htl h
            have hkk2 : FromOK mr (pc + 3) lv (rsv (zM y).2.2.2.2.1 (vD x) ++ st') I1 F1 r := by rw [hz]; exact hkk
            exact S_callS hd (hasW_mem e1) (hcd _) (hasW_mem e3) (hasW_mem e4) hds hf0 (by omega) hs2 hst (hgc _ _ _ _ _ hq) hkk2
          | n + 5, hrt, h =>
            obtain ⟨x, I1, F1, hq, h⟩ := bR_some h
            have hz : rsv (zM y).2.2.2.2.1 (vR x) = [vR x] := by
              cases hq : (zM y).2.2.2.2.1 with
              | zero => exact absurd (hrt.mpr hq) (by omega)
              | succ n => rfl
            have hkk := hk _ _ _ _ _ _ _ htl h
            have hkk2 : FromOK mr (pc + 3) lv (rsv (zM y).2.2.2.2.1 (vR x) ++ st') I1 F1 r := by rw [hz]; exact hkk
            exact S_callS hd (hasW_mem e1) (hcd _) (hasW_mem e3) (hasW_mem e4) hds hf0 (by omega) hs2 hst (hgc _ _ _ _ _ hq) hkk2
        · cases ‹[y, na, rt] = [_, _, _]›
          simp only [Bool.and_eq_true] at hok
          obtain ⟨e1, e3, e4, e6⟩ := hok
          obtain ⟨hds, hf0, hl0, hrt⟩ := okCall_spec e6
          match rt, hrt, h with
          | 0, hrt, h =>
            obtain ⟨v, I1, F1, hq, h⟩ := bV_some h
            have hz : (zM y).2.2.2.2.1 = 0 := hrt.mp rfl
            have hkk := hk _ _ _ _ _ _ _ htl h
            have hkk2 : FromOK mr (pc + 3) lv (rsv (zM y).2.2.2.2.1 v ++ st') I1 F1 r := by rw [hz]; exact hkk
            exact S_callSN hd (of_decide_eq_true e1) (hcd _) (hasW_mem e3) (hasW_mem e4) hds hf0 (by omega) hs2 hst (hgc _ _ _ _ _ hq) hkk2
          | 1, hrt, h =>
            obtain ⟨x, I1, F1, hq, h⟩ := bI_some h
            have hz : rsv (zM y).2.2.2.2.1 (vI x) = [vI x] := by
              cases hq : (zM y).2.2.2.2.1 with
              | zero => exact absurd (hrt.mpr hq) (by omega)
              | succ n => rfl
            have hkk := hk _ _ _ _ _ _ _ htl h
            have hkk2 : FromOK mr (pc + 3) lv (rsv (zM y).2.2.2.2.1 (vI x) ++ st') I1 F1 r := by rw [hz]; exact hkk
            exact S_callSN hd (of_decide_eq_true e1) (hcd _) (hasW_mem e3) (hasW_mem e4) hds hf0 (by omega) hs2 hst (hgc _ _ _ _ _ hq) hkk2
          | 2, hrt, h =>
            obtain ⟨x, I1, F1, hq, h⟩ := bL_some h
            have hz : rsv (zM y).2.2.2.2.1 (vL x) = [vL x] := by
              cases hq : (zM y).2.2.2.2.1 with
              | zero => exact absurd (hrt.mpr hq) (by omega)
              | succ n => rfl
            have hkk := hk _ _ _ _ _ _ _ htl h
            have hkk2 : FromOK mr (pc + 3) lv (rsv (zM y).2.2.2.2.1 (vL x) ++ st') I1 F1 r := by rw [hz]; exact hkk
            exact S_callSN hd (of_decide_eq_true e1) (hcd _) (hasW_mem e3) (hasW_mem e4) hds hf0 (by omega) hs2 hst (hgc _ _ _ _ _ hq) hkk2
          | 3, hrt, h =>
            obtain ⟨x, I1, F1, hq, h⟩ := bF_some h
            have hz : rsv (zM y).2.2.2.2.1 (vF x) = [vF x] := by
              cases hq : (zM y).2.2.2.2.1 with
              | zero => exact absurd (hrt.mpr hq) (by omega)
              | succ n => rfl
            have hkk := hk _ _ _ _ _ _ _ htl h
            have hkk2 : FromOK mr (pc + 3) lv (rsv (zM y).2.2.2.2.1 (vF x) ++ st') I1 F1 r := by rw [hz]; exact hkk
            exact S_callSN hd (of_decide_eq_true e1) (hcd _) (hasW_mem e3) (hasW_mem e4) hds hf0 (by omega) hs2 hst (hgc _ _ _ _ _ hq) hkk2
          | 4, hrt, h =>
            obtain ⟨x, I1, F1, hq, h⟩ := bD_some h
            have hz : rsv (zM y).2.2.2.2.1 (vD x) = [vD x] := by
              cases hq : (zM y).2.2.2.2.1 with
              | zero => exact absurd (hrt.mpr hq) (by omega)
              | succ n => rfl
            have hkk := hk _ _ _ _ _ _ _ htl h
            have hkk2 : FromOK mr (pc + 3) lv (rsv (zM y).2.2.2.2.1 (vD x) ++ st') I1 F1 r := by rw [hz]; exact hkk
            exact S_callSN hd (of_decide_eq_true e1) (hcd _) (hasW_mem e3) (hasW_mem e4) hds hf0 (by omega) hs2 hst (hgc _ _ _ _ _ hq) hkk2
          | n + 5, hrt, h =>
            obtain ⟨x, I1, F1, hq, h⟩ := bR_some h
            have hz : rsv (zM y).2.2.2.2.1 (vR x) = [vR x] := by
              cases hq : (zM y).2.2.2.2.1 with
              | zero => exact absurd (hrt.mpr hq) (by omega)
              | succ n => rfl
            have hkk := hk _ _ _ _ _ _ _ htl h
            have hkk2 : FromOK mr (pc + 3) lv (rsv (zM y).2.2.2.2.1 (vR x) ++ st') I1 F1 r := by rw [hz]; exact hkk
            exact S_callSN hd (of_decide_eq_true e1) (hcd _) (hasW_mem e3) (hasW_mem e4) hds hf0 (by omega) hs2 hst (hgc _ _ _ _ _ hq) hkk2
        · cases ‹[y, na, rt] = [0]›
        · cases ‹[y, na, rt] = [1]›
        · cases ‹[y, na, rt] = [2]›
        · cases hok
      · cases h
    · split at h
      · rename_i n dp b o sp sb so st'
        obtain ⟨hO, h⟩ := cond_some h
        simp only [Bool.and_eq_true] at hO
        obtain ⟨⟨h1, h0⟩, hz⟩ := hO
        obtain ⟨⟨c1, c2, c3⟩, h⟩ := ite_some h
        have hnil : st' = [] := List.length_eq_zero_iff.mp (Nat.eq_of_beq_eq_true hz)
        subst hnil
        simp only [okI] at hok
        split at hok
        · cases ‹[0] = [_, _, _]›
        · cases ‹[0] = [_, _, _]›
        · simp only [Bool.and_eq_true, decide_eq_true_eq] at hok
          obtain ⟨e1, e2, e3, e4, e5, e6⟩ := hok
          exact S_copy hd (hasW_mem e1) (hasW_mem e2) (hasW_mem e3) (hasW_mem e4) e5 e6 (K0_of h1) (K0_of h0) c1 c2 c3 (hk _ _ _ _ _ _ _ htl h)
        · exact absurd ‹([0] : List Nat) = [1]› (by decide)
        · exact absurd ‹([0] : List Nat) = [2]› (by decide)
        · cases hok
      · cases h
    · split at h
      · obtain ⟨hst, h⟩ := cond_some h
        have hst := Nat.le_of_ble_eq_true hst
        simp only [okI] at hok
        split at hok
        · cases ‹[1] = [_, _, _]›
        · cases ‹[1] = [_, _, _]›
        · exact absurd ‹([1] : List Nat) = [0]› (by decide)
        · simp only [Bool.and_eq_true, decide_eq_true_eq] at hok
          obtain ⟨e1, e2, e3, e4, e5, e6⟩ := hok
          exact S_f2iraw hd (hasW_mem e1) (hasW_mem e2) (hasW_mem e3) (hasW_mem e4) e5 e6 hst (hk _ _ _ _ _ _ _ htl h)
        · exact absurd ‹([1] : List Nat) = [2]› (by decide)
        · cases hok
      · cases h
    · split at h
      · obtain ⟨hst, h⟩ := cond_some h
        have hst := Nat.le_of_ble_eq_true hst
        simp only [okI] at hok
        split at hok
        · cases ‹[2] = [_, _, _]›
        · cases ‹[2] = [_, _, _]›
        · exact absurd ‹([2] : List Nat) = [0]› (by decide)
        · exact absurd ‹([2] : List Nat) = [1]› (by decide)
        · simp only [Bool.and_eq_true, decide_eq_true_eq] at hok
          obtain ⟨e1, e2, e3, e4, e5, e6⟩ := hok
          exact S_d2lraw hd (hasW_mem e1) (hasW_mem e2) (hasW_mem e3) (hasW_mem e4) e5 e6 hst (hk _ _ _ _ _ _ _ htl h)
        · cases hok
      · cases h
    · cases h
  all_goals (exact absurd h (by simp [ex]))
