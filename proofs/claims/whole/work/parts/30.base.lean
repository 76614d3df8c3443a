/-! NUMBERS AND STORES: what the pure part stands on -/
theorem i_lt {x y : Int32} : x < y ↔ x.toInt < y.toInt := Int32.lt_iff_toInt_lt
theorem i_le {x y : Int32} : x ≤ y ↔ x.toInt ≤ y.toInt := Int32.le_iff_toInt_le
theorem i_eq {x y : Int32} : x = y ↔ x.toInt = y.toInt := Int32.toInt_inj.symm
theorem i_cl (x : Int32) : x.toNatClampNeg = x.toInt.toNat := rfl
theorem i_nI {n : Nat} (h : n < 2 ^ 31) : (nI n).toInt = (n : Int) := nI_toInt h
theorem i_lo (x : Int32) : -2147483648 ≤ x.toInt := by have := Int32.le_toInt x; simpa using this
theorem i_hi (x : Int32) : x.toInt < 2147483648 := by have := Int32.toInt_lt x; simpa using this
theorem i_0 : (0 : Int32).toInt = 0 := by decide
theorem i_m1 : (-1 : Int32).toInt = -1 := by decide
theorem L2 : (2 : Int32) = nI 2 := rfl
theorem L3 : (3 : Int32) = nI 3 := rfl
theorem L4 : (4 : Int32) = nI 4 := rfl
theorem L5 : (5 : Int32) = nI 5 := rfl
theorem L6 : (6 : Int32) = nI 6 := rfl
theorem L7 : (7 : Int32) = nI 7 := rfl
theorem L8 : (8 : Int32) = nI 8 := rfl
theorem L9 : (9 : Int32) = nI 9 := rfl
theorem L10 : (10 : Int32) = nI 10 := rfl
theorem L12 : (12 : Int32) = nI 12 := rfl
theorem L17 : (17 : Int32) = nI 17 := rfl
theorem L20 : (20 : Int32) = nI 20 := rfl
theorem L24 : (24 : Int32) = nI 24 := rfl
theorem L40 : (40 : Int32) = nI 40 := rfl
theorem L63 : (63 : Int32) = nI 63 := rfl
theorem L99 : (99 : Int32) = nI 99 := rfl
theorem L100 : (100 : Int32) = nI 100 := rfl
theorem L128 : (128 : Int32) = nI 128 := rfl
theorem L126 : (126 : Int32) = nI 126 := rfl
theorem L180 : (180 : Int32) = nI 180 := rfl
theorem L220 : (220 : Int32) = nI 220 := rfl
theorem L255 : (255 : Int32) = nI 255 := rfl
theorem L268 : (268 : Int32) = nI 268 := rfl
theorem L340 : (340 : Int32) = nI 340 := rfl
theorem L370 : (370 : Int32) = nI 370 := rfl
theorem L386 : (386 : Int32) = nI 386 := rfl
theorem L390 : (390 : Int32) = nI 390 := rfl
theorem L406 : (406 : Int32) = nI 406 := rfl
theorem L999 : (999 : Int32) = nI 999 := rfl
theorem L1000 : (1000 : Int32) = nI 1000 := rfl
theorem tc0 : (0 : Int32).toNatClampNeg = 0 := rfl
theorem tc1 : (1 : Int32).toNatClampNeg = 1 := rfl
theorem tc2 : (2 : Int32).toNatClampNeg = 2 := rfl
theorem tc3 : (3 : Int32).toNatClampNeg = 3 := rfl
theorem tc4 : (4 : Int32).toNatClampNeg = 4 := rfl
theorem tc5 : (5 : Int32).toNatClampNeg = 5 := rfl
theorem tc6 : (6 : Int32).toNatClampNeg = 6 := rfl
theorem tc7 : (7 : Int32).toNatClampNeg = 7 := rfl
theorem nI_cl {x : Int32} (h : ¬ x < 0) : x = nI x.toNatClampNeg := by
  obtain ⟨j, hj, rfl⟩ := nI_of h
  rw [nI_clamp hj]
theorem nI_neg {c : Nat} (h : c < 2 ^ 31) : (nI c < 0) = False := eq_false (nI_pos h)
theorem nI_mul (a b : Nat) : nI a * nI b = nI (a * b) := (Int32.ofNat_mul a b).symm
theorem nI_m1 {c : Nat} (h : c < 2 ^ 31) : (nI c = -1) = False := eq_false (fun z => by rw [i_eq, i_nI h, i_m1] at z; omega)
theorem m1_nI {c : Nat} (h : c < 2 ^ 31) : ((-1 : Int32) = nI c) = False := eq_false (fun z => by rw [i_eq, i_nI h, i_m1] at z; omega)
theorem nI_z {c : Nat} (h : c < 2 ^ 31) : (nI c = 0) ↔ c = 0 := by rw [i_eq, i_nI h, i_0]; omega
theorem nI_ge0 {c : Nat} (h : c < 2 ^ 31) : (0 ≤ nI c) = True := eq_true (nI_pos' h)
theorem nI_gt0 {c : Nat} (h : c < 2 ^ 31) : (0 < nI c) ↔ 0 < c := by rw [i_lt, i_nI h, i_0]; omega
theorem inb_nI {c n : Nat} (h : c < n) (hn : n < 2 ^ 31) : inb (nI c) n := nI_in h hn
theorem inb_iff {x : Int32} {n : Nat} : inb x n ↔ 0 ≤ x.toInt ∧ x.toInt < n := by
  show ¬ (x < 0 ∨ n ≤ x.toNatClampNeg) ↔ _
  rw [i_lt, i_cl, i_0]
  omega
theorem inb_get {x : Int32} {n : Nat} (h : inb x n) : ∃ c, c < n ∧ c < 2 ^ 31 ∧ x = nI c ∧ x.toNatClampNeg = c := by
  have h1 := inb_iff.mp h
  have h2 : ¬ x < 0 := fun z => h (Or.inl z)
  have h3 := i_hi x
  refine ⟨x.toNatClampNeg, ?_, ?_, nI_cl h2, rfl⟩
  · rw [i_cl]; omega
  · rw [i_cl]; omega
theorem inb_mono {x : Int32} {n m : Nat} (hm : n ≤ m) (h : inb x n) : inb x m := by
  rw [inb_iff] at h ⊢
  omega
theorem inb_m1 (n : Nat) : ¬ inb (-1) n := by rw [inb_iff, i_m1]; omega
theorem inb_c {c n : Nat} (h : c < 2 ^ 31) : inb (nI c) n ↔ c < n := by rw [inb_iff, i_nI h]; omega
theorem wI_eq (I : IM) (b o k : Nat) (x : Int32) (b' o' k' : Nat) : wI I b o k x b' o' k' = if b' = b ∧ o' = o ∧ k' = k then x else I b' o' k' := rfl
theorem wF_eq (F : FM) (b o k : Nat) (x : UInt32) (b' o' k' : Nat) : wF F b o k x b' o' k' = if b' = b ∧ o' = o ∧ k' = k then x else F b' o' k' := rfl
theorem cI_eq (I : IM) (b o sb so n : Nat) (b' o' k' : Nat) : cI I b o sb so 0 0 n b' o' k' = if b' = b ∧ o' = o ∧ k' < n then I sb so k' else I b' o' k' := by
  unfold cI va_cpy
  by_cases h : b' = b ∧ o' = o
  · obtain ⟨rfl, rfl⟩ := h
    simp
  · rw [if_neg h, if_neg (fun z => h ⟨z.1, z.2.1⟩)]
theorem wI_s (I : IM) (b o k : Nat) (x : Int32) : wI I b o k x b o k = x := by rw [wI_eq, if_pos ⟨rfl, rfl, rfl⟩]
theorem bI_v (x : Int32) (I : IM) (F : FM) (k : Int32 → IM → FM → Option Rs) : bI (some (vI x, I, F)) k = k x I F := rfl
theorem bV_v (v : Vl) (I : IM) (F : FM) (k : IM → FM → Option Rs) : bV (some (v, I, F)) k = k I F := rfl
theorem bF_v (x : UInt32) (I : IM) (F : FM) (k : UInt32 → IM → FM → Option Rs) : bF (some (vF x, I, F)) k = k x I F := rfl
theorem bD_v (x : UInt64) (I : IM) (F : FM) (k : UInt64 → IM → FM → Option Rs) : bD (some (vD x, I, F)) k = k x I F := rfl
theorem bL_v (x : Int64) (I : IM) (F : FM) (k : Int64 → IM → FM → Option Rs) : bL (some (vL x, I, F)) k = k x I F := rfl
theorem bR_v (x : Option (Nat × Nat)) (I : IM) (F : FM) (k : Option (Nat × Nat) → IM → FM → Option Rs) : bR (some (vR x, I, F)) k = k x I F := rfl
/-! true, false -/
def bz (p : Prop) [Decidable p] : Int32 := if p then 1 else 0
theorem bz_t {p : Prop} [Decidable p] (h : p) : bz p = 1 := if_pos h
theorem bz_f {p : Prop} [Decidable p] (h : ¬ p) : bz p = 0 := if_neg h
theorem ite_bz {p : Prop} [Decidable p] (I : IM) (F : FM) : (if p then some (vI (1 : Int32), I, F) else some (vI (0 : Int32), I, F)) = some (vI (bz p), I, F) := by unfold bz; split <;> rfl
theorem ite_bzn {p : Prop} [Decidable p] (I : IM) (F : FM) : (if p then some (vI (0 : Int32), I, F) else some (vI (1 : Int32), I, F)) = some (vI (bz ¬ p), I, F) := by unfold bz; by_cases h : p <;> simp [h]
theorem bz_eq0 {p : Prop} [Decidable p] : (bz p = 0) ↔ ¬ p := by unfold bz; by_cases h : p <;> simp [h]
theorem bz_01 {p : Prop} [Decidable p] : bz p = 0 ∨ bz p = 1 := by unfold bz; by_cases h : p <;> simp [h]
theorem bz_or {p : Prop} [Decidable p] : (bz p = 0 ∨ bz p = 1) = True := eq_true bz_01
theorem ite_bzif {p : Prop} [Decidable p] {α : Type} (a b : α) : (if bz p = 0 then a else b) = if p then b else a := by by_cases h : p <;> simp [bz, h]
theorem bz_congr {p q : Prop} [Decidable p] [Decidable q] (h : p ↔ q) : bz p = bz q := by unfold bz; by_cases z : p <;> simp [z, h.mp, h, show q ↔ p from h.symm]
theorem blk {b : Nat} (h : 2 ≤ b) : ∃ j, b = j + 2 := ⟨b - 2, by omega⟩
theorem suc {n k : Nat} (h : k < n) : ∃ j, n = j + (k + 1) := ⟨n - (k + 1), by omega⟩
/-! loops -/
theorem lp {S : Nat → Nat → Option Rs} {T : Option Rs} {m : Nat} (hs : ∀ n c, c < m → S (n + 1) c = S n (c + 1)) (he : ∀ n, S (n + 1) m = T) : ∀ (k c n : Nat), c + k = m → k < n → S n c = T := by
  intro k
  induction k with
  | zero =>
    intro c n h hn
    obtain ⟨q, rfl⟩ : ∃ q, n = q + 1 := ⟨n - 1, by omega⟩
    have hc : c = m := by omega
    rw [hc]
    exact he q
  | succ k ih =>
    intro c n h hn
    obtain ⟨q, rfl⟩ : ∃ q, n = q + 1 := ⟨n - 1, by omega⟩
    rw [hs q c (by omega)]
    exact ih (c + 1) q (by omega) (by omega)
theorem lpf {S : Nat → Nat → Option Rs} {P : Nat → Prop} {R : Nat → Option Rs} {D : Option Rs} {m : Nat} (hs : ∀ n c, c < m → (P c ∧ S (n + 1) c = R c) ∨ (¬ P c ∧ S (n + 1) c = S n (c + 1))) (he : ∀ n, S (n + 1) m = D) : ∀ (k c n : Nat), c + k = m → k < n → (∃ i, c ≤ i ∧ i < m ∧ P i ∧ (∀ j, c ≤ j → j < i → ¬ P j) ∧ S n c = R i) ∨ ((∀ j, c ≤ j → j < m → ¬ P j) ∧ S n c = D) := by
  intro k
  induction k with
  | zero =>
    intro c n h hn
    obtain ⟨q, rfl⟩ : ∃ q, n = q + 1 := ⟨n - 1, by omega⟩
    have hc : c = m := by omega
    rw [hc]
    exact Or.inr ⟨fun j h1 h2 => by omega, he q⟩
  | succ k ih =>
    intro c n h hn
    obtain ⟨q, rfl⟩ : ∃ q, n = q + 1 := ⟨n - 1, by omega⟩
    rcases hs q c (by omega) with ⟨hP, e⟩ | ⟨hP, e⟩
    · exact Or.inl ⟨c, Nat.le_refl _, by omega, hP, fun j h1 h2 => by omega, e⟩
    · rw [e]
      rcases ih (c + 1) q (by omega) (by omega) with ⟨i, h1, h2, h3, h4, h5⟩ | ⟨h1, h2⟩
      · refine Or.inl ⟨i, by omega, h2, h3, fun j z1 z2 => ?_, h5⟩
        by_cases hj : j = c
        · rw [hj]; exact hP
        · exact h4 j (by omega) z2
      · refine Or.inr ⟨fun j z1 z2 => ?_, h2⟩
        by_cases hj : j = c
        · rw [hj]; exact hP
        · exact h1 j (by omega) z2
theorem lpf0 {S : Nat → Nat → Option Rs} {P : Nat → Prop} {R : Nat → Option Rs} {D : Option Rs} {m N : Nat} (hN : m < N) (hs : ∀ n c, c < m → (P c ∧ S (n + 1) c = R c) ∨ (¬ P c ∧ S (n + 1) c = S n (c + 1))) (he : ∀ n, S (n + 1) m = D) : (∃ i, i < m ∧ P i ∧ (∀ j, j < i → ¬ P j) ∧ S N 0 = R i) ∨ ((∀ j, j < m → ¬ P j) ∧ S N 0 = D) := by
  rcases lpf hs he m 0 N (by omega) hN with ⟨i, -, h2, h3, h4, h5⟩ | ⟨h1, h2⟩
  · exact Or.inl ⟨i, h2, h3, fun j z => h4 j (Nat.zero_le _) z, h5⟩
  · exact Or.inr ⟨fun j z => h1 j (Nat.zero_le _) z, h2⟩
theorem lpd {S : Nat → Nat → Option Rs} {T : Option Rs} : ∀ {m : Nat} (_ : ∀ n c, c < m → S (n + 1) (c + 1) = S n c) (_ : ∀ n, S (n + 1) 0 = T) {n : Nat}, m < n → S n m = T := by
  intro m
  induction m with
  | zero =>
    intro hs he n hn
    obtain ⟨q, rfl⟩ : ∃ q, n = q + 1 := ⟨n - 1, by omega⟩
    exact he q
  | succ m ih =>
    intro hs he n hn
    obtain ⟨q, rfl⟩ : ∃ q, n = q + 1 := ⟨n - 1, by omega⟩
    rw [hs q m (by omega)]
    exact ih (fun n c hc => hs n c (by omega)) he (by omega)
theorem lpfd {S : Nat → Nat → Option Rs} {P : Nat → Prop} {R : Nat → Option Rs} {D : Option Rs} : ∀ {m : Nat} (_ : ∀ n c, c < m → (P c ∧ S (n + 1) (c + 1) = R c) ∨ (¬ P c ∧ S (n + 1) (c + 1) = S n c)) (_ : ∀ n, S (n + 1) 0 = D) {n : Nat}, m < n → (∃ i, i < m ∧ P i ∧ (∀ j, i < j → j < m → ¬ P j) ∧ S n m = R i) ∨ ((∀ j, j < m → ¬ P j) ∧ S n m = D) := by
  intro m
  induction m with
  | zero =>
    intro hs he n hn
    obtain ⟨q, rfl⟩ : ∃ q, n = q + 1 := ⟨n - 1, by omega⟩
    exact Or.inr ⟨fun j h => by omega, he q⟩
  | succ m ih =>
    intro hs he n hn
    obtain ⟨q, rfl⟩ : ∃ q, n = q + 1 := ⟨n - 1, by omega⟩
    rcases hs q m (by omega) with ⟨hP, e⟩ | ⟨hP, e⟩
    · exact Or.inl ⟨m, by omega, hP, fun j h1 h2 => by omega, e⟩
    · rw [e]
      rcases ih (fun n c hc => hs n c (by omega)) he (n := q) (by omega) with ⟨i, h1, h2, h3, h4⟩ | ⟨h1, h2⟩
      · refine Or.inl ⟨i, by omega, h2, fun j z1 z2 => ?_, h4⟩
        by_cases hj : j = m
        · rw [hj]; exact hP
        · exact h3 j z1 (by omega)
      · refine Or.inr ⟨fun j z => ?_, h2⟩
        by_cases hj : j = m
        · rw [hj]; exact hP
        · exact h1 j (by omega)
theorem lpgd {S : Nat → Nat → Option Rs} {T : Nat → Option Rs} : ∀ {m : Nat} (_ : ∀ n c, c < m → (S (n + 1) (c + 1) = S n c ∧ T (c + 1) = T c) ∨ S (n + 1) (c + 1) = T (c + 1)) (_ : ∀ n, S (n + 1) 0 = T 0) {n : Nat}, m < n → S n m = T m := by
  intro m
  induction m with
  | zero =>
    intro hs he n hn
    obtain ⟨q, rfl⟩ : ∃ q, n = q + 1 := ⟨n - 1, by omega⟩
    exact he q
  | succ m ih =>
    intro hs he n hn
    obtain ⟨q, rfl⟩ : ∃ q, n = q + 1 := ⟨n - 1, by omega⟩
    rcases hs q m (by omega) with ⟨e1, e2⟩ | e
    · rw [e1, e2]
      exact ih (fun n c hc => hs n c (by omega)) he (by omega)
    · exact e
def pI (c : Nat) : Int32 := nI c - 1
theorem pI_0 : pI 0 = -1 := by decide
theorem pI_s (c : Nat) : pI (c + 1) = nI c := nI_pred c
theorem pI_d (c : Nat) : nI c + (-1) = pI c := by unfold pI; rw [Int32.sub_eq_add_neg]
theorem pI_n (c : Nat) : nI c - 1 = pI c := rfl
/-! rows that are filled -/
def fl (I : IM) (b o n : Nat) (f : Nat → Int32) : IM := fun b' o' k' => if b' = b ∧ o' = o ∧ k' < n then f k' else I b' o' k'
theorem fl_eq (I : IM) (b o n : Nat) (f : Nat → Int32) (b' o' k' : Nat) : fl I b o n f b' o' k' = if b' = b ∧ o' = o ∧ k' < n then f k' else I b' o' k' := rfl
theorem fl_0 (I : IM) (b o : Nat) (f : Nat → Int32) : fl I b o 0 f = I := by
  funext b' o' k'
  rw [fl_eq, if_neg (fun z => Nat.not_lt_zero _ z.2.2)]
theorem fl_s (I : IM) (b o n : Nat) (f : Nat → Int32) : wI (fl I b o n f) b o n (f n) = fl I b o (n + 1) f := by
  funext b' o' k'
  rw [wI_eq, fl_eq, fl_eq]
  by_cases h : b' = b ∧ o' = o
  · obtain ⟨rfl, rfl⟩ := h
    by_cases hk : k' = n
    · subst hk
      rw [if_pos ⟨rfl, rfl, rfl⟩, if_pos ⟨rfl, rfl, by omega⟩]
    · rw [if_neg (fun z => hk z.2.2)]
      by_cases hl : k' < n
      · rw [if_pos ⟨rfl, rfl, hl⟩, if_pos ⟨rfl, rfl, by omega⟩]
      · rw [if_neg (fun z => hl z.2.2), if_neg (fun z => hl (by omega))]
  · rw [if_neg (fun z => h ⟨z.1, z.2.1⟩), if_neg (fun z => h ⟨z.1, z.2.1⟩), if_neg (fun z => h ⟨z.1, z.2.1⟩)]
/-- the same from a place on -/
def flo (I : IM) (b o p n : Nat) (f : Nat → Int32) : IM := fun b' o' k' => if b' = b ∧ o' = o ∧ p ≤ k' ∧ k' < p + n then f (k' - p) else I b' o' k'
theorem flo_eq (I : IM) (b o p n : Nat) (f : Nat → Int32) (b' o' k' : Nat) : flo I b o p n f b' o' k' = if b' = b ∧ o' = o ∧ p ≤ k' ∧ k' < p + n then f (k' - p) else I b' o' k' := rfl
theorem flo_0 (I : IM) (b o p : Nat) (f : Nat → Int32) : flo I b o p 0 f = I := by
  funext b' o' k'
  rw [flo_eq, if_neg (fun z => by omega)]
theorem flo_s (I : IM) (b o p n : Nat) (f : Nat → Int32) : wI (flo I b o p n f) b o (p + n) (f n) = flo I b o p (n + 1) f := by
  funext b' o' k'
  rw [wI_eq, flo_eq, flo_eq]
  by_cases h : b' = b ∧ o' = o
  · obtain ⟨rfl, rfl⟩ := h
    by_cases hk : k' = p + n
    · subst hk
      rw [if_pos ⟨rfl, rfl, rfl⟩, if_pos ⟨rfl, rfl, by omega, by omega⟩, show p + n - p = n by omega]
    · rw [if_neg (fun z => hk z.2.2)]
      by_cases hl : p ≤ k' ∧ k' < p + n
      · rw [if_pos ⟨rfl, rfl, hl.1, hl.2⟩, if_pos ⟨rfl, rfl, hl.1, by omega⟩]
      · rw [if_neg (fun z => hl z.2.2), if_neg (fun z => hl ⟨z.2.2.1, by omega⟩)]
  · rw [if_neg (fun z => h ⟨z.1, z.2.1⟩), if_neg (fun z => h ⟨z.1, z.2.1⟩), if_neg (fun z => h ⟨z.1, z.2.1⟩)]
/-! bits, counts -/
abbrev sh1 (c : Nat) : Int32 := (1 : Int32) <<< (nI c &&& 31)
def orb (P : Nat → Prop) [DecidablePred P] : Nat → Int32
  | 0 => 0
  | c + 1 => if P c then orb P c ||| sh1 c else orb P c
theorem orb_congr {P Q : Nat → Prop} [DecidablePred P] [DecidablePred Q] : ∀ {m : Nat}, (∀ i, i < m → (P i ↔ Q i)) → orb P m = orb Q m := by
  intro m
  induction m with
  | zero => intro _; rfl
  | succ m ih =>
    intro h
    unfold orb
    rw [ih (fun i hi => h i (by omega))]
    have := h m (by omega)
    by_cases z : P m
    · rw [if_pos z, if_pos (this.mp z)]
    · rw [if_neg z, if_neg (fun y => z (this.mpr y))]
def cnt (P : Nat → Prop) [DecidablePred P] : Nat → Nat
  | 0 => 0
  | c + 1 => if P c then cnt P c + 1 else cnt P c
theorem cnt_congr {P Q : Nat → Prop} [DecidablePred P] [DecidablePred Q] : ∀ {m : Nat}, (∀ i, i < m → (P i ↔ Q i)) → cnt P m = cnt Q m := by
  intro m
  induction m with
  | zero => intro _; rfl
  | succ m ih =>
    intro h
    unfold cnt
    rw [ih (fun i hi => h i (by omega))]
    have := h m (by omega)
    by_cases z : P m
    · rw [if_pos z, if_pos (this.mp z)]
    · rw [if_neg z, if_neg (fun y => z (this.mpr y))]
theorem cnt_le (P : Nat → Prop) [DecidablePred P] : ∀ m : Nat, cnt P m ≤ m := by
  intro m
  induction m with
  | zero => exact Nat.le_refl _
  | succ m ih =>
    unfold cnt
    split
    · omega
    · omega
/-! MIX -/
def mixF (a b : Int32) : Int32 := ((((a ^^^ ((b <<< ((7 : Int32) &&& 31)) ||| ((b).toUInt32 >>> (((25 : Int32)).toUInt32 &&& Int32.toUInt32 31)).toInt32)) * (-1640531535 : Int32)) + (97 : Int32)) ^^^ (((((a ^^^ ((b <<< ((7 : Int32) &&& 31)) ||| ((b).toUInt32 >>> (((25 : Int32)).toUInt32 &&& Int32.toUInt32 31)).toInt32)) * (-1640531535 : Int32)) + (97 : Int32))).toUInt32 >>> (((15 : Int32)).toUInt32 &&& Int32.toUInt32 31)).toInt32)
theorem m69 (N d : Nat) (a b : Int32) (I : IM) (F : FM) : sem N (d + 1) 69 [vI a, vI b] I F = some (vI (mixF a b), I, F) := by rw [s69]; rfl
theorem m188 (N d : Nat) (a b : Int32) (I : IM) (F : FM) : sem N (d + 1) 188 [vI a, vI b] I F = some (vI (mixF a b), I, F) := by rw [s188]; rfl
theorem m73 (N d : Nat) (a : Int32) (I : IM) (F : FM) : sem N (d + 2) 73 [vI a] I F = some (vI (mixF 17 a), I, F) := by rw [s73]; simp only [b73, m69, bI_v]
theorem m74 (N d : Nat) (a b : Int32) (I : IM) (F : FM) : sem N (d + 2) 74 [vI a, vI b] I F = some (vI (mixF (mixF 17 a) b), I, F) := by rw [s74]; simp only [b74, m69, bI_v]
theorem m75 (N d : Nat) (a b c : Int32) (I : IM) (F : FM) : sem N (d + 2) 75 [vI a, vI b, vI c] I F = some (vI (mixF (mixF (mixF 17 a) b) c), I, F) := by rw [s75]; simp only [b75, m69, bI_v]
theorem m76 (N d : Nat) (a b c e : Int32) (I : IM) (F : FM) : sem N (d + 2) 76 [vI a, vI b, vI c, vI e] I F = some (vI (mixF (mixF (mixF (mixF 17 a) b) c) e), I, F) := by rw [s76]; simp only [b76, m69, bI_v]
/-! the ways in which the class asks whether a number is in a row -/
theorem has3 {α : Type} {x s M : Int32} {n m : Nat} (hs : s = nI n) (hM : M = nI m) (hnm : n ≤ m) (hm : m < 2 ^ 31) (A B : α) : (if x < 0 then A else (if s ≤ x then A else (if M ≤ x then A else B))) = if inb x n then B else A := by
  subst hs
  subst hM
  by_cases h : inb x n
  · rw [if_pos h]
    obtain ⟨c, hc, hc2, rfl, -⟩ := inb_get h
    rw [if_neg (nI_pos hc2), if_neg (nI_ge hc (by omega)), if_neg (nI_ge (by omega) hm)]
  · rw [if_neg h]
    by_cases h0 : x < 0
    · rw [if_pos h0]
    · rw [if_neg h0, if_pos ?_]
      rw [i_le, i_nI (by omega)]
      rw [inb_iff] at h
      rw [i_lt, i_0] at h0
      omega
theorem has2 {α : Type} {x M : Int32} {m : Nat} (hM : M = nI m) (hm : m < 2 ^ 31) (A B : α) : (if x < 0 then A else (if M ≤ x then A else B)) = if inb x m then B else A := by
  subst hM
  by_cases h : inb x m
  · rw [if_pos h]
    obtain ⟨c, hc, hc2, rfl, -⟩ := inb_get h
    rw [if_neg (nI_pos hc2), if_neg (nI_ge hc hm)]
  · rw [if_neg h]
    by_cases h0 : x < 0
    · rw [if_pos h0]
    · rw [if_neg h0, if_pos ?_]
      rw [i_le, i_nI hm]
      rw [inb_iff] at h
      rw [i_lt, i_0] at h0
      omega
/-- the reference's way -/
theorem m184 (N d : Nat) {x : Int32} {h : Int64} {n : Nat} (hh : h.toInt = (n : Int) - 1) (I : IM) (F : FM) : sem N (d + 1) 184 [vL x.toInt64, vL 0, vL h] I F = some (vI (bz (inb x n)), I, F) := by
  rw [s184]
  unfold b184
  have e1 : (lg_cmp x.toInt64 0 < 0) ↔ x.toInt < 0 := by rw [lg_cmp_lt, Int64.lt_iff_toInt_lt, Int32.toInt_toInt64, show (0 : Int64).toInt = 0 from by decide]
  have e2 : (0 < lg_cmp x.toInt64 h) ↔ (n : Int) - 1 < x.toInt := by rw [lg_cmp_gt, Int64.lt_iff_toInt_lt, Int32.toInt_toInt64, hh]
  by_cases hx : inb x n
  · rw [bz_t hx]
    rw [inb_iff] at hx
    rw [if_neg (fun z => by have := e1.mp z; omega), if_neg (fun z => by have := e2.mp z; omega)]
  · rw [bz_f hx]
    rw [inb_iff] at hx
    by_cases h0 : x.toInt < 0
    · rw [if_pos (e1.mpr h0)]
    · rw [if_neg (fun z => h0 (e1.mp z)), if_pos (e2.mpr (by omega))]
theorem l_pred {n : Nat} (h : n < 2 ^ 31) : ((nI n).toInt64 - 1).toInt = (n : Int) - 1 := by
  rw [Int64.toInt_sub, Int32.toInt_toInt64, i_nI h, show (1 : Int64).toInt = 1 from by decide]
  exact Int.bmod_eq_of_le (by omega) (by omega)
def atF (x : Int32) : Int32 := if (6 : Int32) ≤ x then (-1) else 0
theorem m1 (N d : Nat) (x : Int32) (I : IM) (F : FM) : sem N (d + 1) 1 [vI x] I F = some (vI (atF x), I, F) := by rw [s1]; unfold b1 atF; split <;> rfl
theorem m209 (N d : Nat) (x : Int32) (I : IM) (F : FM) : sem N (d + 1) 209 [vI x] I F = some (vI (atF x), I, F) := by rw [s209]; unfold b209 atF; split <;> rfl
theorem m308 (N d : Nat) (x y : Int32) (I : IM) (F : FM) : sem N (d + 1) 308 [vI x, vI y] I F = some (vI (if x < y then y else x), I, F) := by rw [s308]; unfold b308; split <;> rfl
theorem m309 (N d : Nat) (x y : Int32) (I : IM) (F : FM) : sem N (d + 1) 309 [vI x, vI y] I F = some (vI (if y < x then y else x), I, F) := by rw [s309]; unfold b309; split <;> rfl
