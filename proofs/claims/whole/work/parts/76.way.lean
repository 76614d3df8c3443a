/-! REACH: ways. A state of the slots is a number: a digit a slot (a key and 1), and whether the swapped key has come -/
def cs (s t : Nat) : Nat := s / 16 ^ t % 16
abbrev cld (s k : Nat) : Prop := cs s 0 = k + 1 ∨ cs s 1 = k + 1 ∨ cs s 2 = k + 1
def cfr (s : Nat) : Nat := (if cs s 0 = 0 then 1 else 0) + (if cs s 1 = 0 then 1 else 0) + (if cs s 2 = 0 then 1 else 0)
def cuu (s : Nat) : Nat := s / 4096
def fls (s t : Nat) : Nat := s - cs s t * 16 ^ t
def pts (s t x : Nat) : Nat := s + x * 16 ^ t
theorem cs_0 (s : Nat) : cs s 0 = s % 16 := by unfold cs; rw [Nat.pow_zero, Nat.div_one]
theorem cs_1 (s : Nat) : cs s 1 = s / 16 % 16 := by unfold cs; rw [Nat.pow_one]
theorem cs_2 (s : Nat) : cs s 2 = s / 256 % 16 := rfl
theorem cs_lt (s t : Nat) : cs s t < 16 := Nat.mod_lt _ (by omega)
theorem tr3 {t : Nat} (h : t < 3) : t = 0 ∨ t = 1 ∨ t = 2 := by omega
theorem fls_c {s t : Nat} (ht : t < 3) : ∀ r, r < 3 → cs (fls s t) r = if r = t then 0 else cs s r := by
  intro r hr
  unfold fls
  rcases tr3 ht with rfl | rfl | rfl <;> rcases tr3 hr with rfl | rfl | rfl <;> simp only [cs_0, cs_1, cs_2, Nat.pow_zero, Nat.pow_one, show (16 : Nat) ^ 2 = 256 by decide, ↓reduceIte, Nat.reduceEqDiff, Nat.zero_ne_one, Nat.one_ne_zero] <;> omega
theorem fls_u {s t : Nat} (ht : t < 3) : cuu (fls s t) = cuu s := by
  unfold fls cuu
  rcases tr3 ht with rfl | rfl | rfl <;> simp only [cs_0, cs_1, cs_2, Nat.pow_zero, Nat.pow_one, show (16 : Nat) ^ 2 = 256 by decide] <;> omega
theorem fls_l {s t : Nat} (hs : s < 8192) : fls s t < 8192 := by unfold fls; omega
theorem pts_c {s t x : Nat} (ht : t < 3) (h0 : cs s t = 0) (hx : x < 16) : ∀ r, r < 3 → cs (pts s t x) r = if r = t then x else cs s r := by
  intro r hr
  unfold pts
  rcases tr3 ht with rfl | rfl | rfl <;> rcases tr3 hr with rfl | rfl | rfl <;> simp only [cs_0, cs_1, cs_2, Nat.pow_zero, Nat.pow_one, show (16 : Nat) ^ 2 = 256 by decide, ↓reduceIte, Nat.reduceEqDiff, Nat.zero_ne_one, Nat.one_ne_zero] at h0 ⊢ <;> omega
theorem pts_u {s t x : Nat} (ht : t < 3) (h0 : cs s t = 0) (hx : x < 16) : cuu (pts s t x) = cuu s := by
  unfold pts cuu
  rcases tr3 ht with rfl | rfl | rfl <;> simp only [cs_0, cs_1, cs_2, Nat.pow_zero, Nat.pow_one, show (16 : Nat) ^ 2 = 256 by decide] at h0 ⊢ <;> omega
theorem pts_l {s t x : Nat} (ht : t < 3) (hs : s < 8192) (h0 : cs s t = 0) (hx : x < 16) : pts s t x < 8192 := by
  have h := pts_u ht h0 hx
  unfold cuu at h
  omega
theorem sw_c {s : Nat} (r : Nat) (hr : r < 3) : cs (s + 4096) r = cs s r := by
  rcases tr3 hr with rfl | rfl | rfl <;> simp only [cs_0, cs_1, cs_2] <;> omega
theorem sw_u {s : Nat} : cuu (s + 4096) = cuu s + 1 := by unfold cuu; omega
/-! the first of some -/
def fidx (P : Nat → Prop) [DecidablePred P] : Nat → Nat
  | 0 => 0
  | m + 1 => if fidx P m < m then fidx P m else if P m then m else m + 1
theorem fidx_p {P : Nat → Prop} [DecidablePred P] : ∀ m, fidx P m ≤ m ∧ (∀ j, j < fidx P m → ¬ P j) ∧ (fidx P m < m → P (fidx P m)) := by
  intro m
  induction m with
  | zero => exact ⟨Nat.le_refl _, fun j h => absurd h (Nat.not_lt_zero j), fun h => absurd h (Nat.lt_irrefl 0)⟩
  | succ m ih =>
    obtain ⟨h1, h2, h3⟩ := ih
    have e : fidx P (m + 1) = if fidx P m < m then fidx P m else if P m then m else m + 1 := rfl
    rw [e]
    by_cases h : fidx P m < m
    · rw [if_pos h]
      exact ⟨by omega, h2, fun _ => h3 h⟩
    · rw [if_neg h]
      have hm : fidx P m = m := by omega
      rw [hm] at h2
      by_cases hp : P m
      · rw [if_pos hp]
        exact ⟨by omega, h2, fun _ => hp⟩
      · rw [if_neg hp]
        refine ⟨Nat.le_refl _, fun j hj => ?_, fun z => absurd z (Nat.lt_irrefl _)⟩
        by_cases ej : j = m
        · rw [ej]; exact hp
        · exact h2 j (by omega)
theorem fidx_e {P : Nat → Prop} [DecidablePred P] {m i : Nat} (hi : i ≤ m) (h1 : ∀ j, j < i → ¬ P j) (h2 : i < m → P i) : fidx P m = i := by
  obtain ⟨g1, g2, g3⟩ := fidx_p (P := P) m
  by_cases h : fidx P m < i
  · exact absurd (g3 (by omega)) (h1 _ h)
  · by_cases h' : i < fidx P m
    · exact absurd (h2 (by omega)) (g2 i h')
    · omega
theorem fidx_m {P Q : Nat → Prop} [DecidablePred P] [DecidablePred Q] {m : Nat} (h : ∀ j, j < m → Q j → P j) : fidx P m ≤ fidx Q m := by
  obtain ⟨g1, g2, g3⟩ := fidx_p (P := P) m
  obtain ⟨k1, k2, k3⟩ := fidx_p (P := Q) m
  by_cases hl : fidx Q m < fidx P m
  · exact absurd (h _ (by omega) (k3 (by omega))) (g2 _ hl)
  · omega
/-! how far it is -/
def cix (w : Nat → Nat) (n s : Nat) : Nat := fidx (fun i => cld s (w i)) n
abbrev cdd (w : Nat → Nat) (n : Nat) (tp hp : Bool) (P s : Nat) : Prop := cix w n s = n ∧ ((tp = true ∧ cuu s = 1) ∨ (tp = false ∧ hp = true ∧ ¬ cld s P))
def cwn (w : Nat → Nat) (n : Nat) (tp : Bool) (ts s : Nat) : Nat := if tp = true ∧ cix w n s = n ∧ ¬ cs s ts = 0 then 1 else 0
def cph (w : Nat → Nat) (n : Nat) (tp : Bool) (ts : Nat) (hp : Bool) (P s : Nat) : Nat := if cdd w n tp hp P s then 1000 else cix w n s + max (cwn w n tp ts s) (cix w n s - cfr s)
section PH
variable {w : Nat → Nat} {n : Nat} {tp : Bool} {ts : Nat} {hp : Bool} {P s : Nat}
theorem cph_d (h : cdd w n tp hp P s) : cph w n tp ts hp P s = 1000 := if_pos h
theorem cph_n (h : ¬ cdd w n tp hp P s) : cph w n tp ts hp P s = cix w n s + max (cwn w n tp ts s) (cix w n s - cfr s) := if_neg h
theorem cix_le : cix w n s ≤ n := (fidx_p (P := fun i => cld s (w i)) n).1
theorem cwn_le : cwn w n tp ts s ≤ 1 := by unfold cwn; split <;> omega
theorem cwn_0 (h : ¬ cix w n s = n) : cwn w n tp ts s = 0 := by unfold cwn; rw [if_neg (fun z => h z.2.1)]
theorem cph_b (hn : n ≤ 11) : cph w n tp ts hp P s ≤ 1000 := by
  by_cases h : cdd w n tp hp P s
  · rw [cph_d h]; omega
  · rw [cph_n h]
    have h1 := cix_le (w := w) (n := n) (s := s)
    have h2 := cwn_le (w := w) (n := n) (tp := tp) (ts := ts) (s := s)
    omega
theorem fls_ld {t k : Nat} (ht : t < 3) (h : cld (fls s t) k) : cld s k := by
  have e := fls_c (s := s) ht
  have e0 := e 0 (by omega)
  have e1 := e 1 (by omega)
  have e2 := e 2 (by omega)
  rcases tr3 ht with rfl | rfl | rfl
  · rw [if_pos rfl] at e0
    rw [if_neg (by omega)] at e1 e2
    rcases h with h | h | h <;> omega
  · rw [if_pos rfl] at e1
    rw [if_neg (by omega)] at e0 e2
    rcases h with h | h | h <;> omega
  · rw [if_pos rfl] at e2
    rw [if_neg (by omega)] at e0 e1
    rcases h with h | h | h <;> omega
theorem fls_fr {t : Nat} (ht : t < 3) (h0 : ¬ cs s t = 0) : cfr (fls s t) = cfr s + 1 := by
  have e := fls_c (s := s) ht
  have e0 := e 0 (by omega)
  have e1 := e 1 (by omega)
  have e2 := e 2 (by omega)
  unfold cfr
  rw [e0, e1, e2]
  rcases tr3 ht with rfl | rfl | rfl
  · rw [if_pos rfl, if_pos rfl, if_neg (show ¬ (1 : Nat) = 0 by omega), if_neg (show ¬ (2 : Nat) = 0 by omega), if_neg h0]; omega
  · rw [if_neg (show ¬ (0 : Nat) = 1 by omega), if_pos (show (1 : Nat) = 1 from rfl), if_pos (show (0 : Nat) = 0 from rfl), if_neg (show ¬ (2 : Nat) = 1 by omega), if_neg (c := cs s 1 = 0) h0]; omega
  · rw [if_neg (show ¬ (0 : Nat) = 2 by omega), if_neg (show ¬ (1 : Nat) = 2 by omega), if_pos (show (2 : Nat) = 2 from rfl), if_pos (show (0 : Nat) = 0 from rfl), if_neg (c := cs s 2 = 0) h0]
theorem ph_fls (hn : n ≤ 11) {t : Nat} (ht : t < 3) (h0 : ¬ cs s t = 0) : cph w n tp ts hp P s ≤ cph w n tp ts hp P (fls s t) + 1 := by
  have hm : cix w n s ≤ cix w n (fls s t) := fidx_m (fun j _ h => fls_ld ht h)
  have hl := cix_le (w := w) (n := n) (s := fls s t)
  have hl0 := cix_le (w := w) (n := n) (s := s)
  have hf := fls_fr ht h0
  by_cases hd : cdd w n tp hp P s
  · have hd' : cdd w n tp hp P (fls s t) := by
      refine ⟨by have := hd.1; omega, ?_⟩
      rw [fls_u ht]
      rcases hd.2 with z | ⟨z1, z2, z3⟩
      · exact Or.inl z
      · exact Or.inr ⟨z1, z2, fun y => z3 (fls_ld ht y)⟩
    rw [cph_d hd, cph_d hd']
    omega
  · have hb := cwn_le (w := w) (n := n) (tp := tp) (ts := ts) (s := s)
    rw [cph_n hd]
    by_cases hd' : cdd w n tp hp P (fls s t)
    · rw [cph_d hd']; omega
    · rw [cph_n hd', hf]
      by_cases hi : cix w n s = n
      · omega
      · have := cwn_0 (tp := tp) (ts := ts) hi
        omega
theorem pts_ld {t x k : Nat} (ht : t < 3) (h0 : cs s t = 0) (hx : x < 15) : cld (pts s t (x + 1)) k ↔ (cld s k ∨ k = x) := by
  have e := pts_c (s := s) (x := x + 1) ht h0 (by omega)
  have e0 := e 0 (by omega)
  have e1 := e 1 (by omega)
  have e2 := e 2 (by omega)
  show (cs (pts s t (x + 1)) 0 = k + 1 ∨ cs (pts s t (x + 1)) 1 = k + 1 ∨ cs (pts s t (x + 1)) 2 = k + 1) ↔ ((cs s 0 = k + 1 ∨ cs s 1 = k + 1 ∨ cs s 2 = k + 1) ∨ k = x)
  rcases tr3 ht with rfl | rfl | rfl
  · rw [if_pos rfl] at e0
    rw [if_neg (by omega)] at e1 e2
    omega
  · rw [if_pos rfl] at e1
    rw [if_neg (by omega)] at e0 e2
    omega
  · rw [if_pos rfl] at e2
    rw [if_neg (by omega)] at e0 e1
    omega
theorem pts_fr {t x : Nat} (ht : t < 3) (h0 : cs s t = 0) (hx : x < 15) : cfr (pts s t (x + 1)) + 1 = cfr s := by
  have e := pts_c (s := s) (x := x + 1) ht h0 (by omega)
  have e0 := e 0 (by omega)
  have e1 := e 1 (by omega)
  have e2 := e 2 (by omega)
  unfold cfr
  rw [e0, e1, e2]
  rcases tr3 ht with rfl | rfl | rfl
  · rw [if_pos rfl, if_neg (c := x + 1 = 0) (by omega), if_neg (show ¬ (1 : Nat) = 0 by omega), if_neg (show ¬ (2 : Nat) = 0 by omega), if_pos (c := cs s 0 = 0) h0]; omega
  · rw [if_neg (show ¬ (0 : Nat) = 1 by omega), if_pos (show (1 : Nat) = 1 from rfl), if_neg (c := x + 1 = 0) (by omega), if_neg (show ¬ (2 : Nat) = 1 by omega), if_pos (c := cs s 1 = 0) h0]; omega
  · rw [if_neg (show ¬ (0 : Nat) = 2 by omega), if_neg (show ¬ (1 : Nat) = 2 by omega), if_pos (show (2 : Nat) = 2 from rfl), if_neg (c := x + 1 = 0) (by omega), if_pos (c := cs s 2 = 0) h0]
theorem ph_ld (hn : n ≤ 11) (hw : ∀ i j, i < n → j < n → w i = w j → i = j) (hw9 : ∀ i, i < n → w i < 15) {t j : Nat} (ht : t < 3) (h0 : cs s t = 0) (hj : j < n) (hp1 : j + 1 < n → cld s (w (j + 1))) (hp2 : j + 1 = n → tp = false ∧ (hp = true → cld s P)) : (j + 1 = cix w n s ∧ cph w n tp ts hp P s = cph w n tp ts hp P (pts s t (w j + 1)) + 1) ∨ (¬ j + 1 = cix w n s ∧ cph w n tp ts hp P s ≤ cph w n tp ts hp P (pts s t (w j + 1))) := by
  obtain ⟨g1, g2, g3⟩ := fidx_p (P := fun i => cld s (w i)) n
  have g1 : cix w n s ≤ n := g1
  have g2 : ∀ i, i < cix w n s → ¬ cld s (w i) := g2
  have g3 : cix w n s < n → cld s (w (cix w n s)) := g3
  have hl := fun k => pts_ld (s := s) (t := t) (x := w j) (k := k) ht h0 (hw9 j hj)
  have hf := pts_fr (s := s) (t := t) (x := w j) ht h0 (hw9 j hj)
  by_cases hji : j + 1 = cix w n s
  · left
    refine ⟨hji, ?_⟩
    have hc : cix w n (pts s t (w j + 1)) = j := by
      refine fidx_e (by omega) (fun m hm z => ?_) (fun _ => (hl (w j)).mpr (Or.inr rfl))
      rcases (hl (w m)).mp z with y | y
      · exact g2 m (by omega) y
      · exact absurd (hw m j (by omega) hj y) (by omega)
    have hd : ¬ cdd w n tp hp P s := fun z => by
      obtain ⟨z1, z2⟩ := z
      obtain ⟨y1, y2⟩ := hp2 (by omega)
      rcases z2 with ⟨x1, -⟩ | ⟨-, x2, x3⟩
      · rw [y1] at x1; exact Bool.noConfusion x1
      · exact x3 (y2 x2)
    have hd' : ¬ cdd w n tp hp P (pts s t (w j + 1)) := fun z => by have := z.1; omega
    have hw0 : cwn w n tp ts s = 0 := by
      by_cases hi : cix w n s = n
      · unfold cwn
        rw [if_neg (fun z => by rw [(hp2 (by omega)).1] at z; exact Bool.noConfusion z.1)]
      · exact cwn_0 hi
    have hw1 : cwn w n tp ts (pts s t (w j + 1)) = 0 := cwn_0 (by omega)
    rw [cph_n hd, cph_n hd', hw0, hw1, hc]
    omega
  · right
    refine ⟨hji, ?_⟩
    have hij : cix w n s ≤ j := Nat.le_of_not_lt (fun z => by
      by_cases h : j + 1 < n
      · exact g2 (j + 1) (by omega) (hp1 h)
      · omega)
    have hc : cix w n (pts s t (w j + 1)) = cix w n s := by
      refine fidx_e (by omega) (fun m hm z => ?_) (fun h => (hl _).mpr (Or.inl (g3 h)))
      rcases (hl (w m)).mp z with y | y
      · exact g2 m hm y
      · exact absurd (hw m j (by omega) hj y) (by omega)
    have hd : ¬ cdd w n tp hp P s := fun z => by have := z.1; omega
    have hd' : ¬ cdd w n tp hp P (pts s t (w j + 1)) := fun z => by have := z.1; omega
    rw [cph_n hd, cph_n hd', cwn_0 (by omega), cwn_0 (by omega), hc]
    omega
theorem ph_sw (hn : n ≤ 11) (hn1 : 1 ≤ n) (hw : ∀ i j, i < n → j < n → w i = w j → i = j) (hw9 : ∀ i, i < n → w i < 15) (htp : tp = true) (hts : ts < 3) (h0 : cs s ts = 0) (hu : cuu s = 0) : (cix w n s = n ∧ cph w n tp ts hp P s = cph w n tp ts hp P (pts s ts (w (n - 1) + 1) + 4096) + 1) ∨ (¬ cix w n s = n ∧ cph w n tp ts hp P s ≤ cph w n tp ts hp P (pts s ts (w (n - 1) + 1) + 4096)) := by
  obtain ⟨g1, g2, g3⟩ := fidx_p (P := fun i => cld s (w i)) n
  have g1 : cix w n s ≤ n := g1
  have g2 : ∀ i, i < cix w n s → ¬ cld s (w i) := g2
  have g3 : cix w n s < n → cld s (w (cix w n s)) := g3
  have hl : ∀ k, cld (pts s ts (w (n - 1) + 1) + 4096) k ↔ (cld s k ∨ k = w (n - 1)) := fun k => by
    show (cs (pts s ts (w (n - 1) + 1) + 4096) 0 = k + 1 ∨ cs (pts s ts (w (n - 1) + 1) + 4096) 1 = k + 1 ∨ cs (pts s ts (w (n - 1) + 1) + 4096) 2 = k + 1) ↔ _
    rw [sw_c 0 (by omega), sw_c 1 (by omega), sw_c 2 (by omega)]
    exact pts_ld hts h0 (hw9 _ (by omega))
  have hf : cfr (pts s ts (w (n - 1) + 1) + 4096) + 1 = cfr s := by
    have e := pts_fr (s := s) (t := ts) (x := w (n - 1)) hts h0 (hw9 _ (by omega))
    unfold cfr at e ⊢
    rw [sw_c 0 (by omega), sw_c 1 (by omega), sw_c 2 (by omega)]
    exact e
  have hd : ¬ cdd w n tp hp P s := fun z => by
    rcases z.2 with ⟨-, y⟩ | ⟨y, -⟩
    · omega
    · rw [htp] at y; exact Bool.noConfusion y
  by_cases hi : cix w n s = n
  · left
    refine ⟨hi, ?_⟩
    have hc : cix w n (pts s ts (w (n - 1) + 1) + 4096) = n - 1 := by
      refine fidx_e (by omega) (fun m hm z => ?_) (fun _ => (hl _).mpr (Or.inr rfl))
      rcases (hl (w m)).mp z with y | y
      · exact g2 m (by omega) y
      · exact absurd (hw m (n - 1) (by omega) (by omega) y) (by omega)
    have hd' : ¬ cdd w n tp hp P (pts s ts (w (n - 1) + 1) + 4096) := fun z => by have := z.1; omega
    have hw0 : cwn w n tp ts s = 0 := by unfold cwn; rw [if_neg (fun z => z.2.2 h0)]
    rw [cph_n hd, cph_n hd', hw0, cwn_0 (s := pts s ts (w (n - 1) + 1) + 4096) (by omega), hc, hi]
    omega
  · right
    refine ⟨hi, ?_⟩
    have hc : cix w n (pts s ts (w (n - 1) + 1) + 4096) = cix w n s := by
      refine fidx_e (by omega) (fun m hm z => ?_) (fun h => (hl _).mpr (Or.inl (g3 h)))
      rcases (hl (w m)).mp z with y | y
      · exact g2 m hm y
      · exact absurd (hw m (n - 1) (by omega) (by omega) y) (by omega)
    have hd' : ¬ cdd w n tp hp P (pts s ts (w (n - 1) + 1) + 4096) := fun z => by have := z.1; omega
    rw [cph_n hd, cph_n hd', cwn_0 hi, cwn_0 (s := pts s ts (w (n - 1) + 1) + 4096) (by omega), hc]
    omega
theorem ph_0 (hn1 : 1 ≤ n) : cph w n tp ts hp P s = 0 ↔ cld s (w 0) := by
  obtain ⟨g1, g2, g3⟩ := fidx_p (P := fun i => cld s (w i)) n
  have g1 : cix w n s ≤ n := g1
  have g2 : ∀ i, i < cix w n s → ¬ cld s (w i) := g2
  have g3 : cix w n s < n → cld s (w (cix w n s)) := g3
  constructor
  · intro h
    by_cases hd : cdd w n tp hp P s
    · rw [cph_d hd] at h; omega
    · rw [cph_n hd] at h
      have hi : cix w n s = 0 := by omega
      rw [hi] at g3
      exact g3 (by omega)
  · intro h
    have hi : cix w n s = 0 := by
      by_cases e : cix w n s = 0
      · exact e
      · exact absurd h (g2 0 (by omega))
    have hd : ¬ cdd w n tp hp P s := fun z => by have := z.1; omega
    rw [cph_n hd, cwn_0 (by omega), hi]
    omega
/-- where no key leaves a slot for the better -/
theorem ph_gr (hn1 : 1 ≤ n) (hd : ¬ cdd w n tp hp P s) (hi : 1 ≤ cix w n s) (hts : ts < 3) (hu : cuu s ≤ 1) (hdup : ∀ r q, r < 3 → q < 3 → cs s r = cs s q → ¬ cs s r = 0 → r = q) (hno : ∀ t, t < 3 → ¬ cs s t = 0 → cph w n tp ts hp P s ≤ cph w n tp ts hp P (fls s t)) : (tp = true ∧ cix w n s = n ∧ cs s ts = 0 ∧ cuu s = 0) ∨ (¬ (tp = true ∧ cix w n s = n) ∧ 1 ≤ cfr s) := by
  obtain ⟨g1, g2, g3⟩ := fidx_p (P := fun i => cld s (w i)) n
  have g1 : cix w n s ≤ n := g1
  have g2 : ∀ i, i < cix w n s → ¬ cld s (w i) := g2
  have g3 : cix w n s < n → cld s (w (cix w n s)) := g3
  by_cases hc : tp = true ∧ cix w n s = n
  · left
    have hu0 : cuu s = 0 := by
      by_cases e : cuu s = 1
      · exact absurd ⟨hc.2, Or.inl ⟨hc.1, e⟩⟩ hd
      · omega
    refine ⟨hc.1, hc.2, ?_, hu0⟩
    by_cases h0 : cs s ts = 0
    · exact h0
    · exfalso
      have h1 := hno ts hts h0
      have hm : cix w n s ≤ cix w n (fls s ts) := fidx_m (fun j _ h => fls_ld hts h)
      have hl := cix_le (w := w) (n := n) (s := fls s ts)
      have hd' : ¬ cdd w n tp hp P (fls s ts) := fun z => by
        rcases z.2 with ⟨-, y⟩ | ⟨y, -⟩
        · rw [fls_u hts] at y; omega
        · rw [hc.1] at y; exact Bool.noConfusion y
      have hw0 : cwn w n tp ts (fls s ts) = 0 := by
        unfold cwn
        rw [if_neg (fun z => z.2.2 (by rw [fls_c hts ts hts, if_pos rfl]))]
      have hw1 : cwn w n tp ts s = 1 := by
        unfold cwn
        rw [if_pos ⟨hc.1, hc.2, h0⟩]
      rw [cph_n hd, cph_n hd', hw0, hw1, fls_fr hts h0] at h1
      omega
  · right
    refine ⟨hc, Nat.le_of_not_lt (fun hz => ?_)⟩
    have hw0 : cwn w n tp ts s = 0 := by unfold cwn; rw [if_neg (fun z => hc ⟨z.1, z.2.1⟩)]
    have hfr : ∀ t, t < 3 → ¬ cs s t = 0 := by
      intro t ht h0
      unfold cfr at hz
      rcases tr3 ht with rfl | rfl | rfl
      · rw [if_pos h0] at hz; omega
      · rw [if_pos (c := cs s 1 = 0) h0] at hz; omega
      · rw [if_pos (c := cs s 2 = 0) h0] at hz; omega
    -- a slot whose key is not wanted
    obtain ⟨x, hx⟩ : ∃ x, (cix w n s < n → x = w (cix w n s)) ∧ (cix w n s = n → x = P) := by
      by_cases e : cix w n s < n
      · exact ⟨w (cix w n s), fun _ => rfl, fun z => by omega⟩
      · exact ⟨P, fun z => absurd z e, fun _ => rfl⟩
    obtain ⟨t, ht, htx⟩ : ∃ t, t < 3 ∧ ¬ cs s t = x + 1 := by
      by_cases e : cs s 0 = x + 1
      · refine ⟨1, by omega, fun z => ?_⟩
        have := hdup 0 1 (by omega) (by omega) (by rw [e, z]) (by omega)
        omega
      · exact ⟨0, by omega, e⟩
    have hkeep : cld s x → cld (fls s t) x := fun h => by
      have e := fls_c (s := s) ht
      rcases h with h | h | h
      · refine Or.inl ?_
        rw [e 0 (by omega), if_neg (fun z => htx (by rw [← z]; exact h))]; exact h
      · refine Or.inr (Or.inl ?_)
        rw [e 1 (by omega), if_neg (fun z => htx (by rw [← z]; exact h))]; exact h
      · refine Or.inr (Or.inr ?_)
        rw [e 2 (by omega), if_neg (fun z => htx (by rw [← z]; exact h))]; exact h
    have h1 := hno t ht (hfr t ht)
    have hci : cix w n (fls s t) = cix w n s := by
      refine fidx_e g1 (fun m hm z => g2 m hm (fls_ld ht z)) (fun h => ?_)
      have e := hx.1 h
      have := hkeep (by rw [e]; exact g3 h)
      rw [e] at this
      exact this
    have hd' : ¬ cdd w n tp hp P (fls s t) := fun z => by
      rw [cdd, hci, fls_u ht] at z
      rcases z.2 with y | ⟨y1, y2, y3⟩
      · exact hd ⟨z.1, Or.inl y⟩
      · refine hd ⟨z.1, Or.inr ⟨y1, y2, fun h => y3 ?_⟩⟩
        have e := hx.2 z.1
        rw [← e] at h ⊢
        exact hkeep h
    have hw1 : cwn w n tp ts (fls s t) = 0 := by unfold cwn; rw [hci, if_neg (fun z => hc ⟨z.1, z.2.1⟩)]
    rw [cph_n hd, cph_n hd', hw0, hw1, hci, fls_fr ht (hfr t ht)] at h1
    omega
end PH
