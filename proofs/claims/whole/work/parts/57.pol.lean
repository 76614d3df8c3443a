/-! POLICIES: what holds, how long, what is lost; the reference's tables -/
theorem and1 (y : Int32) : (y &&& 1 = 0) ↔ ¬ y &&& 1 = 1 := by
  have e0 : (y &&& 1 = 0) ↔ y.toBitVec &&& BitVec.twoPow 32 0 = 0#32 := by
    rw [← Int32.toBitVec_inj]
    exact Iff.rfl
  have e1 : (y &&& 1 = 1) ↔ y.toBitVec.sshiftRight 0 &&& 1#32 = 1#32 := by
    rw [← Int32.toBitVec_inj, show y.toBitVec.sshiftRight 0 = y.toBitVec by simp]
    exact Iff.rfl
  rw [e0, e1, bvA _ (by omega), bvB _ (by omega)]
  cases y.toBitVec.getLsbD 0 <;> simp
theorem orb_b {P : Nat → Prop} [DecidablePred P] {r : Nat} : ∀ {m : Nat}, m ≤ 24 → (orb P m).toBitVec.getLsbD r = decide (r < m ∧ P r) := by
  intro m
  induction m with
  | zero => intro _; simp [orb]
  | succ m ih =>
    intro hm
    have ih := ih (by omega)
    show (if P m then orb P m ||| sh1 m else orb P m).toBitVec.getLsbD r = _
    by_cases h : P m
    · rw [if_pos h, Int32.toBitVec_or, sh1_b m (by omega), BitVec.getLsbD_or, ih, BitVec.getLsbD_twoPow]
      by_cases e : r = m
      · subst e
        have h32 : r < 32 := by omega
        simp [h, h32]
      · have e2 : ¬ m = r := fun z => e z.symm
        simp only [e2, decide_false, Bool.and_false, Bool.or_false]
        congr 1
        rw [eq_iff_iff]
        exact ⟨fun z => ⟨by omega, z.2⟩, fun z => ⟨by omega, z.2⟩⟩
    · rw [if_neg h, ih]
      congr 1
      rw [eq_iff_iff]
      exact ⟨fun z => ⟨by omega, z.2⟩, fun z => ⟨by
        have : r ≠ m := fun w => h (w ▸ z.2)
        omega, z.2⟩⟩
theorem orb_t {P : Nat → Prop} [DecidablePred P] {r m : Nat} (hr : r < m) (hm : m ≤ 24) : ((orb P m >>> (nI r &&& 31)) &&& 1 = 1) ↔ P r := by
  have h : (orb P m >>> (nI r &&& 31)).toBitVec = (orb P m).toBitVec.sshiftRight (((nI r &&& 31).toBitVec.smod 32#32).toNat) := rfl
  rw [sm_b r (by omega)] at h
  rw [← Int32.toBitVec_inj]
  show (orb P m >>> (nI r &&& 31)).toBitVec &&& 1#32 = 1#32 ↔ _
  rw [h, bvB _ (by omega), orb_b hm, decide_eq_true_iff]
  exact ⟨fun z => z.2, fun z => ⟨hr, z⟩⟩
/-! values by tables -/
def tv (f : Nat → (Nat → Int32) → Int32) (p : Nat) : Int32 := tabl f (p + 1) p
theorem tv_eq (f : Nat → (Nat → Int32) → Int32) (p : Nat) : tv f p = f p (tabl f p) := tab_at p
theorem tv_lt {f : Nat → (Nat → Int32) → Int32} {p q : Nat} (h : q < p) : tabl f p q = tv f q := (tab_lt (f := f) (q := q) (p := q + 1) (r := p) (by omega) (by omega))
/-- given by the log -/
def gvn (a : Nat → Int32) (nl r : Nat) : Prop := rtl (fun i => a (20 + 2 * i)) (fun i => a (20 + 2 * i + 1)) (nI r) (-1) (-1) nl = a r
def lgd (a : Nat → Int32) (nl : Nat) (x y : Int32) : Bool := exb (fun i => a (20 + 2 * i) = x ∧ a (20 + 2 * i + 1) = y) nl
def brV (a : Nat → Int32) (l : Int32) (nl : Nat) (k x y : Int32) : Int32 := if k = 0 then bz (dig a x 8 = y) else if k = 1 then bz (¬ y < a (386 + x.toNatClampNeg)) else if k = 2 then bz (¬ l < x) else if k = 5 then bz (¬ y < a 9) else if k = 7 then bz (lgd a nl x y = true ∧ rtl (fun i => a (20 + 2 * i)) (fun i => a (20 + 2 * i + 1)) (nI x.toNatClampNeg) (-1) (-1) nl = a x.toNatClampNeg) else 0
def brF (a : Nat → Int32) (l : Int32) (nl p : Nat) (t : Nat → Int32) : Int32 := if a (268 + 3 * p) = 3 then bz (¬ t (a (269 + 3 * p)).toNatClampNeg = 0 ∧ ¬ t (a (270 + 3 * p)).toNatClampNeg = 0) else if a (268 + 3 * p) = 4 then bz (¬ t (a (269 + 3 * p)).toNatClampNeg = 0 ∨ ¬ t (a (270 + 3 * p)).toNatClampNeg = 0) else brV a l nl (a (268 + 3 * p)) (a (269 + 3 * p)) (a (270 + 3 * p))
def mnI (x y : Int32) : Int32 := if y < x then y else x
def mxI (x y : Int32) : Int32 := if x < y then y else x
def eF (a : Nat → Int32) (l : Int32) (nl p : Nat) (t : Nat → Int32) : Int32 := if a (268 + 3 * p) = 3 then mnI (t (a (269 + 3 * p)).toNatClampNeg) (t (a (270 + 3 * p)).toNatClampNeg) else if a (268 + 3 * p) = 4 then mxI (t (a (269 + 3 * p)).toNatClampNeg) (t (a (270 + 3 * p)).toNatClampNeg) else if a (268 + 3 * p) = 5 then a (270 + 3 * p) else if tv (brF a l nl) p = 0 then -1 else 100000
def sgd (a : Nat → Int32) (l : Int32) (nl na : Nat) (x : Int32) : Bool := exb (fun i => a (390 + 2 * i) = x ∧ ¬ tv (brF a l nl) (a (391 + 2 * i)).toNatClampNeg = 0) na
def hF (a : Nat → Int32) (l : Int32) (nl na p : Nat) (t : Nat → Int32) : Int32 := if a (268 + 3 * p) = 3 then bz (¬ t (a (269 + 3 * p)).toNatClampNeg = 0 ∧ ¬ t (a (270 + 3 * p)).toNatClampNeg = 0) else if a (268 + 3 * p) = 4 then bz (¬ t (a (269 + 3 * p)).toNatClampNeg = 0 ∨ ¬ t (a (270 + 3 * p)).toNatClampNeg = 0) else if a (268 + 3 * p) = 6 then bz (sgd a l nl na (a (269 + 3 * p)) = true) else tv (brF a l nl) p
def slt (a : Nat → Int32) (l : Int32) (nl : Nat) (x : Int32) : Nat → Int32
  | 0 => -1
  | c + 1 => if a (390 + 2 * c) = x then mxI (slt a l nl x c) (tv (eF a l nl) (a (391 + 2 * c)).toNatClampNeg) else slt a l nl x c
def gF (a : Nat → Int32) (l : Int32) (nl na p : Nat) (t : Nat → Int32) : Int32 := if a (268 + 3 * p) = 3 then mnI (t (a (269 + 3 * p)).toNatClampNeg) (t (a (270 + 3 * p)).toNatClampNeg) else if a (268 + 3 * p) = 4 then mxI (t (a (269 + 3 * p)).toNatClampNeg) (t (a (270 + 3 * p)).toNatClampNeg) else if a (268 + 3 * p) = 6 then slt a l nl (a (269 + 3 * p)) na else tv (eF a l nl) p
def oV (a : Nat → Int32) (nl : Nat) (k x : Int32) : Int32 := if k = 0 then (if x &&& 63 = 0 then 1 else 2) else if k = 1 then 2 else if k = 2 then 1 else if k = 5 then 2 else if k = 6 then 1 else if k = 7 then (if 6 ≤ x then 1 else if rtl (fun i => a (20 + 2 * i)) (fun i => a (20 + 2 * i + 1)) (nI x.toNatClampNeg) (-1) (-1) nl = a x.toNatClampNeg then 1 else 2) else 1
def oF (a : Nat → Int32) (l : Int32) (nl na p : Nat) (t : Nat → Int32) : Int32 := if tv (hF a l nl na) p = 0 then (if a (268 + 3 * p) = 3 then mxI (t (a (269 + 3 * p)).toNatClampNeg) (t (a (270 + 3 * p)).toNatClampNeg) else if a (268 + 3 * p) = 4 then mnI (t (a (269 + 3 * p)).toNatClampNeg) (t (a (270 + 3 * p)).toNatClampNeg) else oV a nl (a (268 + 3 * p)) (a (269 + 3 * p))) else 0
def yF (a : Nat → Int32) (l : Int32) (nl na p : Nat) (t : Nat → Int32) : Int32 := if tv (hF a l nl na) p = 0 then (if a (268 + 3 * p) = 3 ∨ a (268 + 3 * p) = 4 then t (a (269 + 3 * p)).toNatClampNeg ||| t (a (270 + 3 * p)).toNatClampNeg else sh1 p) else 0
def zF (a : Nat → Int32) (l : Int32) (nl na p : Nat) (t : Nat → Int32) : Int32 := if tv (hF a l nl na) p = 0 then (if a (268 + 3 * p) = 3 then t (a (269 + 3 * p)).toNatClampNeg + t (a (270 + 3 * p)).toNatClampNeg else if a (268 + 3 * p) = 4 then mnI (t (a (269 + 3 * p)).toNatClampNeg) (t (a (270 + 3 * p)).toNatClampNeg) else 1) else 0
/-- all the reference's tables -/
def tF (a : Nat → Int32) (l : Int32) (nl na : Nat) (o k : Nat) : Int32 := if o = 10 then tv (hF a l nl na) k else if o = 11 then tv (brF a l nl) k else if o = 12 then tv (oF a l nl na) k else if o = 13 then tv (nmT a) k else if o = 14 then tv (mdT a) k else if o = 15 then tv (yF a l nl na) k else if o = 16 then tv (gF a l nl na) k else if o = 17 then tv (eF a l nl) k else tv (zF a l nl na) k
/-! tables that fill -/
def ts (S : Nat → Bool) (I : IM) (c j : Nat) (f : Nat → Nat → Int32) : IM := fun b o k => if b = 1 ∧ S o = true ∧ (k < c ∨ (k = c ∧ o ≤ j)) then f o k else I b o k
theorem ts_eq (S : Nat → Bool) (I : IM) (c j : Nat) (f : Nat → Nat → Int32) (b o k : Nat) : ts S I c j f b o k = if b = 1 ∧ S o = true ∧ (k < c ∨ (k = c ∧ o ≤ j)) then f o k else I b o k := rfl
theorem ts_r {S : Nat → Bool} {I : IM} {c j o k : Nat} {f : Nat → Nat → Int32} (hS : S o = true) (hk : k < c) : ts S I c j f 1 o k = f o k := by rw [ts_eq, if_pos ⟨rfl, hS, Or.inl hk⟩]
theorem ts_c {S : Nat → Bool} {I : IM} {c j o : Nat} {f : Nat → Nat → Int32} (hS : S o = true) (hj : o ≤ j) : ts S I c j f 1 o c = f o c := by rw [ts_eq, if_pos ⟨rfl, hS, Or.inr ⟨rfl, hj⟩⟩]
theorem ts_o {S : Nat → Bool} {I : IM} {c j o k : Nat} {f : Nat → Nat → Int32} (hS : S o = false) : ts S I c j f 1 o k = I 1 o k := by rw [ts_eq, if_neg (fun z => by rw [hS] at z; exact Bool.false_ne_true z.2.1)]
theorem ts_w {S : Nat → Bool} {I : IM} {c j o' : Nat} {f : Nat → Nat → Int32} (hS : S o' = true) (h1 : j < o') (h2 : ∀ o, S o = true → o ≤ o' → o ≤ j ∨ o = o') {x : Int32} (hx : x = f o' c) : wI (ts S I c j f) 1 o' c x = ts S I c o' f := by
  subst hx
  funext b o k
  rw [wI_eq, ts_eq, ts_eq]
  by_cases hw : b = 1 ∧ o = o' ∧ k = c
  · obtain ⟨rfl, rfl, rfl⟩ := hw
    rw [if_pos ⟨rfl, rfl, rfl⟩, if_pos ⟨rfl, hS, Or.inr ⟨rfl, Nat.le_refl _⟩⟩]
  · rw [if_neg hw]
    by_cases hz : b = 1 ∧ S o = true ∧ (k < c ∨ (k = c ∧ o ≤ j))
    · rw [if_pos hz, if_pos ⟨hz.1, hz.2.1, by omega⟩]
    · rw [if_neg hz, if_neg ?_]
      rintro ⟨z1, z2, z3⟩
      rcases z3 with z | ⟨z, z4⟩
      · exact hz ⟨z1, z2, Or.inl z⟩
      · rcases h2 o z2 z4 with y | y
        · exact hz ⟨z1, z2, Or.inr ⟨z, y⟩⟩
        · exact hw ⟨z1, y, z⟩
theorem ts_n {S : Nat → Bool} {I : IM} {c j : Nat} {f : Nat → Nat → Int32} (h : ∀ o, S o = true → o ≤ j ∧ 0 < o) : ts S I c j f = ts S I (c + 1) 0 f := by
  funext b o k
  rw [ts_eq, ts_eq]
  by_cases hz : b = 1 ∧ S o = true ∧ (k < c ∨ (k = c ∧ o ≤ j))
  · rw [if_pos hz, if_pos ⟨hz.1, hz.2.1, by omega⟩]
  · rw [if_neg hz, if_neg ?_]
    rintro ⟨z1, z2, z3⟩
    have := h o z2
    rcases z3 with z | ⟨z, z4⟩
    · by_cases e : k = c
      · exact hz ⟨z1, z2, Or.inr ⟨e, this.1⟩⟩
      · exact hz ⟨z1, z2, Or.inl (by omega)⟩
    · omega
theorem ts_0 {S : Nat → Bool} {I : IM} {f : Nat → Nat → Int32} (h : ∀ o, S o = true → 0 < o) : ts S I 0 0 f = I := by
  funext b o k
  rw [ts_eq, if_neg ?_]
  rintro ⟨z1, z2, z3⟩
  have := h o z2
  omega
def S1 (o : Nat) : Bool := o == 11 || o == 17
def S2 (o : Nat) : Bool := o == 10 || o == 12 || o == 13 || o == 14 || o == 15 || o == 16 || o == 18
theorem S1_iff {o : Nat} (h : S1 o = true) : o = 11 ∨ o = 17 := by
  unfold S1 at h
  simpa using h
theorem S2_iff {o : Nat} (h : S2 o = true) : o = 10 ∨ o = 12 ∨ o = 13 ∨ o = 14 ∨ o = 15 ∨ o = 16 ∨ o = 18 := by
  unfold S2 at h
  simp at h
  omega
