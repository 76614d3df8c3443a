/-! THE CLASS: a state taken over, restarted; the history -/
/-- what a state takes over -/
def cpd (o k : Nat) : Prop := (o = 1 ∧ (k = 2 ∨ k = 3 ∨ k = 4)) ∨ (o = 2 ∧ k < 8) ∨ (o = 3 ∧ k < 4) ∨ (o = 4 ∧ k = 2) ∨ (o = 5 ∧ k < 40) ∨ (o = 6 ∧ k < 40) ∨ (o = 7 ∧ k = 2) ∨ (o = 8 ∧ k < 40) ∨ (o = 9 ∧ k < 40) ∨ (o = 10 ∧ (k = 3 ∨ k = 9)) ∨ (o = 11 ∧ k < 10) ∨ (o = 12 ∧ k < 10) ∨ (o = 13 ∧ k < 10) ∨ (o = 14 ∧ k < 3) ∨ (o = 15 ∧ k < 12) ∨ (o = 16 ∧ k < 12) ∨ (o = 17 ∧ k < 12) ∨ (o = 18 ∧ k < 12) ∨ (o = 19 ∧ (k = 5 ∨ k = 8)) ∨ (o = 20 ∧ k < 24) ∨ (o = 21 ∧ k < 24) ∨ (o = 22 ∧ k < 24) ∨ (o = 23 ∧ k < 24) ∨ (o = 24 ∧ k < 24) ∨ (o = 25 ∧ k < 8) ∨ (o = 26 ∧ k < 8) ∨ (o = 27 ∧ k = 3) ∨ (o = 28 ∧ k < 10) ∨ (o = 29 ∧ k < 10) ∨ (o = 30 ∧ k < 10) ∨ (o = 31 ∧ k = 3) ∨ (o = 32 ∧ k < 4) ∨ (o = 33 ∧ k < 4) ∨ (o = 34 ∧ k < 4)
theorem cp1 {k : Nat} (h : k = 2 ∨ k = 3 ∨ k = 4) : cpd 1 k := Or.inl ⟨rfl, h⟩
theorem cp2 {k : Nat} (h : k < 8) : cpd 2 k := Or.inr (Or.inl ⟨rfl, h⟩)
theorem cp3 {k : Nat} (h : k < 4) : cpd 3 k := Or.inr (Or.inr (Or.inl ⟨rfl, h⟩))
theorem cp4 {k : Nat} (h : k = 2) : cpd 4 k := Or.inr (Or.inr (Or.inr (Or.inl ⟨rfl, h⟩)))
theorem cp5 {k : Nat} (h : k < 40) : cpd 5 k := Or.inr (Or.inr (Or.inr (Or.inr (Or.inl ⟨rfl, h⟩))))
theorem cp6 {k : Nat} (h : k < 40) : cpd 6 k := Or.inr (Or.inr (Or.inr (Or.inr (Or.inr (Or.inl ⟨rfl, h⟩)))))
theorem cp7 {k : Nat} (h : k = 2) : cpd 7 k := Or.inr (Or.inr (Or.inr (Or.inr (Or.inr (Or.inr (Or.inl ⟨rfl, h⟩))))))
theorem cp8 {k : Nat} (h : k < 40) : cpd 8 k := Or.inr (Or.inr (Or.inr (Or.inr (Or.inr (Or.inr (Or.inr (Or.inl ⟨rfl, h⟩)))))))
theorem cp9 {k : Nat} (h : k < 40) : cpd 9 k := Or.inr (Or.inr (Or.inr (Or.inr (Or.inr (Or.inr (Or.inr (Or.inr (Or.inl ⟨rfl, h⟩))))))))
theorem cp10 {k : Nat} (h : k = 3 ∨ k = 9) : cpd 10 k := Or.inr (Or.inr (Or.inr (Or.inr (Or.inr (Or.inr (Or.inr (Or.inr (Or.inr (Or.inl ⟨rfl, h⟩)))))))))
theorem cp11 {k : Nat} (h : k < 10) : cpd 11 k := Or.inr (Or.inr (Or.inr (Or.inr (Or.inr (Or.inr (Or.inr (Or.inr (Or.inr (Or.inr (Or.inl ⟨rfl, h⟩))))))))))
theorem cp12 {k : Nat} (h : k < 10) : cpd 12 k := Or.inr (Or.inr (Or.inr (Or.inr (Or.inr (Or.inr (Or.inr (Or.inr (Or.inr (Or.inr (Or.inr (Or.inl ⟨rfl, h⟩)))))))))))
theorem cp13 {k : Nat} (h : k < 10) : cpd 13 k := Or.inr (Or.inr (Or.inr (Or.inr (Or.inr (Or.inr (Or.inr (Or.inr (Or.inr (Or.inr (Or.inr (Or.inr (Or.inl ⟨rfl, h⟩))))))))))))
theorem cp14 {k : Nat} (h : k < 3) : cpd 14 k := Or.inr (Or.inr (Or.inr (Or.inr (Or.inr (Or.inr (Or.inr (Or.inr (Or.inr (Or.inr (Or.inr (Or.inr (Or.inr (Or.inl ⟨rfl, h⟩)))))))))))))
theorem cp15 {k : Nat} (h : k < 12) : cpd 15 k := Or.inr (Or.inr (Or.inr (Or.inr (Or.inr (Or.inr (Or.inr (Or.inr (Or.inr (Or.inr (Or.inr (Or.inr (Or.inr (Or.inr (Or.inl ⟨rfl, h⟩))))))))))))))
theorem cp16 {k : Nat} (h : k < 12) : cpd 16 k := Or.inr (Or.inr (Or.inr (Or.inr (Or.inr (Or.inr (Or.inr (Or.inr (Or.inr (Or.inr (Or.inr (Or.inr (Or.inr (Or.inr (Or.inr (Or.inl ⟨rfl, h⟩)))))))))))))))
theorem cp17 {k : Nat} (h : k < 12) : cpd 17 k := Or.inr (Or.inr (Or.inr (Or.inr (Or.inr (Or.inr (Or.inr (Or.inr (Or.inr (Or.inr (Or.inr (Or.inr (Or.inr (Or.inr (Or.inr (Or.inr (Or.inl ⟨rfl, h⟩))))))))))))))))
theorem cp18 {k : Nat} (h : k < 12) : cpd 18 k := Or.inr (Or.inr (Or.inr (Or.inr (Or.inr (Or.inr (Or.inr (Or.inr (Or.inr (Or.inr (Or.inr (Or.inr (Or.inr (Or.inr (Or.inr (Or.inr (Or.inr (Or.inl ⟨rfl, h⟩)))))))))))))))))
theorem cp19 {k : Nat} (h : k = 5 ∨ k = 8) : cpd 19 k := Or.inr (Or.inr (Or.inr (Or.inr (Or.inr (Or.inr (Or.inr (Or.inr (Or.inr (Or.inr (Or.inr (Or.inr (Or.inr (Or.inr (Or.inr (Or.inr (Or.inr (Or.inr (Or.inl ⟨rfl, h⟩))))))))))))))))))
theorem cp20 {k : Nat} (h : k < 24) : cpd 20 k := Or.inr (Or.inr (Or.inr (Or.inr (Or.inr (Or.inr (Or.inr (Or.inr (Or.inr (Or.inr (Or.inr (Or.inr (Or.inr (Or.inr (Or.inr (Or.inr (Or.inr (Or.inr (Or.inr (Or.inl ⟨rfl, h⟩)))))))))))))))))))
theorem cp21 {k : Nat} (h : k < 24) : cpd 21 k := Or.inr (Or.inr (Or.inr (Or.inr (Or.inr (Or.inr (Or.inr (Or.inr (Or.inr (Or.inr (Or.inr (Or.inr (Or.inr (Or.inr (Or.inr (Or.inr (Or.inr (Or.inr (Or.inr (Or.inr (Or.inl ⟨rfl, h⟩))))))))))))))))))))
theorem cp22 {k : Nat} (h : k < 24) : cpd 22 k := Or.inr (Or.inr (Or.inr (Or.inr (Or.inr (Or.inr (Or.inr (Or.inr (Or.inr (Or.inr (Or.inr (Or.inr (Or.inr (Or.inr (Or.inr (Or.inr (Or.inr (Or.inr (Or.inr (Or.inr (Or.inr (Or.inl ⟨rfl, h⟩)))))))))))))))))))))
theorem cp23 {k : Nat} (h : k < 24) : cpd 23 k := Or.inr (Or.inr (Or.inr (Or.inr (Or.inr (Or.inr (Or.inr (Or.inr (Or.inr (Or.inr (Or.inr (Or.inr (Or.inr (Or.inr (Or.inr (Or.inr (Or.inr (Or.inr (Or.inr (Or.inr (Or.inr (Or.inr (Or.inl ⟨rfl, h⟩))))))))))))))))))))))
theorem cp24 {k : Nat} (h : k < 24) : cpd 24 k := Or.inr (Or.inr (Or.inr (Or.inr (Or.inr (Or.inr (Or.inr (Or.inr (Or.inr (Or.inr (Or.inr (Or.inr (Or.inr (Or.inr (Or.inr (Or.inr (Or.inr (Or.inr (Or.inr (Or.inr (Or.inr (Or.inr (Or.inr (Or.inl ⟨rfl, h⟩)))))))))))))))))))))))
theorem cp25 {k : Nat} (h : k < 8) : cpd 25 k := Or.inr (Or.inr (Or.inr (Or.inr (Or.inr (Or.inr (Or.inr (Or.inr (Or.inr (Or.inr (Or.inr (Or.inr (Or.inr (Or.inr (Or.inr (Or.inr (Or.inr (Or.inr (Or.inr (Or.inr (Or.inr (Or.inr (Or.inr (Or.inr (Or.inl ⟨rfl, h⟩))))))))))))))))))))))))
theorem cp26 {k : Nat} (h : k < 8) : cpd 26 k := Or.inr (Or.inr (Or.inr (Or.inr (Or.inr (Or.inr (Or.inr (Or.inr (Or.inr (Or.inr (Or.inr (Or.inr (Or.inr (Or.inr (Or.inr (Or.inr (Or.inr (Or.inr (Or.inr (Or.inr (Or.inr (Or.inr (Or.inr (Or.inr (Or.inr (Or.inl ⟨rfl, h⟩)))))))))))))))))))))))))
theorem cp27 {k : Nat} (h : k = 3) : cpd 27 k := Or.inr (Or.inr (Or.inr (Or.inr (Or.inr (Or.inr (Or.inr (Or.inr (Or.inr (Or.inr (Or.inr (Or.inr (Or.inr (Or.inr (Or.inr (Or.inr (Or.inr (Or.inr (Or.inr (Or.inr (Or.inr (Or.inr (Or.inr (Or.inr (Or.inr (Or.inr (Or.inl ⟨rfl, h⟩))))))))))))))))))))))))))
theorem cp28 {k : Nat} (h : k < 10) : cpd 28 k := Or.inr (Or.inr (Or.inr (Or.inr (Or.inr (Or.inr (Or.inr (Or.inr (Or.inr (Or.inr (Or.inr (Or.inr (Or.inr (Or.inr (Or.inr (Or.inr (Or.inr (Or.inr (Or.inr (Or.inr (Or.inr (Or.inr (Or.inr (Or.inr (Or.inr (Or.inr (Or.inr (Or.inl ⟨rfl, h⟩)))))))))))))))))))))))))))
theorem cp29 {k : Nat} (h : k < 10) : cpd 29 k := Or.inr (Or.inr (Or.inr (Or.inr (Or.inr (Or.inr (Or.inr (Or.inr (Or.inr (Or.inr (Or.inr (Or.inr (Or.inr (Or.inr (Or.inr (Or.inr (Or.inr (Or.inr (Or.inr (Or.inr (Or.inr (Or.inr (Or.inr (Or.inr (Or.inr (Or.inr (Or.inr (Or.inr (Or.inl ⟨rfl, h⟩))))))))))))))))))))))))))))
theorem cp30 {k : Nat} (h : k < 10) : cpd 30 k := Or.inr (Or.inr (Or.inr (Or.inr (Or.inr (Or.inr (Or.inr (Or.inr (Or.inr (Or.inr (Or.inr (Or.inr (Or.inr (Or.inr (Or.inr (Or.inr (Or.inr (Or.inr (Or.inr (Or.inr (Or.inr (Or.inr (Or.inr (Or.inr (Or.inr (Or.inr (Or.inr (Or.inr (Or.inr (Or.inl ⟨rfl, h⟩)))))))))))))))))))))))))))))
theorem cp31 {k : Nat} (h : k = 3) : cpd 31 k := Or.inr (Or.inr (Or.inr (Or.inr (Or.inr (Or.inr (Or.inr (Or.inr (Or.inr (Or.inr (Or.inr (Or.inr (Or.inr (Or.inr (Or.inr (Or.inr (Or.inr (Or.inr (Or.inr (Or.inr (Or.inr (Or.inr (Or.inr (Or.inr (Or.inr (Or.inr (Or.inr (Or.inr (Or.inr (Or.inr (Or.inl ⟨rfl, h⟩))))))))))))))))))))))))))))))
theorem cp32 {k : Nat} (h : k < 4) : cpd 32 k := Or.inr (Or.inr (Or.inr (Or.inr (Or.inr (Or.inr (Or.inr (Or.inr (Or.inr (Or.inr (Or.inr (Or.inr (Or.inr (Or.inr (Or.inr (Or.inr (Or.inr (Or.inr (Or.inr (Or.inr (Or.inr (Or.inr (Or.inr (Or.inr (Or.inr (Or.inr (Or.inr (Or.inr (Or.inr (Or.inr (Or.inr (Or.inl ⟨rfl, h⟩)))))))))))))))))))))))))))))))
theorem cp33 {k : Nat} (h : k < 4) : cpd 33 k := Or.inr (Or.inr (Or.inr (Or.inr (Or.inr (Or.inr (Or.inr (Or.inr (Or.inr (Or.inr (Or.inr (Or.inr (Or.inr (Or.inr (Or.inr (Or.inr (Or.inr (Or.inr (Or.inr (Or.inr (Or.inr (Or.inr (Or.inr (Or.inr (Or.inr (Or.inr (Or.inr (Or.inr (Or.inr (Or.inr (Or.inr (Or.inr (Or.inl ⟨rfl, h⟩))))))))))))))))))))))))))))))))
theorem cp34 {k : Nat} (h : k < 4) : cpd 34 k := Or.inr (Or.inr (Or.inr (Or.inr (Or.inr (Or.inr (Or.inr (Or.inr (Or.inr (Or.inr (Or.inr (Or.inr (Or.inr (Or.inr (Or.inr (Or.inr (Or.inr (Or.inr (Or.inr (Or.inr (Or.inr (Or.inr (Or.inr (Or.inr (Or.inr (Or.inr (Or.inr (Or.inr (Or.inr (Or.inr (Or.inr (Or.inr (Or.inr ⟨rfl, h⟩))))))))))))))))))))))))))))))))
theorem cpe4 {o k : Nat} (z : (o = 4 ∧ k = 2) ∨ (o = 4 + 1 ∧ k < 40) ∨ (o = 4 + 2 ∧ k < 40)) : cpd o k := by
  rcases z with ⟨rfl, h⟩ | ⟨rfl, h⟩ | ⟨rfl, h⟩
  · exact cp4 h
  · exact cp5 h
  · exact cp6 h
theorem cpf4 {o k : Nat} (h : k < 40) (z : o = 4 + 1 ∨ o = 4 + 2) : cpd o k := by
  rcases z with rfl | rfl
  · exact cp5 h
  · exact cp6 h
theorem cpe7 {o k : Nat} (z : (o = 7 ∧ k = 2) ∨ (o = 7 + 1 ∧ k < 40) ∨ (o = 7 + 2 ∧ k < 40)) : cpd o k := by
  rcases z with ⟨rfl, h⟩ | ⟨rfl, h⟩ | ⟨rfl, h⟩
  · exact cp7 h
  · exact cp8 h
  · exact cp9 h
theorem cpf7 {o k : Nat} (h : k < 40) (z : o = 7 + 1 ∨ o = 7 + 2) : cpd o k := by
  rcases z with rfl | rfl
  · exact cp8 h
  · exact cp9 h
section HC
variable {N d b c : Nat} {I : IM} {F : FM}
set_option maxHeartbeats 4000000 in
theorem m46 (hb : 2 ≤ b) (hc : 2 ≤ c) (hbc : b ≠ c) : ∃ J, sem N (d + 1) 46 [vR (some (b, 10)), vR (some (c, 10))] I F = some (vI 0, J, F) ∧ (∀ b' o k, b' ≠ b → J b' o k = I b' o k) ∧ (∀ o k, (o < 10 ∨ 18 < o) → J b o k = I b o k) ∧ (∀ o k, cpd o k → 10 ≤ o → o ≤ 18 → J b o k = I c o k) := by
  obtain ⟨jb, rfl⟩ := blk hb
  obtain ⟨jc, rfl⟩ := blk hc
  have hcb : ¬ jc = jb := fun z => hbc (by rw [z])
  rw [s46]
  unfold b46
  refine ⟨_, rfl, ?_, ?_, ?_⟩
  · intro b' o k h
    simp only [wI_eq, cI_eq, h, false_and, ↓reduceIte]
  · intro o k h
    have h10 : ¬ o = 10 := by omega
    have h11 : ¬ o = 11 := by omega
    have h12 : ¬ o = 12 := by omega
    have h13 : ¬ o = 13 := by omega
    have h14 : ¬ o = 14 := by omega
    have h15 : ¬ o = 15 := by omega
    have h16 : ¬ o = 16 := by omega
    have h17 : ¬ o = 17 := by omega
    have h18 : ¬ o = 18 := by omega
    simp only [wI_eq, cI_eq, h10, h11, h12, h13, h14, h15, h16, h17, h18, false_and, and_false, ↓reduceIte]
  · intro o k h h1 h2
    unfold cpd at h
    rcases h with h | h | h | h | h | h | h | h | h | ⟨rfl, rfl | rfl⟩ | ⟨rfl, hk⟩ | ⟨rfl, hk⟩ | ⟨rfl, hk⟩ | ⟨rfl, hk⟩ | ⟨rfl, hk⟩ | ⟨rfl, hk⟩ | ⟨rfl, hk⟩ | ⟨rfl, hk⟩ | h | h | h | h | h | h | h | h | h | h | h | h | h | h | h | h <;> first | (exfalso; omega) | simp [wI_eq, cI_eq, hcb, *]
set_option maxHeartbeats 4000000 in
theorem m80 (hb : 2 ≤ b) (hc : 2 ≤ c) (hbc : b ≠ c) : ∃ J, sem N (d + 1) 80 [vR (some (b, 19)), vR (some (c, 19))] I F = some (vI 0, J, F) ∧ (∀ b' o k, b' ≠ b → J b' o k = I b' o k) ∧ (∀ o k, (o < 19 ∨ 26 < o) → J b o k = I b o k) ∧ (∀ o k, cpd o k → 19 ≤ o → o ≤ 26 → J b o k = I c o k) := by
  obtain ⟨jb, rfl⟩ := blk hb
  obtain ⟨jc, rfl⟩ := blk hc
  have hcb : ¬ jc = jb := fun z => hbc (by rw [z])
  rw [s80]
  unfold b80
  refine ⟨_, rfl, ?_, ?_, ?_⟩
  · intro b' o k h
    simp only [wI_eq, cI_eq, h, false_and, ↓reduceIte]
  · intro o k h
    have h10 : ¬ o = 19 := by omega
    have h11 : ¬ o = 20 := by omega
    have h12 : ¬ o = 21 := by omega
    have h13 : ¬ o = 22 := by omega
    have h14 : ¬ o = 23 := by omega
    have h15 : ¬ o = 24 := by omega
    have h16 : ¬ o = 25 := by omega
    have h17 : ¬ o = 26 := by omega
    simp only [wI_eq, cI_eq, h10, h11, h12, h13, h14, h15, h16, h17, false_and, and_false, ↓reduceIte]
  · intro o k h h1 h2
    unfold cpd at h
    rcases h with h | h | h | h | h | h | h | h | h | h | h | h | h | h | h | h | h | h | ⟨rfl, rfl | rfl⟩ | ⟨rfl, hk⟩ | ⟨rfl, hk⟩ | ⟨rfl, hk⟩ | ⟨rfl, hk⟩ | ⟨rfl, hk⟩ | ⟨rfl, hk⟩ | ⟨rfl, hk⟩ | h | h | h | h | h | h | h | h <;> first | (exfalso; omega) | simp [wI_eq, cI_eq, hcb, *]
set_option maxHeartbeats 4000000 in
theorem m97 (hb : 2 ≤ b) (hc : 2 ≤ c) (hbc : b ≠ c) : ∃ J, sem N (d + 1) 97 [vR (some (b, 27)), vR (some (c, 27))] I F = some (vI 0, J, F) ∧ (∀ b' o k, b' ≠ b → J b' o k = I b' o k) ∧ (∀ o k, (o < 27 ∨ 30 < o) → J b o k = I b o k) ∧ (∀ o k, cpd o k → 27 ≤ o → o ≤ 30 → J b o k = I c o k) := by
  obtain ⟨jb, rfl⟩ := blk hb
  obtain ⟨jc, rfl⟩ := blk hc
  have hcb : ¬ jc = jb := fun z => hbc (by rw [z])
  rw [s97]
  unfold b97
  refine ⟨_, rfl, ?_, ?_, ?_⟩
  · intro b' o k h
    simp only [wI_eq, cI_eq, h, false_and, ↓reduceIte]
  · intro o k h
    have h10 : ¬ o = 27 := by omega
    have h11 : ¬ o = 28 := by omega
    have h12 : ¬ o = 29 := by omega
    have h13 : ¬ o = 30 := by omega
    simp only [wI_eq, cI_eq, h10, h11, h12, h13, false_and, and_false, ↓reduceIte]
  · intro o k h h1 h2
    unfold cpd at h
    rcases h with h | h | h | h | h | h | h | h | h | h | h | h | h | h | h | h | h | h | h | h | h | h | h | h | h | h | ⟨rfl, rfl⟩ | ⟨rfl, hk⟩ | ⟨rfl, hk⟩ | ⟨rfl, hk⟩ | h | h | h | h <;> first | (exfalso; omega) | simp [wI_eq, cI_eq, hcb, *]
set_option maxHeartbeats 4000000 in
theorem m102 (hb : 2 ≤ b) (hc : 2 ≤ c) (hbc : b ≠ c) : ∃ J, sem N (d + 1) 102 [vR (some (b, 31)), vR (some (c, 31))] I F = some (vI 0, J, F) ∧ (∀ b' o k, b' ≠ b → J b' o k = I b' o k) ∧ (∀ o k, (o < 31 ∨ 34 < o) → J b o k = I b o k) ∧ (∀ o k, cpd o k → 31 ≤ o → o ≤ 34 → J b o k = I c o k) := by
  obtain ⟨jb, rfl⟩ := blk hb
  obtain ⟨jc, rfl⟩ := blk hc
  have hcb : ¬ jc = jb := fun z => hbc (by rw [z])
  rw [s102]
  unfold b102
  refine ⟨_, rfl, ?_, ?_, ?_⟩
  · intro b' o k h
    simp only [wI_eq, cI_eq, h, false_and, ↓reduceIte]
  · intro o k h
    have h10 : ¬ o = 31 := by omega
    have h11 : ¬ o = 32 := by omega
    have h12 : ¬ o = 33 := by omega
    have h13 : ¬ o = 34 := by omega
    simp only [wI_eq, cI_eq, h10, h11, h12, h13, false_and, and_false, ↓reduceIte]
  · intro o k h h1 h2
    unfold cpd at h
    rcases h with h | h | h | h | h | h | h | h | h | h | h | h | h | h | h | h | h | h | h | h | h | h | h | h | h | h | h | h | h | h | ⟨rfl, rfl⟩ | ⟨rfl, hk⟩ | ⟨rfl, hk⟩ | ⟨rfl, hk⟩ <;> first | (exfalso; omega) | simp [wI_eq, cI_eq, hcb, *]
set_option maxHeartbeats 4000000 in
theorem m2 (hb : 2 ≤ b) (hc : 2 ≤ c) (hbc : b ≠ c) : ∃ J, sem N (d + 1) 2 [vR (some (b, 1)), vR (some (c, 1))] I F = some (vI 0, J, wF F b 1 5 (F c 1 5)) ∧ (∀ b' o k, b' ≠ b → J b' o k = I b' o k) ∧ (∀ o k, 3 < o → J b o k = I b o k) ∧ (∀ o k, cpd o k → o ≤ 3 → J b o k = I c o k) := by
  obtain ⟨jb, rfl⟩ := blk hb
  obtain ⟨jc, rfl⟩ := blk hc
  have hcb : ¬ jc = jb := fun z => hbc (by rw [z])
  rw [s2]
  unfold b2
  refine ⟨_, rfl, ?_, ?_, ?_⟩
  · intro b' o k h
    simp only [wI_eq, cI_eq, h, false_and, ↓reduceIte]
  · intro o k h
    have h10 : ¬ o = 1 := by omega
    have h11 : ¬ o = 2 := by omega
    have h12 : ¬ o = 3 := by omega
    simp only [wI_eq, cI_eq, h10, h11, h12, false_and, and_false, ↓reduceIte]
  · intro o k h h1
    unfold cpd at h
    rcases h with ⟨rfl, rfl | rfl | rfl⟩ | ⟨rfl, hk⟩ | ⟨rfl, hk⟩ | h | h | h | h | h | h | h | h | h | h | h | h | h | h | h | h | h | h | h | h | h | h | h | h | h | h | h | h | h | h | h <;> first | (exfalso; omega) | simp [wI_eq, cI_eq, hcb, *]
set_option maxHeartbeats 4000000 in
theorem m11 {o : Nat} (ho : o = 4 ∨ o = 7) (hb : 2 ≤ b) (hc : 2 ≤ c) (hbc : b ≠ c) : ∃ J, sem N (d + 1) 11 [vR (some (b, o)), vR (some (c, o))] I F = some (vI 0, J, F) ∧ (∀ b' o' k, b' ≠ b → J b' o' k = I b' o' k) ∧ (∀ o' k, (o' < o ∨ o + 2 < o') → J b o' k = I b o' k) ∧ (∀ o' k, cpd o' k → o ≤ o' → o' ≤ o + 2 → J b o' k = I c o' k) := by
  obtain ⟨jb, rfl⟩ := blk hb
  obtain ⟨jc, rfl⟩ := blk hc
  have hcb : ¬ jc = jb := fun z => hbc (by rw [z])
  have e : ∃ J, b11 (sem N d) (sg (sem N d) 0 zc11 N) (jb + 2) o (jc + 2) o I F = some (vI 0, J, F) ∧ (∀ b' o' k, b' ≠ jb + 2 → J b' o' k = I b' o' k) ∧ (∀ o' k, (o' < o ∨ o + 2 < o') → J (jb + 2) o' k = I (jb + 2) o' k) ∧ (∀ o' k, cpd o' k → o ≤ o' → o' ≤ o + 2 → J (jb + 2) o' k = I (jc + 2) o' k) := by
    unfold b11
    refine ⟨_, rfl, ?_, ?_, ?_⟩
    · intro b' o' k h
      simp only [wI_eq, cI_eq, h, false_and, ↓reduceIte]
    · intro o' k h
      have h10 : ¬ o' = o := by omega
      have h11 : ¬ o' = o + 1 := by omega
      have h12 : ¬ o' = o + 2 := by omega
      simp only [wI_eq, cI_eq, h10, h11, h12, false_and, and_false, ↓reduceIte]
    · intro o' k h h1 h2
      unfold cpd at h
      rcases ho with rfl | rfl
      · rcases h with h | h | h | ⟨rfl, rfl⟩ | ⟨rfl, hk⟩ | ⟨rfl, hk⟩ | h | h | h | h | h | h | h | h | h | h | h | h | h | h | h | h | h | h | h | h | h | h | h | h | h | h | h | h <;> first | (exfalso; omega) | simp [wI_eq, cI_eq, hcb, *]
      · rcases h with h | h | h | h | h | h | ⟨rfl, rfl⟩ | ⟨rfl, hk⟩ | ⟨rfl, hk⟩ | h | h | h | h | h | h | h | h | h | h | h | h | h | h | h | h | h | h | h | h | h | h | h | h | h <;> first | (exfalso; omega) | simp [wI_eq, cI_eq, hcb, *]
  rcases ho with rfl | rfl
  · rw [s11v0]; exact e
  · rw [s11v1]; exact e
/-- a state takes over another -/
theorem m111 (hb : 2 ≤ b) (hc : 2 ≤ c) (hbc : b ≠ c) : ∃ J, sem N (d + 2) 111 [vR (some (b, 0)), vR (some (c, 0))] I F = some (vI 0, J, wF F b 1 5 (F c 1 5)) ∧ (∀ b' o k, b' ≠ b → J b' o k = I b' o k) ∧ (∀ o k, cpd o k → J b o k = I c o k) := by
  obtain ⟨J1, e1, f1, g1, t1⟩ := m2 (N := N) (d := d) (I := I) (F := F) hb hc hbc
  obtain ⟨J2, e2, f2, g2, t2⟩ := m11 (N := N) (d := d) (I := J1) (F := wF F b 1 5 (F c 1 5)) (Or.inl rfl) hb hc hbc
  obtain ⟨J3, e3, f3, g3, t3⟩ := m11 (N := N) (d := d) (I := J2) (F := wF F b 1 5 (F c 1 5)) (Or.inr rfl) hb hc hbc
  obtain ⟨J4, e4, f4, g4, t4⟩ := m46 (N := N) (d := d) (I := J3) (F := wF F b 1 5 (F c 1 5)) hb hc hbc
  obtain ⟨J5, e5, f5, g5, t5⟩ := m80 (N := N) (d := d) (I := J4) (F := wF F b 1 5 (F c 1 5)) hb hc hbc
  obtain ⟨J6, e6, f6, g6, t6⟩ := m97 (N := N) (d := d) (I := J5) (F := wF F b 1 5 (F c 1 5)) hb hc hbc
  obtain ⟨J7, e7, f7, g7, t7⟩ := m102 (N := N) (d := d) (I := J6) (F := wF F b 1 5 (F c 1 5)) hb hc hbc
  have hcb : c ≠ b := fun z => hbc z.symm
  refine ⟨J7, ?_, ?_, ?_⟩
  · obtain ⟨jb, rfl⟩ := blk hb
    obtain ⟨jc, rfl⟩ := blk hc
    rw [s111]; unfold b111
    rw [e1, bV_v, e2, bV_v, e3, bV_v, e4, bV_v, e5, bV_v, e6, bV_v, e7, bV_v]
  · intro b' o k h
    rw [f7 _ _ _ h, f6 _ _ _ h, f5 _ _ _ h, f4 _ _ _ h, f3 _ _ _ h, f2 _ _ _ h, f1 _ _ _ h]
  · intro o k h
    have ho : o ≤ 34 := by unfold cpd at h; omega
    by_cases q7 : 31 ≤ o
    · rw [t7 o k h q7 ho, f6 _ _ _ hcb, f5 _ _ _ hcb, f4 _ _ _ hcb, f3 _ _ _ hcb, f2 _ _ _ hcb, f1 _ _ _ hcb]
    rw [g7 o k (by omega)]
    by_cases q6 : 27 ≤ o
    · rw [t6 o k h q6 (by omega), f5 _ _ _ hcb, f4 _ _ _ hcb, f3 _ _ _ hcb, f2 _ _ _ hcb, f1 _ _ _ hcb]
    rw [g6 o k (by omega)]
    by_cases q5 : 19 ≤ o
    · rw [t5 o k h q5 (by omega), f4 _ _ _ hcb, f3 _ _ _ hcb, f2 _ _ _ hcb, f1 _ _ _ hcb]
    rw [g5 o k (by omega)]
    by_cases q4 : 10 ≤ o
    · rw [t4 o k h q4 (by omega), f3 _ _ _ hcb, f2 _ _ _ hcb, f1 _ _ _ hcb]
    rw [g4 o k (by omega)]
    by_cases q3 : 7 ≤ o
    · rw [t3 o k h q3 (by omega), f2 _ _ _ hcb, f1 _ _ _ hcb]
    rw [g3 o k (by omega)]
    by_cases q2 : 4 ≤ o
    · rw [t2 o k h q2 (by omega), f1 _ _ _ hcb]
    rw [g2 o k (by omega)]
    exact t1 o k h (by omega)
/-- a state starts anew -/
def rsS (I : IM) (b : Nat) : IM := fl (fl (fl (wI (wI (wI (fl I b 2 8 (fun r => atF (nI r))) b 1 2 0) b 1 4 (I b 1 4 + 1)) b 4 2 0) b 14 3 (fun _ => -1)) b 13 10 (fun _ => 0)) b 32 4 (fun _ => -1)
theorem m112 (hb : 2 ≤ b) (hN : 16 ≤ N) : sem N (d + 3) 112 [vR (some (b, 0))] I F = some (vI 0, rsS I b, F) := by
  have h1 := m3 (N := N) (d := d) (I := I) (F := F) hb (by omega)
  have h2 := fun J : IM => m47 (N := N) (d := d + 1) (I := J) (F := F) hb hN
  have h3 := fun J : IM => m108 (N := N) (d := d + 1) (I := J) (F := F) hb (by omega)
  obtain ⟨j, rfl⟩ := blk hb
  rw [s112]; unfold b112
  rw [h1, bV_v]
  dsimp only
  rw [h2, bV_v, h3, bV_v]
  rfl
theorem m113 (hb : 2 ≤ b) {r n : Nat} (hr : r < 8) (y : Int32) (hs : I b 4 2 = nI n) (hn : n < 40) : sem N (d + 3) 113 [vR (some (b, 0)), vI (nI r), vI y] I F = some (vI 0, wI (wI (wI (wI I b 2 r (mixF (I b 2 r) y)) b 5 n (nI r)) b 6 n y) b 4 2 (nI (n + 1)), F) := by
  have h1 := m5 (N := N) (d := d) (I := I) (F := F) hb hr y
  have h2 := m14 (N := N) (d := d + 1) (I := wI I b 2 r (mixF (I b 2 r) y)) (F := F) (o := 4) (n := n) hb (Or.inl rfl) (nI r) y (by simp only [wI_eq, Nat.reduceEqDiff, and_false, false_and, ↓reduceIte, hs]) hn
  obtain ⟨j, rfl⟩ := blk hb
  rw [s113]; unfold b113
  rw [h1, bV_v, h2, bV_v]
theorem m114 (hb : 2 ≤ b) (hN : 6 ≤ N) {s : Nat} (hs : s < 3) (x : Int32) : sem N (d + 2) 114 [vR (some (b, 0)), vI (nI s), vI x] I F = some (vI 0, fl (wI I b 14 s (-1)) b 32 4 (fun t => if I b 32 t = x then -1 else I b 32 t), F) := by
  have h1 := m60 (N := N) (d := d) (I := I) (F := F) hb hs (-1)
  have h2 := m107 (N := N) (d := d) (I := wI I b 14 s (-1)) (F := F) hb hN x
  have e : ∀ t, wI I b 14 s (-1) b 32 t = I b 32 t := fun t => by simp only [wI_eq, Nat.reduceEqDiff, and_false, false_and, ↓reduceIte]
  simp only [e] at h2
  obtain ⟨j, rfl⟩ := blk hb
  rw [s114]; unfold b114
  rw [h1, bV_v, h2, bV_v]
theorem rem8 : ∀ m : Nat, m < 16 → nI m - nI m / 8 * 8 = nI (m % 8) := by decide
theorem min8 {n : Nat} (hn : n ≤ 8) : (if (8 : Int32) < nI n + 1 then (8 : Int32) else nI n + 1) = nI (if n < 8 then n + 1 else 8) := by
  have e : (8 : Int32) < nI n + 1 ↔ ¬ n < 8 := by
    rw [nI_1, L8, i_lt, i_nI (by omega), i_nI (by omega)]
    omega
  by_cases h : n < 8
  · rw [if_pos h, if_neg (fun z => e.mp z h), nI_1]
  · rw [if_neg h, if_pos (e.mpr h), L8]
theorem m28 {q n : Nat} (act : Int32) (hq : I 0 12 2 = nI q) (hq8 : q < 8) (hn : I 0 12 3 = nI n) (hn8 : n ≤ 8) : ∃ J, sem N (d + 3) 28 [vR (some (0, 12)), vR (some (2, 0)), vI act] I F = some (vI 0, J, wF F (q + 4) 1 5 (F 2 1 5)) ∧ (∀ b o k, b ≠ q + 4 → ¬ (b = 0 ∧ o = 14 ∧ k = q) → ¬ (b = 0 ∧ o = 12 ∧ k = 2) → ¬ (b = 0 ∧ o = 12 ∧ k = 3) → J b o k = I b o k) ∧ (∀ o k, cpd o k → J (q + 4) o k = I 2 o k) ∧ J 0 14 q = act ∧ J 0 12 2 = nI ((q + 1) % 8) ∧ J 0 12 3 = nI (if n < 8 then n + 1 else 8) := by
  obtain ⟨J, e1, e2, e3⟩ := m111 (N := N) (d := d) (I := I) (F := F) (b := q + 4) (c := 2) (by omega) (by omega) (by omega)
  have a1 : J 0 12 2 = nI q := by rw [e2 _ _ _ (by omega), hq]
  have a2 : J 0 12 3 = nI n := by rw [e2 _ _ _ (by omega), hn]
  have hi : inb (nI q) 8 := inb_nI hq8 (by decide)
  refine ⟨wI (wI (wI J 0 14 q act) 0 12 2 (nI ((q + 1) % 8))) 0 12 3 (nI (if n < 8 then n + 1 else 8)), ?_, ?_, ?_, ?_, ?_, ?_⟩
  · have hs := s28 N (d + 2) 0 act I F
    simp only [Nat.zero_add] at hs
    rw [hs]
    unfold b28
    rw [hq, if_neg (nI_pos (by omega)), if_pos (show nI q < (8 : Int32) from nI_lt hq8 (by decide)), if_pos hi, nI_clamp (by omega), e1, bV_v, a1, if_pos hi, nI_clamp (by omega)]
    have a3 : wI J 0 14 q act 0 12 2 = nI q := by simp only [wI_eq, Nat.reduceEqDiff, and_false, false_and, ↓reduceIte, a1]
    simp only [a3, nI_1, rem8 (q + 1) (by omega), m309, bI_v]
    have a4 : wI (wI J 0 14 q act) 0 12 2 (nI ((q + 1) % 8)) 0 12 3 = nI n := by simp only [wI_eq, Nat.reduceEqDiff, and_false, false_and, ↓reduceIte, a2]
    rw [a4, min8 hn8]
  · intro b o k h1 h2 h3 h4
    rw [wI_eq, if_neg h4, wI_eq, if_neg h3, wI_eq, if_neg h2, e2 _ _ _ h1]
  · intro o k h
    rw [wI_eq, if_neg (fun z => by omega), wI_eq, if_neg (fun z => by omega), wI_eq, if_neg (fun z => by omega), e3 o k h]
  · rw [wI_eq, if_neg (fun z => by omega), wI_eq, if_neg (fun z => by omega), wI_s]
  · rw [wI_eq, if_neg (fun z => by omega), wI_s]
  · rw [wI_s]
theorem m29 {q n : Nat} (hq : I 0 12 2 = nI q) (hq8 : q < 8) (hn : I 0 12 3 = nI (n + 1)) (hn8 : n < 8) : ∃ J, sem N (d + 3) 29 [vR (some (0, 12)), vR (some (2, 0))] I F = some (vI (I 0 14 ((q + 7) % 8)), J, wF F 2 1 5 (F ((q + 7) % 8 + 4) 1 5)) ∧ (∀ b o k, b ≠ 2 → ¬ (b = 0 ∧ o = 12 ∧ k = 2) → ¬ (b = 0 ∧ o = 12 ∧ k = 3) → J b o k = I b o k) ∧ (∀ o k, cpd o k → J 2 o k = I ((q + 7) % 8 + 4) o k) ∧ J 0 12 2 = nI ((q + 7) % 8) ∧ J 0 12 3 = nI n := by
  obtain ⟨J, e1, e2, e3⟩ := m111 (N := N) (d := d) (I := I) (F := F) (b := 2) (c := (q + 7) % 8 + 4) (by omega) (by omega) (by omega)
  have a2 : J 0 12 3 = nI (n + 1) := by rw [e2 _ _ _ (by omega), hn]
  have a5 : J 0 14 ((q + 7) % 8) = I 0 14 ((q + 7) % 8) := e2 _ _ _ (by omega)
  have hi : inb (nI ((q + 7) % 8)) 8 := inb_nI (by omega) (by decide)
  have hL : nI q + 8 - 1 = nI (q + 7) := by rw [L8, nI_add, show q + 8 = (q + 7) + 1 by omega, nI_pred]
  refine ⟨wI (wI J 0 12 2 (nI ((q + 7) % 8))) 0 12 3 (nI n), ?_, ?_, ?_, ?_, ?_⟩
  · have hs := s29 N (d + 2) 0 I F
    simp only [Nat.zero_add] at hs
    rw [hs]
    unfold b29
    simp only [hq, hL, rem8 (q + 7) (by omega)]
    have hlt : nI ((q + 7) % 8) < (8 : Int32) := by rw [L8, i_lt, i_nI (by omega), i_nI (by omega)]; omega
    rw [if_neg (nI_pos (by omega)), if_pos hlt, if_pos hi]
    simp only [nI_clamp (show (q + 7) % 8 < 2 ^ 31 by omega)]
    rw [e1, bV_v]
    have a3 : wI J 0 12 2 (nI ((q + 7) % 8)) 0 12 3 = nI (n + 1) := by simp only [wI_eq, Nat.reduceEqDiff, and_false, false_and, ↓reduceIte, a2]
    have a4 : wI (wI J 0 12 2 (nI ((q + 7) % 8))) 0 12 3 (nI n) 0 14 ((q + 7) % 8) = I 0 14 ((q + 7) % 8) := by simp only [wI_eq, Nat.reduceEqDiff, and_false, false_and, ↓reduceIte, a5]
    simp only [a3, nI_pred, eq_true hi, ↓reduceIte, a4]
  · intro b o k h1 h2 h3
    rw [wI_eq, if_neg h3, wI_eq, if_neg h2, e2 _ _ _ h1]
  · intro o k h
    rw [wI_eq, if_neg (fun z => by omega), wI_eq, if_neg (fun z => by omega), e3 o k h]
  · rw [wI_eq, if_neg (fun z => by omega), wI_s]
  · rw [wI_s]
end HC
