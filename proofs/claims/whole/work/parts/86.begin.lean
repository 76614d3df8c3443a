/-! THE BEGINNING keeps the invariant; all calls keep it -/
theorem i00_a : (I00 2 1 2 = I00 1 2 8 ∧ I00 2 1 3 = I00 1 2 9 ∧ I00 2 1 4 = I00 1 2 10 ∧ I00 1 2 8 = 0) ∧ (∀ r, r < 8 → I00 2 2 r = I00 1 2 r) ∧ (∀ c, c < 4 → I00 2 3 c = 0 ∧ I00 1 2 (386 + c) = 0) := by decide +kernel
theorem i00_b : (I00 2 4 2 = 0 ∧ I00 1 2 11 = 0 ∧ I00 2 7 2 = 0 ∧ I00 1 2 12 = 0) ∧ (I00 2 10 3 = 0 ∧ I00 1 2 13 = 0 ∧ I00 2 10 9 = 0 ∧ I00 1 2 14 = 0) ∧ (∀ s, s < 3 → I00 2 14 s = -1) := by decide +kernel
theorem i00_c : (I00 2 19 5 = 0 ∧ I00 1 2 15 = 0 ∧ I00 2 19 8 = 0 ∧ I00 1 2 18 = 0) ∧ (I00 2 27 3 = 0 ∧ I00 1 2 16 = 0) ∧ I00 2 31 3 = I00 1 2 17 := by decide +kernel
theorem i00_d : ∀ s, s < 4 → I00 2 33 s = I00 1 2 (372 + 4 * s) ∧ I00 2 34 s = I00 1 2 (373 + 4 * s) ∧ I00 1 2 (370 + 4 * s) = 0 ∧ I00 2 32 s = -1 := by decide +kernel
theorem i00_e : (I00 1 0 8 = 0 ∧ I00 0 12 3 = 0 ∧ I00 0 12 2 = 0) ∧ (∀ k, k < 2 → I00 0 16 k = 0 ∧ I00 1 9 k = 0) ∧ I00 0 0 6 = I00 1 0 1 ∧ ∀ i, i < 7 → I00 0 17 i = I00 1 1 (i + 1) := by decide +kernel
theorem inv_0 : InvC I00 Fz := by
  obtain ⟨⟨a1, a2, a3, a4⟩, a5, a6⟩ := i00_a
  obtain ⟨⟨b1, b2, b3, b4⟩, ⟨b5, b6, b7, b8⟩, b9⟩ := i00_b
  obtain ⟨⟨c1, c2, c3, c4⟩, ⟨c5, c6⟩, c7⟩ := i00_c
  obtain ⟨⟨e1, e2, e3⟩, e4, e5, e6⟩ := i00_e
  refine ⟨⟨0, 0, 0, 0, 0, 0, 0, ?_⟩, ⟨0, 0, by omega, by omega, e1, e2, e3, fun i hi => absurd hi (Nat.not_lt_zero i)⟩, fun k hk => Or.inl (e4 k hk), e5, e6⟩
  refine ⟨⟨rfl, ?_⟩, ⟨a1, a2, a3, a5, fun c hc => ⟨by rw [(a6 c hc).1, (a6 c hc).2], 0, by omega, (a6 c hc).2⟩, 0, by omega, a4⟩, ⟨b1, b2, by omega, fun k hk => absurd hk (Nat.not_lt_zero k)⟩, ⟨b3, b4, by omega, fun k hk => absurd hk (Nat.not_lt_zero k)⟩, ?_, ?_, ?_, ?_⟩
  · show (0 : UInt32) ≤ 1082130432
    decide
  · exact ⟨b5, b6, by omega, b7, b8, by omega, fun k hk => absurd hk (Nat.not_lt_zero k), fun s hs => Or.inl (b9 s hs), fun k hk => absurd hk (Nat.not_lt_zero k), fun k s hk => absurd hk (Nat.not_lt_zero k), fun k hk => absurd hk (Nat.not_lt_zero k), fun c hc => absurd hc (Nat.not_lt_zero c)⟩
  · exact ⟨c1, c2, by omega, fun k hk => absurd hk (Nat.not_lt_zero k), c3, c4, by omega, fun k hk => absurd hk (Nat.not_lt_zero k)⟩
  · exact ⟨c5, c6, by omega, fun k hk => absurd hk (Nat.not_lt_zero k)⟩
  · refine ⟨c7, fun s hs => ?_⟩
    obtain ⟨d1, d2, d3, d4⟩ := i00_d s hs
    exact ⟨d1, d2, Or.inr ⟨d3, d4⟩⟩
theorem stp_all : StpAll InvC := ⟨st116, st117, st118, st119, st120, st121, st122, st123, st124, st125, st126, st127, st128, st129, st130, st131, st132, st133, st134, st135, st136, st137, st138, st139, st140, st141, st142, st143, st144, st145, st146, st147, st148, st152, st153, st154, st158, st159, st160, st161, st162, st155, st156, st163, st164, st165, st149, st150, st151, st157, st166, st167⟩
