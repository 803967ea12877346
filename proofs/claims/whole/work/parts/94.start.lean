/-! The start: both sides tell the same before the first call. -/
section START
variable {I : Nat → Nat → Int32} {L : Nat → Nat → Int64}
theorem tab0 (hat : ∀ k j, k < 167 → j < szK k → I k j = I0 k j) {t a s f0 f1 f2 f3 f4 f5 : Nat} (h1 : t < 167 ∧ 3 < szK t ∧ (f0 < szK 124 ∧ f1 < szK 124 ∧ f2 < szK 124 ∧ f3 < szK 124 ∧ f4 < szK 124 ∧ f5 < szK 124) ∧ I0 t 1 = 0 ∧ I0 124 f0 = 0 ∧ I0 t 2 = 0 ∧ I0 124 f1 = 0 ∧ I0 t 3 = I0 124 f2 ∧ I0 124 f3 = 0 ∧ I0 124 f4 = 0 ∧ I0 124 f5 = 0) (h2 : (t + 2 < 167 ∧ 2 < szK (t + 2)) ∧ (t + 5 < 167 ∧ 2 < szK (t + 5)) ∧ (t + 8 < 167 ∧ 2 < szK (t + 8)) ∧ I0 (t + 2) 2 = 0 ∧ I0 (t + 5) 2 = 0 ∧ I0 (t + 8) 2 = 0) (h3 : ∀ i, i < 5 → (t + 11 + 2 * i < 167 ∧ 5 < szK (t + 11 + 2 * i)) ∧ (t + 11 + 2 * i + 1 < 167 ∧ 3 < szK (t + 11 + 2 * i + 1)) ∧ a + 5 < 167 ∧ (∀ b, b < 5 → i < szK (a + b) ∧ I0 (a + b) i = 0) ∧ (∀ b, b < 5 → I0 (t + 11 + 2 * i) (b + 1) = 0) ∧ ∀ p, p < 4 → 4 * i + p < szK (a + 5) ∧ I0 (t + 11 + 2 * i + 1) p = 0 ∧ I0 (a + 5) (4 * i + p) = 0) : TabI I t a s f0 f1 f2 f3 f4 f5 0 0 := by
  obtain ⟨a1, a2, ⟨b0, b1, b2, b3, b4, b5⟩, c1, c2, c3, c4, c5, c6, c7, c8⟩ := h1
  obtain ⟨⟨e1, e2⟩, ⟨e3, e4⟩, ⟨e5, e6⟩, e7, e8, e9⟩ := h2
  have c0 : ∀ i, i < 5 → (∀ b, b < 5 → I (t + 11 + 2 * i) (b + 1) = 0) ∧ (∀ b, b < 5 → I (a + b) i = 0) ∧ ∀ p, p < 4 → I (t + 11 + 2 * i + 1) p = 0 ∧ I (a + 5) (4 * i + p) = 0 := by
    intro i hi
    obtain ⟨⟨g1, g2⟩, ⟨g3, g4⟩, g5, g6, g7, g8⟩ := h3 i hi
    exact ⟨fun b hb => (hat _ _ g1 (by omega)).trans (g7 b hb), fun b hb => (hat _ _ (by omega) (g6 b hb).1).trans (g6 b hb).2, fun p hp => ⟨(hat _ _ g3 (by omega)).trans (g8 p hp).2.1, (hat _ _ g5 (g8 p hp).1).trans (g8 p hp).2.2⟩⟩
  refine ⟨⟨by omega, by omega, (hat _ _ a1 (by omega)).trans c1, (hat _ _ (by decide) b0).trans c2, (hat _ _ a1 (by omega)).trans c3, (hat _ _ (by decide) b1).trans c4, (hat _ _ a1 (by omega)).trans (c5.trans (hat _ _ (by decide) b2).symm)⟩, fun i hi => absurd hi (Nat.not_lt_zero _), fun i hi => ?_, fun i hi => ?_, ⟨0, Nat.zero_le _, (hat _ _ e1 e2).trans e7, (hat _ _ (by decide) b3).trans c6, fun k hk => absurd hk (Nat.not_lt_zero _)⟩, ⟨0, Nat.zero_le _, (hat _ _ e3 e4).trans e8, (hat _ _ (by decide) b4).trans c7, fun k hk => absurd hk (Nat.not_lt_zero _)⟩, ⟨0, Nat.zero_le _, (hat _ _ e5 e6).trans e9, (hat _ _ (by decide) b5).trans c8, fun k hk => absurd hk (Nat.not_lt_zero _)⟩⟩
  · obtain ⟨g1, g2, g3⟩ := c0 i hi
    exact ⟨(g1 0 (by decide)).trans (g2 0 (by decide)).symm, (g1 1 (by decide)).trans (g2 1 (by decide)).symm, (g1 2 (by decide)).trans (g2 2 (by decide)).symm, (g1 3 (by decide)).trans (g2 3 (by decide)).symm, (g1 4 (by decide)).trans (g2 4 (by decide)).symm, fun p hp => (g3 p hp).1.trans (g3 p hp).2.symm⟩
  · obtain ⟨g1, g2, g3⟩ := c0 i hi
    exact ⟨⟨0, Nat.zero_le _, g2 0 (by decide)⟩, ⟨0, Nat.zero_le _, g2 1 (by decide)⟩, ⟨0, Nat.zero_le _, g2 2 (by decide)⟩, ⟨0, Nat.zero_le _, g2 3 (by decide)⟩, ⟨0, Nat.zero_le _, g2 4 (by decide)⟩, fun p hp => ⟨0, Nat.zero_le _, (g3 p hp).2⟩⟩
theorem inv_start (hat : ∀ k j, k < 167 → j < szK k → I k j = I0 k j ∧ L k j = 0) : Inv I L := by
  have hI : ∀ k j, k < 167 → j < szK k → I k j = I0 k j := fun k j h1 h2 => (hat k j h1 h2).1
  have s124 : ∀ f, f < 60 → f < szK 124 := by decide +kernel
  have f124 : ∀ f, f < 60 → I 124 f = I0 124 f := fun f hf => hI 124 f (by decide) (s124 f hf)
  refine ⟨0, 0, 0, 0, 0, tab0 hI (by decide +kernel) (by decide +kernel) (by decide +kernel), tab0 hI (by decide +kernel) (by decide +kernel) (by decide +kernel), Or.inl ((f124 9 (by decide)).trans (by decide +kernel)), Or.inl ((f124 41 (by decide)).trans (by decide +kernel)), ⟨(hI 0 3 (by decide) (by decide +kernel)).trans (Eq.trans (by decide +kernel) (f124 40 (by decide)).symm), Or.inl ((f124 40 (by decide)).trans (by decide +kernel))⟩, ⟨Nat.zero_le _, (hI 0 6 (by decide) (by decide +kernel)).trans (by decide +kernel), (f124 8 (by decide)).trans (by decide +kernel), fun i hi => absurd hi (Nat.not_lt_zero _)⟩, ⟨0, Nat.zero_le _, (hI 64 1 (by decide) (by decide +kernel)).trans (by decide +kernel), (f124 10 (by decide)).trans (by decide +kernel), fun k hk => absurd hk (Nat.not_lt_zero _)⟩, ⟨0, Nat.zero_le _, (hI 79 1 (by decide) (by decide +kernel)).trans (by decide +kernel), (f124 59 (by decide)).trans (by decide +kernel), fun k hk => absurd hk (Nat.not_lt_zero _)⟩, fun p hp => ?_, ⟨(f124 26 (by decide)).trans (by decide +kernel), fun k hk => hI 139 k (by decide) ?_, (hI 67 0 (by decide) (by decide +kernel)).trans (by decide +kernel), (hI 67 1 (by decide) (by decide +kernel)).trans (by decide +kernel), (hI 67 2 (by decide) (by decide +kernel)).trans (by decide +kernel)⟩⟩
  · have q : ∀ p, p < 6 → (112 + 2 * p + 1 < 167 ∧ 1 < szK (112 + 2 * p) ∧ p < szK 163 ∧ p < szK 164) ∧ I0 (112 + 2 * p) 0 = I0 163 p ∧ I0 (112 + 2 * p) 1 = I0 164 p ∧ (I0 163 p = -1 ∨ I0 163 p = 0) ∧ I0 164 p = 0 ∧ ∀ k, k < 60 → k < szK (112 + 2 * p + 1) ∧ 60 * p + k < szK 165 := by decide +kernel
    obtain ⟨⟨q1, q2, q3, q4⟩, q5, q6, q7, q8, q9⟩ := q p hp
    have e3 := hI 163 p (by decide) q3
    have e4 := hI 164 p (by decide) q4
    refine ⟨(hI _ 0 (by omega) (by omega)).trans (q5.trans e3.symm), (hI _ 1 (by omega) q2).trans (q6.trans e4.symm), ?_, ⟨0, Nat.zero_le _, e4.trans q8⟩, fun k hk => ?_⟩
    · rcases q7 with z | z
      · exact Or.inl (e3.trans z)
      · exact Or.inr ⟨0, Nat.zero_le _, e3.trans z⟩
    · rw [(hat (112 + 2 * p + 1) k (by omega) (q9 k hk).1).2, (hat 165 (60 * p + k) (by decide) (q9 k hk).2).2]
  · have q : ∀ k, k < 16 → k < szK 139 := by decide +kernel
    exact q k hk
end START
