/-! Between keep and restore; and what is left behind when all is put back. -/
def Mid (I J : Nat → Nat → Int32) : Prop := (∀ k, k ≠ 124 → k ≠ 127 → k ≠ 128 → k ≠ 129 → k ≠ 140 → k ≠ 141 → k ≠ 142 → k ≠ 143 → J k = I k) ∧ (∀ i, i < 5 → J 141 i = I 127 i ∧ J 142 i = I 128 i ∧ J 143 i = I 129 i) ∧ (∀ i, 5 ≤ i → J 127 i = I 127 i ∧ J 128 i = I 128 i ∧ J 129 i = I 129 i) ∧ (∀ j, j ≠ 26 → j ≠ 27 → j ≠ 1 → J 124 j = I 124 j) ∧ J 124 27 = I 124 1 ∧ J 124 26 = 2000000000
/-- asked: nothing that stays is otherwise -/
def Ak (I J : Nat → Nat → Int32) : Prop := (∀ k, k ≠ 124 → k ≠ 140 → k ≠ 141 → k ≠ 142 → k ≠ 143 → J k = I k) ∧ ∀ j, j ≠ 27 → J 124 j = I 124 j
theorem mid_keep (I : Nat → Nat → Int32) : Mid I (itr keF 5 (updR (updR I 124 26 2000000000) 124 27 (I 124 1))) ∧ itr keF 5 (updR (updR I 124 26 2000000000) 124 27 (I 124 1)) 127 = I 127 ∧ itr keF 5 (updR (updR I 124 26 2000000000) 124 27 (I 124 1)) 128 = I 128 ∧ itr keF 5 (updR (updR I 124 26 2000000000) 124 27 (I 124 1)) 129 = I 129 ∧ itr keF 5 (updR (updR I 124 26 2000000000) 124 27 (I 124 1)) 124 1 = I 124 1 := by
  have h := ke_facts (updR (updR I 124 26 2000000000) 124 27 (I 124 1)) 5
  generalize itr keF 5 (updR (updR I 124 26 2000000000) 124 27 (I 124 1)) = J at h
  obtain ⟨h1, h2⟩ := h
  have e : ∀ k, k ≠ 124 → updR (updR I 124 26 2000000000) 124 27 (I 124 1) k = I k := fun k hk => by rw [updR_row k hk, updR_row k hk]
  have e7 : J 127 = I 127 := (h1 127 (by decide) (by decide) (by decide)).trans (e 127 (by decide))
  have e8 : J 128 = I 128 := (h1 128 (by decide) (by decide) (by decide)).trans (e 128 (by decide))
  have e9 : J 129 = I 129 := (h1 129 (by decide) (by decide) (by decide)).trans (e 129 (by decide))
  have e4 := h1 124 (by decide) (by decide) (by decide)
  refine ⟨⟨fun k k0 k1 k2 k3 k4 k5 k6 k7 => (h1 k k5 k6 k7).trans (e k k0), fun i hi => ?_, fun i hi => ⟨by rw [e7], by rw [e8], by rw [e9]⟩, fun j j1 j2 j3 => ?_, ?_, ?_⟩, e7, e8, e9, ?_⟩
  · obtain ⟨a1, a2, a3⟩ := h2 i hi
    rw [e 127 (by decide)] at a1
    rw [e 128 (by decide)] at a2
    rw [e 129 (by decide)] at a3
    exact ⟨a1, a2, a3⟩
  · rw [e4, updR_j j2, updR_j j1]
  · rw [e4, updR_same]
  · rw [e4, updR_j (by decide), updR_same]
  · rw [e4, updR_j (by decide), updR_j (by decide)]
theorem mid_back {I J : Nat → Nat → Int32} (h : Mid I J) (h26 : I 124 26 = 9999) : Ak I (itr baF 5 (updR (updR J 124 26 9999) 124 1 (J 124 27))) := by
  have g := ba_facts (updR (updR J 124 26 9999) 124 1 (J 124 27)) 5
  generalize itr baF 5 (updR (updR J 124 26 9999) 124 1 (J 124 27)) = K at g
  obtain ⟨g1, g2, g3⟩ := g
  obtain ⟨m1, m2, m3, m4, m5, m6⟩ := h
  have e : ∀ k, k ≠ 124 → updR (updR J 124 26 9999) 124 1 (J 124 27) k = J k := fun k hk => by rw [updR_row k hk, updR_row k hk]
  have row : K 127 = I 127 ∧ K 128 = I 128 ∧ K 129 = I 129 := by
    have p : ∀ i, K 127 i = I 127 i ∧ K 128 i = I 128 i ∧ K 129 i = I 129 i := by
      intro i
      by_cases hi : i < 5
      · obtain ⟨a1, a2, a3⟩ := g2 i hi
        obtain ⟨b1, b2, b3⟩ := m2 i hi
        rw [e 141 (by decide), b1] at a1
        rw [e 142 (by decide), b2] at a2
        rw [e 143 (by decide), b3] at a3
        exact ⟨a1, a2, a3⟩
      · obtain ⟨a1, a2, a3⟩ := g3 i (by omega)
        obtain ⟨b1, b2, b3⟩ := m3 i (by omega)
        rw [e 127 (by decide), b1] at a1
        rw [e 128 (by decide), b2] at a2
        rw [e 129 (by decide), b3] at a3
        exact ⟨a1, a2, a3⟩
    exact ⟨funext fun i => (p i).1, funext fun i => (p i).2.1, funext fun i => (p i).2.2⟩
  refine ⟨fun k k0 k4 k5 k6 k7 => ?_, fun j hj => ?_⟩
  · by_cases h7 : k = 127
    · rw [h7]; exact row.1
    by_cases h8 : k = 128
    · rw [h8]; exact row.2.1
    by_cases h9 : k = 129
    · rw [h9]; exact row.2.2
    rw [g1 k h7 h8 h9, e k k0]
    exact m1 k k0 h7 h8 h9 k4 k5 k6 k7
  · rw [g1 124 (by decide) (by decide) (by decide)]
    by_cases h1 : j = 1
    · rw [h1, updR_same]; exact m5
    rw [updR_j h1]
    by_cases h2 : j = 26
    · rw [h2, updR_same, h26]
    rw [updR_j h2]
    exact m4 j h2 hj h1
/-- a saying in between -/
theorem mid_say {I J J1 : Nat → Nat → Int32} {ci : Nat} (h : Mid I J) (hc : ci < 5) (g : ∀ k, k ≠ 140 → k ≠ 127 → k ≠ 128 → k ≠ 129 → J1 k = J k) (g2 : ∀ j, j ≠ ci → J1 127 j = J 127 j ∧ J1 128 j = J 128 j ∧ J1 129 j = J 129 j) : Mid I J1 := by
  obtain ⟨m1, m2, m3, m4, m5, m6⟩ := h
  have e4 := g 124 (by decide) (by decide) (by decide) (by decide)
  refine ⟨fun k k0 k1 k2 k3 k4 k5 k6 k7 => (g k k4 k1 k2 k3).trans (m1 k k0 k1 k2 k3 k4 k5 k6 k7), fun i hi => ?_, fun i hi => ?_, fun j j1 j2 j3 => by rw [e4]; exact m4 j j1 j2 j3, by rw [e4]; exact m5, by rw [e4]; exact m6⟩
  · rw [g 141 (by decide) (by decide) (by decide) (by decide), g 142 (by decide) (by decide) (by decide) (by decide), g 143 (by decide) (by decide) (by decide) (by decide)]
    exact m2 i hi
  · obtain ⟨a1, a2, a3⟩ := g2 i (by omega)
    obtain ⟨b1, b2, b3⟩ := m3 i hi
    exact ⟨a1.trans b1, a2.trans b2, a3.trans b3⟩
