/-! The same of the reference. -/
section HEARD
variable {X : Nat × (Nat → Int32)} {d : Nat} {I : Nat → Nat → Int32} {L : Nat → Nat → Int64}
theorem upd_at {J J1 : Nat → Nat → Int32} {q i : Nat} {v : Int32} (h : J1 q = updR J q i v q) : J1 q i = v ∧ ∀ j, j ≠ i → J1 q j = J q j := ⟨by rw [h, updR_same], fun j hj => by rw [h, updR_j hj]⟩
theorem min_of {x y : Int32} (h : ¬ y < x) : (if x < y then x else y) = x := by
  by_cases g : x < y
  · rw [if_pos g]
  · rw [if_neg g]
    exact Int32.le_antisymm (Int32.not_lt.mp g) (Int32.not_lt.mp h)
theorem s181 {n ci w kd v lv t : Nat} {md rf : Int32} {ln T wd nb mm : Nat → Nat} (hH : Hd I n wd nb mm T) (hc : CupM I ci kd v lv md rf ln) (hw : w ≤ 3) (ht : t < 2 ^ 31) (h1 : I 124 1 = nI t) (hn : ∀ p, p < 4 → ln p ≤ 9) (hmo : ¬ I 124 26 < rf + 1) : ∃ I1, (∀ k, k ≠ 140 → k ≠ 127 → k ≠ 128 → k ≠ 129 → I1 k = I k) ∧ (∀ j, j ≠ ci → I1 127 j = I 127 j ∧ I1 128 j = I 128 j ∧ I1 129 j = I 129 j) ∧ CupM I1 ci kd v (hL (wiC T wd nb mm n t ci w kd v lv) md kd lv w t ln) (hM (wiC T wd nb mm n t ci w kd v lv) md (nI (laN wd nb 2 n 2)) (nI (laN wd nb 3 n 1))) (hR (wiC T wd nb mm n t ci w kd v lv) md rf) ln ∧ ∀ Q : Option Value → XW → Prop, wp X (d + 6) m181 0 [some (.ref 124), some (.int (nI ci)), some (.int (nI w)), none] [] (K0, R0, I, L) Q ↔ Q none (K0, R0, I1, L) := by
  have hM0 := hc.mf hw ht h1
  obtain ⟨c1, c2, c3, c4, c5, c6, c7, c8, c9, c10⟩ := hc
  have hle := @hL_le (wiC T wd nb mm n t ci w kd v lv) md kd lv w t ln c10 hw hn
  unfold hL hM hR at *
  by_cases hwi : wiC T wd nb mm n t ci w kd v lv < md
  · obtain ⟨I1, g1, g9, g8, g3⟩ := s181_no (X := X) (d := d) (L := L) hH hM0 (by rw [c4]; exact hwi)
    rw [c5, min_of hmo] at g9
    rw [c4] at g8
    obtain ⟨a8, b8⟩ := upd_at g8
    obtain ⟨a9, b9⟩ := upd_at g9
    have e7 : I1 127 = I 127 := g1 127 (by decide) (by decide) (by decide)
    rw [if_pos hwi, if_pos hwi, if_pos hwi]
    refine ⟨I1, fun k k0 k1 k2 k3 => g1 k k0 k2 k3, fun j hj => ⟨by rw [e7], b8 j hj, b9 j hj⟩, ⟨?_, ?_, ?_, a8, a9, fun p hp => ?_, c7, c8, c9, c10⟩, g3⟩
    · rw [g1 125 (by decide) (by decide) (by decide)]; exact c1
    · rw [g1 126 (by decide) (by decide) (by decide)]; exact c2
    · rw [e7]; exact c3
    · rw [g1 130 (by decide) (by decide) (by decide)]; exact c6 p hp
  · obtain ⟨I1, g1, g7, g8, g3⟩ := s181_ok (X := X) (d := d) (L := L) hH hM0 hw c8 c10 ht c1 c3 h1 (c6 _ (Nat.mod_lt _ (by decide))) (by rw [c4]; exact hwi)
    rw [c4] at g8
    obtain ⟨a8, b8⟩ := upd_at g8
    obtain ⟨a7, b7⟩ := upd_at g7
    have e9 : I1 129 = I 129 := g1 129 (by decide) (by decide) (by decide)
    rw [if_neg hwi] at hle
    rw [if_neg hwi, if_neg hwi, if_neg hwi]
    refine ⟨I1, fun k k0 k1 k2 k3 => g1 k k0 k2 k1, fun j hj => ⟨b7 j hj, b8 j hj, by rw [e9]⟩, ⟨?_, ?_, a7, a8, ?_, fun p hp => ?_, c7, c8, c9, hle⟩, g3⟩
    · rw [g1 125 (by decide) (by decide) (by decide)]; exact c1
    · rw [g1 126 (by decide) (by decide) (by decide)]; exact c2
    · rw [e9]; exact c5
    · rw [g1 130 (by decide) (by decide) (by decide)]; exact c6 p hp
end HEARD
