/-! The inn that holds, or none: one account of both; then whether one refuses. -/
def Hd (I : Nat → Nat → Int32) (n : Nat) (wd nb mm T : Nat → Nat) : Prop := (I 124 9 < 0 ∧ n = 0) ∨ ∃ h, I 124 9 = nI h ∧ InnM I h n wd nb mm T
theorem Hd.cong {I I1 : Nat → Nat → Int32} {n : Nat} {wd nb mm T : Nat → Nat} (g : Hd I n wd nb mm T) (e : ∀ k, k = 124 ∨ (132 ≤ k ∧ k ≤ 137) → I1 k = I k) : Hd I1 n wd nb mm T := by
  unfold Hd InnM at g ⊢
  rw [e 124 (Or.inl rfl), e 132 (by omega), e 133 (by omega), e 134 (by omega), e 135 (by omega), e 136 (by omega), e 137 (by omega)]
  exact g
section SAYS
variable {X : Nat × (Nat → Int32)} {d : Nat} {I : Nat → Nat → Int32} {L : Nat → Nat → Int64}
theorem s164H {n ci w : Nat} {a T wd nb mm : Nat → Nat} (hH : Hd I n wd nb mm T) (hM : MF I ci w a) : ∃ I1, (∀ k, k ≠ 140 → I1 k = I k) ∧ ∀ Q : Option Value → XW → Prop, wp X (d + 4) m164 0 [some (.ref 124), some (.int (nI ci)), some (.int (nI w)), none, none] [] (K0, R0, I, L) Q ↔ Q (some (.int (mx0 (wiN a T wd nb mm n)))) (K0, R0, I1, L) := by
  rcases hH with ⟨h9, rfl⟩ | ⟨h, h9, hI⟩
  · exact ⟨I, fun _ _ => rfl, fun Q => s164_0 h9⟩
  · exact s164 hI hM h9
theorem s183H {n k df : Nat} {T wd nb mm : Nat → Nat} {Q : Option Value → XW → Prop} (hk : k ≤ 3) (hH : Hd I n wd nb mm T) : wp X (d + 1) m183 0 [some (.ref 124), some (.int (nI k)), some (.int (nI df)), none, none] [] (K0, R0, I, L) Q ↔ Q (some (.int (nI (laN wd nb k n df)))) (K0, R0, I, L) := by
  rcases hH with ⟨h9, rfl⟩ | ⟨h, h9, hI⟩
  · exact s183_0 h9
  · exact s183 hk hI h9
theorem s180 {n ci w : Nat} {a T wd nb mm : Nat → Nat} (hH : Hd I n wd nb mm T) (hM : MF I ci w a) : ∃ I1, (∀ k, k ≠ 140 → I1 k = I k) ∧ ∀ Q : Option Value → XW → Prop, wp X (d + 5) m180 0 [some (.ref 124), some (.int (nI ci)), some (.int (nI w))] [] (K0, R0, I, L) Q ↔ Q (some (.int (if mx0 (wiN a T wd nb mm n) < I 128 ci then 1 else 0))) (K0, R0, I1, L) := by
  obtain ⟨I1, g1, g2⟩ := s164H (X := X) (d := d) (L := L) hH hM
  refine ⟨I1, g1, fun Q => ?_⟩
  have hc := hM.1
  rw [b180_0, g2]
  simp only [Option.toList, List.cons_append, List.nil_append]
  rw [b180_6, and_iff_right (inA_nI hc (by decide)), nI_clamp (by omega), g1 128 (by decide)]
theorem s182 {x y : Int32} {Q : Option Value → XW → Prop} : wp X d m182 0 [some (.ref 124), some (.int x), some (.int y)] [] (K0, R0, I, L) Q ↔ Q (some (.int (if x < y then x else y))) (K0, R0, I, L) := b182_0
theorem min9 {z : Int32} : (if z < 9 then z else 9) = (if 9 < z then 9 else z) := by
  by_cases h : z < 9
  · rw [if_pos h, if_neg (fun q => Int32.lt_irrefl (Int32.lt_trans h q))]
  · rw [if_neg h]
    by_cases g : 9 < z
    · rw [if_pos g]
    · rw [if_neg g]
      exact Int32.le_antisymm (Int32.not_lt.mp h) (Int32.not_lt.mp g)
end SAYS
