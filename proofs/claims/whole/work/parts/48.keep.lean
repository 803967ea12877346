/-! The reference keeps how cups are, and puts them back. -/
def keF (c : Nat) (J : Nat → Nat → Int32) : Nat → Nat → Int32 := updR (updR (updR J 141 c (J 127 c)) 142 c (J 128 c)) 143 c (J 129 c)
def baF (c : Nat) (J : Nat → Nat → Int32) : Nat → Nat → Int32 := updR (updR (updR J 127 c (J 141 c)) 128 c (J 142 c)) 129 c (J 143 c)
theorem ke_facts (J : Nat → Nat → Int32) : ∀ n, (∀ k, k ≠ 141 → k ≠ 142 → k ≠ 143 → itr keF n J k = J k) ∧ ∀ i, i < n → itr keF n J 141 i = J 127 i ∧ itr keF n J 142 i = J 128 i ∧ itr keF n J 143 i = J 129 i := by
  intro n
  induction n with
  | zero => exact ⟨fun _ _ _ _ => rfl, fun i hi => absurd hi (Nat.not_lt_zero _)⟩
  | succ n ih =>
    have e : itr keF (n + 1) J = keF n (itr keF n J) := rfl
    rw [e]
    unfold keF
    refine ⟨fun k h1 h2 h3 => by rw [updR_row k h3, updR_row k h2, updR_row k h1]; exact ih.1 k h1 h2 h3, fun i hi => ?_⟩
    have g7 := ih.1 127 (by decide) (by decide) (by decide)
    have g8 := ih.1 128 (by decide) (by decide) (by decide)
    have g9 := ih.1 129 (by decide) (by decide) (by decide)
    rw [updR_row 141 (by decide), updR_row 141 (by decide), updR_row 142 (by decide)]
    rcases Nat.lt_succ_iff_lt_or_eq.mp hi with h | rfl
    · obtain ⟨a1, a2, a3⟩ := ih.2 i h
      simp only [updR_j (show i ≠ n by omega)]
      exact ⟨a1, a2, a3⟩
    · rw [updR_same, updR_same, updR_same]
      exact ⟨congrFun g7 i, congrFun g8 i, congrFun g9 i⟩
theorem ba_facts (J : Nat → Nat → Int32) : ∀ n, (∀ k, k ≠ 127 → k ≠ 128 → k ≠ 129 → itr baF n J k = J k) ∧ (∀ i, i < n → itr baF n J 127 i = J 141 i ∧ itr baF n J 128 i = J 142 i ∧ itr baF n J 129 i = J 143 i) ∧ ∀ i, n ≤ i → itr baF n J 127 i = J 127 i ∧ itr baF n J 128 i = J 128 i ∧ itr baF n J 129 i = J 129 i := by
  intro n
  induction n with
  | zero => exact ⟨fun _ _ _ _ => rfl, fun i hi => absurd hi (Nat.not_lt_zero _), fun i _ => ⟨rfl, rfl, rfl⟩⟩
  | succ n ih =>
    have e : itr baF (n + 1) J = baF n (itr baF n J) := rfl
    rw [e]
    unfold baF
    have g7 := ih.1 141 (by decide) (by decide) (by decide)
    have g8 := ih.1 142 (by decide) (by decide) (by decide)
    have g9 := ih.1 143 (by decide) (by decide) (by decide)
    refine ⟨fun k h1 h2 h3 => by rw [updR_row k h3, updR_row k h2, updR_row k h1]; exact ih.1 k h1 h2 h3, fun i hi => ?_, fun i hi => ?_⟩
    · rw [updR_row 127 (by decide), updR_row 127 (by decide), updR_row 128 (by decide)]
      rcases Nat.lt_succ_iff_lt_or_eq.mp hi with h | rfl
      · obtain ⟨a1, a2, a3⟩ := ih.2.1 i h
        simp only [updR_j (show i ≠ n by omega)]
        exact ⟨a1, a2, a3⟩
      · rw [updR_same, updR_same, updR_same]
        exact ⟨congrFun g7 i, congrFun g8 i, congrFun g9 i⟩
    · rw [updR_row 127 (by decide), updR_row 127 (by decide), updR_row 128 (by decide)]
      obtain ⟨a1, a2, a3⟩ := ih.2.2 i (by omega)
      simp only [updR_j (show i ≠ n by omega)]
      exact ⟨a1, a2, a3⟩
section KEEP
variable {X : Nat × (Nat → Int32)} {d : Nat} {I : Nat → Nat → Int32} {L : Nat → Nat → Int64} {Q : Option Value → XW → Prop}
theorem s188 : wp X d m188 0 [some (.ref 124), none] [] (K0, R0, I, L) Q ↔ Q none (K0, R0, itr keF 5 (updR (updR I 124 26 2000000000) 124 27 (I 124 1)), L) := by
  rw [b188_0]
  refine (for_iff (P := fun c (J : Nat → Nat → Int32) => wp X d m188 17 [some (.ref 124), some (.int (nI c))] [] (K0, R0, J, L) Q) (F := keF) 5 (fun c J hc => ?_) _).trans ?_
  · have ix : inA (nI c) 5 = true := inA_nI hc (by decide)
    rw [b188_17, if_pos (show nI c < (5 : Int32) from nI_lt (b := 5) hc (by decide)), nI_clamp (by omega), nI_1]
    simp only [ix, true_and]
    exact Iff.rfl
  · rw [b188_17, if_neg (show ¬ nI 5 < (5 : Int32) by decide)]
theorem s189 : wp X d m189 0 [some (.ref 124), none] [] (K0, R0, I, L) Q ↔ Q none (K0, R0, itr baF 5 (updR (updR I 124 26 9999) 124 1 (I 124 27)), L) := by
  rw [b189_0]
  refine (for_iff (P := fun c (J : Nat → Nat → Int32) => wp X d m189 17 [some (.ref 124), some (.int (nI c))] [] (K0, R0, J, L) Q) (F := baF) 5 (fun c J hc => ?_) _).trans ?_
  · have ix : inA (nI c) 5 = true := inA_nI hc (by decide)
    rw [b189_17, if_pos (show nI c < (5 : Int32) from nI_lt (b := 5) hc (by decide)), nI_clamp (by omega), nI_1]
    simp only [ix, true_and]
    exact Iff.rfl
  · rw [b189_17, if_neg (show ¬ nI 5 < (5 : Int32) by decide)]
end KEEP
