/-! A saying is said to a cup: the reference. -/
def laN (wd nb : Nat → Nat) (k n df : Nat) : Nat := itr (fun c x => if wd c = k then nb c else x) n df
section SAYS
variable {X : Nat × (Nat → Int32)} {d : Nat} {I : Nat → Nat → Int32} {L : Nat → Nat → Int64} {Q : Option Value → XW → Prop}
theorem s183 {h n k df : Nat} {T wd nb mm : Nat → Nat} (hk : k ≤ 3) (hI : InnM I h n wd nb mm T) (h9 : I 124 9 = nI h) : wp X (d + 1) m183 0 [some (.ref 124), some (.int (nI k)), some (.int (nI df)), none, none] [] (K0, R0, I, L) Q ↔ Q (some (.int (nI (laN wd nb k n df)))) (K0, R0, I, L) := by
  obtain ⟨i1, i2, i3, i4, i5, i6⟩ := id hI
  rw [b183_0, s165 i1 h9]
  simp only [Option.toList, List.cons_append, List.nil_append]
  rw [b183_6]
  refine (for_iff (P := fun c (x : Nat) => wp X (d + 1) m183 8 [some (.ref 124), some (.int (nI k)), none, some (.int (nI x)), some (.int (nI (10 * h + c)))] [] (K0, R0, I, L) Q) (F := fun c x => if wd c = k then nb c else x) n (fun c x hc => ?_) df).trans ?_
  · obtain ⟨g1, g2, g3⟩ := i5 c hc
    have ix : inA (nI (10 * h + c)) 60 = true := inA_nI (by omega) (by decide)
    have hcl : (nI (10 * h + c)).toNatClampNeg = 10 * h + c := nI_clamp (by omega)
    have e := nI_eq (a := wd c) (b := k) (by omega) (by omega)
    rw [b183_8, s166 i1 h9 i3]
    simp only [Option.toList, List.cons_append, List.nil_append]
    rw [b183_14, if_pos (nI_lt (by omega) (by omega)), and_iff_right ix, and_iff_right ix, hcl, g1, g3, nI_1]
    by_cases c0 : wd c = k
    · rw [if_pos (e.mpr c0), if_pos c0]; exact Iff.rfl
    · rw [if_neg (fun z => c0 (e.mp z)), if_neg c0]; exact Iff.rfl
  · rw [b183_8, s166 i1 h9 i3]
    simp only [Option.toList, List.cons_append, List.nil_append]
    rw [b183_14, if_neg (nI_nlt (Nat.le_refl _) (by omega))]
    exact Iff.rfl
theorem s183_0 {x1 df : Int32} (h9 : I 124 9 < 0) : wp X (d + 1) m183 0 [some (.ref 124), some (.int x1), some (.int df), none, none] [] (K0, R0, I, L) Q ↔ Q (some (.int df)) (K0, R0, I, L) := by
  rw [b183_0, b165_0, if_pos h9]
  simp only [Option.toList, List.cons_append, List.nil_append]
  rw [b183_6, b183_8, b166_0, if_pos h9]
  simp only [Option.toList, List.cons_append, List.nil_append]
  rw [b183_14, if_neg (by decide)]
end SAYS
