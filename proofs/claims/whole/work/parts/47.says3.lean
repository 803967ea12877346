/-! A saying is said: the reference (goSaying). -/
section SAYS
variable {X : Nat × (Nat → Int32)} {d : Nat} {I : Nat → Nat → Int32} {L : Nat → Nat → Int64}
/-- it refuses -/
theorem s181_no {n ci w : Nat} {a T wd nb mm : Nat → Nat} (hH : Hd I n wd nb mm T) (hM : MF I ci w a) (hwi : mx0 (wiN a T wd nb mm n) < I 128 ci) : ∃ I1, (∀ k, k ≠ 140 → k ≠ 128 → k ≠ 129 → I1 k = I k) ∧ I1 129 = updR I 129 ci (if I 129 ci + 1 < I 124 26 then I 129 ci + 1 else I 124 26) 129 ∧ I1 128 = updR I 128 ci (riseI (I 128 ci) (nI (laN wd nb 2 n 2))) 128 ∧ ∀ Q : Option Value → XW → Prop, wp X (d + 6) m181 0 [some (.ref 124), some (.int (nI ci)), some (.int (nI w)), none] [] (K0, R0, I, L) Q ↔ Q none (K0, R0, I1, L) := by
  obtain ⟨I1, g1, g2⟩ := s180 (X := X) (d := d) (L := L) hH hM
  have hc := hM.1
  have ix : inA (nI ci) 5 = true := inA_nI hc (by decide)
  have hcl : (nI ci).toNatClampNeg = ci := nI_clamp (by omega)
  have e8 := g1 128 (by decide)
  have e9 := g1 129 (by decide)
  have e4 := g1 124 (by decide)
  refine ⟨updR (updR I1 129 ci (if I 129 ci + 1 < I 124 26 then I 129 ci + 1 else I 124 26)) 128 ci (riseI (I 128 ci) (nI (laN wd nb 2 n 2))), fun k h1 h2 h3 => ?_, ?_, ?_, fun Q => ?_⟩
  · rw [updR_row k h2, updR_row k h3]; exact g1 k h1
  · rw [updR_row 129 (by decide)]
    funext b
    unfold updR
    rw [e9]
  · funext b
    unfold updR
    rw [e8]
    rfl
  · have hH1 : Hd (updR I1 129 ci (if I 129 ci + 1 < I 124 26 then I 129 ci + 1 else I 124 26)) n wd nb mm T := hH.cong (fun k hk => by rw [updR_row k (by omega)]; exact g1 k (by omega))
    rw [b181_0, g2, if_pos hwi]
    simp only [Option.toList, List.cons_append, List.nil_append]
    rw [b181_6, if_neg (by decide), and_iff_right ix, hcl, e9, e4, s182]
    simp only [Option.toList, List.cons_append, List.nil_append]
    rw [b181_30, and_iff_right ix, and_iff_right ix, hcl]
    refine (s183H (k := 2) (df := 2) (by decide) hH1).trans ?_
    simp only [Option.toList, List.cons_append, List.nil_append]
    rw [b181_49, s182]
    simp only [Option.toList, List.cons_append, List.nil_append]
    rw [b181_55, and_iff_right ix, hcl, e8]
    unfold riseI
    rw [← min9]
/-- it hears -/
theorem s181_ok {n ci w kd lv t ln : Nat} {a T wd nb mm : Nat → Nat} (hH : Hd I n wd nb mm T) (hM : MF I ci w a) (hw : w ≤ 3) (hk : kd ≤ 6) (hl : lv ≤ 4095) (ht : t < 2 ^ 31) (h1 : I 125 ci = nI kd) (h2 : I 127 ci = nI lv) (h3 : I 124 1 = nI t) (h4 : I 130 (4 * ci + t % 4) = nI ln) (hwi : ¬ mx0 (wiN a T wd nb mm n) < I 128 ci) : ∃ I1, (∀ k, k ≠ 140 → k ≠ 128 → k ≠ 127 → I1 k = I k) ∧ I1 127 = updR I 127 ci (nI (doneN kd lv w t ln)) 127 ∧ I1 128 = updR I 128 ci (fallI (I 128 ci) (nI (laN wd nb 3 n 1))) 128 ∧ ∀ Q : Option Value → XW → Prop, wp X (d + 6) m181 0 [some (.ref 124), some (.int (nI ci)), some (.int (nI w)), none] [] (K0, R0, I, L) Q ↔ Q none (K0, R0, I1, L) := by
  obtain ⟨I1, g1, g2⟩ := s180 (X := X) (d := d) (L := L) hH hM
  have hc := hM.1
  have ix : inA (nI ci) 5 = true := inA_nI hc (by decide)
  have hcl : (nI ci).toNatClampNeg = ci := nI_clamp (by omega)
  have e8 := g1 128 (by decide)
  have e7 := g1 127 (by decide)
  refine ⟨updR (updR I1 127 ci (nI (doneN kd lv w t ln))) 128 ci (fallI (I 128 ci) (nI (laN wd nb 3 n 1))), fun k h1 h2 h3 => ?_, ?_, ?_, fun Q => ?_⟩
  · rw [updR_row k h2, updR_row k h3]; exact g1 k h1
  · rw [updR_row 127 (by decide)]
    funext b
    unfold updR
    rw [e7]
  · funext b
    unfold updR
    rw [e8]
    rfl
  · have hH1 : Hd (updR I1 127 ci (nI (doneN kd lv w t ln))) n wd nb mm T := hH.cong (fun k hk => by rw [updR_row k (by omega)]; exact g1 k (by omega))
    rw [b181_0, g2, if_neg hwi]
    simp only [Option.toList, List.cons_append, List.nil_append]
    rw [b181_6, if_pos rfl, s171 (d := d) hc hk hl hw ht (by rw [g1 125 (by decide)]; exact h1) (by rw [e7]; exact h2) (by rw [g1 124 (by decide)]; exact h3) (by rw [g1 130 (by decide)]; exact h4)]
    simp only [Option.toList, List.cons_append, List.nil_append]
    rw [b181_68, and_iff_right ix, and_iff_right ix, hcl]
    refine (s183H (k := 3) (df := 1) (by decide) hH1).trans ?_
    simp only [Option.toList, List.cons_append, List.nil_append]
    rw [b181_81, hcl, and_iff_right ix, and_iff_right ix, e8]
    unfold fallI
    by_cases c : I 128 ci - nI (laN wd nb 3 n 1) < 0
    · rw [if_pos c, if_pos c]
    · rw [if_neg c, if_neg c]
end SAYS
