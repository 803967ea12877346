/-! evening, looked. -/
section CALLS
variable {X : Nat × (Nat → Int32)} {d : Nat}
theorem eve_inv {I : Nat → Nat → Int32} {L : Nat → Nat → Int64} {n s : Nat} {a b c : Int32} (hI : Inv I L) (hn : n ≤ 5) (e4 : I 124 0 = nI n) (hs : s < 10) (s3 : ∀ k, k < s → I 7 k = I 146 k ∧ (I 146 k = 5 ∨ (∃ c, c < n ∧ I 146 k = nI c) ∧ I 8 k = I 147 k ∧ Rg 3 (I 147 k))) (ha : a = 5 ∨ (∃ c, c < n ∧ a = nI c) ∧ b = c ∧ Rg 3 c) : Inv (updR (updR (updR (updR (updR (updR I (6 + 1) s a) (6 + 2) s b) 6 2 (nI (s + 1))) 146 s a) 147 s c) 124 34 (nI (s + 1))) L := by
  refine hI.rows (fun k h1 h2 h3 => by rw [updR_row k h3, updR_row k (by omega), updR_row k (by omega), updR_row k (by omega), updR_row k (by omega), updR_row k (by omega)]) (fun j h1 h2 h3 => by rw [updR_j h2, updR_k (by decide), updR_k (by decide), updR_k (by decide), updR_k (by decide), updR_k (by decide)]) (fun n' q hN => ⟨hN.2.2.2.2.1.cong (fun k hk => by rw [updR_row k (by omega), updR_row k (by omega), updR_row k (by omega), updR_row k (by omega), updR_row k (by omega), updR_row k (by omega)]) (by rw [updR_j (by decide), updR_k (by decide), updR_k (by decide), updR_k (by decide), updR_k (by decide), updR_k (by decide)]), ⟨s + 1, by omega, ?_, ?_, fun k hk => ?_⟩, hN.2.2.2.2.2.2.cong (fun k hk => by rw [updR_row k (by omega), updR_row k (by omega), updR_row k (by omega), updR_row k (by omega), updR_row k (by omega), updR_row k (by omega)]) (by rw [updR_j (by decide), updR_k (by decide), updR_k (by decide), updR_k (by decide), updR_k (by decide), updR_k (by decide)])⟩)
  · rw [updR_k (by decide), updR_k (by decide), updR_k (by decide), updR_same]
  · rw [updR_same]
  · have en : n = n' := (nI_eq (by omega) (by have := hN.1.1; omega)).mp (e4.symm.trans hN.1.2.2.2.1)
    by_cases hks : k = s
    · subst hks
      have w6 : updR (updR (updR (updR (updR (updR I (6 + 1) k a) (6 + 2) k b) 6 2 (nI (k + 1))) 146 k a) 147 k c) 124 34 (nI (k + 1)) (6 + 1) k = a := by
        rw [updR_k (by decide), updR_k (by decide), updR_k (by decide), updR_k (by decide), updR_k (by decide), updR_same]
      have w8 : updR (updR (updR (updR (updR (updR I (6 + 1) k a) (6 + 2) k b) 6 2 (nI (k + 1))) 146 k a) 147 k c) 124 34 (nI (k + 1)) (6 + 2) k = b := by
        rw [updR_k (by decide), updR_k (by decide), updR_k (by decide), updR_k (by decide), updR_same]
      have w4 : updR (updR (updR (updR (updR (updR I (6 + 1) k a) (6 + 2) k b) 6 2 (nI (k + 1))) 146 k a) 147 k c) 124 34 (nI (k + 1)) 146 k = a := by
        rw [updR_k (by decide), updR_k (by decide), updR_same]
      have w7 : updR (updR (updR (updR (updR (updR I (6 + 1) k a) (6 + 2) k b) 6 2 (nI (k + 1))) 146 k a) 147 k c) 124 34 (nI (k + 1)) (146 + 1) k = c := by
        rw [updR_k (by decide), updR_same]
      rw [w6, w8, w4, w7, ← en]
      exact ⟨rfl, ha⟩
    · have g : ∀ q, q = 7 ∨ q = 8 ∨ q = 146 ∨ q = 147 → updR (updR (updR (updR (updR (updR I (6 + 1) s a) (6 + 2) s b) 6 2 (nI (s + 1))) 146 s a) 147 s c) 124 34 (nI (s + 1)) q k = I q k := fun q hq => by
        rw [updR_k (by omega), updR_j hks, updR_j hks, updR_k (by omega), updR_j hks, updR_j hks]
      rw [g (6 + 1) (by omega), g (6 + 2) (by omega), g 146 (by omega), g (146 + 1) (by omega), ← en]
      exact s3 k (by omega)
theorem ok_evening {x1 x2 : Int32} : Ok X d m108 m212 [some (.ref 0), some (.int x1), some (.int x2)] [some (.ref 124), some (.int x1), some (.int x2)] := by
  intro I L hI
  obtain ⟨n, t, z, k, wd, nb, mm, T, hN, hn, e1, e4, S⟩ := sit_view hI
  obtain ⟨k1, k2, k3, k4, k5, ⟨s, hs, s1, s2, s3⟩, k7⟩ := hN
  by_cases hm : x1 = -1
  · subst hm
    refine ⟨.int 0, updR I 6 2 0, L, updR (updR I 6 2 0) 124 34 0, L, ?_, fun Q => ?_, fun Q => ?_⟩
    · refine hI.rows (fun k h1 h2 h3 => by rw [updR_row k h3, updR_row k (by omega)]) (fun j h1 h2 h3 => by rw [updR_j h2, updR_k (by decide)]) (fun n q hN => ⟨hN.2.2.2.2.1.cong (fun k hk => by rw [updR_row k (by omega), updR_row k (by omega)]) (by rw [updR_j (by decide), updR_k (by decide)]), ⟨0, by omega, ?_, ?_, fun k hk => absurd hk (Nat.not_lt_zero _)⟩, hN.2.2.2.2.2.2.cong (fun k hk => by rw [updR_row k (by omega), updR_row k (by omega)]) (by rw [updR_j (by decide), updR_k (by decide)])⟩)
      · rw [updR_k (by decide), updR_same]; rfl
      · rw [updR_same]; rfl
    · rw [b108_0, if_pos rfl]
    · rw [b212_0, if_pos rfl]
  have fullc : s = 10 → ∀ Q : Option Value → XW → Prop, wp X (d + 99) m96 0 [some (.ref 6), some (.int x1), some (.int x2)] [] (K0, R0, I, L) (fun r w1 => wp X (d + 100) m108 55 [some (.ref 0), none, none] (r.toList ++ []) w1 Q) ↔ Q (some (.int (-4))) (K0, R0, I, L) := by
    intro hf Q
    subst hf
    rw [s96_no rows_6 s1]
    simp only [Option.toList, List.cons_append, List.nil_append]
    rw [b108_55, if_pos rfl]
  have takec : s < 10 → ∀ Q : Option Value → XW → Prop, wp X (d + 99) m96 0 [some (.ref 6), some (.int x1), some (.int x2)] [] (K0, R0, I, L) (fun r w1 => wp X (d + 100) m108 55 [some (.ref 0), none, none] (r.toList ++ []) w1 Q) ↔ Q (some (.int (nI (s + 1)))) (K0, R0, updR (updR (updR I (6 + 1) s x1) (6 + 2) s x2) 6 2 (nI (s + 1)), L) := by
    intro hf Q
    rw [s96_ok rows_6 (by decide) s1 hf]
    simp only [Option.toList, List.cons_append, List.nil_append]
    rw [b108_55, if_neg (by decide), updR_same]
  have fullm : s = 10 → ∀ Q : Option Value → XW → Prop, wp X (d + 100) m212 35 [some (.ref 124), some (.int x1), some (.int x2)] [] (K0, R0, I, L) Q ↔ Q (some (.int (-4))) (K0, R0, I, L) := by
    intro hf Q
    subst hf
    rw [b212_35, s2, if_pos (by decide)]
  have takem : s < 10 → ∀ (J : Nat → Nat → Int32), J 124 34 = nI s → ∀ Q : Option Value → XW → Prop, wp X (d + 100) m212 35 [some (.ref 124), some (.int x1), some (.int x2)] [] (K0, R0, J, L) Q ↔ Q (some (.int (nI (s + 1)))) (K0, R0, updR (updR (updR J 146 s x1) 147 s (if x1 = 5 then 0 else x2)) 124 34 (nI (s + 1)), L) := by
    intro hf J hJ Q
    have ix : inA (nI s) 10 = true := inA_nI (by omega) (by decide)
    rw [b212_35, hJ, if_neg (show ¬ nI s = 10 from fun q => absurd ((nI_eq (b := 10) (by omega) (by decide)).mp q) (by omega)), and_iff_right ix, and_iff_right ix, and_iff_right ix, nI_clamp (by omega), nI_1]
    by_cases h5 : x1 = 5
    · rw [if_pos h5, if_pos h5]
    · rw [if_neg h5, if_neg h5]
  have hJ0 : ∀ j, updR (updR (updR I (6 + 1) s x1) (6 + 2) s x2) 6 2 (nI (s + 1)) 124 j = I 124 j := fun j => by rw [updR_k (by decide), updR_k (by decide), updR_k (by decide)]
  by_cases h5 : x1 = 5
  · by_cases hf : s = 10
    · refine ⟨.int (-4), I, L, I, L, hI, fun Q => ?_, fun Q => ?_⟩
      · rw [b108_0, if_neg hm, if_pos h5]
        exact fullc hf Q
      · rw [b212_0, if_neg hm, if_pos h5]
        exact fullm hf Q
    · refine ⟨.int (nI (s + 1)), updR (updR (updR I (6 + 1) s x1) (6 + 2) s x2) 6 2 (nI (s + 1)), L, _, L, eve_inv (b := x2) (c := if x1 = 5 then 0 else x2) hI hn e4 (show s < 10 by omega) s3 (Or.inl h5), fun Q => ?_, fun Q => ?_⟩
      · rw [b108_0, if_neg hm, if_pos h5]
        exact takec (by omega) Q
      · rw [b212_0, if_neg hm, if_pos h5]
        exact takem (by omega) _ ((hJ0 34).trans s2) Q
  rcases argC x1 hn with h | ⟨i, hi, rfl⟩
  · refine ⟨.int (-1), I, L, I, L, hI, fun Q => ?_, fun Q => ?_⟩
    · rw [b108_0, if_neg hm, if_neg h5, s17_no hn e1 h]
      simp only [Option.toList, List.cons_append, List.nil_append]
      rw [b108_31_1]
    · rw [b212_0, if_neg hm, if_neg h5, s145_no hn e4 h]
      simp only [Option.toList, List.cons_append, List.nil_append]
      rw [b212_22, if_pos rfl]
  have hc := cupK (i := i) (by omega)
  rcases num_cases x2 (n := 3) (by decide) with h | ⟨u, hu, rfl⟩
  · refine ⟨.int (-1), I, L, I, L, hI, fun Q => ?_, fun Q => ?_⟩
    · rw [b108_0, if_neg hm, if_neg h5, s17_ok hn e1 hi]
      simp only [Option.toList, List.cons_append, List.nil_append]
      rw [b108_31 hc, s18_no h]
      simp only [Option.toList, List.cons_append, List.nil_append]
      rw [b108_38, if_pos rfl]
    · rw [b212_0, if_neg hm, if_neg h5, s145_ok hn e4 hi]
      simp only [Option.toList, List.cons_append, List.nil_append]
      rw [b212_22, if_neg (by decide), s179_no h]
      simp only [Option.toList, List.cons_append, List.nil_append]
      rw [b212_30, if_pos rfl]
  have cls : ∀ Q : Option Value → XW → Prop, wp X (d + 100) m108 0 [some (.ref 0), some (.int (nI i)), some (.int (nI u))] [] (K0, R0, I, L) Q ↔ wp X (d + 99) m96 0 [some (.ref 6), some (.int (nI i)), some (.int (nI u))] [] (K0, R0, I, L) (fun r w1 => wp X (d + 100) m108 55 [some (.ref 0), none, none] (r.toList ++ []) w1 Q) := by
    intro Q
    rw [b108_0, if_neg hm, if_neg h5, s17_ok hn e1 hi]
    simp only [Option.toList, List.cons_append, List.nil_append]
    rw [b108_31 hc, s18_ok hu]
    simp only [Option.toList, List.cons_append, List.nil_append]
    rw [b108_38, if_neg (by decide)]
    try exact Iff.rfl
  have mdl : ∀ J : Nat → Nat → Int32, J 124 0 = nI n → ∀ Q : Option Value → XW → Prop, wp X (d + 100) m212 0 [some (.ref 124), some (.int (nI i)), some (.int (nI u))] [] (K0, R0, J, L) Q ↔ wp X (d + 100) m212 35 [some (.ref 124), some (.int (nI i)), some (.int (nI u))] [] (K0, R0, J, L) Q := by
    intro J hJ Q
    rw [b212_0, if_neg hm, if_neg h5, s145_ok hn hJ hi]
    simp only [Option.toList, List.cons_append, List.nil_append]
    rw [b212_22, if_neg (by decide), s179_ok hu]
    simp only [Option.toList, List.cons_append, List.nil_append]
    rw [b212_30, if_neg (by decide)]
    try exact Iff.rfl
  by_cases hf : s = 10
  · exact ⟨.int (-4), I, L, I, L, hI, fun Q => (cls Q).trans (fullc hf Q), fun Q => (mdl I e4 Q).trans (fullm hf Q)⟩
  · have key := takem (show s < 10 by omega) _ ((hJ0 34).trans s2)
    rw [if_neg h5] at key
    exact ⟨.int (nI (s + 1)), updR (updR (updR I (6 + 1) s (nI i)) (6 + 2) s (nI u)) 6 2 (nI (s + 1)), L, _, L, eve_inv hI hn e4 (show s < 10 by omega) s3 (Or.inr ⟨⟨i, hi, rfl⟩, rfl, u, hu, rfl⟩), fun Q => (cls Q).trans (takec (by omega) Q), fun Q => (mdl _ ((hJ0 0).trans e4) Q).trans (key Q)⟩
theorem ok_looked : Ok X d m113 m215 [some (.ref 0), none, none] [some (.ref 124), none] := by
  intro I L hI
  obtain ⟨n, t, z, k, wd, nb, mm, T, hN, hn, e1, e4, S⟩ := sit_view hI
  obtain ⟨k1, k2, k3, k4, k5, k6, ⟨s, hs, s1, s2, s3⟩⟩ := id hN
  have go : ∀ rem k, k + rem = s → ∃ r : Value, (∀ Q : Option Value → XW → Prop, wp X (d + 100) m113 2 [some (.ref 0), some (.int (nI k)), none] [] (K0, R0, I, L) Q ↔ Q (some r) (K0, R0, I, L)) ∧ ∀ Q : Option Value → XW → Prop, wp X (d + 100) m215 2 [some (.ref 124), some (.int (nI k))] [] (K0, R0, I, L) Q ↔ Q (some r) (K0, R0, I, L) := by
    intro rem
    induction rem with
    | zero =>
      intro k hk
      have e : k = s := by omega
      subst e
      refine ⟨.int (-5), fun Q => ?_, fun Q => ?_⟩
      · rw [b113_2, s1, if_neg (nI_nlt (Nat.le_refl _) (by omega))]
      · rw [b215_2, s2, if_neg (nI_nlt (Nat.le_refl _) (by omega))]
    | succ rem ih =>
      intro k hk
      obtain ⟨g1, g2, c, hc, g3⟩ := s3 k (by omega)
      have i8 : inA (nI k) 8 = true := inA_nI (by omega) (by decide)
      have i5 : inA (nI c) 5 = true := inA_nI (by omega) (by decide)
      have el : I (12 + 2 * c) 3 = I 127 c := (cupcells hN (i := c) (by omega)).1.1
      have g1' : I (9 + 1) k = nI c := g1.trans g3
      have cls : ∀ Q : Option Value → XW → Prop, wp X (d + 100) m113 2 [some (.ref 0), some (.int (nI k)), none] [] (K0, R0, I, L) Q ↔ (if I 127 c = I 149 k then wp X (d + 100) m113 2 [some (.ref 0), some (.int (nI (k + 1))), none] [] (K0, R0, I, L) Q else Q (some (.int (nI k))) (K0, R0, I, L)) := by
        intro Q
        rw [b113_2, s1, if_pos (nI_lt (by omega) (by omega)), s100_ok rows_9 (by decide) (by omega), g1']
        simp only [Option.toList, List.cons_append, List.nil_append]
        rw [b113_31, s17_ok hn e1 hc]
        simp only [Option.toList, List.cons_append, List.nil_append]
        rw [b113_34 (cupK (by omega)), s101_ok rows_9 (by decide) (by omega), g2]
        simp only [Option.toList, List.cons_append, List.nil_append]
        rw [b113_54, el, nI_1]
      have mdl : ∀ Q : Option Value → XW → Prop, wp X (d + 100) m215 2 [some (.ref 124), some (.int (nI k))] [] (K0, R0, I, L) Q ↔ (if I 127 c = I 149 k then wp X (d + 100) m215 2 [some (.ref 124), some (.int (nI (k + 1)))] [] (K0, R0, I, L) Q else Q (some (.int (nI k))) (K0, R0, I, L)) := by
        intro Q
        have g3' : I 148 k = nI c := g3
        rw [b215_2, s2, if_pos (nI_lt (by omega) (by omega)), and_iff_right i8, nI_clamp (show k < 2 ^ 31 by omega), g3', and_iff_right i5, and_iff_right i8, nI_clamp (show c < 2 ^ 31 by omega), nI_1]
      by_cases q : I 127 c = I 149 k
      · obtain ⟨r, r1, r2⟩ := ih (k + 1) (by omega)
        refine ⟨r, fun Q => ?_, fun Q => ?_⟩
        · rw [cls, if_pos q]; exact r1 Q
        · rw [mdl, if_pos q]; exact r2 Q
      · refine ⟨.int (nI k), fun Q => ?_, fun Q => ?_⟩
        · rw [cls, if_neg q]
        · rw [mdl, if_neg q]
  obtain ⟨r, r1, r2⟩ := go s 0 (by omega)
  refine ⟨r, I, L, I, L, hI, fun Q => ?_, fun Q => ?_⟩
  · rw [b113_0]; exact r1 Q
  · rw [b215_0]; exact r2 Q
end CALLS
