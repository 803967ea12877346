/-! Rows told by hand: see, evening, book, looked. -/
section CALLS
variable {X : Nat × (Nat → Int32)} {d : Nat} {I : Nat → Nat → Int32} {L : Nat → Nat → Int64} {Q : Option Value → XW → Prop}
theorem s96_no {r n : Nat} {x1 x2 : Int32} (hr : isRows r n) (hs : I r 2 = nI n) : wp X d m96 0 [some (.ref r), some (.int x1), some (.int x2)] [] (K0, R0, I, L) Q ↔ Q (some (.int 0)) (K0, R0, I, L) := by
  rw [b96_0 hr, hs]
  by_cases h : nI n < 0
  · rw [if_pos h]
  · rw [if_neg h, if_neg (show ¬ nI n < Int32.ofNat n from fun q => Int32.lt_irrefl q)]
theorem s96_ok {r n s : Nat} {x1 x2 : Int32} (hr : isRows r n) (hn : n < 2 ^ 31) (hs : I r 2 = nI s) (h : s < n) : wp X d m96 0 [some (.ref r), some (.int x1), some (.int x2)] [] (K0, R0, I, L) Q ↔ Q (some (.int 1)) (K0, R0, updR (updR (updR I (r + 1) s x1) (r + 2) s x2) r 2 (nI (s + 1)), L) := by
  have g : nI s < Int32.ofNat n := nI_lt h hn
  have ix : inA (nI s) n = true := inA_nI h hn
  rw [b96_0 hr, hs, if_neg (nI_pos (by omega)), if_pos g, if_pos g, and_iff_right ix, and_iff_right ix, nI_clamp (by omega), nI_1]
theorem s100_ok {r n k : Nat} (hr : isRows r n) (hn : n < 2 ^ 31) (h : k < n) : wp X d m100 0 [some (.ref r), some (.int (nI k))] [] (K0, R0, I, L) Q ↔ Q (some (.int (I (r + 1) k))) (K0, R0, I, L) := by
  rw [b100_0 hr, if_neg (nI_pos (by omega)), if_pos (show nI k < Int32.ofNat n from nI_lt h hn), and_iff_right (inA_nI h hn), nI_clamp (by omega)]
theorem s101_ok {r n k : Nat} (hr : isRows r n) (hn : n < 2 ^ 31) (h : k < n) : wp X d m101 0 [some (.ref r), some (.int (nI k))] [] (K0, R0, I, L) Q ↔ Q (some (.int (I (r + 2) k))) (K0, R0, I, L) := by
  rw [b101_0 hr, if_neg (nI_pos (by omega)), if_pos (show nI k < Int32.ofNat n from nI_lt h hn), and_iff_right (inA_nI h hn), nI_clamp (by omega)]
end CALLS
section CALLS
variable {X : Nat × (Nat → Int32)} {d : Nat}
theorem neg1_no {n : Nat} (hn : n ≤ 5) : ((-1 : Int32) < 0) ∨ nI n ≤ (-1 : Int32) := Or.inl (by decide)
theorem ok_see {x1 x2 : Int32} : Ok X d m95 m204 [some (.ref 0), some (.int x1), some (.int x2)] [some (.ref 124), some (.int x1), some (.int x2)] := by
  intro I L hI
  obtain ⟨n, t, z, k, wd, nb, mm, T, hN, hn, e1, e4, S⟩ := sit_view hI
  obtain ⟨k1, k2, k3, k4, ⟨s, hs, s1, s2, s3⟩, k6, k7⟩ := hN
  by_cases hm : x1 = -1
  · subst hm
    refine ⟨.int 0, updR I 3 2 0, L, updR (updR I 3 2 0) 124 31 0, L, ?_, fun Q => ?_, fun Q => ?_⟩
    · refine hI.rows (fun k h1 h2 h3 => by rw [updR_row k h3, updR_row k (by omega)]) (fun j h1 h2 h3 => by rw [updR_j h1, updR_k (by decide)]) (fun n q hN => ⟨⟨0, by omega, ?_, ?_, fun k hk => absurd hk (Nat.not_lt_zero _)⟩, hN.2.2.2.2.2.1.cong (fun k hk => by rw [updR_row k (by omega), updR_row k (by omega)]) (by rw [updR_j (by decide), updR_k (by decide)]), hN.2.2.2.2.2.2.cong (fun k hk => by rw [updR_row k (by omega), updR_row k (by omega)]) (by rw [updR_j (by decide), updR_k (by decide)])⟩)
      · rw [updR_k (by decide), updR_same]; rfl
      · rw [updR_same]; rfl
    · rw [b95_0, if_pos rfl]
    · rw [b204_0, if_pos rfl]
  rcases num_cases x1 (n := 3) (by decide) with h | ⟨w, hw, rfl⟩
  · refine ⟨.int (-1), I, L, I, L, hI, fun Q => ?_, fun Q => ?_⟩
    · rw [b95_0, if_neg hm, s18_no h]
      simp only [Option.toList, List.cons_append, List.nil_append]
      rw [b95_22, if_pos rfl]
    · rw [b204_0, if_neg hm, s179_no h]
      simp only [Option.toList, List.cons_append, List.nil_append]
      rw [b204_17, if_pos rfl]
  rcases num_cases x2 (n := 4095) (by decide) with h | ⟨u, hu, rfl⟩
  · refine ⟨.int (-2), I, L, I, L, hI, fun Q => ?_, fun Q => ?_⟩
    · rw [b95_0, if_neg hm, s18_ok hw]
      simp only [Option.toList, List.cons_append, List.nil_append]
      rw [b95_22, if_neg (by decide), s12_no h]
      simp only [Option.toList, List.cons_append, List.nil_append]
      rw [b95_31, if_pos rfl]
    · rw [b204_0, if_neg hm, s179_ok hw]
      simp only [Option.toList, List.cons_append, List.nil_append]
      rw [b204_17, if_neg (by decide), s143_no h]
      simp only [Option.toList, List.cons_append, List.nil_append]
      rw [b204_27, if_pos rfl]
  by_cases hf : s = 5
  · subst hf
    refine ⟨.int (-4), I, L, I, L, hI, fun Q => ?_, fun Q => ?_⟩
    · rw [b95_0, if_neg hm, s18_ok hw]
      simp only [Option.toList, List.cons_append, List.nil_append]
      rw [b95_22, if_neg (by decide), s12_ok hu]
      simp only [Option.toList, List.cons_append, List.nil_append]
      rw [b95_31, if_neg (by decide), s96_no rows_3 s1]
      simp only [Option.toList, List.cons_append, List.nil_append]
      rw [b95_49, if_pos rfl]
    · rw [b204_0, if_neg hm, s179_ok hw]
      simp only [Option.toList, List.cons_append, List.nil_append]
      rw [b204_17, if_neg (by decide), s143_ok hu]
      simp only [Option.toList, List.cons_append, List.nil_append]
      rw [b204_27, if_neg (by decide), s2, if_pos (by decide)]
  have ix : inA (nI s) 5 = true := inA_nI (by omega) (by decide)
  refine ⟨.int (nI (s + 1)), updR (updR (updR I (3 + 1) s (nI w)) (3 + 2) s (nI u)) 3 2 (nI (s + 1)), L, updR (updR (updR (updR (updR (updR I (3 + 1) s (nI w)) (3 + 2) s (nI u)) 3 2 (nI (s + 1))) 144 s (nI w)) 145 s (nI u)) 124 31 (nI (s + 1)), L, ?_, fun Q => ?_, fun Q => ?_⟩
  · refine hI.rows (fun k h1 h2 h3 => by rw [updR_row k h3, updR_row k (by omega), updR_row k (by omega), updR_row k (by omega), updR_row k (by omega), updR_row k (by omega)]) (fun j h1 h2 h3 => by rw [updR_j h1, updR_k (by decide), updR_k (by decide), updR_k (by decide), updR_k (by decide), updR_k (by decide)]) (fun n q hN => ⟨⟨s + 1, by omega, ?_, ?_, fun k hk => ?_⟩, hN.2.2.2.2.2.1.cong (fun k hk => by rw [updR_row k (by omega), updR_row k (by omega), updR_row k (by omega), updR_row k (by omega), updR_row k (by omega), updR_row k (by omega)]) (by rw [updR_j (by decide), updR_k (by decide), updR_k (by decide), updR_k (by decide), updR_k (by decide), updR_k (by decide)]), hN.2.2.2.2.2.2.cong (fun k hk => by rw [updR_row k (by omega), updR_row k (by omega), updR_row k (by omega), updR_row k (by omega), updR_row k (by omega), updR_row k (by omega)]) (by rw [updR_j (by decide), updR_k (by decide), updR_k (by decide), updR_k (by decide), updR_k (by decide), updR_k (by decide)])⟩)
    · rw [updR_k (by decide), updR_k (by decide), updR_k (by decide), updR_same]
    · rw [updR_same]
    · by_cases hks : k = s
      · subst hks
        refine ⟨?_, ?_, ⟨w, hw, ?_⟩, u, hu, ?_⟩
        · rw [updR_k (by decide), updR_k (by decide), updR_k (by decide), updR_k (by decide), updR_k (by decide), updR_same, updR_k (by decide), updR_k (by decide), updR_same]
        · rw [updR_k (by decide), updR_k (by decide), updR_k (by decide), updR_k (by decide), updR_same, updR_k (by decide), updR_same]
        · rw [updR_k (by decide), updR_k (by decide), updR_same]
        · rw [updR_k (by decide), updR_same]
      · have g : ∀ q, q = 4 ∨ q = 5 ∨ q = 144 ∨ q = 145 → updR (updR (updR (updR (updR (updR I (3 + 1) s (nI w)) (3 + 2) s (nI u)) 3 2 (nI (s + 1))) 144 s (nI w)) 145 s (nI u)) 124 31 (nI (s + 1)) q k = I q k := fun q hq => by
          rw [updR_k (by omega), updR_j hks, updR_j hks, updR_k (by omega), updR_j hks, updR_j hks]
        rw [g (3 + 1) (by omega), g (3 + 2) (by omega), g 144 (by omega), g (144 + 1) (by omega)]
        exact s3 k (by omega)
  · rw [b95_0, if_neg hm, s18_ok hw]
    simp only [Option.toList, List.cons_append, List.nil_append]
    rw [b95_22, if_neg (by decide), s12_ok hu]
    simp only [Option.toList, List.cons_append, List.nil_append]
    rw [b95_31, if_neg (by decide), s96_ok rows_3 (by decide) s1 (by omega)]
    simp only [Option.toList, List.cons_append, List.nil_append]
    rw [b95_49, if_neg (by decide), updR_same]
  · rw [b204_0, if_neg hm, s179_ok hw]
    simp only [Option.toList, List.cons_append, List.nil_append]
    rw [b204_17, if_neg (by decide), s143_ok hu]
    simp only [Option.toList, List.cons_append, List.nil_append]
    rw [b204_27, if_neg (by decide), updR_k (by decide), updR_k (by decide), updR_k (by decide), s2, if_neg (show ¬ nI s = 5 from fun q => hf ((nI_eq (b := 5) (by omega) (by decide)).mp q)), and_iff_right ix, and_iff_right ix, nI_clamp (by omega), nI_1]
theorem ok_book {x1 x2 : Int32} : Ok X d m112 m214 [some (.ref 0), some (.int x1), some (.int x2)] [some (.ref 124), some (.int x1), some (.int x2)] := by
  intro I L hI
  obtain ⟨n, t, z, k, wd, nb, mm, T, hN, hn, e1, e4, S⟩ := sit_view hI
  obtain ⟨k1, k2, k3, k4, k5, k6, ⟨s, hs, s1, s2, s3⟩⟩ := hN
  by_cases hm : x1 = -1
  · subst hm
    refine ⟨.int 0, updR I 9 2 0, L, updR (updR I 9 2 0) 124 35 0, L, ?_, fun Q => ?_, fun Q => ?_⟩
    · refine hI.rows (fun k h1 h2 h3 => by rw [updR_row k h3, updR_row k (by omega)]) (fun j h1 h2 h3 => by rw [updR_j h3, updR_k (by decide)]) (fun n q hN => ⟨hN.2.2.2.2.1.cong (fun k hk => by rw [updR_row k (by omega), updR_row k (by omega)]) (by rw [updR_j (by decide), updR_k (by decide)]), hN.2.2.2.2.2.1.cong (fun k hk => by rw [updR_row k (by omega), updR_row k (by omega)]) (by rw [updR_j (by decide), updR_k (by decide)]), ⟨0, by omega, ?_, ?_, fun k hk => absurd hk (Nat.not_lt_zero _)⟩⟩)
      · rw [updR_k (by decide), updR_same]; rfl
      · rw [updR_same]; rfl
    · rw [b112_0, if_pos rfl]
    · rw [b214_0, if_pos rfl]
  rcases argC x1 hn with h | ⟨i, hi, rfl⟩
  · refine ⟨.int (-1), I, L, I, L, hI, fun Q => ?_, fun Q => ?_⟩
    · rw [b112_0, if_neg hm, s17_no hn e1 h]
      simp only [Option.toList, List.cons_append, List.nil_append]
      rw [b112_26_1]
    · rw [b214_0, if_neg hm, s145_no hn e4 h]
      simp only [Option.toList, List.cons_append, List.nil_append]
      rw [b214_17, if_pos rfl]
  have hc := cupK (i := i) (by omega)
  rcases num_cases x2 (n := 4095) (by decide) with h | ⟨u, hu, rfl⟩
  · refine ⟨.int (-2), I, L, I, L, hI, fun Q => ?_, fun Q => ?_⟩
    · rw [b112_0, if_neg hm, s17_ok hn e1 hi]
      simp only [Option.toList, List.cons_append, List.nil_append]
      rw [b112_26 hc, s12_no h]
      simp only [Option.toList, List.cons_append, List.nil_append]
      rw [b112_35, if_pos rfl]
    · rw [b214_0, if_neg hm, s145_ok hn e4 hi]
      simp only [Option.toList, List.cons_append, List.nil_append]
      rw [b214_17, if_neg (by decide), s143_no h]
      simp only [Option.toList, List.cons_append, List.nil_append]
      rw [b214_27, if_pos rfl]
  by_cases hf : s = 8
  · subst hf
    refine ⟨.int (-4), I, L, I, L, hI, fun Q => ?_, fun Q => ?_⟩
    · rw [b112_0, if_neg hm, s17_ok hn e1 hi]
      simp only [Option.toList, List.cons_append, List.nil_append]
      rw [b112_26 hc, s12_ok hu]
      simp only [Option.toList, List.cons_append, List.nil_append]
      rw [b112_35, if_neg (by decide), s96_no rows_9 s1]
      simp only [Option.toList, List.cons_append, List.nil_append]
      rw [b112_53, if_pos rfl]
    · rw [b214_0, if_neg hm, s145_ok hn e4 hi]
      simp only [Option.toList, List.cons_append, List.nil_append]
      rw [b214_17, if_neg (by decide), s143_ok hu]
      simp only [Option.toList, List.cons_append, List.nil_append]
      rw [b214_27, if_neg (by decide), s2, if_pos (by decide)]
  have ix : inA (nI s) 8 = true := inA_nI (by omega) (by decide)
  refine ⟨.int (nI (s + 1)), updR (updR (updR I (9 + 1) s (nI i)) (9 + 2) s (nI u)) 9 2 (nI (s + 1)), L, updR (updR (updR (updR (updR (updR I (9 + 1) s (nI i)) (9 + 2) s (nI u)) 9 2 (nI (s + 1))) 148 s (nI i)) 149 s (nI u)) 124 35 (nI (s + 1)), L, ?_, fun Q => ?_, fun Q => ?_⟩
  · refine hI.rows (fun k h1 h2 h3 => by rw [updR_row k h3, updR_row k (by omega), updR_row k (by omega), updR_row k (by omega), updR_row k (by omega), updR_row k (by omega)]) (fun j h1 h2 h3 => by rw [updR_j h3, updR_k (by decide), updR_k (by decide), updR_k (by decide), updR_k (by decide), updR_k (by decide)]) (fun n' q hN => ⟨hN.2.2.2.2.1.cong (fun k hk => by rw [updR_row k (by omega), updR_row k (by omega), updR_row k (by omega), updR_row k (by omega), updR_row k (by omega), updR_row k (by omega)]) (by rw [updR_j (by decide), updR_k (by decide), updR_k (by decide), updR_k (by decide), updR_k (by decide), updR_k (by decide)]), hN.2.2.2.2.2.1.cong (fun k hk => by rw [updR_row k (by omega), updR_row k (by omega), updR_row k (by omega), updR_row k (by omega), updR_row k (by omega), updR_row k (by omega)]) (by rw [updR_j (by decide), updR_k (by decide), updR_k (by decide), updR_k (by decide), updR_k (by decide), updR_k (by decide)]), ⟨s + 1, by omega, ?_, ?_, fun k hk => ?_⟩⟩)
    · rw [updR_k (by decide), updR_k (by decide), updR_k (by decide), updR_same]
    · rw [updR_same]
    · have en : n = n' := (nI_eq (by omega) (by have := hN.1.1; omega)).mp (e4.symm.trans hN.1.2.2.2.1)
      by_cases hks : k = s
      · subst hks
        refine ⟨?_, ?_, i, by omega, ?_⟩
        · rw [updR_k (by decide), updR_k (by decide), updR_k (by decide), updR_k (by decide), updR_k (by decide), updR_same, updR_k (by decide), updR_k (by decide), updR_same]
        · rw [updR_k (by decide), updR_k (by decide), updR_k (by decide), updR_k (by decide), updR_same, updR_k (by decide), updR_same]
        · rw [updR_k (by decide), updR_k (by decide), updR_same]
      · have g : ∀ q, q = 10 ∨ q = 11 ∨ q = 148 ∨ q = 149 → updR (updR (updR (updR (updR (updR I (9 + 1) s (nI i)) (9 + 2) s (nI u)) 9 2 (nI (s + 1))) 148 s (nI i)) 149 s (nI u)) 124 35 (nI (s + 1)) q k = I q k := fun q hq => by
          rw [updR_k (by omega), updR_j hks, updR_j hks, updR_k (by omega), updR_j hks, updR_j hks]
        rw [g (9 + 1) (by omega), g (9 + 2) (by omega), g 148 (by omega), g (148 + 1) (by omega), ← en]
        exact s3 k (by omega)
  · rw [b112_0, if_neg hm, s17_ok hn e1 hi]
    simp only [Option.toList, List.cons_append, List.nil_append]
    rw [b112_26 hc, s12_ok hu]
    simp only [Option.toList, List.cons_append, List.nil_append]
    rw [b112_35, if_neg (by decide), s96_ok rows_9 (by decide) s1 (by omega)]
    simp only [Option.toList, List.cons_append, List.nil_append]
    rw [b112_53, if_neg (by decide), updR_same]
  · rw [b214_0, if_neg hm, s145_ok hn (by rw [updR_k (by decide), updR_k (by decide), updR_k (by decide)]; exact e4) hi]
    simp only [Option.toList, List.cons_append, List.nil_append]
    rw [b214_17, if_neg (by decide), s143_ok hu]
    simp only [Option.toList, List.cons_append, List.nil_append]
    rw [b214_27, if_neg (by decide), updR_k (by decide), updR_k (by decide), updR_k (by decide), s2, if_neg (show ¬ nI s = 8 from fun q => hf ((nI_eq (b := 8) (by omega) (by decide)).mp q)), and_iff_right ix, and_iff_right ix, nI_clamp (by omega), nI_1]
end CALLS
