/-! What keeps all, part by part; line, feed. -/
theorem Inv.rows {I J : Nat → Nat → Int32} {L : Nat → Nat → Int64} (h : Inv I L) (e : ∀ k, ¬(3 ≤ k ∧ k ≤ 11) → ¬(144 ≤ k ∧ k ≤ 149) → k ≠ 124 → J k = I k) (e4 : ∀ j, j ≠ 31 → j ≠ 34 → j ≠ 35 → J 124 j = I 124 j) (hd : ∀ n q, NowI I n q → SeenI J 3 144 31 ∧ EveI J 6 146 34 n ∧ BookI J 9 148 35 n) : Inv J L := by
  obtain ⟨n, q, n', q', c, h1, h2, h3, h4, h5, h6, h7, h8, h9, h10⟩ := h
  obtain ⟨g5, g6, g7⟩ := hd n q h1
  obtain ⟨k1, k2, k3, k4, k5, k6, k7⟩ := h1
  refine ⟨n, q, n', q', c, ⟨?_, k2.cong k1.1 (fun k hk => by rw [e k (by omega) (by omega) (by omega)]), k3.cong (fun k hk => e k (by omega) (by omega) (by omega)), k4.cong (fun k hk => e k (by omega) (by omega) (by omega)), g5, g6, g7⟩, h2.cong (fun k hk => e k (by omega) (by omega) (by omega)) (fun f hf => e4 f (by omega) (by omega) (by omega)), h3.cong (e4 9 (by decide) (by decide) (by decide)), h4.cong (e4 41 (by decide) (by decide) (by decide)), h5.cong (by rw [e 0 (by omega) (by omega) (by omega)]) (e4 40 (by decide) (by decide) (by decide)), h6.cong (fun k hk => e k (by omega) (by omega) (by omega)) (by rw [e 0 (by omega) (by omega) (by omega)]) (e4 8 (by decide) (by decide) (by decide)), h7.cong (by rw [e 64 (by omega) (by omega) (by omega)]) (e 65 (by omega) (by omega) (by omega)) (e4 10 (by decide) (by decide) (by decide)) (e 131 (by omega) (by omega) (by omega)), h8.cong (by rw [e 79 (by omega) (by omega) (by omega)]) (e 80 (by omega) (by omega) (by omega)) (e4 59 (by decide) (by decide) (by decide)) (e 162 (by omega) (by omega) (by omega)), h9.cong (fun k hk => e k (by omega) (by omega) (by omega)), h10.cong (e4 26 (by decide) (by decide) (by decide)) (e 139 (by omega) (by omega) (by omega)) (e 67 (by omega) (by omega) (by omega))⟩
  rw [e 1 (by omega) (by omega) (by omega), e4 0 (by decide) (by decide) (by decide), e4 1 (by decide) (by decide) (by decide), e4 9 (by decide) (by decide) (by decide)]
  exact k1
theorem Inv.text {I J : Nat → Nat → Int32} {L : Nat → Nat → Int64} (h : Inv I L) (e : ∀ k, k ≠ 64 → k ≠ 65 → k ≠ 131 → k ≠ 124 → J k = I k) (e4 : ∀ j, j ≠ 10 → J 124 j = I 124 j) (hd : TextI I → TextI J) : Inv J L := by
  obtain ⟨n, q, n', q', c, h1, h2, h3, h4, h5, h6, h7, h8, h9, h10⟩ := h
  exact ⟨n, q, n', q', c, h1.cong (fun k hk => e k (by omega) (by omega) (by omega) (by omega)) (fun f hf => e4 f (by omega)), h2.cong (fun k hk => e k (by omega) (by omega) (by omega) (by omega)) (fun f hf => e4 f (by omega)), h3.cong (e4 9 (by decide)), h4.cong (e4 41 (by decide)), h5.cong (by rw [e 0 (by omega) (by omega) (by omega) (by omega)]) (e4 40 (by decide)), h6.cong (fun k hk => e k (by omega) (by omega) (by omega) (by omega)) (by rw [e 0 (by omega) (by omega) (by omega) (by omega)]) (e4 8 (by decide)), hd h7, h8.cong (by rw [e 79 (by omega) (by omega) (by omega) (by omega)]) (e 80 (by omega) (by omega) (by omega) (by omega)) (e4 59 (by decide)) (e 162 (by omega) (by omega) (by omega) (by omega)), h9.cong (fun k hk => e k (by omega) (by omega) (by omega) (by omega)), h10.cong (e4 26 (by decide)) (e 139 (by omega) (by omega) (by omega) (by omega)) (e 67 (by omega) (by omega) (by omega) (by omega))⟩
theorem Inv.acts {I J : Nat → Nat → Int32} {L : Nat → Nat → Int64} (h : Inv I L) (e : ∀ k, k ≠ 79 → k ≠ 80 → k ≠ 162 → k ≠ 124 → J k = I k) (e4 : ∀ j, j ≠ 59 → J 124 j = I 124 j) (hd : ActsI J) : Inv J L := by
  obtain ⟨n, q, n', q', c, h1, h2, h3, h4, h5, h6, h7, h8, h9, h10⟩ := h
  exact ⟨n, q, n', q', c, h1.cong (fun k hk => e k (by omega) (by omega) (by omega) (by omega)) (fun f hf => e4 f (by omega)), h2.cong (fun k hk => e k (by omega) (by omega) (by omega) (by omega)) (fun f hf => e4 f (by omega)), h3.cong (e4 9 (by decide)), h4.cong (e4 41 (by decide)), h5.cong (by rw [e 0 (by omega) (by omega) (by omega) (by omega)]) (e4 40 (by decide)), h6.cong (fun k hk => e k (by omega) (by omega) (by omega) (by omega)) (by rw [e 0 (by omega) (by omega) (by omega) (by omega)]) (e4 8 (by decide)), h7.cong (by rw [e 64 (by omega) (by omega) (by omega) (by omega)]) (e 65 (by omega) (by omega) (by omega) (by omega)) (e4 10 (by decide)) (e 131 (by omega) (by omega) (by omega) (by omega)), hd, h9.cong (fun k hk => e k (by omega) (by omega) (by omega) (by omega)), h10.cong (e4 26 (by decide)) (e 139 (by omega) (by omega) (by omega) (by omega)) (e 67 (by omega) (by omega) (by omega) (by omega))⟩
theorem Inv.tapes {I J : Nat → Nat → Int32} {L M : Nat → Nat → Int64} (h : Inv I L) (e : ∀ k, ¬(112 ≤ k ∧ k ≤ 123) → k ≠ 163 → k ≠ 164 → J k = I k) (hd : TapesI I L → TapesI J M) : Inv J M := by
  obtain ⟨n, q, n', q', c, h1, h2, h3, h4, h5, h6, h7, h8, h9, h10⟩ := h
  have e4 : J 124 = I 124 := e 124 (by omega) (by omega) (by omega)
  exact ⟨n, q, n', q', c, h1.cong (fun k hk => e k (by omega) (by omega) (by omega)) (fun f hf => by rw [e4]), h2.cong (fun k hk => e k (by omega) (by omega) (by omega)) (fun f hf => by rw [e4]), h3.cong (by rw [e4]), h4.cong (by rw [e4]), h5.cong (by rw [e 0 (by omega) (by omega) (by omega)]) (by rw [e4]), h6.cong (fun k hk => e k (by omega) (by omega) (by omega)) (by rw [e 0 (by omega) (by omega) (by omega)]) (by rw [e4]), h7.cong (by rw [e 64 (by omega) (by omega) (by omega)]) (e 65 (by omega) (by omega) (by omega)) (by rw [e4]) (e 131 (by omega) (by omega) (by omega)), h8.cong (by rw [e 79 (by omega) (by omega) (by omega)]) (e 80 (by omega) (by omega) (by omega)) (by rw [e4]) (e 162 (by omega) (by omega) (by omega)), hd h9, h10.cong (by rw [e4]) (e 139 (by omega) (by omega) (by omega)) (e 67 (by omega) (by omega) (by omega))⟩
section CALLS
variable {X : Nat × (Nat → Int32)} {d : Nat}
theorem ok_line {x1 x2 x3 : Int32} : Ok X d m36 m146 [some (.ref 0), some (.int x1), some (.int x2), some (.int x3), none, none] [some (.ref 124), some (.int x1), some (.int x2), some (.int x3), none] := by
  intro I L hI
  obtain ⟨n, t, z, k, wd, nb, mm, T, hN, hn, e1, e4, S⟩ := sit_view hI
  rcases argC x1 hn with h | ⟨i, hi, rfl⟩
  · refine ⟨.int (-1), I, L, I, L, hI, fun Q => ?_, fun Q => ?_⟩
    · simp only [b36_0, s17_no hn e1 h, b36_8_1, Option.toList, List.cons_append, List.nil_append]
    · simp only [b146_0, s145_no hn e4 h, b146_5, if_true, Option.toList, List.cons_append, List.nil_append]
  have h5 : i < 5 := by omega
  have hc := cupK h5
  have ix : inA (nI i) 5 = true := inA_nI h5 (by decide)
  have hcl : (nI i).toNatClampNeg = i := nI_clamp (by omega)
  obtain ⟨⟨c3, c4, c5, c6⟩, g3, g4, g5, g6⟩ := cupcells hN h5
  have ck : I (12 + 2 * i) 1 = I 125 i := (hN.2.2.1 i h5).1
  rcases num_cases x2 (n := 3) (by decide) with h2 | ⟨p, hp, rfl⟩
  · refine ⟨.int (-1), I, L, I, L, hI, fun Q => ?_, fun Q => ?_⟩
    · rw [b36_0, s17_ok hn e1 hi]
      simp only [Option.toList, List.cons_append, List.nil_append]
      rw [b36_8 hc]
      rcases h2 with h2 | h2
      · rw [if_pos h2]
      · rw [if_neg (nlt0 (n := 3) (by decide) h2), if_neg (show ¬ x2 < (4 : Int32) from fun q => by
          have a := (lt_l (n := 3) (by decide)).mp h2
          have b := (lt_r (n := 4) (by decide)).mp q
          omega)]
    · rw [b146_0, s145_ok hn e4 hi]
      simp only [Option.toList, List.cons_append, List.nil_append]
      rw [b146_5, if_neg (by decide), s142_no (show x2 < 0 ∨ 3 < x2 from h2)]
      simp only [Option.toList, List.cons_append, List.nil_append]
      rw [b146_15, if_pos rfl]
  have i4 : inA (nI p) 4 = true := inA_nI (by omega) (by decide)
  have hcp : (nI p).toNatClampNeg = p := nI_clamp (by omega)
  have e20 : (4 : Int32) * nI i + nI p = nI (4 * i + p) := by rw [show (4 : Int32) * nI i = nI (4 * i) from nI_mul 4 i, nI_add]
  have i20 : inA (nI (4 * i + p)) 20 = true := inA_nI (by omega) (by decide)
  have hc20 : (nI (4 * i + p)).toNatClampNeg = 4 * i + p := nI_clamp (by omega)
  rcases num_cases x3 (n := 9) (by decide) with h3 | ⟨u, hu, rfl⟩
  · refine ⟨.int (-2), I, L, I, L, hI, fun Q => ?_, fun Q => ?_⟩
    · rw [b36_0, s17_ok hn e1 hi]
      simp only [Option.toList, List.cons_append, List.nil_append]
      rw [b36_8 hc, if_neg (nI_pos (by omega)), if_pos (show nI p < (4 : Int32) from nI_lt (b := 4) (by omega) (by decide)), s11_no h3]
      simp only [Option.toList, List.cons_append, List.nil_append]
      rw [b36_30 hc, if_pos rfl]
    · rw [b146_0, s145_ok hn e4 hi]
      simp only [Option.toList, List.cons_append, List.nil_append]
      rw [b146_5, if_neg (by decide)]
      refine (s142_nI (n := 3) hp (by decide)).trans ?_
      simp only [Option.toList, List.cons_append, List.nil_append]
      rw [b146_15, if_neg (by decide), s142_no (show x3 < 0 ∨ 9 < x3 from h3)]
      simp only [Option.toList, List.cons_append, List.nil_append]
      rw [b146_28, if_pos rfl]
  by_cases hk : I 125 i = 6
  · refine ⟨.int (I 130 (4 * i + p)), updR I (12 + 2 * i + 1) p (nI u), L, updR (updR I (12 + 2 * i + 1) p (nI u)) 130 (4 * i + p) (nI u), L, ?_, fun Q => ?_, fun Q => ?_⟩
    · refine hI.cup1 h5 (fun k k1 k2 k3 k4 k5 => by rw [updR_row k (by omega), updR_row k k2]) (fun j hj => by rw [updR_k (by decide), updR_k (by omega)]) ⟨?_, ?_, ?_⟩ ⟨?_, ?_, ?_, fun b hb => ?_⟩ ⟨?_, ?_, ?_, fun b hb => ?_⟩ (fun j hj => ⟨?_, ?_, ?_, fun b hb => ?_⟩)
      · rw [updR_k (by omega), updR_k (by omega)]
      · rw [updR_k (by omega), updR_k (by omega)]
      · rw [updR_k (by omega), updR_k (by omega)]
      · rw [updR_k (by omega), updR_k (by omega), updR_k (by decide), updR_k (by omega)]; exact c3
      · rw [updR_k (by omega), updR_k (by omega), updR_k (by decide), updR_k (by omega)]; exact c4
      · rw [updR_k (by omega), updR_k (by omega), updR_k (by decide), updR_k (by omega)]; exact c5
      · rw [updR_k (by omega)]
        by_cases hb2 : b = p
        · subst hb2; rw [updR_same, updR_same]
        · rw [updR_j hb2, updR_j (by omega), updR_k (by omega)]; exact c6 b hb
      · rw [updR_k (by decide), updR_k (by omega)]; exact g3
      · rw [updR_k (by decide), updR_k (by omega)]; exact g4
      · rw [updR_k (by decide), updR_k (by omega)]; exact g5
      · by_cases hb2 : b = p
        · subst hb2; rw [updR_same]; exact ⟨u, hu, rfl⟩
        · rw [updR_j (by omega), updR_k (by omega)]; exact g6 b hb
      · rw [updR_k (by decide), updR_k (by omega)]
      · rw [updR_k (by decide), updR_k (by omega)]
      · rw [updR_k (by decide), updR_k (by omega)]
      · rw [updR_j (by omega), updR_k (by omega)]
    · rw [b36_0, s17_ok hn e1 hi]
      simp only [Option.toList, List.cons_append, List.nil_append]
      rw [b36_8 hc, if_neg (nI_pos (by omega)), if_pos (show nI p < (4 : Int32) from nI_lt (b := 4) (by omega) (by decide)), s11_ok hu]
      simp only [Option.toList, List.cons_append, List.nil_append]
      rw [b36_30 hc, if_neg (by decide), if_pos (ck.trans hk), b34_0 hc, if_neg (nI_pos (by omega)), if_pos (show nI p < (4 : Int32) from nI_lt (b := 4) (by omega) (by decide)), and_iff_right i4, hcp]
      simp only [Option.toList, List.cons_append, List.nil_append]
      rw [b36_55 hc, b37_0 hc, if_neg (nI_pos (by omega)), if_pos (show nI p < (4 : Int32) from nI_lt (b := 4) (by omega) (by decide)), and_iff_right i4, hcp]
      simp only [Option.toList, List.cons_append, List.nil_append]
      rw [b36_64, c6 p (by omega)]
    · rw [b146_0, s145_ok hn (by rw [updR_k (by omega)]; exact e4) hi]
      simp only [Option.toList, List.cons_append, List.nil_append]
      rw [b146_5, if_neg (by decide)]
      refine (s142_nI (n := 3) hp (by decide)).trans ?_
      simp only [Option.toList, List.cons_append, List.nil_append]
      rw [b146_15, if_neg (by decide)]
      refine (s142_nI (n := 9) hu (by decide)).trans ?_
      simp only [Option.toList, List.cons_append, List.nil_append]
      rw [b146_28, if_neg (by decide), and_iff_right ix, hcl, updR_k (by omega), if_pos hk, e20, and_iff_right i20, and_iff_right i20, hc20, updR_k (by omega)]
  · refine ⟨.int (-3), I, L, I, L, hI, fun Q => ?_, fun Q => ?_⟩
    · rw [b36_0, s17_ok hn e1 hi]
      simp only [Option.toList, List.cons_append, List.nil_append]
      rw [b36_8 hc, if_neg (nI_pos (by omega)), if_pos (show nI p < (4 : Int32) from nI_lt (b := 4) (by omega) (by decide)), s11_ok hu]
      simp only [Option.toList, List.cons_append, List.nil_append]
      rw [b36_30 hc, if_neg (by decide), if_neg (fun q => hk (ck.symm.trans q))]
    · rw [b146_0, s145_ok hn e4 hi]
      simp only [Option.toList, List.cons_append, List.nil_append]
      rw [b146_5, if_neg (by decide)]
      refine (s142_nI (n := 3) hp (by decide)).trans ?_
      simp only [Option.toList, List.cons_append, List.nil_append]
      rw [b146_15, if_neg (by decide)]
      refine (s142_nI (n := 9) hu (by decide)).trans ?_
      simp only [Option.toList, List.cons_append, List.nil_append]
      rw [b146_28, if_neg (by decide), and_iff_right ix, hcl, if_neg hk]
theorem text_view {I : Nat → Nat → Int32} {L : Nat → Nat → Int64} (h : Inv I L) : TextI I := by
  obtain ⟨n, q, n', q', c, h1, h2, h3, h4, h5, h6, h7, -⟩ := h
  exact h7
theorem ok_feed {x1 : Int32} : Ok X d m38 m147 [some (.ref 0), some (.int x1)] [some (.ref 124), some (.int x1)] := by
  intro I L hI
  rcases num_cases x1 (n := 127) (by decide) with h | ⟨u, hu, rfl⟩
  · refine ⟨.int (-2), I, L, I, L, hI, fun Q => ?_, fun Q => ?_⟩
    · rw [b38_0]
      rcases h with h | h
      · rw [if_pos h]
      · rw [if_neg (nlt0 (n := 127) (by decide) h), if_neg (show ¬ x1 < (128 : Int32) from fun q => by
          have a := (lt_l (n := 127) (by decide)).mp h
          have b := (lt_r (n := 128) (by decide)).mp q
          omega)]
    · rw [b147_0, s142_no (show x1 < 0 ∨ 127 < x1 from h)]
      simp only [Option.toList, List.cons_append, List.nil_append]
      rw [b147_8, if_pos rfl]
  obtain ⟨s, hs, t1, t2, t3⟩ := text_view hI
  have hlt : nI u < (128 : Int32) := nI_lt (b := 128) (by omega) (by decide)
  by_cases hf : s = 100
  · subst hf
    refine ⟨.int (-4), I, L, I, L, hI, fun Q => ?_, fun Q => ?_⟩
    · rw [b38_0, if_neg (nI_pos (by omega)), if_pos hlt, b39_0, t1, if_neg (by decide), if_neg (by decide)]
      simp only [Option.toList, List.cons_append, List.nil_append]
      rw [b38_22, if_pos rfl]
    · rw [b147_0]
      refine (s142_nI (n := 127) hu (by decide)).trans ?_
      simp only [Option.toList, List.cons_append, List.nil_append]
      rw [b147_8, if_neg (by decide), t2, if_pos (by decide)]
  · have ix : inA (nI s) 100 = true := inA_nI (by omega) (by decide)
    have hcl : (nI s).toNatClampNeg = s := nI_clamp (by omega)
    refine ⟨.int (nI (s + 1)), updR (updR I 65 s (nI u)) 64 1 (nI (s + 1)), L, updR (updR (updR (updR I 65 s (nI u)) 64 1 (nI (s + 1))) 131 s (nI u)) 124 10 (nI (s + 1)), L, ?_, fun Q => ?_, fun Q => ?_⟩
    · refine hI.text (fun k k1 k2 k3 k4 => by rw [updR_row k k4, updR_row k k3, updR_row k k1, updR_row k k2]) (fun j hj => by rw [updR_j hj, updR_k (by decide), updR_k (by decide), updR_k (by decide)]) (fun _ => ⟨s + 1, by omega, ?_, ?_, fun k hk => ?_⟩)
      · rw [updR_k (by decide), updR_k (by decide), updR_same]
      · rw [updR_same]
      · by_cases hks : k = s
        · subst hks
          rw [updR_k (by decide), updR_k (by decide), updR_k (by decide), updR_same, updR_k (by decide), updR_same]
          exact ⟨rfl, u, hu, rfl⟩
        · rw [updR_k (by decide), updR_k (by decide), updR_k (by decide), updR_j hks, updR_k (by decide), updR_j hks, updR_k (by decide), updR_k (by decide)]
          exact t3 k (by omega)
    · rw [b38_0, if_neg (nI_pos (by omega)), if_pos hlt, b39_0, t1, if_neg (nI_pos (by omega)), if_pos (show nI s < (100 : Int32) from nI_lt (b := 100) (by omega) (by decide)), and_iff_right ix, hcl, nI_1]
      simp only [Option.toList, List.cons_append, List.nil_append]
      rw [b38_22, if_neg (by decide), updR_same]
    · rw [b147_0]
      refine (s142_nI (n := 127) hu (by decide)).trans ?_
      simp only [Option.toList, List.cons_append, List.nil_append]
      rw [b147_8, if_neg (by decide), updR_k (by decide), updR_k (by decide), t2, if_neg (show ¬ nI s = 100 from fun q => hf ((nI_eq (b := 100) (by omega) (by decide)).mp q)), and_iff_right ix, hcl, nI_1]
end CALLS
