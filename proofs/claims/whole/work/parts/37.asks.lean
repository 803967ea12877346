/-! What is asked of arguments: both sides' small methods. -/
theorem num_cases (x : Int32) {n : Nat} (hn : n < 2 ^ 31 - 1) : (x < 0 ∨ nI n < x) ∨ ∃ s, s ≤ n ∧ x = nI s := by
  rcases pk_ix x (n := n + 1) (by omega) with h | h | ⟨j, hj, rfl⟩
  · exact Or.inl (Or.inl h)
  · refine Or.inl (Or.inr ?_)
    rw [Int32.le_iff_toInt_le, nI_toInt (by omega)] at h
    rw [Int32.lt_iff_toInt_lt, nI_toInt (by omega)]
    omega
  · exact Or.inr ⟨j, by omega, rfl⟩
theorem lt_r {x : Int32} {n : Nat} (hn : n < 2 ^ 31) : x < nI n ↔ x.toInt < (n : Int) := by rw [Int32.lt_iff_toInt_lt, nI_toInt hn]
theorem lt_l {x : Int32} {n : Nat} (hn : n < 2 ^ 31) : nI n < x ↔ (n : Int) < x.toInt := by rw [Int32.lt_iff_toInt_lt, nI_toInt hn]
section ASKS
variable {X : Nat × (Nat → Int32)} {d : Nat} {I : Nat → Nat → Int32} {L : Nat → Nat → Int64} {Q : Option Value → XW → Prop}
theorem nlt0 {x : Int32} {n : Nat} (hn : n < 2 ^ 31) (h : nI n < x) : ¬ x < 0 := by
  intro q
  have a := (lt_l hn).mp h
  have b := (lt_r (n := 0) (by decide)).mp q
  omega
theorem s12_no {x : Int32} (h : x < 0 ∨ (4095 : Int32) < x) : wp X d m12 0 [some (.int x)] [] (K0, R0, I, L) Q ↔ Q (some (.int 0)) (K0, R0, I, L) := by
  rw [b12_0]
  rcases h with h | h
  · rw [if_pos h]
  · rw [if_neg (nlt0 (n := 4095) (by decide) h), if_pos (show (4095 : Int32) < x from h)]
theorem s12_ok {s : Nat} (h : s ≤ 4095) : wp X d m12 0 [some (.int (nI s))] [] (K0, R0, I, L) Q ↔ Q (some (.int 1)) (K0, R0, I, L) := by
  rw [b12_0, if_neg (nI_pos (by omega)), if_neg (show ¬ (4095 : Int32) < nI s from nI_nlt h (by decide))]
theorem s11_no {x : Int32} (h : x < 0 ∨ (9 : Int32) < x) : wp X d m11 0 [some (.int x)] [] (K0, R0, I, L) Q ↔ Q (some (.int 0)) (K0, R0, I, L) := by
  rw [b11_0]
  rcases h with h | h
  · rw [if_pos h]
  · rw [if_neg (nlt0 (n := 9) (by decide) h), if_neg (show ¬ x < (10 : Int32) from fun q => by
      have a := (lt_l (n := 9) (by decide)).mp h
      have b := (lt_r (n := 10) (by decide)).mp q
      omega)]
theorem s11_ok {s : Nat} (h : s ≤ 9) : wp X d m11 0 [some (.int (nI s))] [] (K0, R0, I, L) Q ↔ Q (some (.int 1)) (K0, R0, I, L) := by
  rw [b11_0, if_neg (nI_pos (by omega)), if_pos (show nI s < (10 : Int32) from nI_lt (b := 10) (by omega) (by decide))]
theorem s18_no {x : Int32} (h : x < 0 ∨ (3 : Int32) < x) : wp X d m18 0 [some (.int x)] [] (K0, R0, I, L) Q ↔ Q (some (.int 0)) (K0, R0, I, L) := by
  rw [b18_0]
  rcases h with h | h
  · rw [if_pos h]
  · rw [if_neg (nlt0 (n := 3) (by decide) h), if_neg (show ¬ x < (4 : Int32) from fun q => by
      have a := (lt_l (n := 3) (by decide)).mp h
      have b := (lt_r (n := 4) (by decide)).mp q
      omega)]
theorem s18_ok {s : Nat} (h : s ≤ 3) : wp X d m18 0 [some (.int (nI s))] [] (K0, R0, I, L) Q ↔ Q (some (.int 1)) (K0, R0, I, L) := by
  rw [b18_0, if_neg (nI_pos (by omega)), if_pos (show nI s < (4 : Int32) from nI_lt (b := 4) (by omega) (by decide))]
/-- the reference's: a number between two -/
theorem s142_no {x lo hi : Int32} (h : x < lo ∨ hi < x) : wp X d m142 0 [some (.ref 124), some (.int x), some (.int lo), some (.int hi)] [] (K0, R0, I, L) Q ↔ Q (some (.int 0)) (K0, R0, I, L) := by
  rw [b142_0]
  by_cases g : x < lo
  · rw [if_pos g]
  · rw [if_neg g, if_pos (h.resolve_left g)]
theorem s142_ok {x lo hi : Int32} (h : ¬ x < lo) (g : ¬ hi < x) : wp X d m142 0 [some (.ref 124), some (.int x), some (.int lo), some (.int hi)] [] (K0, R0, I, L) Q ↔ Q (some (.int 1)) (K0, R0, I, L) := by
  rw [b142_0, if_neg h, if_neg g]
theorem s142_nI {s n : Nat} (h : s ≤ n) (hn : n < 2 ^ 31) : wp X d m142 0 [some (.ref 124), some (.int (nI s)), some (.int 0), some (.int (nI n))] [] (K0, R0, I, L) Q ↔ Q (some (.int 1)) (K0, R0, I, L) := s142_ok (nI_pos (by omega)) (nI_nlt h hn)
theorem s143_no {x : Int32} (h : x < 0 ∨ (4095 : Int32) < x) : wp X (d + 1) m143 0 [some (.ref 124), some (.int x)] [] (K0, R0, I, L) Q ↔ Q (some (.int 0)) (K0, R0, I, L) := by
  rw [b143_0, s142_no h]
  simp only [Option.toList, List.cons_append, List.nil_append]
  rw [b143_9]
  exact and_iff_right rfl
theorem s143_ok {s : Nat} (h : s ≤ 4095) : wp X (d + 1) m143 0 [some (.ref 124), some (.int (nI s))] [] (K0, R0, I, L) Q ↔ Q (some (.int 1)) (K0, R0, I, L) := by
  rw [b143_0, s142_ok (nI_pos (by omega)) (show ¬ (4095 : Int32) < nI s from nI_nlt h (by decide))]
  simp only [Option.toList, List.cons_append, List.nil_append]
  rw [b143_9]
  exact and_iff_right rfl
theorem s179_no {x : Int32} (h : x < 0 ∨ (3 : Int32) < x) : wp X (d + 1) m179 0 [some (.ref 124), some (.int x)] [] (K0, R0, I, L) Q ↔ Q (some (.int 0)) (K0, R0, I, L) := by
  rw [b179_0, s142_no h]
  simp only [Option.toList, List.cons_append, List.nil_append]
  rw [b179_7]
  exact and_iff_right rfl
theorem s179_ok {s : Nat} (h : s ≤ 3) : wp X (d + 1) m179 0 [some (.ref 124), some (.int (nI s))] [] (K0, R0, I, L) Q ↔ Q (some (.int 1)) (K0, R0, I, L) := by
  rw [b179_0, s142_ok (nI_pos (by omega)) (show ¬ (3 : Int32) < nI s from nI_nlt h (by decide))]
  simp only [Option.toList, List.cons_append, List.nil_append]
  rw [b179_7]
  exact and_iff_right rfl
/-- is it a cup's number: the reference's -/
theorem s145_no {x : Int32} {n : Nat} (hn : n ≤ 5) (hI : I 124 0 = nI n) (h : x < 0 ∨ nI n ≤ x) : wp X (d + 1) m145 0 [some (.ref 124), some (.int x)] [] (K0, R0, I, L) Q ↔ Q (some (.int 0)) (K0, R0, I, L) := by
  have e : (x < 0) ∨ (I 124 0 - 1 < x) := by
    rcases h with h | h
    · exact Or.inl h
    · by_cases g : x < 0
      · exact Or.inl g
      · refine Or.inr ?_
        rw [hI, Int32.lt_iff_toInt_lt]
        rw [Int32.le_iff_toInt_le, nI_toInt (by omega)] at h
        match n, hn with
        | 0, _ => rw [show (nI 0 - 1).toInt = -1 from by decide]; omega
        | m + 1, hm => rw [nI_pred, nI_toInt (by omega)]; omega
  rw [b145_0, s142_no e]
  simp only [Option.toList, List.cons_append, List.nil_append]
  rw [b145_12]
  exact and_iff_right rfl
theorem s145_ok {i n : Nat} (hn : n ≤ 5) (hI : I 124 0 = nI n) (hi : i < n) : wp X (d + 1) m145 0 [some (.ref 124), some (.int (nI i))] [] (K0, R0, I, L) Q ↔ Q (some (.int 1)) (K0, R0, I, L) := by
  have e : ¬ (I 124 0 - 1 < nI i) := by
    rw [hI]
    obtain ⟨m, rfl⟩ : ∃ m, n = m + 1 := ⟨n - 1, by omega⟩
    rw [nI_pred]
    exact nI_nlt (by omega) (by omega)
  rw [b145_0, s142_ok (nI_pos (by omega)) e]
  simp only [Option.toList, List.cons_append, List.nil_append]
  rw [b145_12]
  exact and_iff_right rfl
/-- the cup of a number: the class's -/
theorem s17_no {x : Int32} {n : Nat} (hn : n ≤ 5) (hI : I 1 1 = nI n) (h : x < 0 ∨ nI n ≤ x) : wp X (d + 1) m17 0 [some (.ref 1), some (.int x)] [] (K0, R0, I, L) Q ↔ Q (some .null) (K0, R0, I, L) := by
  rw [b17_0 tbl_1, hI]
  by_cases g : x < nI n
  · rw [if_pos g, b13_0 tbl_1, if_pos (h.resolve_right (fun q => absurd g (Int32.not_lt.mpr q)))]
    simp only [Option.toList, List.cons_append, List.nil_append]
    rw [b17_13_1]
  · rw [if_neg g]
theorem cupK {i : Nat} (hi : i < 5) : isCup (12 + 2 * i) := (tbl_1.2.2.2.2.2.2.2.2.2 i hi).2
theorem s17_ok {i n : Nat} (hn : n ≤ 5) (hI : I 1 1 = nI n) (hi : i < n) : wp X (d + 1) m17 0 [some (.ref 1), some (.int (nI i))] [] (K0, R0, I, L) Q ↔ Q (some (.ref (12 + 2 * i))) (K0, R0, I, L) := by
  rw [b17_0 tbl_1, hI, if_pos (nI_lt hi (by omega)), b13_0 tbl_1, if_neg (nI_pos (by omega)), if_pos (show nI i < (5 : Int32) from nI_lt (b := 5) (by omega) (by decide)), and_iff_right (inA_nI (by omega) (by decide)), nI_clamp (by omega)]
  simp only [Option.toList, List.cons_append, List.nil_append]
  exact b17_13 (cupK (by omega))
end ASKS
