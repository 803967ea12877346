/-! What the two sides' methods about leaves answer. -/
section LEAF
variable {X : Nat × (Nat → Int32)} {d : Nat} {I : Nat → Nat → Int32} {L : Nat → Nat → Int64} {Q : Option Value → XW → Prop}
theorem inA_nI {j n : Nat} (h : j < n) (hn : n < 2 ^ 31) : inA (nI j) n = true := by
  unfold inA
  have a := nI_in h hn
  simp only [Bool.not_eq_true', Bool.or_eq_false_iff, decide_eq_false_iff_not]
  exact ⟨fun q => a (Or.inl q), fun q => a (Or.inr q)⟩
theorem lt12 {k : Nat} (h : k < 12) : nI k < (12 : Int32) := nI_lt h (by decide)
theorem nlt12 : ¬ nI 12 < (12 : Int32) := by decide
/-- a saying's number -/
def isW (w : Int32) : Prop := w = 0 ∨ w = 1 ∨ w = 2 ∨ w = 3
theorem isW_nI {k : Nat} (h : k ≤ 3) : isW (nI k) := by
  match k, h with
  | 0, _ => exact Or.inl rfl
  | 1, _ => exact Or.inr (Or.inl rfl)
  | 2, _ => exact Or.inr (Or.inr (Or.inl rfl))
  | 3, _ => exact Or.inr (Or.inr (Or.inr rfl))
  | k + 4, h => omega
theorem s22 {x : Int32} : wp X d m22 0 [some (.int x)] [] (K0, R0, I, L) Q ↔ Q (some (.int (bcI x))) (K0, R0, I, L) := b22_0
theorem s26 {w x : Int32} (hw : isW w) : wp X (d + 2) m26 0 [some (.int w), some (.int x)] [] (K0, R0, I, L) Q ↔ Q (some (.int (forthI w x))) (K0, R0, I, L) := by
  rcases hw with h | h | h | h <;> subst h
  · simp only [b26_0, if_pos, b27_0, b26_37, Option.toList, List.cons_append, List.nil_append]
    try exact Iff.rfl
  · simp only [b26_0, i32_10, if_false, if_pos, b28_0, b27_0, b28_5, b29_0, b28_9, b30_0, b28_14, b31_0, b28_19, b26_43, Option.toList, List.cons_append, List.nil_append]
    try exact Iff.rfl
  · simp only [b26_0, if_neg (show ¬ (2 : Int32) = 0 by decide), if_neg (show ¬ (2 : Int32) = 1 by decide), if_pos, b27_0, b26_48, Option.toList, List.cons_append, List.nil_append]
    try exact Iff.rfl
  · simp only [b26_0, if_neg (show ¬ (3 : Int32) = 0 by decide), if_neg (show ¬ (3 : Int32) = 1 by decide), if_neg (show ¬ (3 : Int32) = 2 by decide), if_pos, b30_0, b26_61, Option.toList, List.cons_append, List.nil_append]
    try exact Iff.rfl
theorem s32 {w x : Int32} (hw : isW w) : wp X (d + 2) m32 0 [some (.int w), some (.int x)] [] (K0, R0, I, L) Q ↔ Q (some (.int (backI w x))) (K0, R0, I, L) := by
  rcases hw with h | h | h | h <;> subst h
  · simp only [b32_0, if_pos, b29_0, b32_37, Option.toList, List.cons_append, List.nil_append]
    try exact Iff.rfl
  · simp only [b32_0, i32_10, if_false, if_pos, b33_0, b27_0, b33_4, b29_0, b33_9, b30_0, b33_14, b31_0, b33_19, b32_43, Option.toList, List.cons_append, List.nil_append]
    try exact Iff.rfl
  · simp only [b32_0, if_neg (show ¬ (2 : Int32) = 0 by decide), if_neg (show ¬ (2 : Int32) = 1 by decide), if_pos, b29_0, b32_48, Option.toList, List.cons_append, List.nil_append]
    try exact Iff.rfl
  · simp only [b32_0, if_neg (show ¬ (3 : Int32) = 0 by decide), if_neg (show ¬ (3 : Int32) = 1 by decide), if_neg (show ¬ (3 : Int32) = 2 by decide), if_pos, b31_0, b32_61, Option.toList, List.cons_append, List.nil_append]
    try exact Iff.rfl
def shyI (lv t : Int32) : Int32 := if 6 < bcI lv then lv else t
/-- what a saying does with the leaves of one of kind kd: the class -/
def doneI (kd lv w nt ln : Int32) : Int32 := if kd = 1 then shyI lv (forthI w lv) else if kd = 2 then backI w lv else if kd = 3 then forthI w (forthI w lv) else if kd = 4 then shyI lv (forthI w lv) &&& ((-3841) : Int32) else if kd = 5 then (if nt - nt / 2 * 2 = 0 then forthI w lv else backI w lv) else if kd = 6 then forthI w (forthI w lv) ||| ln else forthI w lv
theorem s25 {r t : Nat} {w : Int32} (hr : isCup r) (hw : isW w) (ht : t < 2 ^ 31) : wp X (d + 3) m25 0 [some (.ref r), some (.int w), some (.int (nI t)), none, none] [] (K0, R0, I, L) Q ↔ Q (some (.int (doneI (I r 1) (I r 3) w (nI t) (I (r + 1) (t % 4))))) (K0, R0, I, L) := by
  have h4 : nI t - nI t / 4 * 4 = nI (t % 4) := nI_rem (b := 4) ht (by decide)
  have hlt : t % 4 < 4 := Nat.mod_lt _ (by decide)
  rw [b25_0 hr, s26 hw]
  simp only [Option.toList, List.cons_append, List.nil_append]
  rw [b25_8 hr, s22]
  simp only [Option.toList, List.cons_append, List.nil_append]
  rw [b25_16 hr, b25_29 hr]
  unfold doneI
  by_cases c1 : I r 1 = 1
  · rw [if_pos c1, if_pos c1]; exact Iff.rfl
  rw [if_neg c1, if_neg c1]
  by_cases c2 : I r 1 = 2
  · rw [if_pos c2, if_pos c2, s32 hw]
    simp only [Option.toList, List.cons_append, List.nil_append]
    rw [b25_83]
  rw [if_neg c2, if_neg c2]
  by_cases c3 : I r 1 = 3
  · rw [if_pos c3, if_pos c3, s26 hw]
    simp only [Option.toList, List.cons_append, List.nil_append]
    rw [b25_89]
  rw [if_neg c3, if_neg c3]
  by_cases c4 : I r 1 = 4
  · rw [if_pos c4, if_pos c4]; exact Iff.rfl
  rw [if_neg c4, if_neg c4]
  by_cases c5 : I r 1 = 5
  · rw [if_pos c5, if_pos c5]
    by_cases c6 : nI t - nI t / 2 * 2 = 0
    · rw [if_pos c6, if_pos c6, b25_115]
    · rw [if_neg c6, if_neg c6, s32 hw]
      simp only [Option.toList, List.cons_append, List.nil_append]
      rw [b25_115]
  rw [if_neg c5, if_neg c5]
  by_cases c6 : I r 1 = 6
  · rw [if_pos c6, if_pos c6, s26 hw]
    simp only [Option.toList, List.cons_append, List.nil_append]
    rw [b25_121 hr, h4, b34_0 hr, if_neg (nI_pos (by omega)), if_pos (show nI (t % 4) < (4 : Int32) from nI_lt hlt (by decide)), and_iff_right (inA_nI hlt (by decide)), nI_clamp (by omega)]
    simp only [Option.toList, List.cons_append, List.nil_append]
    rw [b25_128]
  · rw [if_neg c6, if_neg c6]
/-! The reference's. -/
theorem s169 {x : Int32} : wp X (d + 1) m169 0 [some (.ref 124), some (.int x), none, none] [] (K0, R0, I, L) Q ↔ Q (some (.int (bitsI x))) (K0, R0, I, L) := by
  rw [b169_0]
  refine (for_iff (P := fun k (n : Int32) => wp X (d + 1) m169 4 [some (.ref 124), some (.int x), some (.int n), some (.int (nI k))] [] (K0, R0, I, L) Q) (F := fun k n => bitsF k x n) 12 (fun k n hk => ?_) 0).trans ?_
  · rw [b169_4, if_pos (lt12 hk), b170_0]
    simp only [Option.toList, List.cons_append, List.nil_append]
    rw [b169_17, ← nI_1 k]
    exact Iff.rfl
  · rw [b169_4, if_neg nlt12]
    exact Iff.rfl
theorem s174 {x b : Int32} : wp X (d + 1) m174 0 [some (.ref 124), some (.int x), some (.int b), none, none] [] (K0, R0, I, L) Q ↔ Q (some (.int (spreadM x b))) (K0, R0, I, L) := by
  rw [b174_0]
  refine (for_iff (P := fun k (n : Int32) => wp X (d + 1) m174 5 [some (.ref 124), some (.int x), some (.int b), some (.int n), some (.int (nI k))] [] (K0, R0, I, L) Q) (F := spreadF x b) 12 (fun k n hk => ?_) x).trans ?_
  · rw [b174_5, if_pos (lt12 hk), b170_0]
    simp only [Option.toList, List.cons_append, List.nil_append]
    rw [b174_19, b174_46, ← nI_1 k]
    unfold spreadF
    by_cases c : hasI x (nI k) = 0
    · rw [if_pos c]
      exact Iff.of_eq (if_pos c)
    · rw [if_neg c]
      exact Iff.of_eq (if_neg c)
  · rw [b174_5, if_neg nlt12]
    exact Iff.rfl
theorem s176 {x k : Int32} : wp X (d + 1) m176 0 [some (.ref 124), some (.int x), some (.int k), none] [] (K0, R0, I, L) Q ↔ Q (some (.int (besideM x k))) (K0, R0, I, L) := by
  have h1 : ∀ P : Int32 → Prop, (if 0 < k - k / 4 * 4 then P (if hasI x (k - 1) = 0 then 0 else 1) else P 0) ↔ P (if 0 < remI k 4 then (if hasI x (k - 1) = 0 then 0 else 1) else 0) := fun P => ite_val P
  have h2 : ∀ P : Int32 → Prop, (if k - k / 4 * 4 < 3 then P (if hasI x (k + 1) = 0 then 0 else 1) else P 0) ↔ P (if remI k 4 < 3 then (if hasI x (k + 1) = 0 then 0 else 1) else 0) := fun P => ite_val P
  have h3 : ∀ P : Int32 → Prop, (if 3 < k then P (if hasI x (k - 4) = 0 then 0 else 1) else P 0) ↔ P (if 3 < k then (if hasI x (k - 4) = 0 then 0 else 1) else 0) := fun P => ite_val P
  rw [b176_0, b170_0]
  simp only [Option.toList, List.cons_append, List.nil_append]
  rw [b176_17]
  refine (h1 (fun z => wp X (d + 1) m176 25 [some (.ref 124), some (.int x), some (.int k), none] [(.int z), (.int 0)] (K0, R0, I, L) Q)).trans ?_
  rw [b176_25, b170_0]
  simp only [Option.toList, List.cons_append, List.nil_append]
  rw [b176_43]
  refine (h2 (fun z => wp X (d + 1) m176 51 [some (.ref 124), some (.int x), some (.int k), none] [(.int z), (.int _)] (K0, R0, I, L) Q)).trans ?_
  rw [b176_51, b170_0]
  simp only [Option.toList, List.cons_append, List.nil_append]
  rw [b176_67]
  refine (h3 (fun z => wp X (d + 1) m176 75 [some (.ref 124), some (.int x), some (.int k), none] [(.int z), (.int _)] (K0, R0, I, L) Q)).trans ?_
  rw [b176_75, b170_0]
  simp only [Option.toList, List.cons_append, List.nil_append]
  rw [b176_92]
  unfold besideM
  dsimp only
  by_cases c : k < 8
  · rw [if_pos c, if_pos c]
    by_cases c2 : hasI x (k + 4) = 0
    · rw [if_pos c2]
      refine Iff.of_eq (congrArg (fun z => Q (some (.int z)) (K0, R0, I, L)) ?_)
      exact if_pos c2
    · rw [if_neg c2]
      refine Iff.of_eq (congrArg (fun z => Q (some (.int z)) (K0, R0, I, L)) ?_)
      exact if_neg c2
  · rw [if_neg c, if_neg c]
theorem s175 {x b : Int32} : wp X (d + 2) m175 0 [some (.ref 124), some (.int x), some (.int b), none, none, none, none] [] (K0, R0, I, L) Q ↔ Q (some (.int (thinM x b))) (K0, R0, I, L) := by
  rw [b175_0]
  refine (for_iff (P := fun k (n : Int32) => wp X (d + 2) m175 5 [some (.ref 124), some (.int x), some (.int b), some (.int n), some (.int (nI k)), none, none] [] (K0, R0, I, L) Q) (F := thinF x b) 12 (fun k n hk => ?_) 0).trans ?_
  · rw [b175_5, if_pos (lt12 hk), s176]
    simp only [Option.toList, List.cons_append, List.nil_append]
    rw [b175_19, b170_0, b170_0]
    simp only [Option.toList, List.cons_append, List.nil_append]
    rw [b175_56, b175_32, b175_69, b175_69]
    unfold thinF
    by_cases c : b = 0
    · rw [if_pos c, if_pos c, ← nI_1 k]
      exact Iff.rfl
    · rw [if_neg c, if_neg c, ← nI_1 k]
      exact Iff.rfl
  · rw [b175_5, if_neg nlt12]
    exact Iff.rfl
theorem s177 {x r c : Int32} : wp X (d + 1) m177 0 [some (.ref 124), some (.int x), some (.int r), some (.int c), none, none] [] (K0, R0, I, L) Q ↔ Q (some (.int (movM x r c))) (K0, R0, I, L) := by
  rw [b177_0]
  refine (for_iff (P := fun k (n : Int32) => wp X (d + 1) m177 6 [some (.ref 124), some (.int x), some (.int r), some (.int c), some (.int n), some (.int (nI k))] [] (K0, R0, I, L) Q) (F := movF x r c) 12 (fun k n hk => ?_) 0).trans ?_
  · rw [b177_6, if_pos (lt12 hk), b170_0]
    simp only [Option.toList, List.cons_append, List.nil_append]
    rw [b177_22, ← nI_1 k]
    exact Iff.rfl
  · rw [b177_6, if_neg nlt12]
    exact Iff.rfl
end LEAF
