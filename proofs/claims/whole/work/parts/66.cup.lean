/-! cup. -/
def filI (J : Nat → Nat → Int32) (q o n : Nat) (v : Int32) : Nat → Nat → Int32 := fun a b => if a = q ∧ o ≤ b ∧ b < o + n then v else J a b
theorem filI_itr {J : Nat → Nat → Int32} {q o : Nat} {v : Int32} : ∀ n, itr (fun k M => updR M q (o + k) v) n J = filI J q o n v := by
  intro n
  induction n with
  | zero =>
    funext a b
    unfold filI
    rw [if_neg (by omega)]
    rfl
  | succ n ih =>
    show updR (itr (fun k M => updR M q (o + k) v) n J) q (o + n) v = _
    rw [ih]
    funext a b
    unfold updR filI
    by_cases h : a = q ∧ b = o + n
    · rw [if_pos h, if_pos (by omega)]
    · rw [if_neg h]
      by_cases g : a = q ∧ o ≤ b ∧ b < o + n
      · rw [if_pos g, if_pos (by omega)]
      · rw [if_neg g, if_neg (by omega)]
theorem filI_row {J : Nat → Nat → Int32} {q o n : Nat} {v : Int32} {k : Nat} (h : k ≠ q) : filI J q o n v k = J k := by
  funext b
  unfold filI
  rw [if_neg (fun z => h z.1)]
section CALLS
variable {X : Nat × (Nat → Int32)} {d : Nat} {I : Nat → Nat → Int32} {L : Nat → Nat → Int64} {Q : Option Value → XW → Prop}
theorem s15 {q n : Nat} {v : Int32} (hq : K0[q]? = some (.inl (.int, n))) (hn : n < 1000) : wp X d m15 0 [some (.ref q), some (.int v), none, none] [] (K0, R0, I, L) Q ↔ Q none (K0, R0, filI I q 0 n v, L) := by
  rw [b15_0 hq]
  refine (for_iff (P := fun k (M : Nat → Nat → Int32) => wp X d m15 5 [some (.ref q), some (.int v), some (.int (nI k)), some (.int (Int32.ofNat n))] [] (K0, R0, M, L) Q) (F := fun k M => updR M q (0 + k) v) n (fun k M hk => ?_) I).trans ?_
  · rw [b15_5 hq, if_pos (show nI k < Int32.ofNat n from nI_lt hk (by omega)), and_iff_right (inA_nI hk (by omega)), nI_clamp (by omega), nI_1, Nat.zero_add]
  · rw [b15_5 hq, if_neg (show ¬ nI n < Int32.ofNat n from nI_nlt (Nat.le_refl _) (by omega)), filI_itr]
theorem s141L {n : Nat} (hn : n < 5) (h0 : I 124 0 = nI n) : wp X d m141 99 [some (.ref 124), none, none, none, some (.int 0)] [] (K0, R0, I, L) Q ↔ Q (some (.int (nI n))) (K0, R0, updR (filI I 130 (4 * n) 4 0) 124 0 (nI (n + 1)), L) := by
  refine (for_at (P := fun k (M : Nat → Nat → Int32) => wp X d m141 99 [some (.ref 124), none, none, none, some (.int (nI k))] [] (K0, R0, M, L) Q) (F := fun k M => updR M 130 (4 * n + k) 0) I 4 (fun k hk => ?_)).trans ?_
  · have h1 : itr (fun k M => updR M 130 (4 * n + k) 0) k I 124 0 = nI n := by rw [filI_itr, filI_row (by decide)]; exact h0
    generalize itr (fun k M => updR M 130 (4 * n + k) 0) k I = M at h1
    rw [b141_99, if_pos (show nI k < (4 : Int32) from nI_lt (b := 4) hk (by decide)), h1, show (4 : Int32) * nI n = nI (4 * n) from nI_mul 4 n, nI_add, and_iff_right (inA_nI (by omega) (by decide)), nI_clamp (by omega), nI_1]
  · have h1 : itr (fun k M => updR M 130 (4 * n + k) 0) 4 I 124 0 = nI n := by rw [filI_itr, filI_row (by decide)]; exact h0
    rw [b141_99, if_neg (show ¬ nI 4 < (4 : Int32) by decide), h1, nI_1, nI_pred, filI_itr]
end CALLS
section CALLS
variable {X : Nat × (Nat → Int32)} {d : Nat}
theorem ok_cup {x1 x2 x3 : Int32} : Ok X d m10 m141 [some (.ref 0), some (.int x1), some (.int x2), some (.int x3), none] [some (.ref 124), some (.int x1), some (.int x2), some (.int x3), none] := by
  intro I L hI
  obtain ⟨n, t, z, k, wd, nb, mm, T, hN, hn, e1, e4, S⟩ := sit_view hI
  rcases num_cases x1 (n := 6) (by decide) with h | ⟨kd, hk, rfl⟩
  · refine ⟨.int (-1), I, L, I, L, hI, fun Q => ?_, fun Q => ?_⟩
    · rw [b10_0]
      rcases h with h | h
      · rw [if_pos h]
      · rw [if_neg (nlt0 (n := 6) (by decide) h), if_neg (show ¬ x1 < (7 : Int32) from fun q => by
          have a := (lt_l (n := 6) (by decide)).mp h
          have b := (lt_r (n := 7) (by decide)).mp q
          omega)]
    · rw [b141_0, s142_no (show x1 < 0 ∨ 6 < x1 from h)]
      simp only [Option.toList, List.cons_append, List.nil_append]
      rw [b141_8, if_pos rfl]
  have k0 : ¬ nI kd < 0 := nI_pos (by omega)
  have k7 : nI kd < (7 : Int32) := nI_lt (b := 7) (by omega) (by decide)
  rcases num_cases x2 (n := 9) (by decide) with h | ⟨v, hv, rfl⟩
  · refine ⟨.int (-2), I, L, I, L, hI, fun Q => ?_, fun Q => ?_⟩
    · rw [b10_0, if_neg k0, if_pos k7, s11_no h]
      simp only [Option.toList, List.cons_append, List.nil_append]
      rw [b10_16, if_pos rfl]
    · rw [b141_0]
      refine (s142_nI (n := 6) hk (by decide)).trans ?_
      simp only [Option.toList, List.cons_append, List.nil_append]
      rw [b141_8, if_neg (by decide), s142_no (show x2 < 0 ∨ 9 < x2 from h)]
      simp only [Option.toList, List.cons_append, List.nil_append]
      rw [b141_21, if_pos rfl]
  rcases num_cases x3 (n := 4095) (by decide) with h | ⟨lv, hl, rfl⟩
  · refine ⟨.int (-2), I, L, I, L, hI, fun Q => ?_, fun Q => ?_⟩
    · rw [b10_0, if_neg k0, if_pos k7, s11_ok hv]
      simp only [Option.toList, List.cons_append, List.nil_append]
      rw [b10_16, if_neg (by decide), s12_no h]
      simp only [Option.toList, List.cons_append, List.nil_append]
      rw [b10_23, if_pos rfl]
    · rw [b141_0]
      refine (s142_nI (n := 6) hk (by decide)).trans ?_
      simp only [Option.toList, List.cons_append, List.nil_append]
      rw [b141_8, if_neg (by decide)]
      refine (s142_nI (n := 9) hv (by decide)).trans ?_
      simp only [Option.toList, List.cons_append, List.nil_append]
      rw [b141_21, if_neg (by decide), s143_no h]
      simp only [Option.toList, List.cons_append, List.nil_append]
      rw [b141_29, if_pos rfl]
  have mdl : ∀ J : Nat → Nat → Int32, ∀ Q : Option Value → XW → Prop, wp X (d + 100) m141 0 [some (.ref 124), some (.int (nI kd)), some (.int (nI v)), some (.int (nI lv)), none] [] (K0, R0, J, L) Q ↔ wp X (d + 100) m141 29 [some (.ref 124), some (.int (nI kd)), some (.int (nI v)), some (.int (nI lv)), none] [.int 1] (K0, R0, J, L) Q := by
    intro J Q
    rw [b141_0]
    refine (s142_nI (n := 6) hk (by decide)).trans ?_
    simp only [Option.toList, List.cons_append, List.nil_append]
    rw [b141_8, if_neg (by decide)]
    refine (s142_nI (n := 9) hv (by decide)).trans ?_
    simp only [Option.toList, List.cons_append, List.nil_append]
    rw [b141_21, if_neg (by decide), s143_ok hl]
    simp only [Option.toList, List.cons_append, List.nil_append]
    try exact Iff.rfl
  have cls : ∀ Q : Option Value → XW → Prop, wp X (d + 100) m10 0 [some (.ref 0), some (.int (nI kd)), some (.int (nI v)), some (.int (nI lv)), none] [] (K0, R0, I, L) Q ↔ wp X (d + 99) m13 0 [some (.ref 1), some (.int (nI n))] [] (K0, R0, I, L) (fun r w1 => wp X (d + 100) m10 43 [some (.ref 0), some (.int (nI kd)), some (.int (nI v)), some (.int (nI lv)), none] (r.toList ++ []) w1 Q) := by
    intro Q
    rw [b10_0, if_neg k0, if_pos k7, s11_ok hv]
    simp only [Option.toList, List.cons_append, List.nil_append]
    rw [b10_16, if_neg (by decide), s12_ok hl]
    simp only [Option.toList, List.cons_append, List.nil_append]
    rw [b10_23, if_neg (by decide), e1]
    try exact Iff.rfl
  by_cases hf : n = 5
  · subst hf
    refine ⟨.int (-4), I, L, I, L, hI, fun Q => ?_, fun Q => ?_⟩
    · rw [cls, b13_0 tbl_1, if_neg (by decide), if_neg (by decide)]
      simp only [Option.toList, List.cons_append, List.nil_append]
      rw [b10_43_1]
    · rw [mdl, b141_29, if_neg (by decide), e4, if_pos (by decide)]
  have h5 : n < 5 := by omega
  have hc := cupK h5
  have ix : inA (nI n) 5 = true := inA_nI h5 (by decide)
  have hcl : (nI n).toNatClampNeg = n := nI_clamp (by omega)
  -- the class's cells behind it
  have hJ1 : ∃ J1, (∀ a, a ≠ 12 + 2 * n → a ≠ 12 + 2 * n + 1 → a ≠ 1 → J1 a = I a) ∧ (∀ b, b ≠ 1 → J1 1 b = I 1 b) ∧ J1 1 1 = nI (n + 1) ∧ (J1 (12 + 2 * n) 0 = nI n ∧ J1 (12 + 2 * n) 1 = nI kd ∧ J1 (12 + 2 * n) 2 = nI v ∧ J1 (12 + 2 * n) 3 = nI lv ∧ J1 (12 + 2 * n) 4 = 0 ∧ J1 (12 + 2 * n) 5 = 0) ∧ (∀ p, p < 4 → J1 (12 + 2 * n + 1) p = 0) ∧ ∀ Q : Option Value → XW → Prop, wp X (d + 100) m10 0 [some (.ref 0), some (.int (nI kd)), some (.int (nI v)), some (.int (nI lv)), none] [] (K0, R0, I, L) Q ↔ Q (some (.int (nI n))) (K0, R0, J1, L) := by
    refine ⟨updR (filI (updR (updR (updR (updR (updR (updR I (12 + 2 * n) 0 (nI n)) (12 + 2 * n) 1 (nI kd)) (12 + 2 * n) 2 (nI v)) (12 + 2 * n) 3 (nI lv)) (12 + 2 * n) 4 0) (12 + 2 * n) 5 0) (12 + 2 * n + 1) 0 4 0) 1 1 (nI (n + 1)), fun a a1 a2 a3 => ?_, fun b hb => ?_, ?_, ⟨?_, ?_, ?_, ?_, ?_, ?_⟩, fun p hp => ?_, fun Q => ?_⟩
    · rw [updR_row a a3, filI_row a2, updR_row a a1, updR_row a a1, updR_row a a1, updR_row a a1, updR_row a a1, updR_row a a1]
    · rw [updR_j hb, filI_row (by omega), updR_k (by omega), updR_k (by omega), updR_k (by omega), updR_k (by omega), updR_k (by omega), updR_k (by omega)]
    · rw [updR_same]
    · rw [updR_k (by omega), filI_row (by omega), updR_j (by decide), updR_j (by decide), updR_j (by decide), updR_j (by decide), updR_j (by decide), updR_same]
    · rw [updR_k (by omega), filI_row (by omega), updR_j (by decide), updR_j (by decide), updR_j (by decide), updR_j (by decide), updR_same]
    · rw [updR_k (by omega), filI_row (by omega), updR_j (by decide), updR_j (by decide), updR_j (by decide), updR_same]
    · rw [updR_k (by omega), filI_row (by omega), updR_j (by decide), updR_j (by decide), updR_same]
    · rw [updR_k (by omega), filI_row (by omega), updR_j (by decide), updR_same]
    · rw [updR_k (by omega), filI_row (by omega), updR_same]
    · rw [updR_k (by omega)]
      unfold filI
      rw [if_pos ⟨rfl, by omega, by omega⟩]
    · rw [cls, b13_0 tbl_1, if_neg (nI_pos (by omega)), if_pos (show nI n < (5 : Int32) from nI_lt (b := 5) h5 (by decide)), and_iff_right ix, hcl]
      simp only [Option.toList, List.cons_append, List.nil_append]
      show wp X (d + 100) m10 43 [some (.ref 0), some (.int (nI kd)), some (.int (nI v)), some (.int (nI lv)), none] [.ref (12 + 2 * n)] (K0, R0, I, L) Q ↔ _
      rw [b10_43 hc, e1, b14_0 hc, s15 hc.2.2 (by decide)]
      simp only [Option.toList, List.cons_append, List.nil_append]
      rw [b14_39]
      simp only [Option.toList, List.cons_append, List.nil_append]
      rw [b10_68 hc, filI_row (by omega), updR_j (by decide), updR_j (by decide), updR_j (by decide), updR_j (by decide), updR_j (by decide), updR_same, filI_row (by omega), updR_k (by omega), updR_k (by omega), updR_k (by omega), updR_k (by omega), updR_k (by omega), updR_k (by omega), e1, nI_1]
  obtain ⟨J1, q1, q2, q3, ⟨f0, f1, f2, f3, f4, f5⟩, f6, q4⟩ := hJ1
  have g4 : J1 124 0 = nI n := by rw [q1 124 (by omega) (by omega) (by omega)]; exact e4
  have hJ2 : ∃ J2, (∀ a, a ≠ 124 → ¬(125 ≤ a ∧ a ≤ 130) → J2 a = J1 a) ∧ (∀ b, b ≠ 0 → J2 124 b = J1 124 b) ∧ J2 124 0 = nI (n + 1) ∧ (J2 125 n = nI kd ∧ J2 126 n = nI v ∧ J2 127 n = nI lv ∧ J2 128 n = 0 ∧ J2 129 n = 0 ∧ ∀ p, p < 4 → J2 130 (4 * n + p) = 0) ∧ (∀ j, j ≠ n → J2 125 j = J1 125 j ∧ J2 126 j = J1 126 j ∧ J2 127 j = J1 127 j ∧ J2 128 j = J1 128 j ∧ J2 129 j = J1 129 j ∧ ∀ p, p < 4 → J2 130 (4 * j + p) = J1 130 (4 * j + p)) ∧ ∀ Q : Option Value → XW → Prop, wp X (d + 100) m141 0 [some (.ref 124), some (.int (nI kd)), some (.int (nI v)), some (.int (nI lv)), none] [] (K0, R0, J1, L) Q ↔ Q (some (.int (nI n))) (K0, R0, J2, L) := by
    refine ⟨updR (filI (updR (updR (updR (updR (updR J1 125 n (nI kd)) 126 n (nI v)) 127 n (nI lv)) 128 n 0) 129 n 0) 130 (4 * n) 4 0) 124 0 (nI (n + 1)), fun a a1 a2 => ?_, fun b hb => ?_, ?_, ⟨?_, ?_, ?_, ?_, ?_, fun p hp => ?_⟩, fun j hj => ⟨?_, ?_, ?_, ?_, ?_, fun p hp => ?_⟩, fun Q => ?_⟩
    · rw [updR_row a a1, filI_row (by omega), updR_row a (by omega), updR_row a (by omega), updR_row a (by omega), updR_row a (by omega), updR_row a (by omega)]
    · rw [updR_j hb, filI_row (by decide), updR_k (by decide), updR_k (by decide), updR_k (by decide), updR_k (by decide), updR_k (by decide)]
    · rw [updR_same]
    · rw [updR_k (by decide), filI_row (by decide), updR_k (by decide), updR_k (by decide), updR_k (by decide), updR_k (by decide), updR_same]
    · rw [updR_k (by decide), filI_row (by decide), updR_k (by decide), updR_k (by decide), updR_k (by decide), updR_same]
    · rw [updR_k (by decide), filI_row (by decide), updR_k (by decide), updR_k (by decide), updR_same]
    · rw [updR_k (by decide), filI_row (by decide), updR_k (by decide), updR_same]
    · rw [updR_k (by decide), filI_row (by decide), updR_same]
    · rw [updR_k (by decide)]
      unfold filI
      rw [if_pos ⟨rfl, by omega, by omega⟩]
    · rw [updR_k (by decide), filI_row (by decide), updR_k (by decide), updR_k (by decide), updR_k (by decide), updR_k (by decide), updR_j hj]
    · rw [updR_k (by decide), filI_row (by decide), updR_k (by decide), updR_k (by decide), updR_k (by decide), updR_j hj, updR_k (by decide)]
    · rw [updR_k (by decide), filI_row (by decide), updR_k (by decide), updR_k (by decide), updR_j hj, updR_k (by decide), updR_k (by decide)]
    · rw [updR_k (by decide), filI_row (by decide), updR_k (by decide), updR_j hj, updR_k (by decide), updR_k (by decide), updR_k (by decide)]
    · rw [updR_k (by decide), filI_row (by decide), updR_j hj, updR_k (by decide), updR_k (by decide), updR_k (by decide), updR_k (by decide)]
    · rw [updR_k (by decide)]
      unfold filI
      rw [if_neg (by omega), updR_k (by decide), updR_k (by decide), updR_k (by decide), updR_k (by decide), updR_k (by decide)]
    · rw [mdl, b141_29, if_neg (by decide), g4, if_neg (show ¬ nI n = 5 from fun q => hf ((nI_eq (b := 5) (by omega) (by decide)).mp q)), and_iff_right ix, and_iff_right ix, and_iff_right ix, and_iff_right ix, and_iff_right ix, hcl]
      refine (s141L h5 ?_).trans Iff.rfl
      rw [updR_k (by decide), updR_k (by decide), updR_k (by decide), updR_k (by decide), updR_k (by decide)]
      exact g4
  obtain ⟨J2, p1, p2, p3, ⟨h0, h1, h2, h3, h4, h6⟩, p5, p6⟩ := hJ2
  refine ⟨.int (nI n), J1, L, J2, L, ?_, q4, p6⟩
  have c1 : ∀ a, a ≤ 21 → J2 a = J1 a := fun a ha => p1 a (by omega) (by omega)
  have cj : ∀ a, a ≠ 124 → ¬(125 ≤ a ∧ a ≤ 130) → ¬(12 ≤ a ∧ a ≤ 21) → a ≠ 1 → J2 a = I a := fun a h1 h2 h3 h4 => (p1 a h1 h2).trans (q1 a (by omega) (by omega) h4)
  have cm : ∀ a, 125 ≤ a ∧ a ≤ 130 → J1 a = I a := fun a ha => q1 a (by omega) (by omega) (by omega)
  refine hI.re (fun a g1 g2 g3 g5 g6 => cj a g3 g5 g1 g2) (fun j j0 j1 j2 => ?_) ?_ (fun n' q hN => ?_)
  · rw [p2 j j0, q1 124 (by omega) (by omega) (by omega)]
  · rw [c1 1 (by decide), q2 3 (by decide)]
  · have en : n = n' := (nI_eq (by omega) (by have := hN.1.1; omega)).mp (e4.symm.trans hN.1.2.2.2.1)
    subst en
    obtain ⟨⟨a1, a2, a3, a4, a5, a6, a7⟩, k2', k3', k4', -⟩ := hN
    refine ⟨n + 1, q, by omega, ⟨by omega, a2, ?_, p3, ?_, ?_⟩, fun j hj => ?_, fun j hj => ?_, fun j hj => ?_⟩
    · rw [c1 1 (by decide)]; exact q3
    · rw [c1 1 (by decide), q2 2 (by decide)]; exact a5
    · rw [p2 1 (by decide), q1 124 (by omega) (by omega) (by omega)]; exact a6
    · by_cases c : j = n
      · subst c
        show J2 (12 + 2 * j) 0 = nI j
        rw [c1 _ (by omega)]; exact f0
      · have g : J2 (1 + 11 + 2 * j) = I (1 + 11 + 2 * j) := (c1 _ (by omega)).trans (q1 _ (by omega) (by omega) (by omega))
        rw [g]; exact k2' j (by omega)
    · by_cases c : j = n
      · subst c
        show J2 (12 + 2 * j) 1 = J2 125 j ∧ J2 (12 + 2 * j) 2 = J2 126 j ∧ J2 (12 + 2 * j) 3 = J2 127 j ∧ J2 (12 + 2 * j) 4 = J2 128 j ∧ J2 (12 + 2 * j) 5 = J2 129 j ∧ ∀ p, p < 4 → J2 (12 + 2 * j + 1) p = J2 130 (4 * j + p)
        rw [c1 _ (show 12 + 2 * j ≤ 21 by omega), c1 _ (show 12 + 2 * j + 1 ≤ 21 by omega), h0, h1, h2, h3, h4]
        exact ⟨f1, f2, f3, f4, f5, fun p hp => (f6 p hp).trans (h6 p hp).symm⟩
      · have g : J2 (1 + 11 + 2 * j) = I (1 + 11 + 2 * j) := (c1 _ (by omega)).trans (q1 _ (by omega) (by omega) (by omega))
        have g1 : J2 (1 + 11 + 2 * j + 1) = I (1 + 11 + 2 * j + 1) := (c1 _ (by omega)).trans (q1 _ (by omega) (by omega) (by omega))
        obtain ⟨b1, b2, b3, b4, b5, b6⟩ := k3' j hj
        obtain ⟨r1, r2, r3, r4, r5, r6⟩ := p5 j c
        rw [cm 125 (by omega)] at r1
        rw [cm 126 (by omega)] at r2
        rw [cm 127 (by omega)] at r3
        rw [cm 128 (by omega)] at r4
        rw [cm 129 (by omega)] at r5
        rw [g, g1]
        exact ⟨b1.trans r1.symm, b2.trans r2.symm, b3.trans r3.symm, b4.trans r4.symm, b5.trans r5.symm, fun p hp => (b6 p hp).trans ((r6 p hp).trans (by rw [cm 130 (by omega)])).symm⟩
    · by_cases c : j = n
      · subst c
        show Rg 6 (J2 125 j) ∧ Rg 9 (J2 126 j) ∧ Rg 4095 (J2 127 j) ∧ Rg 9 (J2 128 j) ∧ Rg 9999 (J2 129 j) ∧ ∀ p, p < 4 → Rg 9 (J2 130 (4 * j + p))
        rw [h0, h1, h2, h3, h4]
        exact ⟨⟨kd, hk, rfl⟩, ⟨v, hv, rfl⟩, ⟨lv, hl, rfl⟩, ⟨0, by omega, rfl⟩, ⟨0, by omega, rfl⟩, fun p hp => by rw [h6 p hp]; exact ⟨0, by omega, rfl⟩⟩
      · obtain ⟨b1, b2, b3, b4, b5, b6⟩ := k4' j hj
        obtain ⟨r1, r2, r3, r4, r5, r6⟩ := p5 j c
        rw [cm 125 (by omega)] at r1
        rw [cm 126 (by omega)] at r2
        rw [cm 127 (by omega)] at r3
        rw [cm 128 (by omega)] at r4
        rw [cm 129 (by omega)] at r5
        show Rg 6 (J2 125 j) ∧ Rg 9 (J2 126 j) ∧ Rg 4095 (J2 127 j) ∧ Rg 9 (J2 128 j) ∧ Rg 9999 (J2 129 j) ∧ ∀ p, p < 4 → Rg 9 (J2 130 (4 * j + p))
        rw [r1, r2, r3, r4, r5]
        exact ⟨b1, b2, b3, b4, b5, fun p hp => by rw [r6 p hp, cm 130 (by omega)]; exact b6 p hp⟩
end CALLS
