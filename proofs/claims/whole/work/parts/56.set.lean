/-! Calls: set, line, feed; what keeps all when cups or nights become otherwise. -/
theorem Inv.re {I J : Nat → Nat → Int32} {L : Nat → Nat → Int64} (h : Inv I L) (e : ∀ k, ¬(12 ≤ k ∧ k ≤ 21) → k ≠ 1 → k ≠ 124 → ¬(125 ≤ k ∧ k ≤ 130) → ¬ Sk k → J k = I k) (e4 : ∀ j, j ≠ 0 → j ≠ 1 → j ≠ 27 → J 124 j = I 124 j) (e1 : J 1 3 = I 1 3) (hd : ∀ n q, NowI I n q → ∃ n' q', n ≤ n' ∧ (n' ≤ 5 ∧ q' ≤ 9999 ∧ J 1 1 = nI n' ∧ J 124 0 = nI n' ∧ J 1 2 = nI q' ∧ J 124 1 = nI q') ∧ NumI J 1 n' ∧ CupsE J 1 125 ∧ CupsG J 125) : Inv J L := by
  obtain ⟨n, q, n', q', c, h1, h2, h3, h4, h5, h6, h7, h8, h9, h10⟩ := h
  obtain ⟨m, p, hm, ⟨a1, a2, a3, a4, a5, a6⟩, b1, b2, b3⟩ := hd n q h1
  obtain ⟨k1, k2, k3, k4, k5, k6, k7⟩ := h1
  refine ⟨m, p, n', q', c, ⟨⟨a1, a2, a3, a4, a5, a6, ?_⟩, b1, b2, b3, k5.cong (fun k hk => e k (by omega) (by omega) (by omega) (by omega) (by unfold Sk; omega)) (e4 31 (by decide) (by decide) (by decide)), (k6.cong (fun k hk => e k (by omega) (by omega) (by omega) (by omega) (by unfold Sk; omega)) (e4 34 (by decide) (by decide) (by decide))).mono hm, (k7.cong (fun k hk => e k (by omega) (by omega) (by omega) (by omega) (by unfold Sk; omega)) (e4 35 (by decide) (by decide) (by decide))).mono hm⟩, h2.cong (fun k hk => e k (by omega) (by omega) (by omega) (by omega) (by unfold Sk; omega)) (fun f hf => e4 f (by omega) (by omega) (by omega)), h3.cong (e4 9 (by decide) (by decide) (by decide)), h4.cong (e4 41 (by decide) (by decide) (by decide)), h5.cong (by rw [e 0 (by omega) (by omega) (by omega) (by omega) (by unfold Sk; omega)]) (e4 40 (by decide) (by decide) (by decide)), h6.cong (fun k hk => e k (by omega) (by omega) (by omega) (by omega) (by unfold Sk; omega)) (by rw [e 0 (by omega) (by omega) (by omega) (by omega) (by unfold Sk; omega)]) (e4 8 (by decide) (by decide) (by decide)), h7.cong (by rw [e 64 (by omega) (by omega) (by omega) (by omega) (by unfold Sk; omega)]) (e 65 (by omega) (by omega) (by omega) (by omega) (by unfold Sk; omega)) (e4 10 (by decide) (by decide) (by decide)) (e 131 (by omega) (by omega) (by omega) (by omega) (by unfold Sk; omega)), h8.cong (by rw [e 79 (by omega) (by omega) (by omega) (by omega) (by unfold Sk; omega)]) (e 80 (by omega) (by omega) (by omega) (by omega) (by unfold Sk; omega)) (e4 59 (by decide) (by decide) (by decide)) (e 162 (by omega) (by omega) (by omega) (by omega) (by unfold Sk; omega)), h9.cong (fun k hk => e k (by omega) (by omega) (by omega) (by omega) (by unfold Sk; omega)), h10.cong (e4 26 (by decide) (by decide) (by decide)) (e 139 (by omega) (by omega) (by omega) (by omega) (by unfold Sk; omega)) (e 67 (by omega) (by omega) (by omega) (by omega) (by unfold Sk; omega))⟩
  rw [e1, e4 9 (by decide) (by decide) (by decide)]
  exact k1.2.2.2.2.2.2
/-- one cup became otherwise -/
theorem Inv.cup1 {I J : Nat → Nat → Int32} {L : Nat → Nat → Int64} {i : Nat} (h : Inv I L) (hi : i < 5) (e : ∀ k, k ≠ 12 + 2 * i → k ≠ 12 + 2 * i + 1 → k ≠ 124 → ¬(127 ≤ k ∧ k ≤ 130) → ¬ Sk k → J k = I k) (e4 : ∀ j, j ≠ 27 → J 124 j = I 124 j) (c0 : J (12 + 2 * i) 0 = I (12 + 2 * i) 0 ∧ J (12 + 2 * i) 1 = I (12 + 2 * i) 1 ∧ J (12 + 2 * i) 2 = I (12 + 2 * i) 2) (c3 : J (12 + 2 * i) 3 = J 127 i ∧ J (12 + 2 * i) 4 = J 128 i ∧ J (12 + 2 * i) 5 = J 129 i ∧ ∀ p, p < 4 → J (12 + 2 * i + 1) p = J 130 (4 * i + p)) (g3 : Rg 4095 (J 127 i) ∧ Rg 9 (J 128 i) ∧ Rg 9999 (J 129 i) ∧ ∀ p, p < 4 → Rg 9 (J 130 (4 * i + p))) (r : ∀ j, j ≠ i → J 127 j = I 127 j ∧ J 128 j = I 128 j ∧ J 129 j = I 129 j ∧ ∀ p, p < 4 → J 130 (4 * j + p) = I 130 (4 * j + p)) : Inv J L := by
  have e1 : J 1 = I 1 := e 1 (by omega) (by omega) (by omega) (by omega) (by unfold Sk; omega)
  have e5 : J 125 = I 125 := e 125 (by omega) (by omega) (by omega) (by omega) (by unfold Sk; omega)
  have e6 : J 126 = I 126 := e 126 (by omega) (by omega) (by omega) (by omega) (by unfold Sk; omega)
  refine h.re (fun k k1 k2 k3 k4 k5 => e k (by omega) (by omega) k3 (by omega) k5) (fun j _ _ j3 => e4 j j3) (by rw [e1]) (fun n q hN => ?_)
  obtain ⟨⟨a1, a2, a3, a4, a5, a6, a7⟩, k2, k3, k4, -⟩ := hN
  refine ⟨n, q, Nat.le_refl _, ⟨a1, a2, by rw [e1]; exact a3, (e4 0 (by decide)).trans a4, by rw [e1]; exact a5, (e4 1 (by decide)).trans a6⟩, fun j hj => ?_, fun j hj => ?_, fun j hj => ?_⟩
  · have := k2 j hj
    by_cases hji : j = i
    · subst hji; exact c0.1.trans this
    · have g : J (1 + 11 + 2 * j) = I (1 + 11 + 2 * j) := e _ (by omega) (by omega) (by omega) (by omega) (by unfold Sk; omega)
      rw [g]; exact this
  · have := k3 j hj
    by_cases hji : j = i
    · subst hji
      obtain ⟨b1, b2, b3, b4, b5, b6⟩ := this
      refine ⟨c0.2.1.trans (b1.trans (by rw [e5])), c0.2.2.trans (b2.trans (by show I 126 j = J 126 j; rw [e6])), c3.1, c3.2.1, c3.2.2.1, c3.2.2.2⟩
    · have g : J (1 + 11 + 2 * j) = I (1 + 11 + 2 * j) := e _ (by omega) (by omega) (by omega) (by omega) (by unfold Sk; omega)
      have g1 : J (1 + 11 + 2 * j + 1) = I (1 + 11 + 2 * j + 1) := e _ (by omega) (by omega) (by omega) (by omega) (by unfold Sk; omega)
      obtain ⟨r1, r2, r3, r4⟩ := r j hji
      obtain ⟨b1, b2, b3, b4, b5, b6⟩ := this
      rw [g, g1]
      exact ⟨b1.trans (by rw [e5]), b2.trans (by show I 126 j = J 126 j; rw [e6]), b3.trans r1.symm, b4.trans r2.symm, b5.trans r3.symm, fun p hp => (b6 p hp).trans (r4 p hp).symm⟩
  · have := k4 j hj
    by_cases hji : j = i
    · subst hji
      obtain ⟨b1, b2, b3, b4, b5, b6⟩ := this
      refine ⟨by rw [e5]; exact b1, ?_, g3.1, g3.2.1, g3.2.2.1, g3.2.2.2⟩
      show Rg 9 (J 126 j)
      rw [e6]; exact b2
    · obtain ⟨r1, r2, r3, r4⟩ := r j hji
      obtain ⟨b1, b2, b3, b4, b5, b6⟩ := this
      refine ⟨by rw [e5]; exact b1, ?_, ?_, ?_, ?_, fun p hp => ?_⟩
      · show Rg 9 (J 126 j)
        rw [e6]; exact b2
      · show Rg 4095 (J 127 j)
        rw [r1]; exact b3
      · show Rg 9 (J 128 j)
        rw [r2]; exact b4
      · show Rg 9999 (J 129 j)
        rw [r3]; exact b5
      · show Rg 9 (J 130 (4 * j + p))
        rw [r4 p hp]; exact b6 p hp
/-- a cup that is there or not: what its cells tell -/
theorem cupcells {I : Nat → Nat → Int32} {n q i : Nat} (h : NowI I n q) (hi : i < 5) : (I (12 + 2 * i) 3 = I 127 i ∧ I (12 + 2 * i) 4 = I 128 i ∧ I (12 + 2 * i) 5 = I 129 i ∧ ∀ p, p < 4 → I (12 + 2 * i + 1) p = I 130 (4 * i + p)) ∧ Rg 4095 (I 127 i) ∧ Rg 9 (I 128 i) ∧ Rg 9999 (I 129 i) ∧ ∀ p, p < 4 → Rg 9 (I 130 (4 * i + p)) := by
  obtain ⟨h1, h2, h3, h4, -⟩ := h
  obtain ⟨e1, e2, e3, e4, e5, e6⟩ := h3 i hi
  obtain ⟨g1, g2, g3, g4, g5, g6⟩ := h4 i hi
  exact ⟨⟨e3, e4, e5, e6⟩, g3, g4, g5, g6⟩
section CALLS
variable {X : Nat × (Nat → Int32)} {d : Nat}
theorem ok_set {x1 x2 x3 : Int32} : Ok X d m35 m144 [some (.ref 0), some (.int x1), some (.int x2), some (.int x3), none, none] [some (.ref 124), some (.int x1), some (.int x2), some (.int x3), none] := by
  intro I L hI
  obtain ⟨n, t, z, k, wd, nb, mm, T, hN, hn, e1, e4, S⟩ := sit_view hI
  rcases argC x1 hn with h | ⟨i, hi, rfl⟩
  · refine ⟨.int (-1), I, L, I, L, hI, fun Q => ?_, fun Q => ?_⟩
    · simp only [b35_0, s17_no hn e1 h, b35_8_1, Option.toList, List.cons_append, List.nil_append]
    · simp only [b144_0, s145_no hn e4 h, b144_5, if_true, Option.toList, List.cons_append, List.nil_append]
  have h5 : i < 5 := by omega
  have hc := cupK h5
  have ix : inA (nI i) 5 = true := inA_nI h5 (by decide)
  have hcl : (nI i).toNatClampNeg = i := nI_clamp (by omega)
  obtain ⟨⟨c3, c4, c5, c6⟩, g3, g4, g5, g6⟩ := cupcells hN h5
  rcases num_cases x2 (n := 1) (by decide) with h2 | ⟨s, hs, rfl⟩
  · refine ⟨.int (-1), I, L, I, L, hI, fun Q => ?_, fun Q => ?_⟩
    · rw [b35_0, s17_ok hn e1 hi]
      simp only [Option.toList, List.cons_append, List.nil_append]
      rw [b35_8 hc]
      rcases h2 with h2 | h2
      · rw [if_pos h2]
      · rw [if_neg (nlt0 (n := 1) (by decide) h2), if_pos (show (1 : Int32) < x2 from h2)]
    · rw [b144_0, s145_ok hn e4 hi]
      simp only [Option.toList, List.cons_append, List.nil_append]
      rw [b144_5, if_neg (by decide), s142_no (show x2 < 0 ∨ 1 < x2 from h2)]
      simp only [Option.toList, List.cons_append, List.nil_append]
      rw [b144_15, if_pos rfl]
  have hcls : ∀ Q : Option Value → XW → Prop, wp X (d + 100) m35 0 [some (.ref 0), some (.int (nI i)), some (.int (nI s)), some (.int x3), none, none] [] (K0, R0, I, L) Q ↔ (if nI s = 0 then wp X (d + 99) m12 0 [some (.int x3)] [] (K0, R0, I, L) (fun r w1 => wp X (d + 100) m35 34 [none, none, some (.int (nI s)), some (.int x3), some (.ref (12 + 2 * i)), none] (r.toList ++ []) w1 Q) else wp X (d + 99) m11 0 [some (.int x3)] [] (K0, R0, I, L) (fun r w1 => wp X (d + 100) m35 44 [none, none, some (.int (nI s)), some (.int x3), some (.ref (12 + 2 * i)), none] (r.toList ++ []) w1 Q)) := fun Q => by
    rw [b35_0, s17_ok hn e1 hi]
    simp only [Option.toList, List.cons_append, List.nil_append]
    rw [b35_8 hc, if_neg (nI_pos (by omega)), if_neg (show ¬ (1 : Int32) < nI s from nI_nlt (a := 1) hs (by decide))]
    exact Iff.rfl
  have hmod : ∀ J : Nat → Nat → Int32, J 124 0 = nI n → ∀ Q : Option Value → XW → Prop, wp X (d + 100) m144 0 [some (.ref 124), some (.int (nI i)), some (.int (nI s)), some (.int x3), none] [] (K0, R0, J, L) Q ↔ (if nI s = 0 then wp X (d + 99) m143 0 [some (.ref 124), some (.int x3)] [] (K0, R0, J, L) (fun r w1 => wp X (d + 100) m144 29 [some (.ref 124), some (.int (nI i)), some (.int (nI s)), some (.int x3), none] (r.toList ++ []) w1 Q) else wp X (d + 99) m142 0 [some (.ref 124), some (.int x3), some (.int 0), some (.int 9)] [] (K0, R0, J, L) (fun r w1 => wp X (d + 100) m144 43 [some (.ref 124), some (.int (nI i)), some (.int (nI s)), some (.int x3), none] (r.toList ++ []) w1 Q)) := fun J hJ Q => by
    rw [b144_0, s145_ok hn hJ hi]
    simp only [Option.toList, List.cons_append, List.nil_append]
    rw [b144_5, if_neg (by decide), s142_ok (nI_pos (by omega)) (show ¬ (1 : Int32) < nI s from nI_nlt (a := 1) hs (by decide))]
    simp only [Option.toList, List.cons_append, List.nil_append]
    rw [b144_15, if_neg (by decide)]
    exact Iff.rfl
  match s, hs with
  | 0, _ =>
    rcases num_cases x3 (n := 4095) (by decide) with h3 | ⟨u, hu, rfl⟩
    · refine ⟨.int (-2), I, L, I, L, hI, fun Q => ?_, fun Q => ?_⟩
      · rw [hcls, if_pos (by decide), s12_no h3]
        simp only [Option.toList, List.cons_append, List.nil_append]
        rw [b35_34 hc, if_pos rfl]
      · rw [hmod I e4, if_pos (by decide), s143_no h3]
        simp only [Option.toList, List.cons_append, List.nil_append]
        rw [b144_29, if_pos rfl]
    · refine ⟨.int (I (12 + 2 * i) 3), updR I (12 + 2 * i) 3 (nI u), L, updR (updR I (12 + 2 * i) 3 (nI u)) 127 i (nI u), L, ?_, fun Q => ?_, fun Q => ?_⟩
      · refine hI.cup1 h5 (fun k k1 k2 k3 k4 k5 => by rw [updR_row k (by omega), updR_row k k1]) (fun j hj => by rw [updR_k (by decide), updR_k (by omega)]) ⟨?_, ?_, ?_⟩ ⟨?_, ?_, ?_, fun p hp => ?_⟩ ⟨?_, ?_, ?_, fun p hp => ?_⟩ (fun j hj => ⟨?_, ?_, ?_, fun p hp => ?_⟩)
        · rw [updR_k (by omega), updR_j (by decide)]
        · rw [updR_k (by omega), updR_j (by decide)]
        · rw [updR_k (by omega), updR_j (by decide)]
        · rw [updR_k (by omega), updR_same, updR_same]
        · rw [updR_k (by omega), updR_j (by decide), updR_k (by decide), updR_k (by omega)]; exact c4
        · rw [updR_k (by omega), updR_j (by decide), updR_k (by decide), updR_k (by omega)]; exact c5
        · rw [updR_k (by omega), updR_k (by omega), updR_k (by decide), updR_k (by omega)]; exact c6 p hp
        · rw [updR_same]; exact ⟨u, hu, rfl⟩
        · rw [updR_k (by decide), updR_k (by omega)]; exact g4
        · rw [updR_k (by decide), updR_k (by omega)]; exact g5
        · rw [updR_k (by decide), updR_k (by omega)]; exact g6 p hp
        · rw [updR_j hj, updR_k (by omega)]
        · rw [updR_k (by decide), updR_k (by omega)]
        · rw [updR_k (by decide), updR_k (by omega)]
        · rw [updR_k (by decide), updR_k (by omega)]
      · rw [hcls, if_pos (by decide), s12_ok hu]
        simp only [Option.toList, List.cons_append, List.nil_append]
        rw [b35_34 hc, if_neg (by decide), b35_50 hc, if_pos (by decide), if_pos (by decide)]
      · rw [hmod _ (by rw [updR_k (by omega)]; exact e4), if_pos (by decide), s143_ok hu]
        simp only [Option.toList, List.cons_append, List.nil_append]
        rw [b144_29, if_neg (by decide), if_pos (by decide), and_iff_right ix, hcl, b144_68, if_pos (by decide), and_iff_right ix, hcl, updR_k (by omega), c3]
  | 1, _ =>
    rcases num_cases x3 (n := 9) (by decide) with h3 | ⟨u, hu, rfl⟩
    · refine ⟨.int (-2), I, L, I, L, hI, fun Q => ?_, fun Q => ?_⟩
      · rw [hcls, if_neg (by decide), s11_no h3]
        simp only [Option.toList, List.cons_append, List.nil_append]
        rw [b35_44 hc, if_pos rfl]
      · rw [hmod I e4, if_neg (by decide), s142_no (show x3 < 0 ∨ 9 < x3 from h3)]
        simp only [Option.toList, List.cons_append, List.nil_append]
        rw [b144_43, if_pos rfl]
    · refine ⟨.int (I (12 + 2 * i) 4), updR I (12 + 2 * i) 4 (nI u), L, updR (updR I (12 + 2 * i) 4 (nI u)) 128 i (nI u), L, ?_, fun Q => ?_, fun Q => ?_⟩
      · refine hI.cup1 h5 (fun k k1 k2 k3 k4 k5 => by rw [updR_row k (by omega), updR_row k k1]) (fun j hj => by rw [updR_k (by decide), updR_k (by omega)]) ⟨?_, ?_, ?_⟩ ⟨?_, ?_, ?_, fun p hp => ?_⟩ ⟨?_, ?_, ?_, fun p hp => ?_⟩ (fun j hj => ⟨?_, ?_, ?_, fun p hp => ?_⟩)
        · rw [updR_k (by omega), updR_j (by decide)]
        · rw [updR_k (by omega), updR_j (by decide)]
        · rw [updR_k (by omega), updR_j (by decide)]
        · rw [updR_k (by omega), updR_j (by decide), updR_k (by decide), updR_k (by omega)]; exact c3
        · rw [updR_k (by omega), updR_same, updR_same]
        · rw [updR_k (by omega), updR_j (by decide), updR_k (by decide), updR_k (by omega)]; exact c5
        · rw [updR_k (by omega), updR_k (by omega), updR_k (by decide), updR_k (by omega)]; exact c6 p hp
        · rw [updR_k (by decide), updR_k (by omega)]; exact g3
        · rw [updR_same]; exact ⟨u, hu, rfl⟩
        · rw [updR_k (by decide), updR_k (by omega)]; exact g5
        · rw [updR_k (by decide), updR_k (by omega)]; exact g6 p hp
        · rw [updR_k (by decide), updR_k (by omega)]
        · rw [updR_j hj, updR_k (by omega)]
        · rw [updR_k (by decide), updR_k (by omega)]
        · rw [updR_k (by decide), updR_k (by omega)]
      · rw [hcls, if_neg (by decide), s11_ok hu]
        simp only [Option.toList, List.cons_append, List.nil_append]
        rw [b35_44 hc, if_neg (by decide), b35_50 hc, if_neg (by decide), if_neg (by decide)]
      · rw [hmod _ (by rw [updR_k (by omega)]; exact e4), if_neg (by decide)]
        refine (s142_nI (n := 9) hu (by decide)).trans ?_
        simp only [Option.toList, List.cons_append, List.nil_append]
        rw [b144_43, if_neg (by decide), if_neg (by decide), and_iff_right ix, hcl, b144_68, if_neg (by decide), and_iff_right ix, hcl, updR_k (by omega), c4]
  | k + 2, hs => omega
end CALLS
