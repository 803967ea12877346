/-! Calls: of. -/
theorem argC (x : Int32) {n : Nat} (hn : n ≤ 5) : (x < 0 ∨ nI n ≤ x) ∨ ∃ i, i < n ∧ x = nI i := by
  rcases pk_ix x (n := n) (by omega) with h | h | h
  · exact Or.inl (Or.inl h)
  · exact Or.inl (Or.inr h)
  · exact Or.inr h
theorem win (x : Int32) {b : Nat} (hb : b ≤ 100) : ((x - nI b < 0 ∨ (3 : Int32) < x - nI b) ∧ (x < nI b ∨ nI (b + 3) < x)) ∨ ∃ w, w ≤ 3 ∧ x = nI (b + w) := by
  rcases num_cases (x - nI b) (n := 3) (by decide) with h | ⟨w, hw, e⟩
  · refine Or.inl ⟨h, ?_⟩
    rcases num_cases x (n := b + 3) (by omega) with g | ⟨s, hs, rfl⟩
    · rcases g with g | g
      · refine Or.inl ?_
        rw [Int32.lt_iff_toInt_lt] at g ⊢
        rw [nI_toInt (by omega)]
        rw [show (0 : Int32).toInt = 0 from rfl] at g
        omega
      · exact Or.inr g
    · by_cases c : s < b
      · exact Or.inl (nI_lt c (by omega))
      · exfalso
        rw [nI_sub (by omega)] at h
        rcases h with h | h
        · exact nI_pos (by omega) h
        · exact nI_nlt (a := 3) (by omega) (by decide) h
  · refine Or.inr ⟨w, hw, ?_⟩
    rw [← nI_add, Int32.add_comm, ← e, Int32.sub_add_cancel]
section CALLS
variable {X : Nat × (Nat → Int32)} {d : Nat}
theorem ok_of {x1 x2 : Int32} : Ok X d m16 m163 [some (.ref 0), some (.int x1), some (.int x2), none] [some (.ref 124), some (.int x1), some (.int x2)] := by
  intro I L hI
  obtain ⟨n, t, z, k, wd, nb, mm, T, hN, hn, e1, e4, S⟩ := sit_view hI
  rcases argC x1 hn with h | ⟨i, hi, rfl⟩
  · refine ⟨.int (-1), I, L, I, L, hI, fun Q => ?_, fun Q => ?_⟩
    · simp only [b16_0, s17_no hn e1 h, b16_8_1, Option.toList, List.cons_append, List.nil_append]
    · simp only [b163_0, s145_no hn e4 h, b163_5, if_true, Option.toList, List.cons_append, List.nil_append]
  obtain ⟨kd, v, lv, m, r, ln, hR, hM, hm, hr, hln⟩ := cup_view hN hi
  have hc := cupK (i := i) (by omega)
  have ix : inA (nI i) 5 = true := inA_nI (by omega) (by decide)
  have hcl : (nI i).toNatClampNeg = i := nI_clamp (by omega)
  have ht : t < 2 ^ 31 := by have := S.2.2.2.2.2.2.2.2.1; omega
  have et : I 1 2 = nI t := S.2.2.2.2.2.2.1
  have et4 : I 124 1 = nI t := S.2.2.2.2.2.2.2.1
  rcases win x2 (b := 10) (by decide) with h10 | ⟨w, hw, rfl⟩
  · rcases win x2 (b := 20) (by decide) with h20 | ⟨w, hw, rfl⟩
    · refine ⟨.int (if x2 = 0 then nI kd else if x2 = 1 then nI v else if x2 = 2 then nI lv else if x2 = 3 then nI m else if x2 = 4 then nI r else -1), I, L, I, L, hI, fun Q => ?_, fun Q => ?_⟩
      · rw [b16_0, s17_ok hn e1 hi]
        simp only [Option.toList, List.cons_append, List.nil_append]
        rw [b16_8 hc, s18_no (show x2 - 10 < 0 ∨ (3 : Int32) < x2 - 10 from h10.1)]
        simp only [Option.toList, List.cons_append, List.nil_append]
        rw [b16_22 hc, if_pos rfl, s18_no (show x2 - 20 < 0 ∨ (3 : Int32) < x2 - 20 from h20.1)]
        simp only [Option.toList, List.cons_append, List.nil_append]
        rw [b16_52 hc, if_pos rfl, hR.2.2.1, hR.2.2.2.1, hR.2.2.2.2.1, hR.2.2.2.2.2.1, hR.2.2.2.2.2.2.1]
      · rw [b163_0, s145_ok hn e4 hi]
        simp only [Option.toList, List.cons_append, List.nil_append]
        rw [b163_5, if_neg (by decide), s142_no (show x2 < 10 ∨ 13 < x2 from h10.2)]
        simp only [Option.toList, List.cons_append, List.nil_append]
        rw [b163_19, if_pos rfl, s142_no (show x2 < 20 ∨ 23 < x2 from h20.2)]
        simp only [Option.toList, List.cons_append, List.nil_append]
        rw [b163_41, if_pos rfl]
        simp only [ix, hcl, true_and, hM.1, hM.2.1, hM.2.2.1, hM.2.2.2.1, hM.2.2.2.2.1]
        by_cases c0 : x2 = 0
        · simp only [c0, if_true]
        by_cases c1 : x2 = 1
        · simp only [c1, if_true, i32_10, if_false]
        by_cases c2 : x2 = 2
        · simp only [c0, c1, c2, if_true, if_false, show ((2 : Int32) = 0) = False by decide, show ((2 : Int32) = 1) = False by decide]
        by_cases c3 : x2 = 3
        · simp only [c3, if_true, if_false, show ((3 : Int32) = 0) = False by decide, show ((3 : Int32) = 1) = False by decide, show ((3 : Int32) = 2) = False by decide]
        by_cases c4 : x2 = 4
        · simp only [c4, if_true, if_false, show ((4 : Int32) = 0) = False by decide, show ((4 : Int32) = 1) = False by decide, show ((4 : Int32) = 2) = False by decide, show ((4 : Int32) = 3) = False by decide]
        simp only [c0, c1, c2, c3, c4, if_false]
    · have h10' : (nI (20 + w) - nI 10 < 0 ∨ (3 : Int32) < nI (20 + w) - nI 10) := h10.1
      have e20 : nI (20 + w) - (20 : Int32) = nI w := by
        rw [show (20 : Int32) = nI 20 from rfl, nI_sub (by omega)]
        congr 1
        omega
      refine ⟨.int (nI (doneN kd lv w t (ln (t % 4)))), I, L, I, L, hI, fun Q => ?_, fun Q => ?_⟩
      · rw [b16_0, s17_ok hn e1 hi]
        simp only [Option.toList, List.cons_append, List.nil_append]
        rw [b16_8 hc, s18_no (show nI (20 + w) - 10 < 0 ∨ (3 : Int32) < nI (20 + w) - 10 from h10.1)]
        simp only [Option.toList, List.cons_append, List.nil_append]
        rw [b16_22 hc, if_pos rfl, e20, s18_ok hw]
        simp only [Option.toList, List.cons_append, List.nil_append]
        rw [b16_52 hc, if_neg (by decide), e20, et, s25N hc hR.2.2.2.2.2.2.2.2.2.1 hR.2.2.2.2.2.2.2.2.2.2.2 hw ht hR.2.2.1 hR.2.2.2.2.1 (hR.2.2.2.2.2.2.2.1 _ (Nat.mod_lt _ (by decide)))]
        simp only [Option.toList, List.cons_append, List.nil_append]
        rw [b16_70]
      · rw [b163_0, s145_ok hn e4 hi]
        simp only [Option.toList, List.cons_append, List.nil_append]
        rw [b163_5, if_neg (by decide), s142_no (show nI (20 + w) < 10 ∨ 13 < nI (20 + w) from h10.2)]
        simp only [Option.toList, List.cons_append, List.nil_append]
        rw [b163_19, if_pos rfl, s142_ok (show ¬ nI (20 + w) < 20 from nI_nlt (b := 20) (by omega) (by omega)) (show ¬ 23 < nI (20 + w) from nI_nlt (a := 23) (by omega) (by decide))]
        simp only [Option.toList, List.cons_append, List.nil_append]
        rw [b163_41, if_neg (by decide), e20, s171 (by omega) hM.2.2.2.2.2.2.2.1 hM.2.2.2.2.2.2.2.2.2 hw ht hM.1 hM.2.2.1 et4 (hM.2.2.2.2.2.1 _ (Nat.mod_lt _ (by decide)))]
        simp only [Option.toList, List.cons_append, List.nil_append]
        rw [b163_53]
  · have e10 : nI (10 + w) - (10 : Int32) = nI w := by
      rw [show (10 : Int32) = nI 10 from rfl, nI_sub (by omega)]
      congr 1
      omega
    have hne : 12 + 2 * i ≠ z + 4 := by
      rcases S.1 with rfl | ⟨h, hh, rfl⟩ <;> omega
    obtain ⟨J1, a1, a2⟩ := s20 (X := X) (d := d + 96) (L := L) S.1.inn S.2.1 hR hne hw ht
    have as1 : Asked I J1 := asked_k (fun k hk => a1 k (fun q => hk (by rw [q]; exact S.1.sk)))
    obtain ⟨J2, b1, b2⟩ := s164H (X := X) (d := d + 95) (L := L) (S.asked as1).2.2.1 ((hM.asked as1).mf hw ht (S.asked as1).2.2.2.2.2.2.2.1)
    have as2 : Asked J1 J2 := asked_k (fun k hk => b1 k (fun q => hk (by unfold Sk; omega)))
    have e4J : J1 124 0 = nI n := (as1.2 0 (by decide)).trans e4
    refine ⟨.int (mx0 (wiN (aQ i w kd v lv t) T wd nb mm k)), J1, L, J2, L, hI.asked (as1.trans as2), fun Q => ?_, fun Q => ?_⟩
    · rw [b16_0, s17_ok hn e1 hi]
      simp only [Option.toList, List.cons_append, List.nil_append]
      rw [b16_8 hc, e10, s18_ok hw]
      simp only [Option.toList, List.cons_append, List.nil_append]
      rw [b16_22 hc, if_neg (by decide), S.2.2.2.2.2.2.2.2.2.2 _ _ _ _ _ rfl]
      simp only [Option.toList, List.cons_append, List.nil_append]
      rw [b16_29 hc S.1.inn, e10, et, a2]
      simp only [Option.toList, List.cons_append, List.nil_append]
      rw [b16_44]
    · rw [b163_0, s145_ok hn e4J hi]
      simp only [Option.toList, List.cons_append, List.nil_append]
      rw [b163_5, if_neg (by decide), s142_ok (show ¬ nI (10 + w) < 10 from nI_nlt (b := 10) (by omega) (by omega)) (show ¬ 13 < nI (10 + w) from nI_nlt (a := 13) (by omega) (by decide))]
      simp only [Option.toList, List.cons_append, List.nil_append]
      rw [b163_19, if_neg (by decide), e10, b2]
      simp only [Option.toList, List.cons_append, List.nil_append]
      rw [b163_31]
end CALLS
