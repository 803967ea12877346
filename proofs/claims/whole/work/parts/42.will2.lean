/-! WILL by the reference; asking by the class. -/
/-- an inn of the reference, read -/
def InnM (I : Nat → Nat → Int32) (h n : Nat) (wd nb mm T : Nat → Nat) : Prop := h < 6 ∧ n ≤ 10 ∧ I 132 h = nI n ∧ loA mm n ≤ 100 ∧ (∀ c, c < n → I 133 (10 * h + c) = nI (wd c) ∧ wd c ≤ 3 ∧ I 134 (10 * h + c) = nI (nb c)) ∧ ∀ c, c < n → wd c < 2 → I 135 (10 * h + c) = nI (100 * h + loA mm c) ∧ I 136 (10 * h + c) = nI (100 * h + loA mm c + mm c) ∧ okE T (loA mm c) (mm c) ∧ ∀ k, k < mm c → I 137 (100 * h + loA mm c + k) = mT (T (loA mm c + k))
theorem InnM.cong {I I1 : Nat → Nat → Int32} {h n : Nat} {wd nb mm T : Nat → Nat} (g : InnM I h n wd nb mm T) (e : ∀ k, k ≠ 140 → I1 k = I k) : InnM I1 h n wd nb mm T := by
  unfold InnM at g ⊢
  rw [e 132 (by decide), e 133 (by decide), e 134 (by decide), e 135 (by decide), e 136 (by decide), e 137 (by decide)]
  exact g
section WILL
variable {X : Nat × (Nat → Int32)} {d : Nat} {L : Nat → Nat → Int64}
theorem s165 {I : Nat → Nat → Int32} {Q : Option Value → XW → Prop} {h : Nat} (hh : h < 6) (h9 : I 124 9 = nI h) : wp X d m165 0 [some (.ref 124)] [] (K0, R0, I, L) Q ↔ Q (some (.int (nI (10 * h)))) (K0, R0, I, L) := by
  rw [b165_0, h9, if_neg (nI_pos (by omega)), show (10 : Int32) * nI h = nI (10 * h) from nI_mul 10 h]
theorem s166 {I : Nat → Nat → Int32} {Q : Option Value → XW → Prop} {h n : Nat} (hh : h < 6) (h9 : I 124 9 = nI h) (h2 : I 132 h = nI n) : wp X d m166 0 [some (.ref 124)] [] (K0, R0, I, L) Q ↔ Q (some (.int (nI (10 * h + n)))) (K0, R0, I, L) := by
  rw [b166_0, h9, if_neg (nI_pos (by omega)), and_iff_right (inA_nI hh (by decide)), nI_clamp (by omega), h2, show (10 : Int32) * nI h = nI (10 * h) from nI_mul 10 h, nI_add]
theorem will_go {h n ci w : Nat} {a T wd nb mm : Nat → Nat} : ∀ rem c (x : Int32) (I : Nat → Nat → Int32), c + rem = n → x = itr (wiF a T wd nb mm) c 5 → InnM I h n wd nb mm T → MF I ci w a → I 124 9 = nI h → ∃ I1, (∀ k, k ≠ 140 → I1 k = I k) ∧ ∀ Q : Option Value → XW → Prop, wp X (d + 4) m164 8 [some (.ref 124), some (.int (nI ci)), some (.int (nI w)), some (.int x), some (.int (nI (10 * h + c)))] [] (K0, R0, I, L) Q ↔ Q (some (.int (mx0 (wiN a T wd nb mm n)))) (K0, R0, I1, L) := by
  intro rem
  induction rem with
  | zero =>
    intro c x I hc hx hI hM h9
    have e : c = n := by omega
    subst e
    refine ⟨I, fun _ _ => rfl, fun Q => ?_⟩
    rw [b164_8, s166 hI.1 h9 hI.2.2.1]
    simp only [Option.toList, List.cons_append, List.nil_append]
    rw [b164_14, if_neg (nI_nlt (Nat.le_refl _) (by have := hI.1; have := hI.2.1; omega)), hx]
    exact Iff.rfl
  | succ rem ih =>
    intro c x I hc hx hI hM h9
    obtain ⟨i1, i2, i3, i4, i5, i6⟩ := id hI
    obtain ⟨g1, g2, g3⟩ := i5 c (by omega)
    have hlo := @loA_le mm n (n - (c + 1)) (c + 1) (by omega)
    have elo : loA mm (c + 1) = loA mm c + mm c := rfl
    have ix : inA (nI (10 * h + c)) 60 = true := inA_nI (by omega) (by decide)
    have hcl : (nI (10 * h + c)).toNatClampNeg = 10 * h + c := nI_clamp (by omega)
    have top : ∀ Q : Option Value → XW → Prop, wp X (d + 4) m164 8 [some (.ref 124), some (.int (nI ci)), some (.int (nI w)), some (.int x), some (.int (nI (10 * h + c)))] [] (K0, R0, I, L) Q ↔ (if 1 < nI (wd c) then wp X (d + 4) m164 8 [some (.ref 124), some (.int (nI ci)), some (.int (nI w)), some (.int x), some (.int (nI (10 * h + c + 1)))] [] (K0, R0, I, L) Q else wp X (d + 3) m167 0 [some (.ref 124), some (.int (nI (10 * h + c))), some (.int (nI ci)), some (.int (nI w)), none, none, none, none, none] [] (K0, R0, I, L) (fun r w1 => wp X (d + 4) m164 36 [some (.ref 124), some (.int (nI ci)), some (.int (nI w)), some (.int x), some (.int (nI (10 * h + c)))] (r.toList ++ []) w1 Q)) := by
      intro Q
      rw [b164_8, s166 i1 h9 i3]
      simp only [Option.toList, List.cons_append, List.nil_append]
      rw [b164_14, if_pos (nI_lt (by omega) (by omega)), and_iff_right ix, hcl, g1, nI_1]
      exact Iff.rfl
    by_cases hw : wd c < 2
    · obtain ⟨j1, j2, j3, j4⟩ := i6 c (by omega) hw
      have hv : ¬ ((1 : Int32) < nI (wd c)) := nI_nlt (a := 1) (by omega) (by decide)
      obtain ⟨I1, k1, k2⟩ := s167 (X := X) (d := d) (L := L) (c := 10 * h + c) (fr := 100 * h + loA mm c) (by omega) (by omega) j3 hM j1 j2 j4
      obtain ⟨I2, m1, m2⟩ := ih (c + 1) (wiF a T wd nb mm c x) I1 (by omega) (by rw [hx]; rfl) (hI.cong k1) (hM.cong k1) (by rw [k1 124 (by decide)]; exact h9)
      refine ⟨I2, fun k hk => (m1 k hk).trans (k1 k hk), fun Q => ?_⟩
      rw [top Q, if_neg hv, k2]
      simp only [Option.toList, List.cons_append, List.nil_append]
      rw [b164_36, and_iff_right ix, and_iff_right ix, and_iff_right ix, hcl, k1 133 (by decide), k1 134 (by decide), g1, g3, nI_1]
      have m3 := m2 Q
      unfold wiF at m3
      rw [if_pos hw] at m3
      cases hold : holdN a T (loA mm c) (mm c)
      · rw [hold, if_neg (by decide)] at m3
        rw [if_pos (bI_0.mpr rfl)]
        exact m3
      · rw [hold, if_pos rfl] at m3
        rw [if_neg (fun z => absurd (bI_0.mp z) (by decide))]
        unfold amI at m3
        have e0 : (nI (wd c) = 0) ↔ wd c = 0 := nI_eq (b := 0) (by omega) (by decide)
        by_cases c0 : wd c = 0
        · rw [if_pos c0] at m3
          rw [if_pos (e0.mpr c0)]
          exact m3
        · rw [if_neg c0] at m3
          rw [if_neg (fun z => c0 (e0.mp z))]
          exact m3
    · have hv : (1 : Int32) < nI (wd c) := nI_lt (a := 1) (by omega) (by omega)
      obtain ⟨I2, m1, m2⟩ := ih (c + 1) x I (by omega) (by
        rw [hx]
        show _ = wiF a T wd nb mm c _
        unfold wiF
        rw [if_neg hw]) hI hM h9
      refine ⟨I2, m1, fun Q => ?_⟩
      rw [top Q, if_pos hv]
      exact m2 Q
/-- WILL: the reference, with an inn -/
theorem s164 {I : Nat → Nat → Int32} {h n ci w : Nat} {a T wd nb mm : Nat → Nat} (hI : InnM I h n wd nb mm T) (hM : MF I ci w a) (h9 : I 124 9 = nI h) : ∃ I1, (∀ k, k ≠ 140 → I1 k = I k) ∧ ∀ Q : Option Value → XW → Prop, wp X (d + 4) m164 0 [some (.ref 124), some (.int (nI ci)), some (.int (nI w)), none, none] [] (K0, R0, I, L) Q ↔ Q (some (.int (mx0 (wiN a T wd nb mm n)))) (K0, R0, I1, L) := by
  obtain ⟨I1, g1, g2⟩ := will_go (X := X) (d := d) (L := L) n 0 5 I (by omega) rfl hI hM h9
  refine ⟨I1, g1, fun Q => ?_⟩
  rw [b164_0, s165 hI.1 h9]
  simp only [Option.toList, List.cons_append, List.nil_append]
  rw [b164_6]
  exact g2 Q
/-- without one -/
theorem s164_0 {I : Nat → Nat → Int32} {ci w : Nat} {Q : Option Value → XW → Prop} (h9 : I 124 9 < 0) : wp X (d + 4) m164 0 [some (.ref 124), some (.int (nI ci)), some (.int (nI w)), none, none] [] (K0, R0, I, L) Q ↔ Q (some (.int 5)) (K0, R0, I, L) := by
  rw [b164_0, b165_0, if_pos h9]
  simp only [Option.toList, List.cons_append, List.nil_append]
  rw [b164_6, b164_8, b166_0, if_pos h9]
  simp only [Option.toList, List.cons_append, List.nil_append]
  rw [b164_14, if_neg (by decide), if_neg (by decide)]
end WILL
