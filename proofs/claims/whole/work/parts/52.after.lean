/-! What a saying would do: the reference. -/
theorem Hd.cong9 {I I1 : Nat → Nat → Int32} {n : Nat} {wd nb mm T : Nat → Nat} (g : Hd I n wd nb mm T) (e9 : I1 124 9 = I 124 9) (e : ∀ k, 132 ≤ k → k ≤ 137 → I1 k = I k) : Hd I1 n wd nb mm T := by
  unfold Hd InnM at g ⊢
  rw [e9, e 132 (by omega) (by omega), e 133 (by omega) (by omega), e 134 (by omega) (by omega), e 135 (by omega) (by omega), e 136 (by omega) (by omega), e 137 (by omega) (by omega)]
  exact g
theorem Hd.mid {I J : Nat → Nat → Int32} {n : Nat} {wd nb mm T : Nat → Nat} (g : Hd I n wd nb mm T) (h : Mid I J) : Hd J n wd nb mm T := g.cong9 (h.2.2.2.1 9 (by decide) (by decide) (by decide)) (fun k h1 h2 => h.1 k (by omega) (by omega) (by omega) (by omega) (by omega) (by omega) (by omega) (by omega))
theorem CupM.cong {I J : Nat → Nat → Int32} {ci kd v lv : Nat} {md rf : Int32} {ln : Nat → Nat} (h : CupM I ci kd v lv md rf ln) (e5 : J 125 = I 125) (e6 : J 126 = I 126) (e0 : J 130 = I 130) (e7 : J 127 ci = I 127 ci) (e8 : J 128 ci = I 128 ci) (e9 : J 129 ci = I 129 ci) : CupM J ci kd v lv md rf ln := by
  unfold CupM at h ⊢
  rw [e5, e6, e0, e7, e8, e9]
  exact h
section AFTER
variable {X : Nat × (Nat → Int32)} {d : Nat} {I : Nat → Nat → Int32} {L : Nat → Nat → Int64}
theorem rf_ok {r : Nat} (h : r ≤ 100000) : ¬ ((2000000000 : Int32) < nI r + 1) := by
  rw [nI_1]
  exact nI_nlt (a := 2000000000) (by omega) (by decide)
/-- the leaves after one saying -/
theorem s187 {n ci w kd v lv t r : Nat} {md : Int32} {ln T wd nb mm : Nat → Nat} (hH : Hd I n wd nb mm T) (hc : CupM I ci kd v lv md (nI r) ln) (hr : r ≤ 100000) (hw : w ≤ 3) (ht : t < 2 ^ 31) (h1 : I 124 1 = nI t) (hn : ∀ p, p < 4 → ln p ≤ 9) (h26 : I 124 26 = 9999) : ∃ I1, Ak I I1 ∧ ∀ Q : Option Value → XW → Prop, wp X (d + 7) m187 0 [some (.ref 124), some (.int (nI ci)), some (.int (nI w)), none] [] (K0, R0, I, L) Q ↔ Q (some (.int (nI (hL (wiC T wd nb mm n t ci w kd v lv) md kd lv w t ln)))) (K0, R0, I1, L) := by
  obtain ⟨mid, e7, e8, e9, et⟩ := mid_keep I
  have hc5 := hc.2.2.2.2.2.2.1
  have k188 : ∀ Q : Option Value → XW → Prop, wp X (d + 6) m188 0 [some (.ref 124), none] [] (K0, R0, I, L) Q ↔ Q none (K0, R0, itr keF 5 (updR (updR I 124 26 2000000000) 124 27 (I 124 1)), L) := fun Q => s188
  generalize itr keF 5 (updR (updR I 124 26 2000000000) 124 27 (I 124 1)) = J at mid e7 e8 e9 et k188
  have hcJ : CupM J ci kd v lv md (nI r) ln := hc.cong (mid.1 125 (by decide) (by decide) (by decide) (by decide) (by decide) (by decide) (by decide) (by decide)) (mid.1 126 (by decide) (by decide) (by decide) (by decide) (by decide) (by decide) (by decide) (by decide)) (mid.1 130 (by decide) (by decide) (by decide) (by decide) (by decide) (by decide) (by decide) (by decide)) (by rw [e7]) (by rw [e8]) (by rw [e9])
  obtain ⟨I1, g1, g2, g3, g4⟩ := s181 (X := X) (d := d) (L := L) (hH.mid mid) hcJ hw ht (et.trans h1) hn (by rw [mid.2.2.2.2.2]; exact rf_ok hr)
  have mid1 := mid_say mid hc5 g1 g2
  refine ⟨_, mid_back mid1 h26, fun Q => ?_⟩
  rw [b187_0, k188]
  simp only [Option.toList, List.cons_append, List.nil_append]
  rw [b187_4, g4]
  simp only [Option.toList, List.cons_append, List.nil_append]
  rw [b187_10, and_iff_right (inA_nI hc5 (by decide)), nI_clamp (by omega), s189, g3.2.2.1]
  simp only [Option.toList, List.cons_append, List.nil_append]
  rw [b187_21]
end AFTER
