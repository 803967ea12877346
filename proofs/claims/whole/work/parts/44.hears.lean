/-! A saying is said to a cup: the class. -/
/-- what mood is left, what it grows to -/
def fallI (md fa : Int32) : Int32 := if md - fa < 0 then 0 else md - fa
def riseI (md ri : Int32) : Int32 := if 9 < md + ri then 9 else md + ri
section HEARS
variable {X : Nat × (Nat → Int32)} {d : Nat} {I : Nat → Nat → Int32} {L : Nat → Nat → Int64}
/-- it refuses -/
theorem s72_no {q r n num kd v lv t w : Nat} {md rf : Int32} {ln T wd nb mm : Nat → Nat} (hq : isInn q) (hI : InnC I q n wd nb mm T) (hc : CupR I r num kd v lv md rf ln) (hr : r ≠ q + 4) (hr2 : r ≠ q) (hw : w ≤ 3) (ht : t < 2 ^ 31) (hwi : mx0 (wiN (aQ num w kd v lv t) T wd nb mm n) < md) : ∃ I1, (∀ k, k ≠ q + 4 → k ≠ r → I1 k = I k) ∧ I1 r = updR (updR I r 5 (rf + 1)) r 4 (riseI md (I q 0)) r ∧ ∀ Q : Option Value → XW → Prop, wp X (d + 5) m72 0 [some (.ref r), some (.int (nI w)), some (.int (nI t)), some (.ref q)] [] (K0, R0, I, L) Q ↔ Q (some (.int 0)) (K0, R0, I1, L) := by
  obtain ⟨I1, g1, g2⟩ := s20 (X := X) (d := d + 1) (L := L) hq hI hc hr hw ht
  have er := g1 r hr
  have eq := g1 q (by omega)
  refine ⟨updR (updR I1 r 5 (rf + 1)) r 4 (riseI md (I q 0)), fun k h1 h2 => ?_, ?_, fun Q => ?_⟩
  · rw [updR_row k h2, updR_row k h2]; exact g1 k h1
  · funext b
    unfold updR
    rw [er]
  · rw [b72_0 hc.1 hq, g2]
    simp only [Option.toList, List.cons_append, List.nil_append]
    rw [b72_7 hc.1 hq, er, hc.2.2.2.2.2.1, if_pos hwi, hc.2.2.2.2.2.2.1, eq, b73_0]
    simp only [Option.toList, List.cons_append, List.nil_append]
    rw [b72_39 hc.1]
    exact Iff.rfl
/-- it hears -/
theorem s72_ok {q r n num kd v lv t w : Nat} {md rf : Int32} {ln T wd nb mm : Nat → Nat} (hq : isInn q) (hI : InnC I q n wd nb mm T) (hc : CupR I r num kd v lv md rf ln) (hr : r ≠ q + 4) (hr2 : r ≠ q) (hr3 : r + 1 ≠ q + 4) (hw : w ≤ 3) (ht : t < 2 ^ 31) (hwi : ¬ mx0 (wiN (aQ num w kd v lv t) T wd nb mm n) < md) : ∃ I1, (∀ k, k ≠ q + 4 → k ≠ r → I1 k = I k) ∧ I1 r = updR (updR I r 3 (nI (doneN kd lv w t (ln (t % 4))))) r 4 (fallI md (I q 1)) r ∧ ∀ Q : Option Value → XW → Prop, wp X (d + 5) m72 0 [some (.ref r), some (.int (nI w)), some (.int (nI t)), some (.ref q)] [] (K0, R0, I, L) Q ↔ Q (some (.int 1)) (K0, R0, I1, L) := by
  obtain ⟨I1, g1, g2⟩ := s20 (X := X) (d := d + 1) (L := L) hq hI hc hr hw ht
  have er := g1 r hr
  have er1 := g1 (r + 1) hr3
  have eq := g1 q (by omega)
  obtain ⟨c0, c1, c2, c3, c4, c5, c6, c7, c8, c9, c10, c11⟩ := hc
  refine ⟨updR (updR I1 r 3 (nI (doneN kd lv w t (ln (t % 4))))) r 4 (fallI md (I q 1)), fun k h1 h2 => ?_, ?_, fun Q => ?_⟩
  · rw [updR_row k h2, updR_row k h2]; exact g1 k h1
  · funext b
    unfold updR
    rw [er]
  · rw [b72_0 c0 hq, g2]
    simp only [Option.toList, List.cons_append, List.nil_append]
    rw [b72_7 c0 hq, er, c5, if_neg hwi, s25N (d := d + 1) c0 c9 c11 hw ht (by rw [er]; exact c2) (by rw [er]; exact c4) (by rw [er1]; exact c7 _ (Nat.mod_lt _ (by decide)))]
    simp only [Option.toList, List.cons_append, List.nil_append]
    rw [b72_51 c0 hq c0, er, c5, eq, b3_0]
    simp only [Option.toList, List.cons_append, List.nil_append]
    rw [b72_68 c0]
    exact Iff.rfl
end HEARS
