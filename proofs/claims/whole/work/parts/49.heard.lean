/-! What a saying said makes of a cup, once for both sides: (leaves, mood, refused, heard). -/
/-- will of a cup (num kd v lv) for a saying w at night t -/
def wiC (T wd nb mm : Nat → Nat) (n t num w kd v lv : Nat) : Int32 := mx0 (wiN (aQ num w kd v lv t) T wd nb mm n)
def hL (wi md : Int32) (kd lv w t : Nat) (ln : Nat → Nat) : Nat := if wi < md then lv else doneN kd lv w t (ln (t % 4))
def hM (wi md ri fa : Int32) : Int32 := if wi < md then riseI md ri else fallI md fa
def hR (wi md rf : Int32) : Int32 := if wi < md then rf + 1 else rf
def hB (wi md : Int32) : Int32 := if wi < md then 0 else 1
theorem hL_le {wi md : Int32} {kd lv w t : Nat} {ln : Nat → Nat} (hl : lv ≤ 4095) (hw : w ≤ 3) (hn : ∀ p, p < 4 → ln p ≤ 9) : hL wi md kd lv w t ln ≤ 4095 := by
  unfold hL
  split
  · exact hl
  · exact done_le hl hw (hn _ (Nat.mod_lt _ (by decide)))
/-- a cup of the reference, read -/
def CupM (I : Nat → Nat → Int32) (ci kd v lv : Nat) (md rf : Int32) (ln : Nat → Nat) : Prop := I 125 ci = nI kd ∧ I 126 ci = nI v ∧ I 127 ci = nI lv ∧ I 128 ci = md ∧ I 129 ci = rf ∧ (∀ p, p < 4 → I 130 (4 * ci + p) = nI (ln p)) ∧ ci < 5 ∧ kd ≤ 6 ∧ v ≤ 9 ∧ lv ≤ 4095
theorem CupM.mf {I : Nat → Nat → Int32} {ci kd v lv w t : Nat} {md rf : Int32} {ln : Nat → Nat} (h : CupM I ci kd v lv md rf ln) (hw : w ≤ 3) (ht : t < 2 ^ 31) (h1 : I 124 1 = nI t) : MF I ci w (aQ ci w kd v lv t) := by
  obtain ⟨c1, c2, c3, c4, c5, c6, c7, c8, c9, c10⟩ := h
  refine ⟨c7, rfl, rfl, c1, c2, ⟨lv, c10, c3, rfl⟩, ⟨t, ht, h1, rfl⟩, fun f hf => ?_⟩
  have := (pop_ok c10).1
  match f, hf with
  | 0, _ => show ci < 2 ^ 31; omega
  | 1, _ => show w < 2 ^ 31; omega
  | 2, _ => show kd < 2 ^ 31; omega
  | 3, _ => show v < 2 ^ 31; omega
  | 4, _ => show pop lv < 2 ^ 31; omega
  | 5, _ => show t % 10 < 2 ^ 31; omega
  | k + 6, hf => omega
section HEARD
variable {X : Nat × (Nat → Int32)} {d : Nat} {I : Nat → Nat → Int32} {L : Nat → Nat → Int64}
/-- the class -/
theorem s72 {q r n num kd v lv t w : Nat} {md rf ri fa : Int32} {ln T wd nb mm : Nat → Nat} (hq : isInn q) (hI : InnC I q n wd nb mm T) (h0 : I q 0 = ri) (h1 : I q 1 = fa) (hc : CupR I r num kd v lv md rf ln) (hr : r ≠ q + 4) (hr2 : r ≠ q) (hr3 : r + 1 ≠ q + 4) (hw : w ≤ 3) (ht : t < 2 ^ 31) (hn : ∀ p, p < 4 → ln p ≤ 9) : ∃ I1, (∀ k, k ≠ q + 4 → k ≠ r → I1 k = I k) ∧ CupR I1 r num kd v (hL (wiC T wd nb mm n t num w kd v lv) md kd lv w t ln) (hM (wiC T wd nb mm n t num w kd v lv) md ri fa) (hR (wiC T wd nb mm n t num w kd v lv) md rf) ln ∧ ∀ Q : Option Value → XW → Prop, wp X (d + 5) m72 0 [some (.ref r), some (.int (nI w)), some (.int (nI t)), some (.ref q)] [] (K0, R0, I, L) Q ↔ Q (some (.int (hB (wiC T wd nb mm n t num w kd v lv) md))) (K0, R0, I1, L) := by
  have hc' := hc
  obtain ⟨c0, c1, c2, c3, c4, c5, c6, c7, c8, c9, c10, c11⟩ := hc
  have hle := @hL_le (wiC T wd nb mm n t num w kd v lv) md kd lv w t ln c11 hw hn
  unfold hL hM hR hB at *
  by_cases hwi : wiC T wd nb mm n t num w kd v lv < md
  · obtain ⟨I1, g1, g2, g3⟩ := s72_no (X := X) (d := d) (L := L) hq hI hc' hr hr2 hw ht hwi
    rw [if_pos hwi, if_pos hwi, if_pos hwi, if_pos hwi]
    refine ⟨I1, g1, ⟨c0, ?_, ?_, ?_, ?_, ?_, ?_, fun p hp => ?_, c8, c9, c10, c11⟩, g3⟩
    · rw [g2, updR_j (by decide), updR_j (by decide)]; exact c1
    · rw [g2, updR_j (by decide), updR_j (by decide)]; exact c2
    · rw [g2, updR_j (by decide), updR_j (by decide)]; exact c3
    · rw [g2, updR_j (by decide), updR_j (by decide)]; exact c4
    · rw [g2, updR_same, h0]
    · rw [g2, updR_j (by decide), updR_same]
    · rw [g1 (r + 1) hr3 (by omega)]; exact c7 p hp
  · obtain ⟨I1, g1, g2, g3⟩ := s72_ok (X := X) (d := d) (L := L) hq hI hc' hr hr2 hr3 hw ht hwi
    rw [if_neg hwi] at hle
    rw [if_neg hwi, if_neg hwi, if_neg hwi, if_neg hwi]
    refine ⟨I1, g1, ⟨c0, ?_, ?_, ?_, ?_, ?_, ?_, fun p hp => ?_, c8, c9, c10, hle⟩, g3⟩
    · rw [g2, updR_j (by decide), updR_j (by decide)]; exact c1
    · rw [g2, updR_j (by decide), updR_j (by decide)]; exact c2
    · rw [g2, updR_j (by decide), updR_j (by decide)]; exact c3
    · rw [g2, updR_j (by decide), updR_same]
    · rw [g2, updR_same, h1]
    · rw [g2, updR_j (by decide), updR_j (by decide)]; exact c6
    · rw [g1 (r + 1) hr3 (by omega)]; exact c7 p hp
end HEARD
