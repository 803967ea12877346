/-! The class asks an inn about a cup: a row of six numbers, then WILL. -/
/-- a cup of the class, read -/
def CupR (I : Nat → Nat → Int32) (r num kd v lv : Nat) (md rf : Int32) (ln : Nat → Nat) : Prop := isCup r ∧ I r 0 = nI num ∧ I r 1 = nI kd ∧ I r 2 = nI v ∧ I r 3 = nI lv ∧ I r 4 = md ∧ I r 5 = rf ∧ (∀ p, p < 4 → I (r + 1) p = nI (ln p)) ∧ num < 5 ∧ kd ≤ 6 ∧ v ≤ 9 ∧ lv ≤ 4095
def aQ (num w kd v lv t : Nat) (f : Nat) : Nat := match f with
  | 0 => num
  | 1 => w
  | 2 => kd
  | 3 => v
  | 4 => pop lv
  | _ => t % 10
theorem InnC.cong {I I1 : Nat → Nat → Int32} {q n : Nat} {wd nb mm T : Nat → Nat} (h : InnC I q n wd nb mm T) (e : ∀ k, k ≠ q + 4 → I1 k = I k) : InnC I1 q n wd nb mm T := by
  unfold InnC at h ⊢
  rw [e q (by omega), e (q + 1) (by omega), e (q + 2) (by omega), e (q + 3) (by omega)]
  exact h
section ASKED
variable {X : Nat × (Nat → Int32)} {d : Nat} {I : Nat → Nat → Int32} {L : Nat → Nat → Int64}
/-- WILL: the class -/
theorem s20 {q r n num kd v lv t w : Nat} {md rf : Int32} {ln T wd nb mm : Nat → Nat} (hq : isInn q) (hI : InnC I q n wd nb mm T) (hc : CupR I r num kd v lv md rf ln) (hr : r ≠ q + 4) (hw : w ≤ 3) (ht : t < 2 ^ 31) : ∃ I1, (∀ k, k ≠ q + 4 → I1 k = I k) ∧ ∀ Q : Option Value → XW → Prop, wp X (d + 3) m20 0 [some (.ref q), some (.ref r), some (.int (nI w)), some (.int (nI t)), none, none, none] [] (K0, R0, I, L) Q ↔ Q (some (.int (mx0 (wiN (aQ num w kd v lv t) T wd nb mm n)))) (K0, R0, I1, L) := by
  obtain ⟨c0, c1, c2, c3, c4, c5, c6, c7, c8, c9, c10, c11⟩ := hc
  have hp := pop_ok c11
  have hm : nI t - nI t / 10 * 10 = nI (t % 10) := nI_rem (b := 10) ht (by decide)
  have rr : ∀ (J : Nat → Nat → Int32) (j b : Nat) (x : Int32), updR J (q + 4) j x r b = J r b := fun J j b x => updR_k hr
  refine ⟨updR (updR (updR (updR (updR (updR I (q + 4) 0 (nI num)) (q + 4) 1 (nI w)) (q + 4) 2 (nI kd)) (q + 4) 3 (nI v)) (q + 4) 4 (nI (pop lv))) (q + 4) 5 (nI (t % 10)), fun k hk => ?_, fun Q => ?_⟩
  · rw [updR_row k hk, updR_row k hk, updR_row k hk, updR_row k hk, updR_row k hk, updR_row k hk]
  · rw [b20_0 hq c0, b21_0 hq c0]
    simp only [rr, c1, c2, c3, c4, s22, hp.2.2, Option.toList, List.cons_append, List.nil_append]
    rw [b21_49 hq hq.2.2.2.2.2.2.2.2, and_iff_right (by decide), show (4 : Int32).toNatClampNeg = 4 by decide, hm]
    simp only [Option.toList, List.cons_append, List.nil_append]
    rw [b20_7 hq]
    refine s20L hq (hI.cong (fun k hk => by rw [updR_row k hk, updR_row k hk, updR_row k hk, updR_row k hk, updR_row k hk, updR_row k hk])) (fun f hf => ?_)
    match f, hf with
    | 0, _ => exact ⟨by simp [updR, aQ], show num < 2 ^ 31 by omega⟩
    | 1, _ => exact ⟨by simp [updR, aQ], show w < 2 ^ 31 by omega⟩
    | 2, _ => exact ⟨by simp [updR, aQ], show kd < 2 ^ 31 by omega⟩
    | 3, _ => exact ⟨by simp [updR, aQ], show v < 2 ^ 31 by omega⟩
    | 4, _ => exact ⟨by simp [updR, aQ], show pop lv < 2 ^ 31 by omega⟩
    | 5, _ => exact ⟨by simp [updR, aQ], show t % 10 < 2 ^ 31 by omega⟩
    | k + 6, hf => omega
end ASKED
