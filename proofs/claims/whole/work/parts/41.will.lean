/-! WILL: clauses wd nb mm (word, number, how many tokens), counted on. -/
def loA (mm : Nat → Nat) (c : Nat) : Nat := itr (fun k s => s + mm k) c 0
def cntA (wd : Nat → Nat) (c : Nat) : Nat := itr (fun k s => if wd k < 2 then s + 1 else s) c 0
def amI (w n : Nat) : Int32 := if w = 0 then nI n else -nI n
theorem loA_le {mm : Nat → Nat} {n : Nat} : ∀ j c, c + j = n → loA mm c ≤ loA mm n := by
  intro j
  induction j with
  | zero =>
    intro c h
    have e : c = n := by omega
    rw [e]
    exact Nat.le_refl _
  | succ j ih =>
    intro c h
    have a := ih (c + 1) (by omega)
    have b : loA mm (c + 1) = loA mm c + mm c := rfl
    omega
theorem cntA_le {wd : Nat → Nat} {n : Nat} : ∀ j c, c + j = n → cntA wd c ≤ cntA wd n := by
  intro j
  induction j with
  | zero =>
    intro c h
    have e : c = n := by omega
    rw [e]
    exact Nat.le_refl _
  | succ j ih =>
    intro c h
    have a := ih (c + 1) (by omega)
    have b : cntA wd (c + 1) = if wd c < 2 then cntA wd c + 1 else cntA wd c := rfl
    split at b <;> omega
theorem cntA_n {wd : Nat → Nat} : ∀ n, cntA wd n ≤ n := by
  intro n
  induction n with
  | zero => exact Nat.le_refl _
  | succ n ih =>
    have b : cntA wd (n + 1) = if wd n < 2 then cntA wd n + 1 else cntA wd n := rfl
    split at b <;> omega
/-- an inn of the class, read -/
def InnC (I : Nat → Nat → Int32) (q n : Nat) (wd nb mm T : Nat → Nat) : Prop := n ≤ 10 ∧ I q 2 = nI (cntA wd n) ∧ (∀ c, c < n → wd c < 2 → I (q + 1) (cntA wd c) = amI (wd c) (nb c) ∧ I (q + 2) (cntA wd c) = nI (loA mm (c + 1)) ∧ okE T (loA mm c) (mm c)) ∧ (∀ c, c < n → 2 ≤ wd c → mm c = 0) ∧ loA mm n ≤ 100 ∧ ∀ s, s < loA mm n → I (q + 3) s = cT (T s)
def wiF (a T wd nb mm : Nat → Nat) (c : Nat) (x : Int32) : Int32 := if wd c < 2 then (if holdN a T (loA mm c) (mm c) = true then x + amI (wd c) (nb c) else x) else x
def wiN (a T wd nb mm : Nat → Nat) (n : Nat) : Int32 := itr (wiF a T wd nb mm) n 5
/-- no less than 0 -/
def mx0 (x : Int32) : Int32 := if x < 0 then 0 else x
section WILL
variable {X : Nat × (Nat → Int32)} {d : Nat} {I : Nat → Nat → Int32} {L : Nat → Nat → Int64} {Q : Option Value → XW → Prop}
theorem s20L {q n : Nat} {a T wd nb mm : Nat → Nat} (hq : isInn q) (h : InnC I q n wd nb mm T) (ha : ∀ f, f < 6 → I (q + 4) f = nI (a f) ∧ a f < 2 ^ 31) : wp X (d + 2) m20 16 [some (.ref q), none, none, none, some (.int 5), some (.int 0), some (.int 0)] [] (K0, R0, I, L) Q ↔ Q (some (.int (mx0 (wiN a T wd nb mm n)))) (K0, R0, I, L) := by
  obtain ⟨hn, h2, h3, h4, h5, h6⟩ := h
  have hcn := @cntA_n wd n
  refine (for_iff (P := fun c (x : Int32) => wp X (d + 2) m20 16 [some (.ref q), none, none, none, some (.int x), some (.int (nI (loA mm c))), some (.int (nI (cntA wd c)))] [] (K0, R0, I, L) Q) (F := wiF a T wd nb mm) n (fun c x hc => ?_) 5).trans ?_
  · have hlo := @loA_le mm n (n - (c + 1)) (c + 1) (by omega)
    have elo : loA mm (c + 1) = loA mm c + mm c := rfl
    have ecn : cntA wd (c + 1) = if wd c < 2 then cntA wd c + 1 else cntA wd c := rfl
    have hcl := @cntA_le wd n (n - (c + 1)) (c + 1) (by omega)
    unfold wiF
    by_cases hw : wd c < 2
    · rw [if_pos hw] at ecn ⊢
      obtain ⟨g1, g2, g3⟩ := h3 c hc hw
      have i1 : inA (nI (cntA wd c)) 10 = true := inA_nI (by omega) (by decide)
      have l10 : nI (cntA wd c) < (10 : Int32) := nI_lt (b := 10) (by omega) (by decide)
      rw [b20_16 hq, h2, if_pos (nI_lt (by omega) (by omega)), if_pos l10, if_pos l10, and_iff_right i1, nI_clamp (by omega), g2, elo, s23 hq (by omega) ha (fun k hk => h6 _ (by omega)) g3]
      simp only [Option.toList, List.cons_append, List.nil_append]
      rw [b20_58 hq, and_iff_right i1, and_iff_right i1, and_iff_right i1, nI_clamp (by omega), g1, g2, nI_1, ← ecn]
      cases hold : holdN a T (loA mm c) (mm c)
      · rw [if_pos (bI_0.mpr rfl), if_neg (by decide), elo]
      · rw [if_neg (fun z => absurd (bI_0.mp z) (by decide)), if_pos rfl, elo]
    · rw [if_neg hw] at ecn ⊢
      rw [ecn, elo, h4 c hc (by omega)]
      exact Iff.rfl
  · rw [b20_16 hq, h2, if_neg (nI_nlt (Nat.le_refl _) (by omega)), b3_0]
    simp only [Option.toList, List.cons_append, List.nil_append]
    rw [b20_94]
    exact Iff.rfl
end WILL
