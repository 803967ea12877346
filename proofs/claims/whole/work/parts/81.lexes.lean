/-! THE TEXT: its signs, words and numbers, as the class reads them. -/
def sg (tx : Nat → Nat) (sz p : Nat) : Int32 := if p < sz then nI (tx p) else -1
def TxC (I : Nat → Nat → Int32) (tx : Nat → Nat) (sz : Nat) : Prop := sz ≤ 100 ∧ I 64 1 = nI sz ∧ ∀ k, k < sz → I 65 k = nI (tx k)
theorem updR_set {I : Nat → Nat → Int32} {a b : Nat} {v : Int32} (h : I a b = v) : updR I a b v = I := by
  funext x y
  by_cases c : x = a
  · subst c
    by_cases e : y = b
    · subst e; rw [updR_same]; exact h.symm
    · rw [updR_j e]
  · rw [updR_k c]
theorem updR_two {I : Nat → Nat → Int32} {a b : Nat} {u v : Int32} : updR (updR I a b u) a b v = updR I a b v := by
  funext x y
  by_cases c : x = a
  · subst c
    by_cases e : y = b
    · subst e; rw [updR_same, updR_same]
    · rw [updR_j e, updR_j e, updR_j e]
  · rw [updR_k c, updR_k c, updR_k c]
theorem TxC.at {I : Nat → Nat → Int32} {tx : Nat → Nat} {sz : Nat} {v : Int32} (h : TxC I tx sz) : TxC (updR I 64 2 v) tx sz := by
  obtain ⟨h1, h2, h3⟩ := h
  exact ⟨h1, by rw [updR_j (by decide)]; exact h2, fun k hk => by rw [updR_k (by decide)]; exact h3 k hk⟩
/-- a word -/
def StrV (w n : Nat) (cs : Nat → Int32) : Prop := n ≤ 20 ∧ Int32.ofNat n >>> ((0 : Int32) &&& 31) = nI n ∧ ∃ f, isStr w n f ∧ ∀ k, k < n → fits .char (.int (((Int32.toUInt32 ((f k) &&& (255 : Int32))) % 65536).toInt32)) = true ∧ ((Int32.toUInt32 ((f k) &&& (255 : Int32))) % 65536).toInt32 = cs k
def lsF (l : List Int32) (k : Nat) : Int32 := l.getD k 0
theorem sv0 : StrV 1000000 4 (lsF [98, 97, 108, 107]) := ⟨by decide, by decide, _, str_ok0, by decide +kernel⟩
theorem sv1 : StrV 1000001 4 (lsF [114, 105, 115, 101]) := ⟨by decide, by decide, _, str_ok1, by decide +kernel⟩
theorem sv2 : StrV 1000002 4 (lsF [102, 97, 108, 108]) := ⟨by decide, by decide, _, str_ok2, by decide +kernel⟩
theorem sv3 : StrV 1000003 4 (lsF [119, 105, 108, 108]) := ⟨by decide, by decide, _, str_ok3, by decide +kernel⟩
theorem sv4 : StrV 1000004 1 (lsF [32]) := ⟨by decide, by decide, _, str_ok4, by decide +kernel⟩
theorem sv5 : StrV 1000005 6 (lsF [99, 119, 107, 118, 108, 110]) := ⟨by decide, by decide, _, str_ok5, by decide +kernel⟩
theorem sv6 : StrV 1000006 3 (lsF [60, 61, 62]) := ⟨by decide, by decide, _, str_ok6, by decide +kernel⟩
theorem sv7 : StrV 1000007 1 (lsF [41]) := ⟨by decide, by decide, _, str_ok7, by decide +kernel⟩
/-- n signs of a word from its i-th on, at p -/
def wrd (s cs : Nat → Int32) : Nat → Nat → Nat → Nat × Bool
  | 0, _, p => (p, true)
  | n + 1, i, p => if s p = cs i then wrd s cs n (i + 1) (p + 1) else (p, false)
/-- one of n signs, from the i-th on -/
def oneOf (s : Int32) (cs : Nat → Int32) : Nat → Nat → Option Nat
  | 0, _ => none
  | n + 1, i => if s = cs i then some i else oneOf s cs n (i + 1)
/-- one digit, or two -/
def isDg (x : Int32) : Bool := decide (48 ≤ x) && decide (x ≤ 57)
def dgN (x : Int32) : Nat := (x - 48).toNatClampNeg
def nmb (s : Nat → Int32) (p : Nat) : Nat × Option Nat := if isDg (s p) = true then (if isDg (s (p + 1)) = true then (p + 2, some (dgN (s p) * 10 + dgN (s (p + 1)))) else (p + 1, some (dgN (s p)))) else (p, none)
def opI (o : Option Nat) : Int32 := match o with
  | none => -1
  | some n => nI n
def TxS (tx : Nat → Nat) (sz : Nat) : Prop := ∀ k, k < sz → tx k ≤ 127
theorem sg_all (P : Int32 → Prop) [DecidablePred P] (h : P (-1) ∧ ∀ t, t < 128 → P (nI t)) {tx : Nat → Nat} {sz : Nat} (hS : TxS tx sz) (p : Nat) : P (sg tx sz p) := by
  unfold sg
  by_cases c : p < sz
  · rw [if_pos c]; exact h.2 _ (by have := hS p c; omega)
  · rw [if_neg c]; exact h.1
theorem dig1 {tx : Nat → Nat} {sz : Nat} (hS : TxS tx sz) (p : Nat) : (if sg tx sz p - 48 < 0 then (0 : Int32) else if sg tx sz p - 48 < 10 then 1 else 0) = bI (isDg (sg tx sz p)) := sg_all (fun x => (if x - 48 < 0 then (0 : Int32) else if x - 48 < 10 then 1 else 0) = bI (isDg x)) (by decide +kernel) hS p
theorem dig2 {tx : Nat → Nat} {sz : Nat} (hS : TxS tx sz) (p : Nat) : (if sg tx sz p < 48 then (0 : Int32) else if 57 < sg tx sz p then 0 else 1) = bI (isDg (sg tx sz p)) := sg_all (fun x => (if x < 48 then (0 : Int32) else if 57 < x then 0 else 1) = bI (isDg x)) (by decide +kernel) hS p
theorem dig3 {tx : Nat → Nat} {sz : Nat} (hS : TxS tx sz) (p : Nat) : isDg (sg tx sz p) = true → sg tx sz p - 48 = nI (dgN (sg tx sz p)) ∧ dgN (sg tx sz p) ≤ 9 ∧ sg tx sz p = nI (dgN (sg tx sz p) + 48) := sg_all (fun x => isDg x = true → x - 48 = nI (dgN x) ∧ dgN x ≤ 9 ∧ x = nI (dgN x + 48)) (by decide +kernel) hS p
theorem dig4 {tx : Nat → Nat} {sz p : Nat} (h : isDg (sg tx sz p) = true) : p < sz := by
  by_cases c : p < sz
  · exact c
  · unfold sg at h
    rw [if_neg c] at h
    exact absurd h (by decide)
theorem nmb_le {tx : Nat → Nat} {sz p : Nat} (hS : TxS tx sz) (hp : p ≤ sz) : p ≤ (nmb (sg tx sz) p).1 ∧ (nmb (sg tx sz) p).1 ≤ sz ∧ ∀ n, (nmb (sg tx sz) p).2 = some n → n ≤ 99 ∧ p < (nmb (sg tx sz) p).1 := by
  unfold nmb
  by_cases c : isDg (sg tx sz p) = true
  · have g := dig3 hS p c
    have l := dig4 c
    by_cases e : isDg (sg tx sz (p + 1)) = true
    · have g2 := dig3 hS (p + 1) e
      have l2 := dig4 e
      rw [if_pos c, if_pos e]
      refine ⟨by simp only []; omega, by simp only []; omega, fun n h => ?_⟩
      simp only [Option.some.injEq] at h
      exact ⟨by omega, by simp only []; omega⟩
    · rw [if_pos c, if_neg e]
      refine ⟨by simp only []; omega, by simp only []; omega, fun n h => ?_⟩
      simp only [Option.some.injEq] at h
      exact ⟨by omega, by simp only []; omega⟩
  · rw [if_neg c]
    exact ⟨Nat.le_refl _, hp, fun n h => absurd h (fun q => by cases q)⟩
theorem sg_lt {tx : Nat → Nat} {sz p : Nat} {v : Int32} (h : sg tx sz p = v) (hv : v ≠ -1) : p < sz := by
  by_cases c : p < sz
  · exact c
  · unfold sg at h
    rw [if_neg c] at h
    exact absurd h.symm hv
section LEX
variable {X : Nat × (Nat → Int32)} {d : Nat} {L : Nat → Nat → Int64} {tx : Nat → Nat} {sz : Nat}
theorem p44 {I : Nat → Nat → Int32} {Q : Option Value → XW → Prop} {p : Nat} (hT : TxC I tx sz) (hp : I 64 2 = nI p) (hs : p ≤ sz) : wp X d m44 0 [some (.ref 64)] [] (K0, R0, I, L) Q ↔ Q (some (.int (sg tx sz p))) (K0, R0, I, L) := by
  obtain ⟨h1, h2, h3⟩ := hT
  rw [b44_0, hp, h2, if_neg (nI_pos (by omega))]
  unfold sg
  by_cases c : p < sz
  · rw [if_pos (nI_lt c (by omega)), if_pos (show nI p < (100 : Int32) from nI_lt (b := 100) (by omega) (by decide)), and_iff_right (inA_nI (by omega) (by decide)), nI_clamp (by omega), h3 p c, if_pos c]
  · rw [if_neg (nI_nlt (by omega) (by omega)), if_neg c]
theorem p47 {I : Nat → Nat → Int32} {Q : Option Value → XW → Prop} {w n : Nat} {cs : Nat → Int32} (h : StrV w n cs) : wp X (d + 1) m47 0 [some (.ref w)] [] (K0, R0, I, L) Q ↔ Q (some (.int (nI n))) (K0, R0, I, L) := by
  obtain ⟨-, h2, f, h3, -⟩ := h
  rw [b47_0 h3, b48_0 h3]
  simp only [Option.toList, List.cons_append, List.nil_append]
  rw [b47_9, if_neg (by decide), h2]
theorem p49 {I : Nat → Nat → Int32} {Q : Option Value → XW → Prop} {w n i : Nat} {cs : Nat → Int32} (h : StrV w n cs) (hi : i < n) : wp X (d + 3) m49 0 [some (.ref w), some (.int (nI i))] [] (K0, R0, I, L) Q ↔ Q (some (.int (cs i))) (K0, R0, I, L) := by
  obtain ⟨h1, -, f, h3, h4⟩ := h
  obtain ⟨g1, g2⟩ := h4 i hi
  rw [b49_0 h3, b50_0 h3]
  simp only [Option.toList, List.cons_append, List.nil_append]
  rw [b49_4 h3, if_neg (by decide), b51_0 (strBytes h3), b52_0, b53_0, if_neg (nI_pos (by omega)), if_pos (show nI i < Int32.ofNat n from nI_lt hi (by omega))]
  simp only [Option.toList, List.cons_append, List.nil_append]
  rw [b52_8]
  simp only [Option.toList, List.cons_append, List.nil_append]
  rw [b51_6 (strBytes h3), and_iff_right (inA_nI hi (by omega)), nI_clamp (by omega), and_iff_right g1, g2]
  simp only [Option.toList, List.cons_append, List.nil_append]
  rw [b49_15, ← g2, and_iff_right g1]
theorem wrd_le {s cs : Nat → Int32} : ∀ n i p, p ≤ (wrd s cs n i p).1 ∧ ((wrd s cs n i p).2 = true → (wrd s cs n i p).1 = p + n) := by
  intro n
  induction n with
  | zero => intro i p; exact ⟨Nat.le_refl _, fun _ => rfl⟩
  | succ n ih =>
    intro i p
    unfold wrd
    by_cases c : s p = cs i
    · rw [if_pos c]
      have := ih (i + 1) (p + 1)
      exact ⟨by omega, fun h => by have := this.2 h; omega⟩
    · rw [if_neg c]
      exact ⟨Nat.le_refl _, fun h => absurd h Bool.false_ne_true⟩
theorem wrd_sz {cs : Nat → Int32} : ∀ n i p, (∀ k, k < i + n → cs k ≠ -1) → p ≤ sz → (wrd (sg tx sz) cs n i p).1 ≤ sz := by
  intro n
  induction n with
  | zero => intro i p _ h; exact h
  | succ n ih =>
    intro i p hc h
    unfold wrd
    by_cases c : sg tx sz p = cs i
    · rw [if_pos c]
      have := sg_lt c (hc i (by omega))
      exact ih (i + 1) (p + 1) (fun k hk => hc k (by omega)) (by omega)
    · rw [if_neg c]
      exact h
theorem p46 {w n : Nat} {cs : Nat → Int32} (h : StrV w n cs) (hc : ∀ k, k < n → cs k ≠ -1) {Q : Option Value → XW → Prop} : ∀ rem i p (I : Nat → Nat → Int32), i + rem = n → TxC I tx sz → I 64 2 = nI p → p ≤ sz → (wp X (d + 4) m46 2 [some (.ref 64), some (.ref w), some (.int (nI i))] [] (K0, R0, I, L) Q ↔ Q (some (.int (bI (wrd (sg tx sz) cs rem i p).2))) (K0, R0, updR I 64 2 (nI (wrd (sg tx sz) cs rem i p).1), L)) := by
  have hn := h.1
  obtain ⟨-, -, f, h3, -⟩ := id h
  intro rem
  induction rem with
  | zero =>
    intro i p I hi hT hp hs
    rw [b46_2 h3, p47 h]
    simp only [Option.toList, List.cons_append, List.nil_append]
    rw [b46_7 h3, if_neg (nI_nlt (by omega) (by omega))]
    unfold wrd
    rw [updR_set hp]
    exact Iff.rfl
  | succ rem ih =>
    intro i p I hi hT hp hs
    rw [b46_2 h3, p47 h]
    simp only [Option.toList, List.cons_append, List.nil_append]
    rw [b46_7 h3, if_pos (nI_lt (by omega) (by omega)), p44 hT hp hs]
    simp only [Option.toList, List.cons_append, List.nil_append]
    rw [b46_14 h3, p49 h (by omega)]
    simp only [Option.toList, List.cons_append, List.nil_append]
    rw [b46_19 h3]
    unfold wrd
    by_cases c : sg tx sz p = cs i
    · rw [if_pos c, if_pos c, nI_1, hp, nI_1, ih (i + 1) (p + 1) _ (by omega) hT.at updR_same (by have := sg_lt c (hc i (by omega)); omega), updR_two]
    · rw [if_neg c, if_neg c, updR_set hp]
      exact Iff.rfl
theorem p46_0 {w n p : Nat} {cs : Nat → Int32} (h : StrV w n cs) (hc : ∀ k, k < n → cs k ≠ -1) {I : Nat → Nat → Int32} {Q : Option Value → XW → Prop} (hT : TxC I tx sz) (hp : I 64 2 = nI p) (hs : p ≤ sz) : wp X (d + 4) m46 0 [some (.ref 64), some (.ref w), none] [] (K0, R0, I, L) Q ↔ Q (some (.int (bI (wrd (sg tx sz) cs n 0 p).2))) (K0, R0, updR I 64 2 (nI (wrd (sg tx sz) cs n 0 p).1), L) := by
  obtain ⟨-, -, f, h3, -⟩ := id h
  rw [b46_0 h3]
  exact p46 h hc n 0 p I (by omega) hT hp hs
theorem p59 {w n : Nat} {cs : Nat → Int32} (h : StrV w n cs) {Q : Option Value → XW → Prop} {p : Nat} {I : Nat → Nat → Int32} (hT : TxC I tx sz) (hp : I 64 2 = nI p) (hs : p ≤ sz) : ∀ rem i, i + rem = n → (wp X (d + 4) m59 2 [some (.ref 64), some (.ref w), some (.int (nI i))] [] (K0, R0, I, L) Q ↔ match oneOf (sg tx sz p) cs rem i with
    | none => Q (some (.int (-1))) (K0, R0, I, L)
    | some k => Q (some (.int (nI k))) (K0, R0, updR I 64 2 (nI (p + 1)), L)) := by
  have hn := h.1
  obtain ⟨-, -, f, h3, -⟩ := id h
  intro rem
  induction rem with
  | zero =>
    intro i hi
    rw [b59_2 h3, p47 h]
    simp only [Option.toList, List.cons_append, List.nil_append]
    rw [b59_7 h3, if_neg (nI_nlt (by omega) (by omega))]
    exact Iff.rfl
  | succ rem ih =>
    intro i hi
    rw [b59_2 h3, p47 h]
    simp only [Option.toList, List.cons_append, List.nil_append]
    rw [b59_7 h3, if_pos (nI_lt (by omega) (by omega)), p44 hT hp hs]
    simp only [Option.toList, List.cons_append, List.nil_append]
    rw [b59_14 h3, p49 h (by omega)]
    simp only [Option.toList, List.cons_append, List.nil_append]
    rw [b59_19 h3]
    unfold oneOf
    by_cases c : sg tx sz p = cs i
    · rw [if_pos c, if_pos c, hp, nI_1]
    · rw [if_neg c, if_neg c, nI_1]
      exact ih (i + 1) (by omega)
theorem p54 (hS : TxS tx sz) {I : Nat → Nat → Int32} {Q : Option Value → XW → Prop} {p : Nat} (hT : TxC I tx sz) (hp : I 64 2 = nI p) (hs : p ≤ sz) : wp X (d + 1) m54 0 [some (.ref 64), none, none, none] [] (K0, R0, I, L) Q ↔ Q (some (.int (opI (nmb (sg tx sz) p).2))) (K0, R0, updR I 64 2 (nI (nmb (sg tx sz) p).1), L) := by
  rw [b54_0, b54_4, if_pos (by decide), p44 hT hp hs]
  simp only [Option.toList, List.cons_append, List.nil_append]
  rw [b54_13, b11_0, dig1 hS p]
  simp only [Option.toList, List.cons_append, List.nil_append]
  rw [b54_21]
  unfold nmb
  by_cases c : isDg (sg tx sz p) = true
  · have l := dig4 c
    obtain ⟨g1, g2, -⟩ := dig3 hS p c
    rw [c, if_neg (by decide), if_pos rfl, b3_0, if_pos (by decide)]
    simp only [Option.toList, List.cons_append, List.nil_append]
    rw [b54_31, hp, nI_1, g1, show (0 : Int32) * 10 + nI (dgN (sg tx sz p)) = nI (dgN (sg tx sz p)) by rw [Int32.zero_mul, Int32.zero_add], b54_4, if_pos (by decide), p44 hT.at updR_same (by omega)]
    simp only [Option.toList, List.cons_append, List.nil_append]
    rw [b54_13, b11_0, dig1 hS (p + 1)]
    simp only [Option.toList, List.cons_append, List.nil_append]
    rw [b54_21]
    by_cases e : isDg (sg tx sz (p + 1)) = true
    · have l2 := dig4 e
      obtain ⟨k1, k2, -⟩ := dig3 hS (p + 1) e
      rw [e, if_neg (by decide), if_pos rfl, b3_0, if_neg (nI_pos (by omega))]
      simp only [Option.toList, List.cons_append, List.nil_append]
      rw [b54_31, updR_same, nI_1, k1, updR_two, show nI (dgN (sg tx sz p)) * 10 + nI (dgN (sg tx sz (p + 1))) = nI (dgN (sg tx sz p) * 10 + dgN (sg tx sz (p + 1))) by rw [show nI (dgN (sg tx sz p)) * 10 = nI (dgN (sg tx sz p) * 10) from nI_mul _ 10, nI_add], b54_4, if_neg (by decide)]
      exact Iff.rfl
    · rw [Bool.not_eq_true] at e
      rw [e, if_pos (by decide), if_neg (by decide)]
      exact Iff.rfl
  · rw [Bool.not_eq_true] at c
    rw [c, if_pos (by decide), if_neg (by decide), updR_set hp]
    exact Iff.rfl
end LEX
