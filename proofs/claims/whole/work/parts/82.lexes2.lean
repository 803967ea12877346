/-! THE TEXT, as the reference reads its signs, words and numbers. -/
def TxM (I : Nat → Nat → Int32) (tx : Nat → Nat) (sz : Nat) : Prop := sz ≤ 100 ∧ I 124 10 = nI sz ∧ ∀ k, k < sz → I 131 k = nI (tx k)
theorem updR_comm {I : Nat → Nat → Int32} {a b a2 b2 : Nat} {u v : Int32} (h : ¬ (a = a2 ∧ b = b2)) : updR (updR I a b u) a2 b2 v = updR (updR I a2 b2 v) a b u := by
  funext x y
  by_cases c : x = a ∧ y = b
  · obtain ⟨rfl, rfl⟩ := c
    rw [updR_same]
    by_cases e : x = a2
    · subst e; rw [updR_j (fun q => h ⟨rfl, q⟩), updR_same]
    · rw [updR_k e, updR_same]
  · have n : ∀ (J : Nat → Nat → Int32) (w : Int32), updR J a b w x y = J x y := fun J w => by
      by_cases e : x = a
      · subst e; rw [updR_j (fun q => c ⟨rfl, q⟩)]
      · rw [updR_k e]
    rw [n]
    by_cases e : x = a2 ∧ y = b2
    · obtain ⟨rfl, rfl⟩ := e
      rw [updR_same, updR_same]
    · have m : ∀ (J : Nat → Nat → Int32) (w : Int32), updR J a2 b2 w x y = J x y := fun J w => by
        by_cases f : x = a2
        · subst f; rw [updR_j (fun q => e ⟨rfl, q⟩)]
        · rw [updR_k f]
      rw [m, m, n]
theorem TxM.cg {I J : Nat → Nat → Int32} {tx : Nat → Nat} {sz : Nat} (h : TxM I tx sz) (e1 : J 124 10 = I 124 10) (e2 : J 131 = I 131) : TxM J tx sz := by
  unfold TxM at h ⊢
  rw [e1, e2]
  exact h
theorem TxM.at {I : Nat → Nat → Int32} {tx : Nat → Nat} {sz b : Nat} {v : Int32} (h : TxM I tx sz) (hb : b ≠ 10) : TxM (updR I 124 b v) tx sz := h.cg (updR_j hb.symm) (updR_row 131 (by decide))
def wr2 (s cs : Nat → Int32) (p : Nat) : Nat × Bool := if (wrd s cs 4 0 p).2 = true then wrd s (lsF [32]) 1 0 (wrd s cs 4 0 p).1 else wrd s cs 4 0 p
section LEX
variable {X : Nat × (Nat → Int32)} {d : Nat} {L : Nat → Nat → Int64} {tx : Nat → Nat} {sz : Nat}
theorem p152 {I : Nat → Nat → Int32} {Q : Option Value → XW → Prop} {p : Nat} (hT : TxM I tx sz) (hp : I 124 11 = nI p) (hs : p ≤ sz) : wp X d m152 0 [some (.ref 124)] [] (K0, R0, I, L) Q ↔ Q (some (.int (sg tx sz p))) (K0, R0, I, L) := by
  obtain ⟨h1, h2, h3⟩ := hT
  rw [b152_0, hp, h2]
  unfold sg
  by_cases c : p < sz
  · rw [if_pos (nI_lt c (by omega)), and_iff_right (inA_nI (by omega) (by decide)), nI_clamp (by omega), h3 p c, if_pos c]
  · rw [if_neg (nI_nlt (by omega) (by omega)), if_neg c]
theorem p154 {I : Nat → Nat → Int32} {Q : Option Value → XW → Prop} {p : Nat} {x : Int32} (hT : TxM I tx sz) (hp : I 124 11 = nI p) (hs : p ≤ sz) : wp X (d + 1) m154 0 [some (.ref 124), some (.int x)] [] (K0, R0, I, L) Q ↔ if sg tx sz p = x then Q (some (.int 1)) (K0, R0, updR I 124 11 (nI (p + 1)), L) else Q (some (.int 0)) (K0, R0, I, L) := by
  rw [b154_0, p152 hT hp hs]
  simp only [Option.toList, List.cons_append, List.nil_append]
  rw [b154_4, hp, nI_1]
theorem p153 {a : Nat} {cs : Nat → Int32} (ha : a + 4 ≤ 16) {Q : Option Value → XW → Prop} : ∀ rem i p (I : Nat → Nat → Int32), i + rem = 4 → (∀ k, k < 4 → I 139 (a + k) = cs k ∧ cs k ≠ -1) → TxM I tx sz → I 124 11 = nI p → p ≤ sz → (wp X (d + 2) m153 2 [some (.ref 124), some (.int (nI a)), some (.int 4), some (.int (nI i))] [] (K0, R0, I, L) Q ↔ if (wrd (sg tx sz) cs rem i p).2 = true then wp X (d + 2) m153 2 [some (.ref 124), some (.int (nI a)), some (.int 4), some (.int 4)] [] (K0, R0, updR I 124 11 (nI (wrd (sg tx sz) cs rem i p).1), L) Q else Q (some (.int 0)) (K0, R0, updR I 124 11 (nI (wrd (sg tx sz) cs rem i p).1), L)) := by
  intro rem
  induction rem with
  | zero =>
    intro i p I hi hc hT hp hs
    have e : i = 4 := by omega
    subst e
    unfold wrd
    rw [if_pos rfl, updR_set hp]
    exact Iff.rfl
  | succ rem ih =>
    intro i p I hi hc hT hp hs
    obtain ⟨c1, c2⟩ := hc i (by omega)
    rw [b153_2, if_pos (show nI i < (4 : Int32) from nI_lt (b := 4) (by omega) (by decide)), nI_add, and_iff_right (inA_nI (by omega) (by decide)), nI_clamp (by omega), c1, p154 hT hp hs]
    unfold wrd
    by_cases c : sg tx sz p = cs i
    · rw [if_pos c, if_pos c]
      simp only [Option.toList, List.cons_append, List.nil_append]
      rw [b153_19, if_neg (by decide), nI_1, ih (i + 1) (p + 1) _ (by omega) (fun k hk => by rw [updR_row 139 (by decide)]; exact hc k hk) (hT.at (by decide)) updR_same (by have := sg_lt c c2; omega), updR_two]
    · rw [if_neg c, if_neg c, if_neg Bool.false_ne_true, updR_set hp]
      simp only [Option.toList, List.cons_append, List.nil_append]
      rw [b153_19, if_pos (by decide)]
theorem wr2_le {cs : Nat → Int32} {p : Nat} (hc : ∀ k, k < 4 → cs k ≠ -1) (hs : p ≤ sz) : p ≤ (wr2 (sg tx sz) cs p).1 ∧ (wr2 (sg tx sz) cs p).1 ≤ sz ∧ ((wr2 (sg tx sz) cs p).2 = true → (wr2 (sg tx sz) cs p).1 = p + 5) := by
  have a := @wrd_le (sg tx sz) cs 4 0 p
  have b := @wrd_sz tx sz cs 4 0 p (fun k hk => hc k (by omega)) hs
  have a2 := @wrd_le (sg tx sz) (lsF [32]) 1 0 (wrd (sg tx sz) cs 4 0 p).1
  have b2 := @wrd_sz tx sz (lsF [32]) 1 0 (wrd (sg tx sz) cs 4 0 p).1 (fun k hk => by
    have : k = 0 := by omega
    subst this
    decide) b
  unfold wr2
  by_cases c : (wrd (sg tx sz) cs 4 0 p).2 = true
  · rw [if_pos c]
    have := a.2 c
    exact ⟨by omega, b2, fun h => by have := a2.2 h; omega⟩
  · rw [if_neg c]
    exact ⟨a.1, b, fun h => absurd h c⟩
theorem p153_0 {I : Nat → Nat → Int32} {Q : Option Value → XW → Prop} {a p : Nat} {cs : Nat → Int32} (ha : a + 4 ≤ 16) (hc : ∀ k, k < 4 → I 139 (a + k) = cs k ∧ cs k ≠ -1) (hT : TxM I tx sz) (hp : I 124 11 = nI p) (hs : p ≤ sz) : wp X (d + 2) m153 0 [some (.ref 124), some (.int (nI a)), some (.int 4), none] [] (K0, R0, I, L) Q ↔ Q (some (.int (bI (wr2 (sg tx sz) cs p).2))) (K0, R0, updR I 124 11 (nI (wr2 (sg tx sz) cs p).1), L) := by
  have b := @wrd_sz tx sz cs 4 0 p (fun k hk => (hc k (by omega)).2) hs
  rw [b153_0]
  refine (p153 (i := 0) ha 4 p I rfl hc hT hp hs).trans ?_
  unfold wr2
  by_cases c : (wrd (sg tx sz) cs 4 0 p).2 = true
  · rw [if_pos c, if_pos c, b153_2, if_neg (by decide), p154 (hT.at (by decide)) updR_same b]
    generalize (wrd (sg tx sz) cs 4 0 p).1 = q at b
    unfold wrd wrd
    by_cases e : sg tx sz q = lsF [32] 0
    · rw [if_pos e, if_pos (show sg tx sz q = 32 from e)]
      simp only [Option.toList, List.cons_append, List.nil_append]
      rw [b153_36, updR_two]
      exact and_iff_right rfl
    · rw [if_neg e, if_neg (show ¬ sg tx sz q = 32 from e)]
      simp only [Option.toList, List.cons_append, List.nil_append]
      rw [b153_36]
      exact and_iff_right rfl
  · rw [if_neg c, if_neg c]
    rw [Bool.not_eq_true] at c
    rw [c]
    exact Iff.rfl
theorem p155 (hS : TxS tx sz) {I : Nat → Nat → Int32} {Q : Option Value → XW → Prop} {p : Nat} (hT : TxM I tx sz) (hp : I 124 11 = nI p) (hs : p ≤ sz) : wp X (d + 3) m155 0 [some (.ref 124), none] [] (K0, R0, I, L) Q ↔ match (nmb (sg tx sz) p).2 with
    | none => Q (some (.int 0)) (K0, R0, I, L)
    | some n => Q (some (.int 1)) (K0, R0, updR (updR I 124 12 (nI n)) 124 11 (nI (nmb (sg tx sz) p).1), L) := by
  have dg : ∀ p (J : Nat → Nat → Int32) (Q : Option Value → XW → Prop), TxM J tx sz → J 124 11 = nI p → p ≤ sz → (wp X (d + 2) m156 0 [some (.ref 124)] [] (K0, R0, J, L) Q ↔ Q (some (.int (bI (isDg (sg tx sz p))))) (K0, R0, J, L)) := by
    intro p J Q h1 h2 h3
    rw [b156_0, p152 h1 h2 h3]
    simp only [Option.toList, List.cons_append, List.nil_append]
    rw [b156_5, b142_0, dig2 hS p]
    simp only [Option.toList, List.cons_append, List.nil_append]
    rw [b156_12]
    exact and_iff_right (by cases isDg (sg tx sz p) <;> rfl)
  rw [b155_0, dg p I _ hT hp hs]
  simp only [Option.toList, List.cons_append, List.nil_append]
  rw [b155_4]
  unfold nmb
  by_cases c : isDg (sg tx sz p) = true
  · have l := dig4 c
    obtain ⟨-, g2, g1⟩ := dig3 hS p c
    rw [if_pos c]
    generalize dgN (sg tx sz p) = d0 at g1 g2 ⊢
    rw [c, if_neg (by decide), b155_16, if_pos (by decide), dg p _ _ (hT.at (by decide)) (by rw [updR_j (by decide)]; exact hp) hs, c]
    simp only [Option.toList, List.cons_append, List.nil_append]
    rw [b155_25, if_neg (by decide), p152 (hT.at (by decide)) (by rw [updR_j (by decide)]; exact hp) hs]
    simp only [Option.toList, List.cons_append, List.nil_append]
    rw [b155_40, updR_same, updR_two, updR_j (by decide), hp, nI_1, g1, show (10 : Int32) * 0 + nI (d0 + 48) - 48 = nI d0 by
      rw [Int32.mul_zero, Int32.zero_add]
      exact nI_sub (a := d0 + 48) (b := 48) (by omega), b155_16, if_pos (by decide), dg (p + 1) _ _ ((hT.at (by decide)).at (by decide)) updR_same (by omega)]
    simp only [Option.toList, List.cons_append, List.nil_append]
    rw [b155_25]
    by_cases e : isDg (sg tx sz (p + 1)) = true
    · have l2 := dig4 e
      obtain ⟨-, k2, k1⟩ := dig3 hS (p + 1) e
      rw [if_pos e]
      generalize dgN (sg tx sz (p + 1)) = d1 at k1 k2 ⊢
      rw [e, if_neg (by decide), p152 ((hT.at (by decide)).at (by decide)) updR_same (by omega)]
      simp only [Option.toList, List.cons_append, List.nil_append]
      have e1 : updR (updR I 124 12 (nI d0)) 124 11 (nI (p + 1)) 124 11 = nI (p + 1) := updR_same
      have e2 : updR (updR I 124 12 (nI d0)) 124 11 (nI (p + 1)) 124 12 = nI d0 := by rw [updR_j (by decide), updR_same]
      have e3 : (10 : Int32) * nI d0 + nI (d1 + 48) - 48 = nI (d0 * 10 + d1) := by
        rw [show (10 : Int32) * nI d0 = nI (10 * d0) from nI_mul 10 _, nI_add]
        rw [show d0 * 10 + d1 = 10 * d0 + (d1 + 48) - 48 by omega]
        exact nI_sub (b := 48) (by omega)
      have e4 : updR (updR (updR (updR I 124 12 (nI d0)) 124 11 (nI (p + 1))) 124 12 (nI (d0 * 10 + d1))) 124 11 (nI (p + 2)) = updR (updR I 124 12 (nI (d0 * 10 + d1))) 124 11 (nI (p + 2)) := by
        rw [updR_comm (b := 11) (b2 := 12) (by decide), updR_two, updR_two]
      rw [b155_40, e1, e2, k1, e3, nI_1, e4, b155_16, if_neg (by decide)]
    · rw [if_neg e]
      rw [Bool.not_eq_true] at e
      rw [e, if_pos (by decide)]
  · rw [if_neg c]
    rw [Bool.not_eq_true] at c
    rw [c, if_pos (by decide)]
end LEX
