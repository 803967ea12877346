/-! A clause. -/
def wC (x : Int32) : Nat := if x = 98 then 1 else if x = 102 then 3 else if x = 114 then 2 else 0
def wM (x : Int32) : Nat := if x = 98 then 1 else if x = 114 then 2 else if x = 119 then 0 else 3
def wds (w : Nat) : Nat → Int32 := match w with
  | 0 => lsF [119, 105, 108, 108]
  | 1 => lsF [98, 97, 108, 107]
  | 2 => lsF [114, 105, 115, 101]
  | _ => lsF [102, 97, 108, 108]
theorem wds_ne : ∀ w, w < 4 → ∀ k, k < 4 → wds w k ≠ -1 := by decide
theorem wC_le (x : Int32) : wC x < 4 := by
  unfold wC
  split
  · decide
  · split
    · decide
    · split <;> decide
theorem wM_le (x : Int32) : wM x < 4 := by
  unfold wM
  split
  · decide
  · split
    · decide
    · split <;> decide
theorem wr2_no {s cs : Nat → Int32} {p : Nat} (h : ¬ s p = cs 0) : wr2 s cs p = (p, false) := by
  have e : wrd s cs 4 0 p = (p, false) := by
    unfold wrd
    rw [if_neg h]
  unfold wr2
  rw [e, if_neg Bool.false_ne_true]
theorem wCM {s : Nat → Int32} {p : Nat} : wr2 s (wds (wC (s p))) p = wr2 s (wds (wM (s p))) p ∧ ((wr2 s (wds (wM (s p))) p).2 = true → wC (s p) = wM (s p) ∧ s p = wds (wM (s p)) 0) := by
  have fin : wC (s p) = wM (s p) → wr2 s (wds (wC (s p))) p = wr2 s (wds (wM (s p))) p ∧ ((wr2 s (wds (wM (s p))) p).2 = true → wC (s p) = wM (s p) ∧ s p = wds (wM (s p)) 0) := by
    intro e
    refine ⟨by rw [e], fun h => ⟨e, ?_⟩⟩
    by_cases c : s p = wds (wM (s p)) 0
    · exact c
    · rw [wr2_no c] at h
      exact absurd h Bool.false_ne_true
  by_cases c1 : s p = 98
  · exact fin (by rw [c1]; decide)
  · by_cases c2 : s p = 102
    · exact fin (by rw [c2]; decide)
    · by_cases c3 : s p = 114
      · exact fin (by rw [c3]; decide)
      · by_cases c4 : s p = 119
        · exact fin (by rw [c4]; decide)
        · have e1 : wC (s p) = 0 := by unfold wC; rw [if_neg c1, if_neg c2, if_neg c3]
          have e2 : wM (s p) = 3 := by unfold wM; rw [if_neg c1, if_neg c3, if_neg c4]
          rw [e1, e2, wr2_no (cs := wds 0) c4, wr2_no (cs := wds 3) c2]
          exact ⟨rfl, fun h => absurd h Bool.false_ne_true⟩
section CLS
variable {X : Nat × (Nat → Int32)} {d : Nat} {L : Nat → Nat → Int64} {tx : Nat → Nat} {sz : Nat}
theorem c45 (x : Int32) : ∃ w, StrV w 4 (wds (wC x)) ∧ ∀ (d : Nat) (I : Nat → Nat → Int32) (Q : Option Value → XW → Prop), wp X d m45 0 [some (.int x)] [] (K0, R0, I, L) Q ↔ Q (some (.ref w)) (K0, R0, I, L) := by
  unfold wC
  by_cases c1 : x = 98
  · exact ⟨_, by rw [if_pos c1]; exact sv0, fun d I Q => by rw [b45_0, if_pos c1]⟩
  · by_cases c2 : x = 102
    · exact ⟨_, by rw [if_neg c1, if_pos c2]; exact sv2, fun d I Q => by rw [b45_0, if_neg c1, if_pos c2]⟩
    · by_cases c3 : x = 114
      · exact ⟨_, by rw [if_neg c1, if_neg c2, if_pos c3]; exact sv1, fun d I Q => by rw [b45_0, if_neg c1, if_neg c2, if_pos c3]⟩
      · exact ⟨_, by rw [if_neg c1, if_neg c2, if_neg c3]; exact sv3, fun d I Q => by rw [b45_0, if_neg c1, if_neg c2, if_neg c3]⟩
theorem sp1 (k : Nat) (hk : k < 1) : lsF [32] k ≠ -1 := by
  have : k = 0 := by omega
  subst this
  decide
/-- the head of a clause, in the class -/
theorem c43 (hS : TxS tx sz) {r p : Nat} {I : Nat → Nat → Int32} (hr : isInn r) (hT : TxC I tx sz) (hp : I 64 2 = nI p) (hs : p ≤ sz) (Q : Option Value → XW → Prop) : wp X (d + 36) m43 0 [some (.ref 64), some (.ref r), none, none] [] (K0, R0, I, L) Q ↔ if (wr2 (sg tx sz) (wds (wM (sg tx sz p))) p).2 = true then wp X (d + 36) m43 31 [some (.ref 64), some (.ref r), some (.int (sg tx sz p)), none] [.int (opI (nmb (sg tx sz) (wr2 (sg tx sz) (wds (wM (sg tx sz p))) p).1).2)] (K0, R0, updR I 64 2 (nI (nmb (sg tx sz) (wr2 (sg tx sz) (wds (wM (sg tx sz p))) p).1).1), L) Q else Q (some (.int 0)) (K0, R0, updR I 64 2 (nI (wr2 (sg tx sz) (wds (wM (sg tx sz p))) p).1), L) := by
  obtain ⟨w, hw, e45⟩ := c45 (X := X) (L := L) (sg tx sz p)
  rw [← wCM.1]
  have hc : ∀ k, k < 4 → wds (wC (sg tx sz p)) k ≠ -1 := fun k hk => wds_ne _ (wC_le _) k hk
  have le := wr2_le (tx := tx) (sz := sz) (p := p) hc hs
  obtain ⟨-, -, f, hf, -⟩ := id hw
  rw [b43_0 hr, p44 hT hp hs]
  simp only [Option.toList, List.cons_append, List.nil_append]
  rw [b43_4 hr, e45]
  simp only [Option.toList, List.cons_append, List.nil_append]
  rw [b43_10 hr hf, p46_0 hw hc hT hp hs]
  simp only [Option.toList, List.cons_append, List.nil_append]
  rw [b43_13 hr]
  unfold wr2 at le ⊢
  have l1 := wrd_sz (tx := tx) (sz := sz) 4 0 p (fun k hk => hc k (by omega)) hs
  cases c : (wrd (sg tx sz) (wds (wC (sg tx sz p))) 4 0 p).2
  · rw [if_pos (show bI false = 0 by decide), if_neg Bool.false_ne_true, c, if_neg Bool.false_ne_true]
  · rw [if_neg (show ¬ bI true = 0 by decide), if_pos rfl, p46_0 sv4 sp1 hT.at updR_same l1, updR_two]
    simp only [Option.toList, List.cons_append, List.nil_append]
    rw [b43_22 hr]
    rw [c, if_pos rfl] at le
    cases e : (wrd (sg tx sz) (lsF [32]) 1 0 (wrd (sg tx sz) (wds (wC (sg tx sz p))) 4 0 p).1).2
    · rw [if_pos (show bI false = 0 by decide), if_neg Bool.false_ne_true]
    · rw [if_neg (show ¬ bI true = 0 by decide), if_pos rfl, p54 hS hT.at updR_same le.2.1, updR_two]
      simp only [Option.toList, List.cons_append, List.nil_append]
/-- in the reference -/
theorem c150 (hS : TxS tx sz) {p ix : Nat} {I : Nat → Nat → Int32} (hi : ix < 60) (hT : TxM I tx sz) (hp : I 124 11 = nI p) (hs : p ≤ sz) (h139 : ∀ k, k < 16 → I 139 k = I0 139 k) (Q : Option Value → XW → Prop) : wp X (d + 8) m150 0 [some (.ref 124), some (.int (nI ix))] [] (K0, R0, I, L) Q ↔ if (wr2 (sg tx sz) (wds (wM (sg tx sz p))) p).2 = true then (match (nmb (sg tx sz) (wr2 (sg tx sz) (wds (wM (sg tx sz p))) p).1).2 with
    | none => Q (some (.int 0)) (K0, R0, updR (updR I 133 ix (nI (wM (sg tx sz p)))) 124 11 (nI (nmb (sg tx sz) (wr2 (sg tx sz) (wds (wM (sg tx sz p))) p).1).1), L)
    | some n => wp X (d + 8) m150 12 [some (.ref 124), some (.int (nI ix))] [.int 1] (K0, R0, updR (updR (updR (updR I 133 ix (nI (wM (sg tx sz p)))) 124 11 (nI (wr2 (sg tx sz) (wds (wM (sg tx sz p))) p).1)) 124 12 (nI n)) 124 11 (nI (nmb (sg tx sz) (wr2 (sg tx sz) (wds (wM (sg tx sz p))) p).1).1), L) Q) else Q (some (.int 0)) (K0, R0, updR (updR I 133 ix (nI (wM (sg tx sz p)))) 124 11 (nI (wr2 (sg tx sz) (wds (wM (sg tx sz p))) p).1), L) := by
  have letters : ∀ w, w < 4 → ∀ k, k < 4 → I0 139 (4 * w + k) = wds w k := by decide +kernel
  have l2 : ∀ w, w < 4 → ∀ k, k < 4 → updR I 133 ix (nI w) 139 (4 * w + k) = wds w k ∧ wds w k ≠ -1 := fun w hw k hk => ⟨by rw [updR_k (by decide), h139 _ (by omega)]; exact letters w hw k hk, wds_ne w hw k hk⟩
  have hT2 : ∀ w : Nat, TxM (updR I 133 ix (nI w)) tx sz := fun w => hT.cg (updR_k (by decide)) (updR_row 131 (by decide))
  have hp2 : ∀ w : Nat, updR I 133 ix (nI w) 124 11 = nI p := fun w => by rw [updR_k (by decide)]; exact hp
  have h151 : ∀ Q : Option Value → XW → Prop, wp X (d + 7) m151 0 [some (.ref 124), some (.int (nI ix))] [] (K0, R0, I, L) Q ↔ Q (some (.int (bI (wr2 (sg tx sz) (wds (wM (sg tx sz p))) p).2))) (K0, R0, updR (updR I 133 ix (nI (wM (sg tx sz p)))) 124 11 (nI (wr2 (sg tx sz) (wds (wM (sg tx sz p))) p).1), L) := by
    intro Q
    have fz : ∀ b : Bool, fits .boolean (.int (bI b)) = true := fun b => by cases b <;> rfl
    have ii := inA_nI hi (show 60 < 2 ^ 31 by decide)
    rw [b151_0, p152 hT hp hs]
    simp only [Option.toList, List.cons_append, List.nil_append]
    rw [b151_4, nI_clamp (show ix < 2 ^ 31 by omega)]
    unfold wM
    by_cases c1 : sg tx sz p = 98
    · rw [if_pos c1, if_pos c1, and_iff_right ii]
      refine (p153_0 (a := 4) (by decide) (l2 1 (by decide)) (hT2 1) (hp2 1) hs).trans ?_
      simp only [Option.toList, List.cons_append, List.nil_append]
      rw [b151_67, and_iff_right (fz _)]
    · rw [if_neg c1, if_neg c1]
      by_cases c2 : sg tx sz p = 114
      · rw [if_pos c2, if_pos c2, and_iff_right ii]
        refine (p153_0 (a := 8) (by decide) (l2 2 (by decide)) (hT2 2) (hp2 2) hs).trans ?_
        simp only [Option.toList, List.cons_append, List.nil_append]
        rw [b151_82, and_iff_right (fz _)]
      · rw [if_neg c2, if_neg c2]
        by_cases c3 : sg tx sz p = 119
        · rw [if_pos c3, if_pos c3, and_iff_right ii]
          refine (p153_0 (a := 0) (by decide) (l2 0 (by decide)) (hT2 0) (hp2 0) hs).trans ?_
          simp only [Option.toList, List.cons_append, List.nil_append]
          rw [b151_53, and_iff_right (fz _)]
        · rw [if_neg c3, if_neg c3, and_iff_right ii]
          refine (p153_0 (a := 12) (by decide) (l2 3 (by decide)) (hT2 3) (hp2 3) hs).trans ?_
          simp only [Option.toList, List.cons_append, List.nil_append]
          rw [b151_97, and_iff_right (fz _)]
  have le := wr2_le (tx := tx) (sz := sz) (p := p) (fun k hk => wds_ne _ (wM_le (sg tx sz p)) k hk) hs
  rw [b150_0, h151]
  simp only [Option.toList, List.cons_append, List.nil_append]
  rw [b150_5]
  generalize wr2 (sg tx sz) (wds (wM (sg tx sz p))) p = y at le ⊢
  obtain ⟨q, b⟩ := y
  cases b
  · rw [if_pos (show bI false = 0 by decide), if_neg Bool.false_ne_true]
  · rw [if_neg (show ¬ bI true = 0 by decide), if_pos rfl]
    refine (p155 (d := d + 4) hS ((hT2 _).at (by decide)) updR_same le.2.1).trans ?_
    cases h3 : (nmb (sg tx sz) q).2 with
    | none =>
      have q2 : (nmb (sg tx sz) q).1 = q := by
        unfold nmb at h3 ⊢
        split
        · rename_i z
          rw [if_pos z] at h3
          split at h3 <;> cases h3
        · rfl
      simp only [Option.toList, List.cons_append, List.nil_append]
      rw [b150_12, if_pos rfl, q2]
    | some n =>
      simp only [Option.toList, List.cons_append, List.nil_append]
end CLS
