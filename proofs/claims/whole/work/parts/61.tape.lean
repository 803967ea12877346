/-! tape, shift, judge. -/
def filR (L : Nat → Nat → Int64) (q o n : Nat) (v : Int64) : Nat → Nat → Int64 := fun a b => if a = q ∧ o ≤ b ∧ b < o + n then v else L a b
theorem fil_itr {L : Nat → Nat → Int64} {q o : Nat} {v : Int64} : ∀ n, itr (fun k M => updR M q (o + k) v) n L = filR L q o n v := by
  intro n
  induction n with
  | zero =>
    funext a b
    unfold filR
    rw [if_neg (by omega)]
    rfl
  | succ n ih =>
    show updR (itr (fun k M => updR M q (o + k) v) n L) q (o + n) v = _
    rw [ih]
    funext a b
    unfold updR filR
    by_cases h : a = q ∧ b = o + n
    · rw [if_pos h, if_pos (by omega)]
    · rw [if_neg h]
      by_cases g : a = q ∧ o ≤ b ∧ b < o + n
      · rw [if_pos g, if_pos (by omega)]
      · rw [if_neg g, if_neg (by omega)]
section TAPE
variable {X : Nat × (Nat → Int32)} {d : Nat} {I : Nat → Nat → Int32} {L : Nat → Nat → Int64} {Q : Option Value → XW → Prop}
theorem s134 {q : Nat} {v : Int64} (hq : K0[q]? = some (.inl (.long, 60))) : wp X d m134 0 [some (.ref q), some (.long v), none, none, none] [] (K0, R0, I, L) Q ↔ Q none (K0, R0, I, filR L q 0 60 v) := by
  rw [b134_0 hq]
  refine (for_iff (P := fun k (M : Nat → Nat → Int64) => wp X d m134 6 [some (.ref q), some (.long v), none, some (.int (nI k)), some (.int (Int32.ofNat 60))] [] (K0, R0, I, M) Q) (F := fun k M => updR M q (0 + k) v) 60 (fun k M hk => ?_) L).trans ?_
  · rw [b134_6 hq, if_pos (show nI k < Int32.ofNat 60 from nI_lt hk (by decide)), and_iff_right (inA_nI hk (by decide)), nI_clamp (by omega), nI_1, Nat.zero_add]
  · rw [b134_6 hq, if_neg (show ¬ nI 60 < Int32.ofNat 60 by decide), fil_itr]
theorem s133 {r : Nat} {x1 x2 : Int32} (hr : isTape r) : wp X (d + 1) m133 0 [some (.ref r), some (.int x1), some (.int x2)] [] (K0, R0, I, L) Q ↔ Q none (K0, R0, updR (updR I r 0 x1) r 1 x2, filR L (r + 1) 0 60 0) := by
  rw [b133_0 hr, s134 hr.2.2]
  simp only [Option.toList, List.cons_append, List.nil_append]
  rw [b133_18]
theorem s232L {p : Nat} (hp : p < 6) : wp X d m232 69 [some (.ref 124), some (.int (nI p)), none, none, some (.int 0)] [] (K0, R0, I, L) Q ↔ Q (some (.int 1)) (K0, R0, I, filR L 165 (60 * p) 60 0) := by
  refine (for_iff (P := fun k (M : Nat → Nat → Int64) => wp X d m232 69 [some (.ref 124), some (.int (nI p)), none, none, some (.int (nI k))] [] (K0, R0, I, M) Q) (F := fun k M => updR M 165 (60 * p + k) 0) 60 (fun k M hk => ?_) L).trans ?_
  · rw [b232_69, if_pos (show nI k < (60 : Int32) from nI_lt (b := 60) hk (by decide)), i60, and_iff_right (inA_nI (by omega) (by decide)), nI_clamp (by omega), nI_1]
  · rw [b232_69, if_neg (show ¬ nI 60 < (60 : Int32) by decide), fil_itr]
end TAPE
section CALLS
variable {X : Nat × (Nat → Int32)} {d : Nat}
theorem tape_inv {I : Nat → Nat → Int32} {L : Nat → Nat → Int64} {p n : Nat} {s : Int32} (hI : Inv I L) (hp : p < 6) (hs : s = -1 ∨ Rg 4 s) (hn : n ≤ 60) : Inv (updR (updR (updR (updR I (112 + 2 * p) 0 s) (112 + 2 * p) 1 (nI n)) 163 p s) 164 p (nI n)) (filR (filR L (112 + 2 * p + 1) 0 60 0) 165 (60 * p) 60 0) := by
  refine hI.tapes (fun k h1 h2 h3 => by rw [updR_row k h3, updR_row k h2, updR_row k (by omega), updR_row k (by omega)]) (fun hT q hq => ?_)
  obtain ⟨t1, t2, t3, t4, t5⟩ := hT q hq
  by_cases hqp : q = p
  · subst hqp
    refine ⟨?_, ?_, ?_, ⟨n, hn, ?_⟩, fun k hk => ?_⟩
    · rw [updR_k (by omega), updR_k (by omega), updR_j (by decide), updR_same, updR_k (by decide), updR_same]
    · rw [updR_k (by omega), updR_k (by omega), updR_same, updR_same]
    · rw [updR_k (by decide), updR_same]; exact hs
    · rw [updR_same]
    · unfold filR
      rw [if_neg (by omega), if_pos (by omega), if_pos (by omega)]
  · refine ⟨?_, ?_, ?_, ?_, fun k hk => ?_⟩
    · rw [updR_k (by omega), updR_k (by omega), updR_k (by omega), updR_k (by omega), updR_k (by decide), updR_j hqp, updR_k (by omega), updR_k (by omega)]; exact t1
    · rw [updR_k (by omega), updR_k (by omega), updR_k (by omega), updR_k (by omega), updR_j hqp, updR_k (by decide), updR_k (by omega), updR_k (by omega)]; exact t2
    · rw [updR_k (by decide), updR_j hqp, updR_k (by omega), updR_k (by omega)]; exact t3
    · rw [updR_j hqp, updR_k (by decide), updR_k (by omega), updR_k (by omega)]; exact t4
    · unfold filR
      rw [if_neg (by omega), if_neg (by omega), if_neg (by omega), if_neg (by omega)]; exact t5 k hk
theorem ok_tape {x1 x2 x3 : Int32} : Ok X d m132 m232 [some (.ref 0), some (.int x1), some (.int x2), some (.int x3), none] [some (.ref 124), some (.int x1), some (.int x2), some (.int x3), none] := by
  intro I L hI
  have hT := tapes_view hI
  rcases num_cases x1 (n := 5) (by decide) with h | ⟨p, hp, rfl⟩
  · refine ⟨.int (-1), I, L, I, L, hI, fun Q => ?_, fun Q => ?_⟩
    · rw [b132_0, s115_no h]
      simp only [Option.toList, List.cons_append, List.nil_append]
      rw [b132_5_1]
    · rw [b232_0, s217_no h]
      simp only [Option.toList, List.cons_append, List.nil_append]
      rw [b232_5, if_pos rfl]
  have hp6 : p < 6 := by omega
  have hr := tapeK hp6
  have i6 : inA (nI p) 6 = true := inA_nI hp6 (by decide)
  have hcl : (nI p).toNatClampNeg = p := nI_clamp (by omega)
  have cls : ∀ Q : Option Value → XW → Prop, wp X (d + 100) m132 0 [some (.ref 0), some (.int (nI p)), some (.int x2), some (.int x3), none] [] (K0, R0, I, L) Q ↔ wp X (d + 100) m132 5 [none, none, some (.int x2), some (.int x3), none] [.ref (112 + 2 * p)] (K0, R0, I, L) Q := by
    intro Q
    rw [b132_0, s115_ok hp6]
    simp only [Option.toList, List.cons_append, List.nil_append]
    try exact Iff.rfl
  have mdl : ∀ (J : Nat → Nat → Int32) (M : Nat → Nat → Int64) (Q : Option Value → XW → Prop), wp X (d + 100) m232 0 [some (.ref 124), some (.int (nI p)), some (.int x2), some (.int x3), none] [] (K0, R0, J, M) Q ↔ wp X (d + 99) m142 0 [some (.ref 124), some (.int x2), some (.int (-1)), some (.int 4)] [] (K0, R0, J, M) (fun r w1 => wp X (d + 100) m232 17 [some (.ref 124), some (.int (nI p)), some (.int x2), some (.int x3), none] (r.toList ++ []) w1 Q) := by
    intro J M Q
    rw [b232_0, s217_ok hp6]
    simp only [Option.toList, List.cons_append, List.nil_append]
    rw [b232_5, if_neg (by decide)]
    try exact Iff.rfl
  by_cases hm : x2 = -1
  · subst hm
    refine ⟨.int 1, updR (updR I (112 + 2 * p) 0 (-1)) (112 + 2 * p) 1 (nI 0), filR L (112 + 2 * p + 1) 0 60 0, _, _, tape_inv hI hp6 (Or.inl rfl) (Nat.zero_le 60), fun Q => ?_, fun Q => ?_⟩
    · rw [cls, b132_5 hr, if_pos rfl]
      refine (s133 hr).trans ?_
      simp only [Option.toList, List.cons_append, List.nil_append]
      rw [b132_26]
      exact Iff.rfl
    · rw [mdl, s142_ok (by decide) (by decide)]
      simp only [Option.toList, List.cons_append, List.nil_append]
      rw [b232_17, if_neg (by decide), if_pos (by decide), if_pos (by decide), b232_44, and_iff_right i6, if_pos (by decide), and_iff_right i6, hcl]
      exact s232L hp6
  rcases num_cases x2 (n := 4) (by decide) with h | ⟨s, hs, rfl⟩
  · refine ⟨.int (-2), I, L, I, L, hI, fun Q => ?_, fun Q => ?_⟩
    · rw [cls, b132_5 hr, if_neg hm]
      rcases h with h | h
      · rw [if_pos h]
      · rw [if_neg (nlt0 (n := 4) (by decide) h), if_pos (show (4 : Int32) < x2 from h)]
    · have h' : x2 < -1 ∨ (4 : Int32) < x2 := by
        rcases h with h | h
        · refine Or.inl ?_
          have a := (lt_r (n := 0) (by decide)).mp h
          rw [Int32.lt_iff_toInt_lt]
          have b : x2.toInt ≠ (-1 : Int32).toInt := fun q => hm (Int32.toInt_inj.mp q)
          rw [show (-1 : Int32).toInt = -1 by decide] at b ⊢
          omega
        · exact Or.inr h
      rw [mdl, s142_no h']
      simp only [Option.toList, List.cons_append, List.nil_append]
      rw [b232_17, if_pos rfl]
  have n0 : ¬ nI s < 0 := nI_pos (by omega)
  have n4 : ¬ (4 : Int32) < nI s := nI_nlt (a := 4) hs (by decide)
  have n1 : ¬ nI s < -1 := fun q => n0 (Int32.lt_trans q (by decide))
  rcases num_cases x3 (n := 60) (by decide) with h | ⟨z, hz, rfl⟩
  · by_cases hx : x3 < 0
    · have h60 : ¬ (60 : Int32) < x3 := fun q => nlt0 (n := 60) (by decide) q hx
      refine ⟨.int (-14), I, L, I, L, hI, fun Q => ?_, fun Q => ?_⟩
      · rw [cls, b132_5 hr, if_neg hm, if_neg n0, if_neg n4, if_neg h60, if_pos hx]
      · rw [mdl, s142_ok n1 n4]
        simp only [Option.toList, List.cons_append, List.nil_append]
        rw [b232_17, if_neg (by decide), if_neg n0, if_neg h60, if_neg n0, if_pos hx]
    · have h60 : (60 : Int32) < x3 := h.resolve_left hx
      refine ⟨.int (-2), I, L, I, L, hI, fun Q => ?_, fun Q => ?_⟩
      · rw [cls, b132_5 hr, if_neg hm, if_neg n0, if_neg n4, if_pos h60]
      · rw [mdl, s142_ok n1 n4]
        simp only [Option.toList, List.cons_append, List.nil_append]
        rw [b232_17, if_neg (by decide), if_neg n0, if_pos h60]
  have h60 : ¬ (60 : Int32) < nI z := nI_nlt (a := 60) hz (by decide)
  have hz0 : ¬ nI z < 0 := nI_pos (by omega)
  refine ⟨.int 1, updR (updR I (112 + 2 * p) 0 (nI s)) (112 + 2 * p) 1 (nI z), filR L (112 + 2 * p + 1) 0 60 0, _, _, tape_inv hI hp6 (Or.inr ⟨s, hs, rfl⟩) hz, fun Q => ?_, fun Q => ?_⟩
  · rw [cls, b132_5 hr, if_neg hm, if_neg n0, if_neg n4, if_neg h60, if_neg hz0]
    refine (s133 hr).trans ?_
    simp only [Option.toList, List.cons_append, List.nil_append]
    rw [b132_60]
  · rw [mdl, s142_ok n1 n4]
    simp only [Option.toList, List.cons_append, List.nil_append]
    rw [b232_17, if_neg (by decide), if_neg n0, if_neg h60, if_neg n0, if_neg hz0, b232_44, and_iff_right i6, if_neg n0, and_iff_right i6, hcl]
    exact s232L hp6
theorem rch_n {s x n : Int32} {z : Nat} (hz : z ≤ 60) (h : ¬ s < 0) : (rchI s z x n = 0 ∧ (n < 0 ∨ x < 0 ∨ nI z - n < x)) ∨ ∃ i m, x = nI i ∧ n = nI m ∧ i + m ≤ z ∧ rchI s z x n = 1 := by
  unfold rchI
  rw [if_neg h]
  by_cases hx : x < 0
  · exact Or.inl ⟨if_pos hx, Or.inr (Or.inl hx)⟩
  rw [if_neg hx]
  by_cases hn : n < 0
  · exact Or.inl ⟨if_pos hn, Or.inl hn⟩
  rw [if_neg hn]
  obtain ⟨i, hi, rfl⟩ := nI_of hx
  obtain ⟨m, hm, rfl⟩ := nI_of hn
  by_cases c : i + m ≤ z
  · refine Or.inr ⟨i, m, rfl, rfl, c, ?_⟩
    rw [if_neg (nI_nlt (by omega) (by omega)), nI_sub (by omega), if_neg (nI_nlt (by omega) (by omega))]
  · refine Or.inl ⟨?_, Or.inr (Or.inr ?_)⟩
    · by_cases c2 : z < i
      · rw [if_pos (nI_lt c2 hi)]
      · rw [if_neg (nI_nlt (by omega) (by omega)), nI_sub (by omega), if_pos (nI_lt (by omega) hm)]
    · rw [Int32.lt_iff_toInt_lt, subI (by omega) hm, nI_toInt hi]
      omega
def cp1 (p i : Nat) (k : Nat) (M : Nat → Nat → Int64) : Nat → Nat → Int64 := updR M 166 k (M 165 (60 * p + i + k))
def cp2 (o j : Nat) (k : Nat) (M : Nat → Nat → Int64) : Nat → Nat → Int64 := updR M 165 (60 * o + j + k) (M 166 k)
theorem cp1_facts {p i : Nat} {L : Nat → Nat → Int64} : ∀ n, (∀ a b, a ≠ 166 → itr (cp1 p i) n L a b = L a b) ∧ ∀ k, k < n → itr (cp1 p i) n L 166 k = L 165 (60 * p + i + k) := by
  intro n
  induction n with
  | zero => exact ⟨fun _ _ _ => rfl, fun k hk => absurd hk (Nat.not_lt_zero _)⟩
  | succ n ih =>
    have e : itr (cp1 p i) (n + 1) L = updR (itr (cp1 p i) n L) 166 n (itr (cp1 p i) n L 165 (60 * p + i + n)) := rfl
    rw [e, ih.1 165 _ (by decide)]
    refine ⟨fun a b h => by rw [updR_k h]; exact ih.1 a b h, fun k hk => ?_⟩
    by_cases c : k = n
    · subst c; rw [updR_same]
    · rw [updR_j c]; exact ih.2 k (by omega)
theorem cp2_facts {o j : Nat} {L : Nat → Nat → Int64} : ∀ n, (∀ a b, a ≠ 165 ∨ b < 60 * o + j ∨ 60 * o + j + n ≤ b → itr (cp2 o j) n L a b = L a b) ∧ ∀ k, k < n → itr (cp2 o j) n L 165 (60 * o + j + k) = L 166 k := by
  intro n
  induction n with
  | zero => exact ⟨fun _ _ _ => rfl, fun k hk => absurd hk (Nat.not_lt_zero _)⟩
  | succ n ih =>
    have e : itr (cp2 o j) (n + 1) L = updR (itr (cp2 o j) n L) 165 (60 * o + j + n) (itr (cp2 o j) n L 166 n) := rfl
    rw [e, ih.1 166 n (Or.inl (by decide))]
    refine ⟨fun a b h => ?_, fun k hk => ?_⟩
    · by_cases c : a = 165
      · rw [updR_j (by omega)]; exact ih.1 a b (by omega)
      · rw [updR_k c]; exact ih.1 a b (Or.inl c)
    · by_cases c : k = n
      · subst c; rw [updR_same]
      · rw [updR_j (by omega)]; exact ih.2 k (by omega)
theorem s236L {I : Nat → Nat → Int32} {L : Nat → Nat → Int64} {Q : Option Value → XW → Prop} {p i o j n : Nat} (hp : p < 6) (ho : o < 6) (hi : i + n ≤ 60) (hj : j + n ≤ 60) : wp X d m236 104 [some (.ref 124), some (.int (nI p)), some (.int (nI i)), some (.int (nI o)), some (.int (nI j)), some (.int (nI n)), some (.int 0)] [] (K0, R0, I, L) Q ↔ Q (some (.int (nI n))) (K0, R0, I, itr (cp2 o j) n (itr (cp1 p i) n L)) := by
  refine (for_iff (P := fun k (M : Nat → Nat → Int64) => wp X d m236 104 [some (.ref 124), some (.int (nI p)), some (.int (nI i)), some (.int (nI o)), some (.int (nI j)), some (.int (nI n)), some (.int (nI k))] [] (K0, R0, I, M) Q) (F := cp1 p i) n (fun k M hk => ?_) L).trans ?_
  · rw [b236_104, if_pos (nI_lt hk (by omega)), i60, nI_add, and_iff_right (inA_nI (by omega) (by decide)), and_iff_right (inA_nI (by omega) (by decide)), nI_clamp (show k < 2 ^ 31 by omega), nI_clamp (show 60 * p + i + k < 2 ^ 31 by omega), nI_1]
    exact Iff.rfl
  · rw [b236_104, if_neg (nI_nlt (Nat.le_refl _) (by omega))]
    refine (for_iff (P := fun k (M : Nat → Nat → Int64) => wp X d m236 141 [some (.ref 124), none, none, some (.int (nI o)), some (.int (nI j)), some (.int (nI n)), some (.int (nI k))] [] (K0, R0, I, M) Q) (F := cp2 o j) n (fun k M hk => ?_) (itr (cp1 p i) n L)).trans ?_
    · rw [b236_141, if_pos (nI_lt hk (by omega)), i60, nI_add, and_iff_right (inA_nI (by omega) (by decide)), and_iff_right (inA_nI (by omega) (by decide)), nI_clamp (show k < 2 ^ 31 by omega), nI_clamp (show 60 * o + j + k < 2 ^ 31 by omega), nI_1]
      exact Iff.rfl
    · rw [b236_141, if_neg (nI_nlt (Nat.le_refl _) (by omega))]
end CALLS
