/-! The reference's one loop over an E: its steps. -/
section STEPS
variable {X : Nat × (Nat → Int32)} {d : Nat} {L : Nat → Nat → Int64} {J : Nat → Nat → Int32} {tx : Nat → Nat} {sz h ix : Nat}
def Mw (X : Nat × (Nat → Int32)) (d : Nat) (L : Nat → Nat → Int64) (ix : Nat) (x : Int32) (I : Nat → Nat → Int32) (Q : Option Value → XW → Prop) : Prop := wp X (d + 7) m157 22 [some (.ref 124), some (.int (nI ix)), some (.int x), none] [] (K0, R0, I, L) Q
theorem nI_ne {a b : Nat} (ha : a < 2 ^ 31) (hb : b < 2 ^ 31) (h : a ≠ b) : ¬ nI a = nI b := fun q => h ((nI_eq ha hb).mp q)
theorem m1_open {p δ s : Nat} {o W : List Nat} {I : Nat → Nat → Int32} (hT : TxM J tx sz) (g : MS J h ix p o W δ I) (hs : p ≤ sz) (hl : o.length + W.length ≤ p) (hx : sg tx sz p = nI s) (hs2 : s = 33 ∨ s = 40) (hd : δ < 4) : ∃ I1, MS J h ix (p + 1) o (s :: W) (δ + 1) I1 ∧ ∀ Q : Option Value → XW → Prop, Mw X d L ix 1 I Q ↔ Mw X d L ix 1 I1 Q := by
  have h100 := hT.1
  obtain ⟨-, g2, g3, g4, g5, g6, g7⟩ := id g
  refine ⟨_, (((g.deep (δ' := δ + 1)).push (x := s) (by omega))).at (q := p + 1), fun Q => ?_⟩
  have step : ∀ Q : Option Value → XW → Prop, wp X (d + 7) m157 43 [some (.ref 124), some (.int (nI ix)), some (.int 1), some (.int (nI s))] [] (K0, R0, I, L) Q ↔ Mw X d L ix 1 (updR (updR (updR (updR I 124 23 (nI (δ + 1))) 138 W.length (nI s)) 124 22 (nI (W.length + 1))) 124 11 (nI (p + 1))) Q := by
    intro Q
    rw [b157_43, g7, if_neg (show ¬ nI δ = (4 : Int32) from nI_ne (b := 4) (by omega) (by decide) (by omega)), g5, g2, and_iff_right (inA_nI (by omega) (by decide)), nI_clamp (by omega), nI_1, nI_1, nI_1]
    exact Iff.rfl
  refine Iff.trans ?_ (step Q)
  unfold Mw
  rw [b157_22, p152 (g.tx hT) g2 hs, hx]
  simp only [Option.toList, List.cons_append, List.nil_append]
  rw [b157_26, if_neg (by decide)]
  rcases hs2 with rfl | rfl
  · rw [if_pos (by decide)]
  · rw [if_neg (by decide), if_pos (by decide)]
theorem m1_full {p s : Nat} {o W : List Nat} {I : Nat → Nat → Int32} (hT : TxM J tx sz) (g : MS J h ix p o W 4 I) (hs : p ≤ sz) (hx : sg tx sz p = nI s) (hs2 : s = 33 ∨ s = 40) (Q : Option Value → XW → Prop) : Mw X d L ix 1 I Q ↔ Q (some (.int 0)) (K0, R0, I, L) := by
  obtain ⟨-, g2, g3, g4, g5, g6, g7⟩ := id g
  have step : ∀ Q : Option Value → XW → Prop, wp X (d + 7) m157 43 [some (.ref 124), some (.int (nI ix)), some (.int 1), some (.int (nI s))] [] (K0, R0, I, L) Q ↔ Q (some (.int 0)) (K0, R0, I, L) := by
    intro Q
    rw [b157_43, g7, if_pos (by decide)]
  refine Iff.trans ?_ (step Q)
  unfold Mw
  rw [b157_22, p152 (g.tx hT) g2 hs, hx]
  simp only [Option.toList, List.cons_append, List.nil_append]
  rw [b157_26, if_neg (by decide)]
  rcases hs2 with rfl | rfl
  · rw [if_pos (by decide)]
  · rw [if_neg (by decide), if_pos (by decide)]
theorem m1_test (hS : TxS tx sz) {p δ : Nat} {o W : List Nat} {I : Nat → Nat → Int32} (hh : h < 6) (hT : TxM J tx sz) (g : MS J h ix p o W δ I) (hs : p ≤ sz) (hd : nots W ≤ δ) (hl : o.length + W.length ≤ p) (h1 : ¬ sg tx sz p = 33) (h2 : ¬ sg tx sz p = 40) : ∃ I1, (match (tst (sg tx sz) p).2 with
    | none => MS J h ix (tst (sg tx sz) p).1 o W δ I1 ∧ ∀ Q : Option Value → XW → Prop, Mw X d L ix 1 I Q ↔ Q (some (.int 0)) (K0, R0, I1, L)
    | some t => MS J h ix (tst (sg tx sz) p).1 (o ++ [t] ++ List.replicate (nots W) 0) (peel W) (δ - nots W) I1 ∧ ∀ Q : Option Value → XW → Prop, Mw X d L ix 1 I Q ↔ Mw X d L ix 0 I1 Q) := by
  obtain ⟨-, g2, g3, g4, g5, g6, g7⟩ := id g
  have top : ∀ Q : Option Value → XW → Prop, Mw X d L ix 1 I Q ↔ wp X (d + 6) m158 0 [some (.ref 124), none, none] [] (K0, R0, I, L) (fun r w1 => wp X (d + 7) m157 100 [some (.ref 124), some (.int (nI ix)), none, none] (r.toList ++ []) w1 Q) := by
    intro Q
    unfold Mw
    rw [b157_22, p152 (g.tx hT) g2 hs]
    simp only [Option.toList, List.cons_append, List.nil_append]
    rw [b157_26, if_neg (by decide), if_neg h1, if_neg h2]
    exact Iff.rfl
  obtain ⟨I1, k⟩ := p158 (X := X) (d := d) (L := L) hS hh hT g hs hd hl
  refine ⟨I1, ?_⟩
  cases e : (tst (sg tx sz) p).2 with
  | none =>
    rw [e] at k
    refine ⟨k.1, fun Q => (top Q).trans ((k.2 _).trans ?_)⟩
    simp only [Option.toList, List.cons_append, List.nil_append]
    rw [b157_100, if_pos rfl]
  | some t =>
    rw [e] at k
    refine ⟨k.1, fun Q => (top Q).trans ((k.2 _).trans ?_)⟩
    simp only [Option.toList, List.cons_append, List.nil_append]
    rw [b157_100, if_neg (by decide)]
    exact Iff.rfl
/-- an and, an or is let go -/
theorem p162_go {p δ s t : Nat} {o W : List Nat} {I : Nat → Nat → Int32} (hh : h < 6) (g : MS J h ix p o (s :: W) δ I) (hl : o.length + W.length < 100) (hs : (s = 38 ∧ t = 1) ∨ (s = 124 ∧ t = 2)) : ∃ I1, MS J h ix p (o ++ [t]) W δ I1 ∧ ∀ (x : Int32) (Q : Option Value → XW → Prop), (s = 124 → ¬ x = 38) → (wp X (d + 1) m162 0 [some (.ref 124), some (.int x)] [] (K0, R0, I, L) Q ↔ wp X (d + 1) m162 0 [some (.ref 124), some (.int x)] [] (K0, R0, I1, L) Q) := by
  obtain ⟨-, g2, g3, g4, g5, g6, g7⟩ := id g
  have e22 : I 124 22 - 1 = nI W.length := by rw [g5]; exact nI_pred _
  have top : 0 < I 124 22 := by rw [g5]; exact nI_lt (a := 0) (by simp only [List.length_cons]; omega) (by simp only [List.length_cons]; omega)
  have e6 : I 138 W.length = nI s := g6.1
  have tk : -nI s = mT t := by rcases hs with ⟨rfl, rfl⟩ | ⟨rfl, rfl⟩ <;> decide
  refine ⟨_, g.pop.emit (t := t), fun x Q hx => ?_⟩
  have step : wp X (d + 1) m162 45 [some (.ref 124), some (.int x)] [] (K0, R0, I, L) Q ↔ wp X (d + 1) m162 0 [some (.ref 124), some (.int x)] [] (K0, R0, updR (updR (updR I 124 22 (nI W.length)) 137 (100 * h + o.length) (mT t)) 124 21 (nI (100 * h + o.length + 1)), L) Q := by
    rw [b162_45, e22, and_iff_right (inA_nI (by omega) (by decide)), nI_clamp (by omega), e6, tk, p160 (show 100 * h + o.length < 600 by omega) (by rw [updR_j (by decide)]; exact g3)]
    simp only [Option.toList, List.cons_append, List.nil_append]
    rw [b162_69]
  rw [b162_0, if_pos top, e22, and_iff_right (inA_nI (by omega) (by decide)), nI_clamp (by omega), e6]
  rcases hs with ⟨rfl, rfl⟩ | ⟨rfl, rfl⟩
  · rw [if_pos (by decide)]
    exact step
  · rw [if_neg (by decide), and_iff_right (inA_nI (by omega) (by decide)), if_pos (by decide), if_neg (hx rfl)]
    exact step
/-- it stops there -/
def hlt (W : List Nat) (x : Int32) : Prop := match W with
  | [] => True
  | s :: _ => s = 40 ∨ s = 33 ∨ (s = 124 ∧ x = 38)
theorem p162_no {p δ : Nat} {o W : List Nat} {I : Nat → Nat → Int32} (g : MS J h ix p o W δ I) (hl : W.length ≤ 100) {x : Int32} (hx : hlt W x) (Q : Option Value → XW → Prop) : wp X (d + 1) m162 0 [some (.ref 124), some (.int x)] [] (K0, R0, I, L) Q ↔ Q none (K0, R0, I, L) := by
  obtain ⟨-, g2, g3, g4, g5, g6, g7⟩ := id g
  match W, hx, g5, g6, hl with
  | [], _, g5, _, _ => rw [b162_0, g5, if_neg (show ¬ (0 : Int32) < nI ([] : List Nat).length by decide)]
  | s :: W, hx, g5, g6, hl =>
    simp only [List.length_cons] at hl
    have e22 : I 124 22 - 1 = nI W.length := by rw [g5]; exact nI_pred _
    have top : 0 < I 124 22 := by rw [g5]; exact nI_lt (a := 0) (by simp only [List.length_cons]; omega) (by simp only [List.length_cons]; omega)
    have e6 : I 138 W.length = nI s := g6.1
    rw [b162_0, if_pos top, e22, and_iff_right (inA_nI (by omega) (by decide)), nI_clamp (by omega), e6]
    rcases hx with rfl | rfl | ⟨rfl, rfl⟩
    · rw [if_neg (by decide), and_iff_right (inA_nI (by omega) (by decide)), if_neg (by decide)]
    · rw [if_neg (by decide), and_iff_right (inA_nI (by omega) (by decide)), if_neg (by decide)]
    · rw [if_neg (by decide), and_iff_right (inA_nI (by omega) (by decide)), if_pos (by decide), if_pos rfl]
/-- what is settled with, at a sign -/
def stx (x : Int32) : Int32 := if x = 38 then 38 else 124
theorem m0_top {p δ : Nat} {o W : List Nat} {I : Nat → Nat → Int32} (hT : TxM J tx sz) (g : MS J h ix p o W δ I) (hs : p ≤ sz) (Q : Option Value → XW → Prop) : Mw X d L ix 0 I Q ↔ wp X (d + 6) m162 0 [some (.ref 124), some (.int (stx (sg tx sz p)))] [] (K0, R0, I, L) (fun r w1 => if sg tx sz p = 38 ∨ sg tx sz p = 124 then wp X (d + 7) m157 127 [some (.ref 124), some (.int (nI ix)), none, some (.int (sg tx sz p))] (r.toList ++ []) w1 Q else wp X (d + 7) m157 168 [some (.ref 124), some (.int (nI ix)), some (.int 0), some (.int (sg tx sz p))] (r.toList ++ []) w1 Q) := by
  unfold Mw
  rw [b157_22, p152 (g.tx hT) g.2.1 hs]
  simp only [Option.toList, List.cons_append, List.nil_append]
  rw [b157_26, if_pos rfl]
  unfold stx
  by_cases c : sg tx sz p = 38
  · simp only [c, if_true, true_or]
    exact Iff.rfl
  · by_cases e : sg tx sz p = 124
    · rw [if_neg c, if_pos e, if_neg c, e]
      simp only [or_true, if_true]
      exact Iff.rfl
    · rw [if_neg c, if_neg e, if_neg c]
      simp only [c, e, or_self, if_false]
      exact Iff.rfl
/-- what stands open as an and, an or may be let go before the next sign is looked at -/
theorem m0_go {p δ s t : Nat} {o W : List Nat} {I : Nat → Nat → Int32} (hh : h < 6) (hT : TxM J tx sz) (g : MS J h ix p o (s :: W) δ I) (hs : p ≤ sz) (hl : o.length + W.length < 100) (hst : (s = 38 ∧ t = 1) ∨ (s = 124 ∧ t = 2)) (hn : s = 124 → ¬ sg tx sz p = 38) : ∃ I1, MS J h ix p (o ++ [t]) W δ I1 ∧ ∀ Q : Option Value → XW → Prop, Mw X d L ix 0 I Q ↔ Mw X d L ix 0 I1 Q := by
  obtain ⟨I1, k1, k2⟩ := p162_go (X := X) (d := d + 5) (L := L) hh g hl hst
  refine ⟨I1, k1, fun Q => ?_⟩
  rw [m0_top hT g hs, m0_top hT k1 hs, k2 _ _ (fun q => ?_)]
  unfold stx
  rw [if_neg (hn q)]
  decide
theorem m0_more {p δ s : Nat} {o W : List Nat} {I : Nat → Nat → Int32} (hT : TxM J tx sz) (g : MS J h ix p o W δ I) (hs : p < sz) (hl : o.length + W.length ≤ p) (hx : sg tx sz p = nI s) (hs2 : s = 38 ∨ s = 124) (hst : hlt W (nI s)) : ∃ I1, MS J h ix (p + 1) o (s :: W) δ I1 ∧ ∀ Q : Option Value → XW → Prop, Mw X d L ix 0 I Q ↔ Mw X d L ix 1 I1 Q := by
  have h100 := hT.1
  obtain ⟨-, g2, g3, g4, g5, g6, g7⟩ := id g
  refine ⟨_, (g.push (x := s) (by omega)).at (q := p + 1), fun Q => ?_⟩
  have hsx : stx (nI s) = nI s := by rcases hs2 with rfl | rfl <;> decide
  have c : nI s = 38 ∨ nI s = 124 := by rcases hs2 with rfl | rfl <;> decide
  rw [m0_top hT g (by omega), hx, hsx, p162_no g (by omega) hst, if_pos c]
  simp only [Option.toList, List.cons_append, List.nil_append]
  rw [b157_127, g5, g2, and_iff_right (inA_nI (by omega) (by decide)), nI_clamp (by omega), nI_1, nI_1]
  exact Iff.rfl
theorem MS.mark {p δ : Nat} {o W : List Nat} {I : Nat → Nat → Int32} {v : Int32} (g : MS J h ix p o W δ I) : MS J h ix p o W δ (updR I 136 ix v) := by
  obtain ⟨h1, h2, h3, h4, h5, h6, h7⟩ := g
  refine ⟨fun a b g1 g2 g3 g4 => ?_, by rw [updR_k (by decide)]; exact h2, by rw [updR_k (by decide)]; exact h3, fun k hk => by rw [updR_k (by decide)]; exact h4 k hk, by rw [updR_k (by decide)]; exact h5, h6.cg (fun k hk => by rw [updR_k (by decide)]), by rw [updR_k (by decide)]; exact h7⟩
  by_cases c : a = 136
  · subst c; rw [updR_j (fun q => g4 ⟨rfl, q⟩)]; exact h1 _ b g1 g2 g3 g4
  · rw [updR_k c]; exact h1 a b g1 g2 g3 g4
theorem m0_last {p δ : Nat} {o W : List Nat} {I : Nat → Nat → Int32} (hT : TxM J tx sz) (g : MS J h ix p o W δ I) (hs : p ≤ sz) (hl : o.length + W.length ≤ p) (hi : ix < 60) (h1 : ¬ sg tx sz p = 38) (h2 : ¬ sg tx sz p = 124) (hst : hlt W 124) (Q : Option Value → XW → Prop) : Mw X d L ix 0 I Q ↔ (if nI W.length = 0 then Q (some (.int 1)) (K0, R0, updR I 136 ix (nI (100 * h + o.length)), L) else if sg tx sz p = 41 then wp X (d + 6) m161 0 [some (.ref 124)] [] (K0, R0, updR (updR (updR (updR I 136 ix (nI (100 * h + o.length))) 124 22 (nI W.length - 1)) 124 23 (nI δ - 1)) 124 11 (nI p + 1), L) (fun r w1 => wp X (d + 7) m157 229 [some (.ref 124), some (.int (nI ix)), some (.int 0), none] (r.toList ++ []) w1 Q) else Q (some (.int 0)) (K0, R0, updR I 136 ix (nI (100 * h + o.length)), L)) := by
  have h100 := hT.1
  obtain ⟨-, g2, g3, g4, g5, g6, g7⟩ := id g
  have c : ¬ (sg tx sz p = 38 ∨ sg tx sz p = 124) := fun q => q.elim h1 h2
  rw [m0_top hT g hs, show stx (sg tx sz p) = 124 by unfold stx; rw [if_neg h1], p162_no g (by omega) hst, if_neg c]
  simp only [Option.toList, List.cons_append, List.nil_append]
  rw [b157_168, and_iff_right (inA_nI hi (by decide)), nI_clamp (by omega), g5, g7, g2, g3]
  exact Iff.rfl
theorem m0_close {p δ : Nat} {o W : List Nat} {I : Nat → Nat → Int32} (hh : h < 6) (hT : TxM J tx sz) (g : MS J h ix p o (40 :: W) (δ + 1) I) (hs : p < sz) (hl : o.length + (W.length + 1) ≤ p) (hi : ix < 60) (hx : sg tx sz p = 41) (hd : nots W ≤ δ) : ∃ I1, MS J h ix (p + 1) (o ++ List.replicate (nots W) 0) (peel W) (δ - nots W) I1 ∧ ∀ Q : Option Value → XW → Prop, Mw X d L ix 0 I Q ↔ Mw X d L ix 0 I1 Q := by
  have h100 := hT.1
  obtain ⟨I1, k1, k2⟩ := p161 (X := X) (d := d + 5) (L := L) hh W o δ _ (((g.mark (v := nI (100 * h + o.length))).pop.deep (δ' := δ)).at (q := p + 1)) hd (by omega)
  refine ⟨I1, k1, fun Q => ?_⟩
  rw [m0_last hT g (by omega) (by rw [List.length_cons]; omega) hi (by rw [hx]; decide) (by rw [hx]; decide) (Or.inl rfl), if_neg (show ¬ nI (40 :: W).length = 0 from nI_ne (b := 0) (by rw [List.length_cons]; omega) (by decide) (by rw [List.length_cons]; omega)), if_pos hx, show nI (40 :: W).length - 1 = nI W.length from nI_pred _, show nI (δ + 1) - 1 = nI δ from nI_pred _, nI_1, k2]
  simp only [Option.toList, List.cons_append, List.nil_append]
  rw [b157_229]
  exact Iff.rfl
end STEPS
