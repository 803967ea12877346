/-! near, fullest. -/
def nrC (cl : Nat → Nat) (row b : Nat) : Nat := if cl row < cl b then row else b
def nrM (cl : Nat → Nat) (row : Nat) (b : Option Nat) : Option Nat := match b with
  | none => some row
  | some b => some (nrC cl row b)
theorem nr_eq {cl : Nat → Nat} : ∀ n, itr (nrM cl) (n + 1) none = some (itr (nrC cl) (n + 1) 0) := by
  intro n
  induction n with
  | zero =>
    show some 0 = some (if cl 0 < cl 0 then 0 else 0)
    rw [if_neg (Nat.lt_irrefl _)]
  | succ n ih =>
    show nrM cl (n + 1) (itr (nrM cl) (n + 1) none) = some (nrC cl (n + 1) (itr (nrC cl) (n + 1) 0))
    rw [ih]
    rfl
theorem nr_le {cl : Nat → Nat} : ∀ n, n ≤ 64 → itr (nrC cl) n 0 ≤ 63 := by
  intro n
  induction n with
  | zero => intro _; exact Nat.zero_le _
  | succ n ih =>
    intro h
    show (if cl n < cl (itr (nrC cl) n 0) then n else itr (nrC cl) n 0) ≤ 63
    split
    · omega
    · exact ih (by omega)
def fuF (lf : Nat → Nat) (row x : Nat) : Nat := if x < pop (lf row) then pop (lf row) else x
section TREE
variable {X : Nat × (Nat → Int32)} {d : Nat} {L : Nat → Nat → Int64} {I : Nat → Nat → Int32} {Q : Option Value → XW → Prop}
theorem s87 {s : Nat} {lf : Nat → Nat} (hs : s ≤ 4095) (hl : ∀ row, row < 64 → I 75 (21 + row) = nI (lf row) ∧ lf row ≤ 4095) : wp X (d + 2) m87 0 [some (.ref 74), some (.int (nI s)), some (.int (nI 3)), none, none] [] (K0, R0, I, L) Q ↔ Q (some (.int (nI (21 + itr (nrC (fun row => pop (lf row ^^^ s))) 64 0)))) (K0, R0, I, L) := by
  rw [b87_0, s82 (by decide)]
  simp only [Option.toList, List.cons_append, List.nil_append]
  rw [b87_4]
  refine ((for_inv (P := fun row (b : Nat) => wp X (d + 2) m87 8 [some (.ref 74), some (.int (nI s)), some (.int (nI 3)), some (.int (nI (21 + b))), some (.int (nI (21 + row)))] [] (K0, R0, I, L) Q) (F := nrC (fun row => pop (lf row ^^^ s))) (fun b => b ≤ 63) 0 (by decide) 64 (fun row b hrow hb => by
    show (if _ then row else b) ≤ 63
    split <;> omega) (fun row b hrow hb => by
    obtain ⟨h1, h2⟩ := hl row hrow
    obtain ⟨h3, h4⟩ := hl b (by omega)
    rw [b87_8, s81 (Or.inl rfl)]
    simp only [Option.toList, List.cons_append, List.nil_append]
    rw [b87_14, if_pos (show nI (21 + row) < nI (bgN (3 + 1)) from nI_lt (b := 85) (by omega) (by decide)), s88 (by omega), h1]
    simp only [Option.toList, List.cons_append, List.nil_append]
    rw [b87_23, s70 h2 hs]
    simp only [Option.toList, List.cons_append, List.nil_append]
    rw [b87_27, s88 (by omega), h3]
    simp only [Option.toList, List.cons_append, List.nil_append]
    rw [b87_32, s70 h4 hs]
    simp only [Option.toList, List.cons_append, List.nil_append]
    have p1 := (pop_ok (xor_le h2 hs)).1
    have p2 := (pop_ok (xor_le h4 hs)).1
    have g := nI_ltI (a := pop (lf row ^^^ s)) (b := pop (lf b ^^^ s)) (by omega) (by omega)
    rw [b87_36, nI_1]
    unfold nrC
    by_cases c : pop (lf row ^^^ s) < pop (lf b ^^^ s)
    · rw [if_pos (g.mpr c), if_pos c]
      exact Iff.rfl
    · rw [if_neg (fun q => c (g.mp q)), if_neg c]
      exact Iff.rfl)).1).trans ?_
  rw [b87_8, s81 (Or.inl rfl)]
  simp only [Option.toList, List.cons_append, List.nil_append]
  rw [b87_14, if_neg (show ¬ nI (21 + 64) < nI (bgN (3 + 1)) by decide)]
theorem s90 {lf : Nat → Nat} (hl : ∀ row, row < 256 → I 75 (85 + row) = nI (lf row) ∧ lf row ≤ 4095) : wp X (d + 2) m90 0 [some (.ref 74), some (.int (nI 4)), none, none] [] (K0, R0, I, L) Q ↔ Q (some (.int (nI (itr (fuF lf) 256 0)))) (K0, R0, I, L) := by
  rw [b90_0, s82 (by decide)]
  simp only [Option.toList, List.cons_append, List.nil_append]
  rw [b90_6]
  refine ((for_inv (P := fun row (x : Nat) => wp X (d + 2) m90 7 [some (.ref 74), some (.int (nI 4)), some (.int (nI x)), some (.int (nI (85 + row)))] [] (K0, R0, I, L) Q) (F := fuF lf) (fun x => x ≤ 12) 0 (by decide) 256 (fun row x hrow hx => by
    have := (pop_ok (hl row hrow).2).1
    show (if _ then pop (lf row) else x) ≤ 12
    split <;> omega) (fun row x hrow hx => by
    obtain ⟨h1, h2⟩ := hl row hrow
    have hp := pop_ok h2
    rw [b90_7, s81 (Or.inr rfl)]
    simp only [Option.toList, List.cons_append, List.nil_append]
    rw [b90_12, if_pos (show nI (85 + row) < nI (bgN (4 + 1)) from nI_lt (b := 341) (by omega) (by decide)), s88 (by omega), h1]
    simp only [Option.toList, List.cons_append, List.nil_append]
    rw [b90_21, s22, hp.2.2]
    simp only [Option.toList, List.cons_append, List.nil_append]
    rw [b90_24, b3_0]
    simp only [Option.toList, List.cons_append, List.nil_append]
    have g := nI_ltI (a := x) (b := pop (lf row)) (by omega) (by omega)
    rw [b90_27, nI_1]
    unfold fuF
    by_cases c : x < pop (lf row)
    · rw [if_pos (g.mpr c), if_pos c]
      exact Iff.rfl
    · rw [if_neg (fun q => c (g.mp q)), if_neg c]
      exact Iff.rfl)).1).trans ?_
  rw [b90_7, s81 (Or.inr rfl)]
  simp only [Option.toList, List.cons_append, List.nil_append]
  rw [b90_12, if_neg (show ¬ nI (85 + 256) < nI (bgN (4 + 1)) by decide)]
end TREE
section CALLS
variable {X : Nat × (Nat → Int32)} {d : Nat}
theorem ok_fullest {x1 : Int32} : Ok X d m89 m194 [some (.ref 0), some (.int x1), none] [some (.ref 124), some (.int x1), none, none, none] := by
  intro I L hI
  obtain ⟨n, t, z, k, wd, nb, mm, T, hN, hn, e1, e4, S⟩ := sit_view hI
  rcases argC x1 hn with h | ⟨i, hi, rfl⟩
  · refine ⟨.int (-1), I, L, I, L, hI, fun Q => ?_, fun Q => ?_⟩
    · simp only [b89_0, s17_no hn e1 h, b89_8_1, Option.toList, List.cons_append, List.nil_append]
    · simp only [b194_0, s145_no hn e4 h, b194_5, if_true, Option.toList, List.cons_append, List.nil_append]
  have hc := cupK (i := i) (by omega)
  obtain ⟨kd, v, lv, m, r, ln, hR, hM, hm, hr, hln⟩ := cup_view hN hi
  obtain ⟨J, aJ, gJ, cJ⟩ := s80 (X := X) (d := d + 93) (L := L) (n := 4) (s0 := (lv, nI m)) S hR hln (Or.inr rfl)
  have est : ∀ row, row < 256 → stS (sayN (wiS T wd nb mm k t i kd v) (dnS kd t ln) (riS wd nb k) (faS wd nb k)) (lv, nI m) 5 (85 + row) = mdS (sayN (wiS T wd nb mm k t i kd v) (dnS kd t ln) (riS wd nb k) (faS wd nb k)) (lv, nI m) 4 row := fun row hrow => st_md 4 4 row (by decide) (by decide) hrow
  have hl : ∀ row, row < 256 → J 75 (85 + row) = nI (mdS (sayN (wiS T wd nb mm k t i kd v) (dnS kd t ln) (riS wd nb k) (faS wd nb k)) (lv, nI m) 4 row).1 ∧ (mdS (sayN (wiS T wd nb mm k t i kd v) (dnS kd t ln) (riS wd nb k) (faS wd nb k)) (lv, nI m) 4 row).1 ≤ 4095 := fun row hrow => by
    rw [← est row hrow]
    exact gJ (85 + row) (by show 85 + row < 341; omega)
  obtain ⟨-, K, aK, cK⟩ := for_w (P := fun row (x : Nat) J (Q : Option Value → XW → Prop) => wp X (d + 100) m194 14 [some (.ref 124), some (.int (nI i)), some (.int (nI x)), some (.int (nI row)), none] [] (K0, R0, J, L) Q) (F := fuF (fun row => (mdS (sayN (wiS T wd nb mm k t i kd v) (dnS kd t ln) (riS wd nb k) (faS wd nb k)) (lv, nI m) 4 row).1)) (fun J => Asked I J) (fun x => x ≤ 12) 256 (fun row x J' hrow hx hJ' => by
    have hp := pop_ok (hl row hrow).2
    refine ⟨by
      show (if _ then pop _ else x) ≤ 12
      have := hp.1
      split <;> omega, ?_⟩
    obtain ⟨K, ak, hK⟩ := s191 (X := X) (d := d + 91) (L := L) (s0 := (lv, nI m)) (many := 4) (row := row) (S.asked hJ') (hM.asked hJ') (show r ≤ 50000 by omega) hln (by decide) hrow
    refine ⟨K, hJ'.trans (Asked.ak ak), fun Q => ?_⟩
    rw [b194_14, if_pos (show nI row < (256 : Int32) from nI_lt (b := 256) hrow (by decide))]
    refine (hK _).trans ?_
    simp only [Option.toList, List.cons_append, List.nil_append]
    rw [b194_29, s169, hp.2.1]
    simp only [Option.toList, List.cons_append, List.nil_append]
    have g := nI_ltI (a := x) (b := pop (mdS (sayN (wiS T wd nb mm k t i kd v) (dnS kd t ln) (riS wd nb k) (faS wd nb k)) (lv, nI m) 4 row).1) (by omega) (by omega)
    rw [b194_32, nI_1]
    unfold fuF
    by_cases c : x < pop (mdS (sayN (wiS T wd nb mm k t i kd v) (dnS kd t ln) (riS wd nb k) (faS wd nb k)) (lv, nI m) 4 row).1
    · rw [if_pos (g.mpr c), if_pos c]
    · rw [if_neg (fun q => c (g.mp q)), if_neg c]) 0 J (by decide) aJ
  refine ⟨.int (nI (itr (fuF (fun row => (mdS (sayN (wiS T wd nb mm k t i kd v) (dnS kd t ln) (riS wd nb k) (faS wd nb k)) (lv, nI m) 4 row).1)) 256 0)), J, L, K, L, hI.asked aK, fun Q => ?_, fun Q => ?_⟩
  · rw [b89_0, s17_ok hn e1 hi]
    simp only [Option.toList, List.cons_append, List.nil_append]
    rw [b89_8 hc, S.2.2.2.2.2.2.2.2.2.2 _ _ _ _ _ rfl]
    simp only [Option.toList, List.cons_append, List.nil_append]
    rw [b89_32 hc S.1.inn, S.2.2.2.2.2.2.1]
    refine (cJ _).trans ?_
    simp only [Option.toList, List.cons_append, List.nil_append]
    rw [b89_35]
    refine (s90 hl).trans ?_
    simp only [Option.toList, List.cons_append, List.nil_append]
    rw [b89_43]
  · rw [b194_0, s145_ok hn ((aJ.2 0 (by decide)).trans e4) hi]
    simp only [Option.toList, List.cons_append, List.nil_append]
    rw [b194_5, if_neg (by decide)]
    refine (cK Q).trans ?_
    rw [b194_14, if_neg (show ¬ nI 256 < (256 : Int32) by decide)]
theorem ok_near {x1 x2 x3 : Int32} : Ok X d m86 m193 [some (.ref 0), some (.int x1), some (.int x2), some (.int x3), none, none] [some (.ref 124), some (.int x1), some (.int x2), some (.int x3), none, none, none, none] := by
  intro I L hI
  obtain ⟨n, t, z, k, wd, nb, mm, T, hN, hn, e1, e4, S⟩ := sit_view hI
  rcases argC x1 hn with h | ⟨i, hi, rfl⟩
  · refine ⟨.int (-1), I, L, I, L, hI, fun Q => ?_, fun Q => ?_⟩
    · simp only [b86_0, s17_no hn e1 h, b86_8_1, Option.toList, List.cons_append, List.nil_append]
    · simp only [b193_0, s145_no hn e4 h, b193_5, if_true, Option.toList, List.cons_append, List.nil_append]
  have hc := cupK (i := i) (by omega)
  have hkk : (x3 < -1 ∨ (2 : Int32) < x3) ∨ ((¬ x3 < -1 ∧ x3 < 3) ∧ ¬ (2 : Int32) < x3) ∧ (x3 = -1 ∨ ∃ s, s ≤ 2 ∧ x3 = nI s) := by
    rcases argK x3 (n := 2) (by decide) with h | h | ⟨s, hs, rfl⟩
    · exact Or.inl h
    · subst h; exact Or.inr ⟨by decide, Or.inl rfl⟩
    · exact Or.inr ⟨⟨⟨fun q => nI_pos (n := s) (by omega) (Int32.lt_trans q (by decide)), nI_lt (b := 3) (by omega) (by decide)⟩, nI_nlt (a := 2) hs (by decide)⟩, Or.inr ⟨s, hs, rfl⟩⟩
  rcases hkk with h | ⟨⟨⟨ka, kb⟩, kc⟩, hk3⟩
  · refine ⟨.int (-1), I, L, I, L, hI, fun Q => ?_, fun Q => ?_⟩
    · rw [b86_0, s17_ok hn e1 hi]
      simp only [Option.toList, List.cons_append, List.nil_append]
      rw [b86_8 hc]
      rcases h with h | h
      · rw [if_pos h]
      · rw [if_neg (fun q => nlt0 (n := 2) (by decide) h (Int32.lt_trans q (by decide))), if_neg (show ¬ x3 < (3 : Int32) from fun q => by
          have a := (lt_l (n := 2) (by decide)).mp h
          have b := (lt_r (n := 3) (by decide)).mp q
          omega)]
    · rw [b193_0, s145_ok hn e4 hi]
      simp only [Option.toList, List.cons_append, List.nil_append]
      rw [b193_5, if_neg (by decide), s142_no h]
      simp only [Option.toList, List.cons_append, List.nil_append]
      rw [b193_15, if_pos rfl]
  rcases num_cases x2 (n := 4095) (by decide) with h | ⟨s, hs, rfl⟩
  · refine ⟨.int (-2), I, L, I, L, hI, fun Q => ?_, fun Q => ?_⟩
    · rw [b86_0, s17_ok hn e1 hi]
      simp only [Option.toList, List.cons_append, List.nil_append]
      rw [b86_8 hc, if_neg ka, if_pos kb, s12_no h]
      simp only [Option.toList, List.cons_append, List.nil_append]
      rw [b86_31 hc, if_pos rfl]
    · rw [b193_0, s145_ok hn e4 hi]
      simp only [Option.toList, List.cons_append, List.nil_append]
      rw [b193_5, if_neg (by decide), s142_ok ka kc]
      simp only [Option.toList, List.cons_append, List.nil_append]
      rw [b193_15, if_neg (by decide), s143_no h]
      simp only [Option.toList, List.cons_append, List.nil_append]
      rw [b193_25, if_pos rfl]
  obtain ⟨kd, v, lv, m, r, ln, hR, hM, hm, hr, hln⟩ := cup_view hN hi
  obtain ⟨J, aJ, gJ, cJ⟩ := s80 (X := X) (d := d + 93) (L := L) (n := 3) (s0 := (lv, nI m)) S hR hln (Or.inl rfl)
  have est : ∀ row, row < 64 → stS (sayN (wiS T wd nb mm k t i kd v) (dnS kd t ln) (riS wd nb k) (faS wd nb k)) (lv, nI m) 5 (21 + row) = mdS (sayN (wiS T wd nb mm k t i kd v) (dnS kd t ln) (riS wd nb k) (faS wd nb k)) (lv, nI m) 3 row := fun row hrow => st_md 4 3 row (by decide) (by decide) hrow
  have hl : ∀ row, row < 64 → J 75 (21 + row) = nI (mdS (sayN (wiS T wd nb mm k t i kd v) (dnS kd t ln) (riS wd nb k) (faS wd nb k)) (lv, nI m) 3 row).1 ∧ (mdS (sayN (wiS T wd nb mm k t i kd v) (dnS kd t ln) (riS wd nb k) (faS wd nb k)) (lv, nI m) 3 row).1 ≤ 4095 := fun row hrow => by
    rw [← est row hrow]
    exact gJ (21 + row) (by show 21 + row < 85; omega)
  have hcl : ∀ row, row < 64 → pop ((mdS (sayN (wiS T wd nb mm k t i kd v) (dnS kd t ln) (riS wd nb k) (faS wd nb k)) (lv, nI m) 3 row).1 ^^^ s) ≤ 12 := fun row hrow => (pop_ok (xor_le (hl row hrow).2 hs)).1
  obtain ⟨-, K, aK, cK⟩ := for_w (P := fun row (b : Option Nat) J (Q : Option Value → XW → Prop) => wp X (d + 100) m193 41 [some (.ref 124), some (.int (nI i)), some (.int (nI s)), some (.int x3), some (.int (nI (b.getD 0))), some (.int (nI (match b with
    | none => 99
    | some b => pop ((mdS (sayN (wiS T wd nb mm k t i kd v) (dnS kd t ln) (riS wd nb k) (faS wd nb k)) (lv, nI m) 3 b).1 ^^^ s)))), some (.int (nI row)), none] [] (K0, R0, J, L) Q) (F := nrM (fun row => pop ((mdS (sayN (wiS T wd nb mm k t i kd v) (dnS kd t ln) (riS wd nb k) (faS wd nb k)) (lv, nI m) 3 row).1 ^^^ s))) (fun J => Asked I J) (fun b => b.getD 0 ≤ 63) 64 (fun row b J' hrow hb hJ' => by
    have hp := pop_ok (xor_le (hl row hrow).2 hs)
    refine ⟨by
      match b, hb with
      | none, _ => show row ≤ 63; omega
      | some b, hb =>
        have hb' : b ≤ 63 := hb
        show (if _ then row else b) ≤ 63
        split <;> omega, ?_⟩
    obtain ⟨K, ak, hK⟩ := s191 (X := X) (d := d + 91) (L := L) (s0 := (lv, nI m)) (many := 3) (row := row) (S.asked hJ') (hM.asked hJ') (show r ≤ 50000 by omega) hln (by decide) hrow
    refine ⟨K, hJ'.trans (Asked.ak ak), fun Q => ?_⟩
    rw [b193_41, if_pos (show nI row < (64 : Int32) from nI_lt (b := 64) hrow (by decide))]
    refine (hK _).trans ?_
    simp only [Option.toList, List.cons_append, List.nil_append]
    rw [b193_57, nI_xor, s169, hp.2.1]
    simp only [Option.toList, List.cons_append, List.nil_append]
    rw [b193_62, nI_1]
    match b, hb with
    | none, _ =>
      exact Iff.of_eq (if_pos (nI_lt (b := 99) (by omega) (by decide)))
    | some b, hb =>
      have hb' : b ≤ 63 := hb
      have p2 := hcl b (by omega)
      have g := nI_ltI (a := pop ((mdS (sayN (wiS T wd nb mm k t i kd v) (dnS kd t ln) (riS wd nb k) (faS wd nb k)) (lv, nI m) 3 row).1 ^^^ s)) (b := pop ((mdS (sayN (wiS T wd nb mm k t i kd v) (dnS kd t ln) (riS wd nb k) (faS wd nb k)) (lv, nI m) 3 b).1 ^^^ s)) (by omega) (by omega)
      show (if nI (pop ((mdS (sayN (wiS T wd nb mm k t i kd v) (dnS kd t ln) (riS wd nb k) (faS wd nb k)) (lv, nI m) 3 row).1 ^^^ s)) < nI (pop ((mdS (sayN (wiS T wd nb mm k t i kd v) (dnS kd t ln) (riS wd nb k) (faS wd nb k)) (lv, nI m) 3 b).1 ^^^ s)) then _ else _) ↔ _
      unfold nrM nrC
      by_cases c : pop ((mdS (sayN (wiS T wd nb mm k t i kd v) (dnS kd t ln) (riS wd nb k) (faS wd nb k)) (lv, nI m) 3 row).1 ^^^ s) < pop ((mdS (sayN (wiS T wd nb mm k t i kd v) (dnS kd t ln) (riS wd nb k) (faS wd nb k)) (lv, nI m) 3 b).1 ^^^ s)
      · rw [if_pos (g.mpr c)]
        simp only [c, if_true]
        exact Iff.rfl
      · rw [if_neg (fun q => c (g.mp q))]
        simp only [c, if_false]
        try exact Iff.rfl) none J (by decide) aJ
  have eqN := @nr_eq (fun row => pop ((mdS (sayN (wiS T wd nb mm k t i kd v) (dnS kd t ln) (riS wd nb k) (faS wd nb k)) (lv, nI m) 3 row).1 ^^^ s)) 63
  have leN := @nr_le (fun row => pop ((mdS (sayN (wiS T wd nb mm k t i kd v) (dnS kd t ln) (riS wd nb k) (faS wd nb k)) (lv, nI m) 3 row).1 ^^^ s)) 64 (by decide)
  have cls : ∀ Q : Option Value → XW → Prop, wp X (d + 100) m86 0 [some (.ref 0), some (.int (nI i)), some (.int (nI s)), some (.int x3), none, none] [] (K0, R0, I, L) Q ↔ wp X (d + 100) m86 67 [some (.ref 0), none, some (.int (nI s)), some (.int x3), none, none] [.int (nI (21 + itr (nrC (fun row => pop ((mdS (sayN (wiS T wd nb mm k t i kd v) (dnS kd t ln) (riS wd nb k) (faS wd nb k)) (lv, nI m) 3 row).1 ^^^ s))) 64 0))] (K0, R0, J, L) Q := by
    intro Q
    rw [b86_0, s17_ok hn e1 hi]
    simp only [Option.toList, List.cons_append, List.nil_append]
    rw [b86_8 hc, if_neg ka, if_pos kb, s12_ok hs]
    simp only [Option.toList, List.cons_append, List.nil_append]
    rw [b86_31 hc, if_neg (by decide), S.2.2.2.2.2.2.2.2.2.2 _ _ _ _ _ rfl]
    simp only [Option.toList, List.cons_append, List.nil_append]
    rw [b86_55 hc S.1.inn, S.2.2.2.2.2.2.1]
    refine (cJ _).trans ?_
    simp only [Option.toList, List.cons_append, List.nil_append]
    rw [b86_58]
    refine (s87 hs hl).trans ?_
    simp only [Option.toList, List.cons_append, List.nil_append]
    try exact Iff.rfl
  have mdl : ∀ Q : Option Value → XW → Prop, wp X (d + 100) m193 0 [some (.ref 124), some (.int (nI i)), some (.int (nI s)), some (.int x3), none, none, none, none] [] (K0, R0, J, L) Q ↔ (if x3 < 0 then Q (some (.int (nI (pop ((mdS (sayN (wiS T wd nb mm k t i kd v) (dnS kd t ln) (riS wd nb k) (faS wd nb k)) (lv, nI m) 3 (itr (nrC (fun row => pop ((mdS (sayN (wiS T wd nb mm k t i kd v) (dnS kd t ln) (riS wd nb k) (faS wd nb k)) (lv, nI m) 3 row).1 ^^^ s))) 64 0)).1 ^^^ s))))) (K0, R0, K, L) else wp X (d + 99) m192 0 [some (.ref 124), some (.int (nI (itr (nrC (fun row => pop ((mdS (sayN (wiS T wd nb mm k t i kd v) (dnS kd t ln) (riS wd nb k) (faS wd nb k)) (lv, nI m) 3 row).1 ^^^ s))) 64 0))), some (.int (nI 3)), some (.int x3), none, none] [] (K0, R0, K, L) (fun r w1 => wp X (d + 100) m193 105 [none, none, none, none, none, none, none, none] (r.toList ++ []) w1 Q)) := by
    intro Q
    rw [b193_0, s145_ok hn ((aJ.2 0 (by decide)).trans e4) hi]
    simp only [Option.toList, List.cons_append, List.nil_append]
    rw [b193_5, if_neg (by decide), s142_ok ka kc]
    simp only [Option.toList, List.cons_append, List.nil_append]
    rw [b193_15, if_neg (by decide), s143_ok hs]
    simp only [Option.toList, List.cons_append, List.nil_append]
    rw [b193_25, if_neg (by decide)]
    refine (cK Q).trans ?_
    rw [eqN, b193_41, if_neg (show ¬ nI 64 < (64 : Int32) by decide), b193_105]
    exact Iff.rfl
  generalize itr (nrC (fun row => pop ((mdS (sayN (wiS T wd nb mm k t i kd v) (dnS kd t ln) (riS wd nb k) (faS wd nb k)) (lv, nI m) 3 row).1 ^^^ s))) 64 0 = b at leN cls mdl
  obtain ⟨lb1, lb2⟩ := hl b (by omega)
  rcases hk3 with rfl | ⟨u, hu, rfl⟩
  · refine ⟨.int (nI (pop ((mdS (sayN (wiS T wd nb mm k t i kd v) (dnS kd t ln) (riS wd nb k) (faS wd nb k)) (lv, nI m) 3 b).1 ^^^ s))), J, L, K, L, hI.asked aK, fun Q => ?_, fun Q => ?_⟩
    · rw [cls, b86_67, if_pos (by decide), s88 (by omega), lb1]
      simp only [Option.toList, List.cons_append, List.nil_append]
      rw [b86_82, s70 lb2 hs]
      simp only [Option.toList, List.cons_append, List.nil_append]
      rw [b86_86, b86_99]
    · rw [mdl, if_pos (by decide)]
  · have u0 : ¬ nI u < 0 := nI_pos (by omega)
    have u3 : nI u < nI 3 := nI_lt (by omega) (by decide)
    refine ⟨.int (nI (b / 4 ^ (3 - 1 - u) % 4)), J, L, K, L, hI.asked aK, fun Q => ?_, fun Q => ?_⟩
    · rw [cls, b86_67, if_neg u0]
      refine (s85 (m := 3) (row := b) (by decide) (show b < 64 by omega) (by omega)).trans ?_
      unfold kthI
      rw [if_neg u0, if_pos u3, nI_clamp (by omega)]
      simp only [Option.toList, List.cons_append, List.nil_append]
      rw [b86_99]
    · rw [mdl, if_neg u0, s192 (by decide) (by omega) (by omega)]
      simp only [Option.toList, List.cons_append, List.nil_append]
      rw [b193_105]
end CALLS
