/-! count, trace, taken. -/
section CALLS
variable {X : Nat × (Nat → Int32)} {d : Nat}
theorem acts_view {I : Nat → Nat → Int32} {L : Nat → Nat → Int64} (h : Inv I L) : ActsI I := by
  obtain ⟨n, q, n', q', c, h1, h2, h3, h4, h5, h6, h7, h8, -⟩ := h
  exact h8
theorem inns_view {I : Nat → Nat → Int32} {L : Nat → Nat → Int64} (h : Inv I L) : ∃ c, InnsI I c := by
  obtain ⟨n, q, n', q', c, h1, h2, h3, h4, h5, h6, -⟩ := h
  exact ⟨c, h6⟩
theorem ok_count {x1 : Int32} : Ok X d m131 m231 [some (.ref 0), some (.int x1)] [some (.ref 124), some (.int x1)] := by
  intro I L hI
  obtain ⟨n, t, z0, k, wd, nb, mm, T, hN, hn5, e1, e4, S⟩ := sit_view hI
  obtain ⟨c, i1, i2, i3, i4⟩ := inns_view hI
  obtain ⟨s, hs, t1, t2, t3⟩ := text_view hI
  obtain ⟨r, hr, r1, r2, r3⟩ := acts_view hI
  obtain ⟨k1, k2, k3, k4, ⟨a, ha, a1, a2, a3⟩, ⟨b, hb, b1, b2, b3⟩, ⟨g, hg, g1, g2, g3⟩⟩ := hN
  have a1' : I 3 2 = nI a := a1
  have b1' : I 6 2 = nI b := b1
  have g1' : I 9 2 = nI g := g1
  refine ⟨.int (if x1 = 0 then nI n else if x1 = 1 then nI c else if x1 = 2 then nI a else if x1 = 3 then nI b else if x1 = 4 then nI g else if x1 = 5 then nI s else if x1 = 6 then nI r else -2), I, L, I, L, hI, fun Q => ?_, fun Q => ?_⟩
  · rw [b131_0, e1, i2, a1', b1', g1', t1, r1]
  · rw [b231_0, e4, i3, a2, b2, g2, t2, r2]
theorem ok_trace {x1 : Int32} : Ok X d m127 m229 [some (.ref 0), some (.int x1)] [some (.ref 124), some (.int x1)] := by
  intro I L hI
  obtain ⟨r, hr, r1, r2, r3⟩ := acts_view hI
  rcases num_cases x1 (n := 19) (by decide) with h | ⟨i, hi, rfl⟩
  · refine ⟨.int (-1), I, L, I, L, hI, fun Q => ?_, fun Q => ?_⟩
    · rw [b127_0, b128_0]
      rcases h with h | h
      · rw [if_pos h]
        simp only [Option.toList, List.cons_append, List.nil_append]
        rw [b127_8]
      · have g : ¬ x1 < (20 : Int32) := fun q => by
          have a := (lt_l (n := 19) (by decide)).mp h
          have b := (lt_r (n := 20) (by decide)).mp q
          omega
        rw [if_neg (nlt0 (n := 19) (by decide) h), if_neg g]
        by_cases c : x1 < I 79 1
        · rw [if_pos c]
          simp only [Option.toList, List.cons_append, List.nil_append]
          rw [b127_8]
        · rw [if_neg c]
          simp only [Option.toList, List.cons_append, List.nil_append]
          rw [b127_8]
    · rw [b229_0, s142_no (show x1 < 0 ∨ 19 < x1 from h)]
      simp only [Option.toList, List.cons_append, List.nil_append]
      rw [b229_8, if_pos rfl]
  have ix : inA (nI i) 20 = true := inA_nI (by omega) (by decide)
  have hcl : (nI i).toNatClampNeg = i := nI_clamp (by omega)
  refine ⟨.int (if nI i < nI r then I 162 i else -1), I, L, I, L, hI, fun Q => ?_, fun Q => ?_⟩
  · rw [b127_0, b128_0, if_neg (nI_pos (by omega)), r1, if_pos (show nI i < (20 : Int32) from nI_lt (b := 20) (by omega) (by decide)), and_iff_right ix, hcl]
    by_cases c : nI i < nI r
    · rw [if_pos c, if_pos c, r3 i ((nI_ltI (by omega) (by omega)).mp c)]
      simp only [Option.toList, List.cons_append, List.nil_append]
      rw [b127_8]
    · rw [if_neg c, if_neg c]
      simp only [Option.toList, List.cons_append, List.nil_append]
      rw [b127_8]
  · rw [b229_0]
    refine (s142_nI (n := 19) hi (by decide)).trans ?_
    simp only [Option.toList, List.cons_append, List.nil_append]
    rw [b229_8, if_neg (by decide), r2, and_iff_right ix, hcl]
    by_cases c : nI i < nI r
    · rw [if_pos c, if_pos c]
    · rw [if_neg c, if_neg c]
/-- is a kind one of kind k or under it -/
def undN (kd k : Nat) : Bool := k == 0 || kd == k || (k == 1 && kd == 4) || (k == 2 && kd == 5) || (k == 3 && kd == 6)
theorem s130 {I : Nat → Nat → Int32} {L : Nat → Nat → Int64} {Q : Option Value → XW → Prop} {r kd k : Nat} (hr : isCup r) (hk : kd ≤ 6) (h6 : k ≤ 6) (h1 : I r 1 = nI kd) : wp X d m130 0 [some (.ref r), some (.int (nI k)), none, none] [] (K0, R0, I, L) Q ↔ Q (some (.int (bI (undN kd k)))) (K0, R0, I, L) := by
  have st : ∀ (a b : Nat), a ≤ 6 → b < 7 → (wp X d m130 7 [none, some (.int (nI k)), some (.int (nI a)), some (.int (nI b))] [] (K0, R0, I, L) Q ↔ (if a = k then Q (some (.int 1)) (K0, R0, I, L) else wp X d m130 7 [none, some (.int (nI k)), some (.int (KA a)), some (.int (nI (b + 1)))] [] (K0, R0, I, L) Q)) := by
    intro a b ha hb
    rw [b130_7, if_pos (show nI b < (7 : Int32) from nI_lt (b := 7) hb (by decide)), if_neg (nI_pos (by omega)), if_pos (show nI a < (7 : Int32) from nI_lt (b := 7) (by omega) (by decide)), and_iff_right (inA_nI (by omega) (by decide)), nI_clamp (by omega), nI_1]
    have e := nI_eq (a := a) (b := k) (by omega) (by omega)
    by_cases c : a = k
    · rw [if_pos c, if_pos (e.mpr c)]
    · rw [if_neg c, if_neg (fun q => c (e.mp q))]
  have en : ∀ b, b < 7 → (wp X d m130 7 [none, some (.int (nI k)), some (.int (-1)), some (.int (nI b))] [] (K0, R0, I, L) Q ↔ Q (some (.int 0)) (K0, R0, I, L)) := by
    intro b hb
    rw [b130_7, if_pos (show nI b < (7 : Int32) from nI_lt (b := 7) hb (by decide)), if_pos (by decide)]
  have k0 : KA 0 = -1 := rfl
  have k1 : KA 1 = nI 0 := rfl
  have k2 : KA 2 = nI 0 := rfl
  have k3 : KA 3 = nI 0 := rfl
  have k4 : KA 4 = nI 1 := rfl
  have k5 : KA 5 = nI 2 := rfl
  have k6 : KA 6 = nI 3 := rfl
  rw [b130_0 hr, h1]
  show wp X d m130 7 [none, some (.int (nI k)), some (.int (nI kd)), some (.int (nI 0))] [] (K0, R0, I, L) Q ↔ _
  match kd, hk with
  | 0, _ =>
    rw [st 0 0 (by decide) (by decide), k0, en 1 (by decide)]
    match k, h6 with
    | 0, _ => exact Iff.rfl
    | 1, _ => exact Iff.rfl
    | 2, _ => exact Iff.rfl
    | 3, _ => exact Iff.rfl
    | 4, _ => exact Iff.rfl
    | 5, _ => exact Iff.rfl
    | 6, _ => exact Iff.rfl
    | k + 7, h6 => omega
  | 1, _ =>
    rw [st 1 0 (by decide) (by decide), k1, st 0 1 (by decide) (by decide), k0, en 2 (by decide)]
    match k, h6 with
    | 0, _ => exact Iff.rfl
    | 1, _ => exact Iff.rfl
    | 2, _ => exact Iff.rfl
    | 3, _ => exact Iff.rfl
    | 4, _ => exact Iff.rfl
    | 5, _ => exact Iff.rfl
    | 6, _ => exact Iff.rfl
    | k + 7, h6 => omega
  | 2, _ =>
    rw [st 2 0 (by decide) (by decide), k2, st 0 1 (by decide) (by decide), k0, en 2 (by decide)]
    match k, h6 with
    | 0, _ => exact Iff.rfl
    | 1, _ => exact Iff.rfl
    | 2, _ => exact Iff.rfl
    | 3, _ => exact Iff.rfl
    | 4, _ => exact Iff.rfl
    | 5, _ => exact Iff.rfl
    | 6, _ => exact Iff.rfl
    | k + 7, h6 => omega
  | 3, _ =>
    rw [st 3 0 (by decide) (by decide), k3, st 0 1 (by decide) (by decide), k0, en 2 (by decide)]
    match k, h6 with
    | 0, _ => exact Iff.rfl
    | 1, _ => exact Iff.rfl
    | 2, _ => exact Iff.rfl
    | 3, _ => exact Iff.rfl
    | 4, _ => exact Iff.rfl
    | 5, _ => exact Iff.rfl
    | 6, _ => exact Iff.rfl
    | k + 7, h6 => omega
  | 4, _ =>
    rw [st 4 0 (by decide) (by decide), k4, st 1 1 (by decide) (by decide), k1, st 0 2 (by decide) (by decide), k0, en 3 (by decide)]
    match k, h6 with
    | 0, _ => exact Iff.rfl
    | 1, _ => exact Iff.rfl
    | 2, _ => exact Iff.rfl
    | 3, _ => exact Iff.rfl
    | 4, _ => exact Iff.rfl
    | 5, _ => exact Iff.rfl
    | 6, _ => exact Iff.rfl
    | k + 7, h6 => omega
  | 5, _ =>
    rw [st 5 0 (by decide) (by decide), k5, st 2 1 (by decide) (by decide), k2, st 0 2 (by decide) (by decide), k0, en 3 (by decide)]
    match k, h6 with
    | 0, _ => exact Iff.rfl
    | 1, _ => exact Iff.rfl
    | 2, _ => exact Iff.rfl
    | 3, _ => exact Iff.rfl
    | 4, _ => exact Iff.rfl
    | 5, _ => exact Iff.rfl
    | 6, _ => exact Iff.rfl
    | k + 7, h6 => omega
  | 6, _ =>
    rw [st 6 0 (by decide) (by decide), k6, st 3 1 (by decide) (by decide), k3, st 0 2 (by decide) (by decide), k0, en 3 (by decide)]
    match k, h6 with
    | 0, _ => exact Iff.rfl
    | 1, _ => exact Iff.rfl
    | 2, _ => exact Iff.rfl
    | 3, _ => exact Iff.rfl
    | 4, _ => exact Iff.rfl
    | 5, _ => exact Iff.rfl
    | 6, _ => exact Iff.rfl
    | k + 7, h6 => omega
  | k + 7, hk => omega
theorem ok_taken {x1 x2 : Int32} : Ok X d m129 m230 [some (.ref 0), some (.int x1), some (.int x2), none] [some (.ref 124), some (.int x1), some (.int x2), none] := by
  intro I L hI
  obtain ⟨n, t, z0, k, wd, nb, mm, T, hN, hn, e1, e4, S⟩ := sit_view hI
  rcases num_cases x2 (n := 6) (by decide) with h | ⟨w, hw, rfl⟩
  · refine ⟨.int (-2), I, L, I, L, hI, fun Q => ?_, fun Q => ?_⟩
    · rw [b129_0]
      rcases h with h | h
      · rw [if_pos h]
      · rw [if_neg (nlt0 (n := 6) (by decide) h), if_neg (show ¬ x2 < (7 : Int32) from fun q => by
          have a := (lt_l (n := 6) (by decide)).mp h
          have b := (lt_r (n := 7) (by decide)).mp q
          omega)]
    · rw [b230_0, s142_no (show x2 < 0 ∨ 6 < x2 from h)]
      simp only [Option.toList, List.cons_append, List.nil_append]
      rw [b230_8, if_pos rfl]
  have n0 : ¬ nI w < 0 := nI_pos (by omega)
  have l7 : nI w < (7 : Int32) := nI_lt (b := 7) (by omega) (by decide)
  have ok6 : ∀ (J : Nat → Nat → Int32) (Q : Option Value → XW → Prop), wp X (d + 99) m142 0 [some (.ref 124), some (.int (nI w)), some (.int 0), some (.int 6)] [] (K0, R0, J, L) Q ↔ Q (some (.int 1)) (K0, R0, J, L) := fun J Q => s142_nI (n := 6) hw (by decide)
  rcases argC x1 hn with h | ⟨i, hi, rfl⟩
  · refine ⟨.int (-11), I, L, I, L, hI, fun Q => ?_, fun Q => ?_⟩
    · rw [b129_0, if_neg n0, if_pos l7, s17_no hn e1 h]
      simp only [Option.toList, List.cons_append, List.nil_append]
      rw [b129_21_1]
    · rw [b230_0, ok6]
      simp only [Option.toList, List.cons_append, List.nil_append]
      rw [b230_8, if_neg (by decide), s145_no hn e4 h]
      simp only [Option.toList, List.cons_append, List.nil_append]
      rw [b230_19, if_pos rfl]
  have hc := cupK (i := i) (by omega)
  have ix : inA (nI i) 5 = true := inA_nI (by omega) (by decide)
  have hcl : (nI i).toNatClampNeg = i := nI_clamp (by omega)
  obtain ⟨kd, v, lv, m, r, ln, hR, hM, hm, hr, hln⟩ := cup_view hN hi
  have hkd := hR.2.2.2.2.2.2.2.2.2.1
  refine ⟨.int (if bI (undN kd w) = 0 then -12 else nI kd), I, L, I, L, hI, fun Q => ?_, fun Q => ?_⟩
  · rw [b129_0, if_neg n0, if_pos l7, s17_ok hn e1 hi]
    simp only [Option.toList, List.cons_append, List.nil_append]
    rw [b129_21 hc, s130 hc hkd hw hR.2.2.1]
    simp only [Option.toList, List.cons_append, List.nil_append]
    rw [b129_34 hc, hR.2.2.1]
  · rw [b230_0, ok6]
    simp only [Option.toList, List.cons_append, List.nil_append]
    rw [b230_8, if_neg (by decide), s145_ok hn e4 hi]
    simp only [Option.toList, List.cons_append, List.nil_append]
    rw [b230_19, if_neg (by decide), and_iff_right ix, hcl, hM.1]
    simp only [b230_51]
    have key : ∀ a b, a ≤ 6 → b ≤ 6 → ∀ P : Int32 → Prop, (if nI b = 0 then P (nI a) else if nI a = nI b then P (nI a) else if nI b = 1 then (if nI a = 4 then P (nI a) else P (if nI b = 2 then (if nI a = 5 then nI a else (if nI b = 3 then (if nI a = 6 then nI a else (-12)) else (-12))) else (if nI b = 3 then (if nI a = 6 then nI a else (-12)) else (-12)))) else P (if nI b = 2 then (if nI a = 5 then nI a else (if nI b = 3 then (if nI a = 6 then nI a else (-12)) else (-12))) else (if nI b = 3 then (if nI a = 6 then nI a else (-12)) else (-12)))) ↔ P (if bI (undN a b) = 0 then -12 else nI a) := by
      intro a b ha hb P
      have ea : ∀ c, c ≤ 6 → ((nI a = nI c) ↔ a = c) := fun c hc => nI_eq (by omega) (by omega)
      have eb : ∀ c, c ≤ 6 → ((nI b = nI c) ↔ b = c) := fun c hc => nI_eq (by omega) (by omega)
      match b, hb with
      | 0, _ => match a, ha with
        | 0, _ => exact Iff.rfl
        | 1, _ => exact Iff.rfl
        | 2, _ => exact Iff.rfl
        | 3, _ => exact Iff.rfl
        | 4, _ => exact Iff.rfl
        | 5, _ => exact Iff.rfl
        | 6, _ => exact Iff.rfl
        | a + 7, ha => omega
      | 1, _ => match a, ha with
        | 0, _ => exact Iff.rfl
        | 1, _ => exact Iff.rfl
        | 2, _ => exact Iff.rfl
        | 3, _ => exact Iff.rfl
        | 4, _ => exact Iff.rfl
        | 5, _ => exact Iff.rfl
        | 6, _ => exact Iff.rfl
        | a + 7, ha => omega
      | 2, _ => match a, ha with
        | 0, _ => exact Iff.rfl
        | 1, _ => exact Iff.rfl
        | 2, _ => exact Iff.rfl
        | 3, _ => exact Iff.rfl
        | 4, _ => exact Iff.rfl
        | 5, _ => exact Iff.rfl
        | 6, _ => exact Iff.rfl
        | a + 7, ha => omega
      | 3, _ => match a, ha with
        | 0, _ => exact Iff.rfl
        | 1, _ => exact Iff.rfl
        | 2, _ => exact Iff.rfl
        | 3, _ => exact Iff.rfl
        | 4, _ => exact Iff.rfl
        | 5, _ => exact Iff.rfl
        | 6, _ => exact Iff.rfl
        | a + 7, ha => omega
      | 4, _ => match a, ha with
        | 0, _ => exact Iff.rfl
        | 1, _ => exact Iff.rfl
        | 2, _ => exact Iff.rfl
        | 3, _ => exact Iff.rfl
        | 4, _ => exact Iff.rfl
        | 5, _ => exact Iff.rfl
        | 6, _ => exact Iff.rfl
        | a + 7, ha => omega
      | 5, _ => match a, ha with
        | 0, _ => exact Iff.rfl
        | 1, _ => exact Iff.rfl
        | 2, _ => exact Iff.rfl
        | 3, _ => exact Iff.rfl
        | 4, _ => exact Iff.rfl
        | 5, _ => exact Iff.rfl
        | 6, _ => exact Iff.rfl
        | a + 7, ha => omega
      | 6, _ => match a, ha with
        | 0, _ => exact Iff.rfl
        | 1, _ => exact Iff.rfl
        | 2, _ => exact Iff.rfl
        | 3, _ => exact Iff.rfl
        | 4, _ => exact Iff.rfl
        | 5, _ => exact Iff.rfl
        | 6, _ => exact Iff.rfl
        | a + 7, ha => omega
      | b + 7, hb => omega
    exact key kd w hkd hw (fun x => Q (some (.int x)) (K0, R0, I, L))
end CALLS
