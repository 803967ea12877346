/-! Acts: says, tells: the class. -/
section ACTS
variable {X : Nat × (Nat → Int32)} {d : Nat} {I : Nat → Nat → Int32} {L : Nat → Nat → Int64} {Q : Option Value → XW → Prop}
theorem run11 {r n kd a dl : Nat} {num v x : Int32} (A : AC I r n kd num v) (ha : a ≤ 6) (hd : dl < 38) (hn : n + 3 ≤ 20) (hw : kwN a 1 = 0) : wp X (d + 5) m122 0 [some (.ref 79), some (.int (nI a)), some (.ref r), some (.int (nI 1)), some (.int x), some (.int (nI dl)), none, none, none] [] (K0, R0, I, L) Q ↔ Q (some (.int (csV kd num v x))) (K0, R0, rnC (csB kd) I, L) := by
  have A1 := A.one 11 (by omega)
  have A2 := A1.run (liB kd) (by have := liB_len kd; omega)
  rw [s122b A ha (by decide) (by omega) (by omega) hw (show bdN 0 1 = 11 by decide) (by decide)]
  show wp X (d + 5) m122 36 [some (.ref 79), none, some (.ref r), none, some (.int x), none, some (.int (nI (dl + 1))), some (.int (nI 0)), some (.int 11)] [] (K0, R0, begC 11 I, L) Q ↔ _
  rw [b122_36 A.1, if_neg (by decide), if_pos rfl, A1.2.2.2.2.2.1]
  refine (lies_c A1 (show dl + 1 < 39 by omega) (by omega)).trans ?_
  simp only [Option.toList, List.cons_append, List.nil_append]
  rw [b122_158 A.1, A2.2.2.2.2.2.2.1]
  exact Iff.rfl
theorem up11 {r n kd a u dl : Nat} {num v x : Int32} (A : AC I r n kd num v) (ha : a ≤ 6) (hu : KA a = nI u) (hu6 : u ≤ 6) (hd : dl < 38) (hn : n + 3 ≤ 20) (hw : kwN u 1 = 0) : wp X (d + 6) m126 0 [some (.ref 79), some (.int (nI a)), some (.ref r), some (.int (nI 1)), some (.int x), some (.int (nI dl)), none] [] (K0, R0, I, L) Q ↔ Q (some (.int (csV kd num v x))) (K0, R0, rnC (csB kd) I, L) := by
  rw [s126 A.1 ha hu, run11 A hu6 hd hn hw]
  simp only [Option.toList, List.cons_append, List.nil_append]
  rw [b126_35]
/-- from SHY on -/
theorem run20 {r n kd a dl : Nat} {num v x : Int32} (A : AC I r n kd num v) (ha : a ≤ 6) (hd : dl < 37) (hn : n + 4 ≤ 20) (hw : kwN a 1 = 1) : wp X (d + 7) m122 0 [some (.ref 79), some (.int (nI a)), some (.ref r), some (.int (nI 1)), some (.int x), some (.int (nI dl)), none, none, none] [] (K0, R0, I, L) Q ↔ Q (some (.int (csV kd num v x ^^^ 6))) (K0, R0, rnC (20 :: csB kd) I, L) := by
  have A1 := A.one 20 (by omega)
  rw [s122b A ha (by decide) (by omega) (by omega) hw (show bdN 1 1 = 20 by decide) (by decide)]
  show wp X (d + 7) m122 36 [some (.ref 79), none, some (.ref r), none, some (.int x), none, some (.int (nI (dl + 1))), some (.int (nI 1)), some (.int 20)] [] (K0, R0, begC 20 I, L) Q ↔ _
  rw [b122_36 A.1, if_neg (by decide), if_neg (by decide), if_neg (by decide), if_pos rfl]
  refine (up11 (a := 1) (u := 0) A1 (by decide) rfl (by decide) (by omega) (by omega) (by decide)).trans ?_
  simp only [Option.toList, List.cons_append, List.nil_append]
  rw [b122_193]
  exact Iff.rfl
theorem up20 {r n kd a u dl : Nat} {num v x : Int32} (A : AC I r n kd num v) (ha : a ≤ 6) (hu : KA a = nI u) (hu6 : u ≤ 6) (hd : dl < 37) (hn : n + 4 ≤ 20) (hw : kwN u 1 = 1) : wp X (d + 8) m126 0 [some (.ref 79), some (.int (nI a)), some (.ref r), some (.int (nI 1)), some (.int x), some (.int (nI dl)), none] [] (K0, R0, I, L) Q ↔ Q (some (.int (csV kd num v x ^^^ 6))) (K0, R0, rnC (20 :: csB kd) I, L) := by
  rw [s126 A.1 ha hu, run20 A hu6 hd hn hw]
  simp only [Option.toList, List.cons_append, List.nil_append]
  rw [b126_35]
/-- says -/
theorem says_c {r n kd dl : Nat} {num v x : Int32} (A : AC I r n kd num v) (hd : dl < 36) (hn : n + 5 ≤ 20) : wp X (d + 9) m122 0 [some (.ref 79), some (.int (nI kd)), some (.ref r), some (.int (nI 1)), some (.int x), some (.int (nI dl)), none, none, none] [] (K0, R0, I, L) Q ↔ Q (some (.int (saV kd num v x))) (K0, R0, rnC (saB kd) I, L) := by
  have hk := A.2.2.2.1
  have hr := A.1
  match kd, hk with
  | 0, _ => exact run11 A (by decide) (by omega) (by omega) (by decide)
  | 2, _ => exact run11 A (by decide) (by omega) (by omega) (by decide)
  | 3, _ => exact run11 A (by decide) (by omega) (by omega) (by decide)
  | 5, _ => exact run11 A (by decide) (by omega) (by omega) (by decide)
  | 1, _ => exact run20 A (by decide) (by omega) (by omega) (by decide)
  | 4, _ =>
    have A1 := A.one 51 (by omega)
    rw [s122b (w := 4) (b := 51) A (by decide) (by decide) (by omega) (by omega) (by decide) (by decide) (by decide)]
    show wp X (d + 9) m122 36 [some (.ref 79), none, some (.ref r), none, some (.int x), none, some (.int (nI (dl + 1))), some (.int (nI 4)), some (.int 51)] [] (K0, R0, begC 51 I, L) Q ↔ _
    rw [b122_36 hr, if_neg (by decide), if_neg (by decide), if_neg (by decide), if_neg (by decide), if_neg (by decide), if_neg (by decide), if_neg (by decide), if_pos rfl]
    refine (up20 (a := 4) (u := 1) A1 (by decide) rfl (by decide) (by omega) (by omega) (by decide)).trans ?_
    simp only [Option.toList, List.cons_append, List.nil_append]
    rw [b122_267]
    exact Iff.rfl
  | 6, _ =>
    have A1 := A.one 70 (by omega)
    have A2 := A1.run (csB 6) (by have := csB_len 6; omega)
    have l := csB_len 6
    rw [s122b (w := 6) (b := 70) A (by decide) (by decide) (by omega) (by omega) (by decide) (by decide) (by decide)]
    show wp X (d + 9) m122 36 [some (.ref 79), none, some (.ref r), none, some (.int x), none, some (.int (nI (dl + 1))), some (.int (nI 6)), some (.int 70)] [] (K0, R0, begC 70 I, L) Q ↔ _
    rw [b122_36 hr, if_neg (by decide), if_neg (by decide), if_neg (by decide), if_neg (by decide), if_neg (by decide), if_neg (by decide), if_neg (by decide), if_neg (by decide), if_neg (by decide), if_pos rfl]
    refine (up11 (a := 6) (u := 3) A1 (by decide) rfl (by decide) (by omega) (by omega) (by decide)).trans ?_
    simp only [Option.toList, List.cons_append, List.nil_append]
    rw [b122_298 hr]
    refine (up10 (a := 6) (u := 3) A2 (by decide) rfl (by decide) (by omega) (by omega) (by decide)).trans ?_
    simp only [Option.toList, List.cons_append, List.nil_append]
    rw [b122_309]
    exact Iff.rfl
  | k + 7, hk => omega
theorem run12 {r n kd a dl : Nat} {num v x : Int32} (A : AC I r n kd num v) (ha : a ≤ 6) (hd : dl < 35) (hn : n + 6 ≤ 20) (hw : kwN a 2 = 0) : wp X (d + 10) m122 0 [some (.ref 79), some (.int (nI a)), some (.ref r), some (.int (nI 2)), some (.int x), some (.int (nI dl)), none, none, none] [] (K0, R0, I, L) Q ↔ Q (some (.int (ctV kd num v x))) (K0, R0, rnC (ctB kd) I, L) := by
  have A1 := A.one 12 (by omega)
  rw [s122b A ha (by decide) (by omega) (by omega) hw (show bdN 0 2 = 12 by decide) (by decide)]
  show wp X (d + 10) m122 36 [some (.ref 79), none, some (.ref r), none, some (.int x), none, some (.int (nI (dl + 1))), some (.int (nI 0)), some (.int 12)] [] (K0, R0, begC 12 I, L) Q ↔ _
  rw [b122_36 A.1, if_neg (by decide), if_neg (by decide), if_pos rfl, A1.2.2.2.2.2.1]
  refine (says_c A1 (show dl + 1 < 36 by omega) (by omega)).trans ?_
  simp only [Option.toList, List.cons_append, List.nil_append]
  rw [b122_178]
  exact Iff.rfl
theorem up12 {r n kd a u dl : Nat} {num v x : Int32} (A : AC I r n kd num v) (ha : a ≤ 6) (hu : KA a = nI u) (hu6 : u ≤ 6) (hd : dl < 35) (hn : n + 6 ≤ 20) (hw : kwN u 2 = 0) : wp X (d + 11) m126 0 [some (.ref 79), some (.int (nI a)), some (.ref r), some (.int (nI 2)), some (.int x), some (.int (nI dl)), none] [] (K0, R0, I, L) Q ↔ Q (some (.int (ctV kd num v x))) (K0, R0, rnC (ctB kd) I, L) := by
  rw [s126 A.1 ha hu, run12 A hu6 hd hn hw]
  simp only [Option.toList, List.cons_append, List.nil_append]
  rw [b126_35]
/-- body 40 -/
theorem run40 {r n kd a dl : Nat} {num v x : Int32} (A : AC I r n kd num v) (ha : a ≤ 6) (hd : dl < 34) (hn : n + 12 ≤ 20) (hw : kwN a 2 = 3) : wp X (d + 12) m122 0 [some (.ref 79), some (.int (nI a)), some (.ref r), some (.int (nI 2)), some (.int x), some (.int (nI dl)), none, none, none] [] (K0, R0, I, L) Q ↔ Q (some (.int (ctV kd num v x + saV kd num v 1))) (K0, R0, rnC (40 :: (ctB kd ++ saB kd)) I, L) := by
  have A1 := A.one 40 (by omega)
  have l := ctB_len kd
  have A2 := A1.run (ctB kd) (by omega)
  rw [s122b A ha (by decide) (by omega) (by omega) hw (show bdN 3 2 = 40 by decide) (by decide)]
  show wp X (d + 12) m122 36 [some (.ref 79), none, some (.ref r), none, some (.int x), none, some (.int (nI (dl + 1))), some (.int (nI 3)), some (.int 40)] [] (K0, R0, begC 40 I, L) Q ↔ _
  rw [b122_36 A.1, if_neg (by decide), if_neg (by decide), if_neg (by decide), if_neg (by decide), if_neg (by decide), if_pos rfl]
  refine (up12 (a := 3) (u := 0) A1 (by decide) rfl (by decide) (by omega) (by omega) (by decide)).trans ?_
  simp only [Option.toList, List.cons_append, List.nil_append]
  rw [b122_224 A.1, A2.2.2.2.2.2.1]
  refine (says_c A2 (show dl + 1 < 36 by omega) (by omega)).trans ?_
  simp only [Option.toList, List.cons_append, List.nil_append]
  rw [b122_237, rnC_app]
  exact Iff.rfl
/-- tells -/
theorem tells_c {r n kd dl : Nat} {num v x : Int32} (A : AC I r n kd num v) (hd : dl < 34) (hn : n + 12 ≤ 20) : wp X (d + 12) m122 0 [some (.ref 79), some (.int (nI kd)), some (.ref r), some (.int (nI 2)), some (.int x), some (.int (nI dl)), none, none, none] [] (K0, R0, I, L) Q ↔ Q (some (.int (teV kd num v x))) (K0, R0, rnC (teB kd) I, L) := by
  have hk := A.2.2.2.1
  have hr := A.1
  match kd, hk with
  | 0, _ => exact run12 A (by decide) (by omega) (by omega) (by decide)
  | 1, _ => exact run12 A (by decide) (by omega) (by omega) (by decide)
  | 2, _ => exact run12 A (by decide) (by omega) (by omega) (by decide)
  | 4, _ => exact run12 A (by decide) (by omega) (by omega) (by decide)
  | 3, _ => exact run40 A (by decide) (by omega) (by omega) (by decide)
  | 6, _ => exact run40 A (by decide) (by omega) (by omega) (by decide)
  | 5, _ =>
    have A1 := A.one 60 (by omega)
    rw [s122b (w := 5) (b := 60) A (by decide) (by decide) (by omega) (by omega) (by decide) (by decide) (by decide)]
    show wp X (d + 12) m122 36 [some (.ref 79), none, some (.ref r), none, some (.int x), none, some (.int (nI (dl + 1))), some (.int (nI 5)), some (.int 60)] [] (K0, R0, begC 60 I, L) Q ↔ _
    rw [b122_36 hr, if_neg (by decide), if_neg (by decide), if_neg (by decide), if_neg (by decide), if_neg (by decide), if_neg (by decide), if_neg (by decide), if_neg (by decide), if_pos rfl, A1.2.2.2.2.1]
    refine (up12 (a := 5) (u := 2) A1 (by decide) rfl (by decide) (by omega) (by omega) (by decide)).trans ?_
    simp only [Option.toList, List.cons_append, List.nil_append]
    rw [b122_285]
    exact Iff.rfl
  | k + 7, hk => omega
end ACTS
/-! The reference's. -/
def MC (I : Nat → Nat → Int32) (i n kd : Nat) (v : Int32) : Prop := i < 5 ∧ kd ≤ 6 ∧ I 125 i = nI kd ∧ I 126 i = v ∧ I 124 59 = nI n
theorem MC.run {I : Nat → Nat → Int32} {i n kd : Nat} {v : Int32} (h : MC I i n kd v) (bs : List Int32) (hl : n + bs.length ≤ 20) : MC (rnM bs I) i (n + bs.length) kd v := by
  obtain ⟨h1, h2, h3, h4, h5⟩ := h
  obtain ⟨g1, g0, g2, -⟩ := rnM_facts bs I n h5 hl
  exact ⟨h1, h2, by rw [g1 125 (by decide) (by decide)]; exact h3, by rw [g1 126 (by decide) (by decide)]; exact h4, g2⟩
theorem MC.one {I : Nat → Nat → Int32} {i n kd : Nat} {v : Int32} (h : MC I i n kd v) (b : Int32) (hl : n + 1 ≤ 20) : MC (begM b I) i (n + 1) kd v := h.run [b] hl
section ACTS
variable {X : Nat × (Nat → Int32)} {d : Nat} {I : Nat → Nat → Int32} {L : Nat → Nat → Int64} {Q : Option Value → XW → Prop}
theorem s222 {n : Nat} {b : Int32} (h : I 124 59 = nI n) (hn : n < 20) : wp X d m222 0 [some (.ref 124), some (.int b)] [] (K0, R0, I, L) Q ↔ Q none (K0, R0, begM b I, L) := by
  rw [b222_0, h, if_pos (show nI n < (20 : Int32) from nI_lt (b := 20) hn (by decide)), and_iff_right (inA_nI hn (by decide)), nI_1]
  unfold begM
  rw [h, nI_1]
theorem s223 {i n kd : Nat} {v x : Int32} (M : MC I i n kd v) (hn : n < 20) : wp X (d + 1) m223 0 [some (.ref 124), some (.int (nI i)), some (.int x)] [] (K0, R0, I, L) Q ↔ Q (some (.int (x + nI i))) (K0, R0, begM 10 I, L) := by
  rw [b223_0, s222 M.2.2.2.2 hn]
  simp only [Option.toList, List.cons_append, List.nil_append]
  rw [b223_6]
theorem lies_m {i n kd : Nat} {v x : Int32} (M : MC I i n kd v) (hn : n + 2 ≤ 20) : wp X (d + 2) m221 0 [some (.ref 124), some (.int (nI i)), some (.int x)] [] (K0, R0, I, L) Q ↔ Q (some (.int (liV kd (nI i) v x))) (K0, R0, rnM (liB kd) I, L) := by
  have ix : inA (nI i) 5 = true := inA_nI M.1 (by decide)
  have hcl : (nI i).toNatClampNeg = i := nI_clamp (by have := M.1; omega)
  have hk := M.2.1
  rw [b221_0, and_iff_right ix, hcl, M.2.2.1]
  match kd, hk with
  | 0, _ =>
    rw [if_neg (by decide), if_neg (by decide), if_neg (by decide), if_neg (by decide), if_neg (by decide), s223 M (by omega)]
    simp only [Option.toList, List.cons_append, List.nil_append]
    rw [b221_95]
    exact Iff.rfl
  | 1, _ =>
    rw [if_neg (by decide), if_neg (by decide), if_neg (by decide), if_neg (by decide), if_neg (by decide), s223 M (by omega)]
    simp only [Option.toList, List.cons_append, List.nil_append]
    rw [b221_95]
    exact Iff.rfl
  | 2, _ =>
    rw [if_pos (by decide), s222 M.2.2.2.2 (by omega)]
    simp only [Option.toList, List.cons_append, List.nil_append]
    rw [b221_46, s223 (M.one 30 (by omega)) (by omega)]
    simp only [Option.toList, List.cons_append, List.nil_append]
    rw [b221_54]
    exact Iff.rfl
  | 3, _ =>
    rw [if_neg (by decide), if_pos (by decide), s223 M (by omega)]
    simp only [Option.toList, List.cons_append, List.nil_append]
    rw [b221_95]
    exact Iff.rfl
  | 4, _ =>
    rw [if_neg (by decide), if_neg (by decide), if_pos (by decide), s222 M.2.2.2.2 (by omega)]
    simp only [Option.toList, List.cons_append, List.nil_append]
    rw [b221_61, s223 (M.one 50 (by omega)) (by omega)]
    simp only [Option.toList, List.cons_append, List.nil_append]
    rw [b221_67]
    exact Iff.rfl
  | 5, _ =>
    rw [if_neg (by decide), if_neg (by decide), if_neg (by decide), if_pos (by decide), s222 M.2.2.2.2 (by omega)]
    simp only [Option.toList, List.cons_append, List.nil_append]
    rw [b221_46, s223 (M.one 30 (by omega)) (by omega)]
    simp only [Option.toList, List.cons_append, List.nil_append]
    rw [b221_54]
    exact Iff.rfl
  | 6, _ =>
    have M2 := (M.one 71 (by omega)).one 10 (by omega)
    rw [if_neg (by decide), if_neg (by decide), if_neg (by decide), if_neg (by decide), if_pos (by decide), s222 M.2.2.2.2 (by omega)]
    simp only [Option.toList, List.cons_append, List.nil_append]
    rw [b221_75, s223 (M.one 71 (by omega)) (by omega)]
    simp only [Option.toList, List.cons_append, List.nil_append]
    rw [b221_81, and_iff_right ix, hcl, M2.2.2.2.1]
    exact Iff.rfl
  | k + 7, hk => omega
theorem s226 {i n kd : Nat} {v x : Int32} (M : MC I i n kd v) (hn : n + 3 ≤ 20) : wp X (d + 3) m226 0 [some (.ref 124), some (.int (nI i)), some (.int x)] [] (K0, R0, I, L) Q ↔ Q (some (.int (csV kd (nI i) v x))) (K0, R0, rnM (csB kd) I, L) := by
  have ix : inA (nI i) 5 = true := inA_nI M.1 (by decide)
  have hcl : (nI i).toNatClampNeg = i := nI_clamp (by have := M.1; omega)
  have M1 := M.one 11 (by omega)
  have M2 := M1.run (liB kd) (by have := liB_len kd; omega)
  rw [b226_0, s222 M.2.2.2.2 (by omega)]
  simp only [Option.toList, List.cons_append, List.nil_append]
  rw [b226_6, lies_m M1 (by omega)]
  simp only [Option.toList, List.cons_append, List.nil_append]
  rw [b226_12, and_iff_right ix, hcl, M2.2.2.2.1]
  exact Iff.rfl
theorem s225 {i n kd : Nat} {v x : Int32} (M : MC I i n kd v) (hn : n + 4 ≤ 20) : wp X (d + 4) m225 0 [some (.ref 124), some (.int (nI i)), some (.int x)] [] (K0, R0, I, L) Q ↔ Q (some (.int (csV kd (nI i) v x ^^^ 6))) (K0, R0, rnM (20 :: csB kd) I, L) := by
  have M1 := M.one 20 (by omega)
  rw [b225_0, s222 M.2.2.2.2 (by omega)]
  simp only [Option.toList, List.cons_append, List.nil_append]
  rw [b225_6, s226 M1 (by omega)]
  simp only [Option.toList, List.cons_append, List.nil_append]
  rw [b225_12]
  exact Iff.rfl
theorem says_m {i n kd : Nat} {v x : Int32} (M : MC I i n kd v) (hn : n + 5 ≤ 20) : wp X (d + 5) m224 0 [some (.ref 124), some (.int (nI i)), some (.int x), none] [] (K0, R0, I, L) Q ↔ Q (some (.int (saV kd (nI i) v x))) (K0, R0, rnM (saB kd) I, L) := by
  have ix : inA (nI i) 5 = true := inA_nI M.1 (by decide)
  have hcl : (nI i).toNatClampNeg = i := nI_clamp (by have := M.1; omega)
  have hk := M.2.1
  rw [b224_0, and_iff_right ix, hcl, M.2.2.1]
  match kd, hk with
  | 0, _ =>
    rw [if_neg (by decide), if_neg (by decide), if_neg (by decide), s226 M (by omega)]
    simp only [Option.toList, List.cons_append, List.nil_append]
    rw [b224_90]
    exact Iff.rfl
  | 1, _ =>
    rw [if_pos (by decide), s225 M (by omega)]
    simp only [Option.toList, List.cons_append, List.nil_append]
    rw [b224_46]
    exact Iff.rfl
  | 2, _ =>
    rw [if_neg (by decide), if_neg (by decide), if_neg (by decide), s226 M (by omega)]
    simp only [Option.toList, List.cons_append, List.nil_append]
    rw [b224_90]
    exact Iff.rfl
  | 3, _ =>
    rw [if_neg (by decide), if_neg (by decide), if_neg (by decide), s226 M (by omega)]
    simp only [Option.toList, List.cons_append, List.nil_append]
    rw [b224_90]
    exact Iff.rfl
  | 4, _ =>
    rw [if_neg (by decide), if_pos (by decide), s222 M.2.2.2.2 (by omega)]
    simp only [Option.toList, List.cons_append, List.nil_append]
    rw [b224_53, s225 (M.one 51 (by omega)) (by omega)]
    simp only [Option.toList, List.cons_append, List.nil_append]
    rw [b224_61]
    exact Iff.rfl
  | 5, _ =>
    rw [if_neg (by decide), if_neg (by decide), if_neg (by decide), s226 M (by omega)]
    simp only [Option.toList, List.cons_append, List.nil_append]
    rw [b224_90]
    exact Iff.rfl
  | 6, _ =>
    have M1 := M.one 70 (by omega)
    have l := csB_len 6
    have M2 := M1.run (csB 6) (by omega)
    rw [if_neg (by decide), if_neg (by decide), if_pos (by decide), s222 M.2.2.2.2 (by omega)]
    simp only [Option.toList, List.cons_append, List.nil_append]
    rw [b224_68, s226 M1 (by omega)]
    simp only [Option.toList, List.cons_append, List.nil_append]
    rw [b224_74, s223 M2 (by omega)]
    simp only [Option.toList, List.cons_append, List.nil_append]
    rw [b224_82]
    exact Iff.rfl
  | k + 7, hk => omega
theorem s228 {i n kd : Nat} {v x : Int32} (M : MC I i n kd v) (hn : n + 6 ≤ 20) : wp X (d + 6) m228 0 [some (.ref 124), some (.int (nI i)), some (.int x)] [] (K0, R0, I, L) Q ↔ Q (some (.int (ctV kd (nI i) v x))) (K0, R0, rnM (ctB kd) I, L) := by
  have M1 := M.one 12 (by omega)
  rw [b228_0, s222 M.2.2.2.2 (by omega)]
  simp only [Option.toList, List.cons_append, List.nil_append]
  rw [b228_6, says_m M1 (by omega)]
  simp only [Option.toList, List.cons_append, List.nil_append]
  rw [b228_12]
  exact Iff.rfl
theorem tel40 {i n kd : Nat} {v x : Int32} (M : MC I i n kd v) (hn : n + 12 ≤ 20) : wp X (d + 6) m222 0 [some (.ref 124), some (.int 40)] [] (K0, R0, I, L) (fun r w1 => wp X (d + 7) m227 42 [some (.ref 124), some (.int (nI i)), some (.int x), none] (r.toList ++ []) w1 Q) ↔ Q (some (.int (ctV kd (nI i) v x + saV kd (nI i) v 1))) (K0, R0, rnM (40 :: (ctB kd ++ saB kd)) I, L) := by
  have M1 := M.one 40 (by omega)
  have l := ctB_len kd
  have M2 := M1.run (ctB kd) (by omega)
  rw [s222 M.2.2.2.2 (by omega)]
  simp only [Option.toList, List.cons_append, List.nil_append]
  rw [b227_42, s228 M1 (by omega)]
  simp only [Option.toList, List.cons_append, List.nil_append]
  rw [b227_48, says_m M2 (by omega)]
  simp only [Option.toList, List.cons_append, List.nil_append]
  rw [b227_56, rnM_app]
  exact Iff.rfl
theorem tells_m {i n kd : Nat} {v x : Int32} (M : MC I i n kd v) (hn : n + 12 ≤ 20) : wp X (d + 7) m227 0 [some (.ref 124), some (.int (nI i)), some (.int x), none] [] (K0, R0, I, L) Q ↔ Q (some (.int (teV kd (nI i) v x))) (K0, R0, rnM (teB kd) I, L) := by
  have ix : inA (nI i) 5 = true := inA_nI M.1 (by decide)
  have hcl : (nI i).toNatClampNeg = i := nI_clamp (by have := M.1; omega)
  have hk := M.2.1
  rw [b227_0, and_iff_right ix, hcl, M.2.2.1]
  match kd, hk with
  | 0, _ =>
    rw [if_neg (by decide), if_neg (by decide), if_neg (by decide), if_neg (by decide), s228 M (by omega)]
    simp only [Option.toList, List.cons_append, List.nil_append]
    rw [b227_79]
    exact Iff.rfl
  | 1, _ =>
    rw [if_neg (by decide), if_neg (by decide), if_neg (by decide), if_neg (by decide), s228 M (by omega)]
    simp only [Option.toList, List.cons_append, List.nil_append]
    rw [b227_79]
    exact Iff.rfl
  | 2, _ =>
    rw [if_neg (by decide), if_neg (by decide), if_neg (by decide), if_neg (by decide), s228 M (by omega)]
    simp only [Option.toList, List.cons_append, List.nil_append]
    rw [b227_79]
    exact Iff.rfl
  | 3, _ =>
    rw [if_pos (by decide)]
    exact tel40 M hn
  | 4, _ =>
    rw [if_neg (by decide), if_pos (by decide), s228 M (by omega)]
    simp only [Option.toList, List.cons_append, List.nil_append]
    rw [b227_79]
    exact Iff.rfl
  | 5, _ =>
    rw [if_neg (by decide), if_neg (by decide), if_pos (by decide), s222 M.2.2.2.2 (by omega)]
    simp only [Option.toList, List.cons_append, List.nil_append]
    rw [b227_64, s228 (M.one 60 (by omega)) (by omega)]
    simp only [Option.toList, List.cons_append, List.nil_append]
    rw [b227_72]
    exact Iff.rfl
  | 6, _ =>
    rw [if_neg (by decide), if_neg (by decide), if_neg (by decide), if_pos (by decide)]
    exact tel40 M hn
  | k + 7, hk => omega
end ACTS
section CALLS
variable {X : Nat × (Nat → Int32)} {d : Nat}
theorem act_inv {I : Nat → Nat → Int32} {L : Nat → Nat → Int64} {bs : List Int32} (hI : Inv I L) (hl : bs.length ≤ 20) : Inv (rnM bs (updR (rnC bs (updR I 79 1 0)) 124 59 0)) L := by
  obtain ⟨c1, c2, c3⟩ := rnC_facts bs (updR I 79 1 0) 0 updR_same (by omega)
  obtain ⟨m1, m0, m2, m3⟩ := rnM_facts bs (updR (rnC bs (updR I 79 1 0)) 124 59 0) 0 updR_same (by omega)
  refine hI.acts (fun k k1 k2 k3 k4 => by rw [m1 k k4 k3, updR_row k k4, c1 k k1 k2, updR_row k k1]) (fun j hj => by rw [m0 j hj, updR_j hj, c1 124 (by decide) (by decide), updR_k (by decide)]) ⟨bs.length, hl, ?_, ?_, fun k hk => ?_⟩
  · rw [m1 79 (by decide) (by decide), updR_k (by decide), c2, Nat.zero_add]
  · rw [m2, Nat.zero_add]
  · rw [m1 80 (by decide) (by decide), updR_k (by decide), c3 k (by omega), m3 k (by omega), if_neg (Nat.not_lt_zero _), if_neg (Nat.not_lt_zero _)]
theorem ok_act {x1 x2 x3 : Int32} : Ok X d m121 m220 [some (.ref 0), some (.int x1), some (.int x2), some (.int x3), none] [some (.ref 124), some (.int x1), some (.int x2), some (.int x3)] := by
  intro I L hI
  obtain ⟨n, t, z, k, wd, nb, mm, T, hN, hn, e1, e4, S⟩ := sit_view hI
  have e1' : updR I 79 1 0 1 1 = nI n := by rw [updR_k (by decide)]; exact e1
  have e4' : updR (updR I 79 1 0) 124 59 0 124 0 = nI n := by rw [updR_j (by decide), updR_k (by decide)]; exact e4
  have inv0 : Inv (updR (updR I 79 1 0) 124 59 0) L := act_inv (bs := []) hI (by decide)
  rcases argC x1 hn with h | ⟨i, hi, rfl⟩
  · refine ⟨.int 0, updR I 79 1 0, L, updR (updR I 79 1 0) 124 59 0, L, inv0, fun Q => ?_, fun Q => ?_⟩
    · rw [b121_0, s17_no hn e1' h]
      simp only [Option.toList, List.cons_append, List.nil_append]
      rw [b121_16_1]
    · rw [b220_0, s145_no hn e4' h]
      simp only [Option.toList, List.cons_append, List.nil_append]
      rw [b220_10, if_pos rfl]
  have hc := cupK (i := i) (by omega)
  rcases num_cases x2 (n := 2) (by decide) with h | ⟨u, hu, rfl⟩
  · refine ⟨.int 0, updR I 79 1 0, L, updR (updR I 79 1 0) 124 59 0, L, inv0, fun Q => ?_, fun Q => ?_⟩
    · rw [b121_0, s17_ok hn e1' hi]
      simp only [Option.toList, List.cons_append, List.nil_append]
      rw [b121_16 hc]
      rcases h with h | h
      · rw [if_pos h]
      · rw [if_neg (nlt0 (n := 2) (by decide) h), if_neg (show ¬ x2 < (3 : Int32) from fun q => by
          have a := (lt_l (n := 2) (by decide)).mp h
          have b := (lt_r (n := 3) (by decide)).mp q
          omega)]
    · rw [b220_0, s145_ok hn e4' hi]
      simp only [Option.toList, List.cons_append, List.nil_append]
      rw [b220_10, if_neg (by decide), s142_no (show x2 < 0 ∨ 2 < x2 from h)]
      simp only [Option.toList, List.cons_append, List.nil_append]
      rw [b220_20, if_pos rfl]
  obtain ⟨kd, v, lv, m, r, ln, hR, hM, hm, hr, hln⟩ := cup_view hN hi
  have hkd := hR.2.2.2.2.2.2.2.2.2.1
  have A : AC (updR I 79 1 0) (12 + 2 * i) 0 kd (nI i) (nI v) := ⟨hc, by omega, by omega, hkd, by rw [updR_k (by omega)]; exact hR.2.1, by rw [updR_k (by omega)]; exact hR.2.2.1, by rw [updR_k (by omega)]; exact hR.2.2.2.1, updR_same⟩
  have mc : ∀ bs : List Int32, bs.length ≤ 20 → MC (updR (rnC bs (updR I 79 1 0)) 124 59 0) i 0 kd (nI v) ∧ updR (rnC bs (updR I 79 1 0)) 124 59 0 124 0 = nI n := by
    intro bs hl
    obtain ⟨c1, c2, c3⟩ := rnC_facts bs (updR I 79 1 0) 0 updR_same (by omega)
    refine ⟨⟨by omega, hkd, ?_, ?_, updR_same⟩, ?_⟩
    · rw [updR_k (by decide), c1 125 (by decide) (by decide), updR_k (by decide)]; exact hM.1
    · rw [updR_k (by decide), c1 126 (by decide) (by decide), updR_k (by decide)]; exact hM.2.1
    · rw [updR_j (by decide), c1 124 (by decide) (by decide), updR_k (by decide)]; exact e4
  have cls : ∀ Q : Option Value → XW → Prop, wp X (d + 100) m121 0 [some (.ref 0), some (.int (nI i)), some (.int (nI u)), some (.int x3), none] [] (K0, R0, I, L) Q ↔ wp X (d + 99) m122 0 [some (.ref 79), some (.int (nI kd)), some (.ref (12 + 2 * i)), some (.int (nI u)), some (.int x3), some (.int (nI 0)), none, none, none] [] (K0, R0, updR I 79 1 0, L) (fun r w1 => wp X (d + 100) m121 51 [none, none, none, none, none] (r.toList ++ []) w1 Q) := by
    intro Q
    rw [b121_0, s17_ok hn e1' hi]
    simp only [Option.toList, List.cons_append, List.nil_append]
    rw [b121_16 hc, if_neg (nI_pos (by omega)), if_pos (show nI u < (3 : Int32) from nI_lt (b := 3) (by omega) (by decide)), A.2.2.2.2.2.1]
    exact Iff.rfl
  have mdl : ∀ (J : Nat → Nat → Int32), updR J 124 59 0 124 0 = nI n → ∀ Q : Option Value → XW → Prop, wp X (d + 100) m220 0 [some (.ref 124), some (.int (nI i)), some (.int (nI u)), some (.int x3)] [] (K0, R0, J, L) Q ↔ (if nI u = 0 then wp X (d + 99) m221 0 [some (.ref 124), some (.int (nI i)), some (.int x3)] [] (K0, R0, updR J 124 59 0, L) (fun r w1 => wp X (d + 100) m220 35 [none, none, none, none] (r.toList ++ []) w1 Q) else (if nI u = 1 then wp X (d + 99) m224 0 [some (.ref 124), some (.int (nI i)), some (.int x3), none] [] (K0, R0, updR J 124 59 0, L) (fun r w1 => wp X (d + 100) m220 49 [none, none, none, none] (r.toList ++ []) w1 Q) else wp X (d + 99) m227 0 [some (.ref 124), some (.int (nI i)), some (.int x3), none] [] (K0, R0, updR J 124 59 0, L) (fun r w1 => wp X (d + 100) m220 58 [none, none, none, none] (r.toList ++ []) w1 Q))) := by
    intro J hJ Q
    rw [b220_0, s145_ok hn hJ hi]
    simp only [Option.toList, List.cons_append, List.nil_append]
    rw [b220_10, if_neg (by decide)]
    refine (s142_nI (n := 2) hu (by decide)).trans ?_
    simp only [Option.toList, List.cons_append, List.nil_append]
    rw [b220_20, if_neg (by decide)]
    try exact Iff.rfl
  match u, hu with
  | 0, _ =>
    have l := liB_len kd
    obtain ⟨M, g⟩ := mc (liB kd) (by omega)
    refine ⟨.int (liV kd (nI i) (nI v) x3), rnC (liB kd) (updR I 79 1 0), L, _, L, act_inv (bs := liB kd) hI (by omega), fun Q => ?_, fun Q => ?_⟩
    · rw [cls]
      refine (lies_c A (by decide) (by decide)).trans ?_
      simp only [Option.toList, List.cons_append, List.nil_append]
      rw [b121_51]
    · rw [mdl _ g, if_pos (by decide), lies_m M (by omega)]
      simp only [Option.toList, List.cons_append, List.nil_append]
      rw [b220_35, b220_58]
  | 1, _ =>
    have l := saB_len kd
    obtain ⟨M, g⟩ := mc (saB kd) (by omega)
    refine ⟨.int (saV kd (nI i) (nI v) x3), rnC (saB kd) (updR I 79 1 0), L, _, L, act_inv (bs := saB kd) hI (by omega), fun Q => ?_, fun Q => ?_⟩
    · rw [cls]
      refine (says_c A (by decide) (by decide)).trans ?_
      simp only [Option.toList, List.cons_append, List.nil_append]
      rw [b121_51]
    · rw [mdl _ g, if_neg (by decide), if_pos (by decide), says_m M (by omega)]
      simp only [Option.toList, List.cons_append, List.nil_append]
      rw [b220_49, b220_58]
  | 2, _ =>
    have l := teB_len kd
    obtain ⟨M, g⟩ := mc (teB kd) (by omega)
    refine ⟨.int (teV kd (nI i) (nI v) x3), rnC (teB kd) (updR I 79 1 0), L, _, L, act_inv (bs := teB kd) hI (by omega), fun Q => ?_, fun Q => ?_⟩
    · rw [cls]
      refine (tells_c A (by decide) (by decide)).trans ?_
      simp only [Option.toList, List.cons_append, List.nil_append]
      rw [b121_51]
    · rw [mdl _ g, if_neg (by decide), if_neg (by decide), tells_m M (by omega)]
      simp only [Option.toList, List.cons_append, List.nil_append]
      rw [b220_58]
  | u + 3, hu => omega
end CALLS
