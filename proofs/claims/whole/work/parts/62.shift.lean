/-! shift, judge; count, trace, taken. -/
section CALLS
variable {X : Nat × (Nat → Int32)} {d : Nat}
theorem shift_inv {I : Nat → Nat → Int32} {L : Nat → Nat → Int64} {p i o j n : Nat} (hI : Inv I L) (hp : p < 6) (ho : o < 6) (hi : i + n ≤ 60) (hj : j + n ≤ 60) : Inv I (itr (cp2 o j) n (itr (cp1 p i) n (cpyR L (112 + 2 * p + 1) i (112 + 2 * o + 1) j n))) := by
  refine hI.tapes (fun k _ _ _ => rfl) (fun hT q hq => ?_)
  obtain ⟨t1, t2, t3, t4, t5⟩ := hT q hq
  refine ⟨t1, t2, t3, t4, fun k hk => ?_⟩
  have a := @cp1_facts p i (cpyR L (112 + 2 * p + 1) i (112 + 2 * o + 1) j n) n
  have b := @cp2_facts o j (itr (cp1 p i) n (cpyR L (112 + 2 * p + 1) i (112 + 2 * o + 1) j n)) n
  rw [b.1 (112 + 2 * q + 1) k (Or.inl (by omega)), a.1 _ k (by omega)]
  by_cases c : q = o ∧ j ≤ k ∧ k < j + n
  · obtain ⟨rfl, c1, c2⟩ := c
    obtain ⟨e, rfl⟩ : ∃ e, k = j + e := ⟨k - j, by omega⟩
    have g := b.2 e (by omega)
    rw [show 60 * q + (j + e) = 60 * q + j + e by omega, g, a.2 e (by omega)]
    unfold cpyR
    rw [if_pos ⟨rfl, by omega, by omega⟩, if_neg (by omega), show j + e - j = e by omega, show 60 * p + i + e = 60 * p + (i + e) by omega]
    exact (hT p hp).2.2.2.2 (i + e) (by omega)
  · rw [b.1 165 (60 * q + k) (by omega), a.1 165 _ (by decide)]
    unfold cpyR
    rw [if_neg (by omega), if_neg (by omega)]
    exact t5 k hk
theorem ok_shift {x1 x2 x3 x4 x5 : Int32} : Ok X d m139 m236 [some (.ref 0), some (.int x1), some (.int x2), some (.int x3), some (.int x4), some (.int x5), none, none] [some (.ref 124), some (.int x1), some (.int x2), some (.int x3), some (.int x4), some (.int x5), none] := by
  intro I L hI
  have hT := tapes_view hI
  rcases num_cases x1 (n := 5) (by decide) with h | ⟨p, hp, rfl⟩
  · refine ⟨.int (-1), I, L, I, L, hI, fun Q => ?_, fun Q => ?_⟩
    · rw [b139_0, s115_no h]
      simp only [Option.toList, List.cons_append, List.nil_append]
      rw [b139_5_1]
      rcases num_cases x3 (n := 5) (by decide) with g | ⟨o, ho, rfl⟩
      · rw [s115_no g]
        simp only [Option.toList, List.cons_append, List.nil_append]
        rw [b139_12_3]
      · rw [s115_ok (by omega)]
        simp only [Option.toList, List.cons_append, List.nil_append]
        rw [b139_12_2 (tapeK (by omega))]
    · rw [b236_0, s217_no h]
      simp only [Option.toList, List.cons_append, List.nil_append]
      rw [b236_5, if_pos rfl]
  have hp6 : p < 6 := by omega
  have hr := tapeK hp6
  rcases num_cases x3 (n := 5) (by decide) with g | ⟨o, ho, rfl⟩
  · refine ⟨.int (-1), I, L, I, L, hI, fun Q => ?_, fun Q => ?_⟩
    · rw [b139_0, s115_ok hp6]
      simp only [Option.toList, List.cons_append, List.nil_append]
      rw [b139_5 hr, s115_no g]
      simp only [Option.toList, List.cons_append, List.nil_append]
      rw [b139_12_1 hr]
    · rw [b236_0, s217_ok hp6]
      simp only [Option.toList, List.cons_append, List.nil_append]
      rw [b236_5, if_neg (by decide), s217_no g]
      simp only [Option.toList, List.cons_append, List.nil_append]
      rw [b236_13, if_pos rfl]
  have ho6 : o < 6 := by omega
  have hq := tapeK ho6
  have ip : inA (nI p) 6 = true := inA_nI hp6 (by decide)
  have io : inA (nI o) 6 = true := inA_nI ho6 (by decide)
  have cp : (nI p).toNatClampNeg = p := nI_clamp (by omega)
  have co : (nI o).toNatClampNeg = o := nI_clamp (by omega)
  obtain ⟨s, z, a0, m0, a1, m1, hs, hz, hL⟩ := tape_view hT hp6
  obtain ⟨s', z', a0', m0', a1', m1', hs', hz', hL'⟩ := tape_view hT ho6
  have cls : ∀ Q : Option Value → XW → Prop, wp X (d + 100) m139 0 [some (.ref 0), some (.int (nI p)), some (.int x2), some (.int (nI o)), some (.int x4), some (.int x5), none, none] [] (K0, R0, I, L) Q ↔ wp X (d + 100) m139 31 [none, none, some (.int x2), none, some (.int x4), some (.int x5), some (.ref (112 + 2 * p)), some (.ref (112 + 2 * o))] [.int (if s < 0 then 0 else 1)] (K0, R0, I, L) Q := by
    intro Q
    rw [b139_0, s115_ok hp6]
    simp only [Option.toList, List.cons_append, List.nil_append]
    rw [b139_5 hr, s115_ok ho6]
    simp only [Option.toList, List.cons_append, List.nil_append]
    rw [b139_12 hr hq, b116_0 hr, a0]
    simp only [Option.toList, List.cons_append, List.nil_append]
    try exact Iff.rfl
  have mdl : ∀ (M : Nat → Nat → Int64) (Q : Option Value → XW → Prop), wp X (d + 100) m236 0 [some (.ref 124), some (.int (nI p)), some (.int x2), some (.int (nI o)), some (.int x4), some (.int x5), none] [] (K0, R0, I, M) Q ↔ (if s < 0 then Q (some (.int (-11))) (K0, R0, I, M) else if s' < 0 then Q (some (.int (-11))) (K0, R0, I, M) else if s = s' then (if x5 < 0 then Q (some (.int (-13))) (K0, R0, I, M) else if x2 < 0 then Q (some (.int (-13))) (K0, R0, I, M) else if x4 < 0 then Q (some (.int (-13))) (K0, R0, I, M) else if nI z - x5 < x2 then Q (some (.int (-13))) (K0, R0, I, M) else if nI z' - x5 < x4 then Q (some (.int (-13))) (K0, R0, I, M) else wp X (d + 100) m236 104 [some (.ref 124), some (.int (nI p)), some (.int x2), some (.int (nI o)), some (.int x4), some (.int x5), some (.int 0)] [] (K0, R0, I, M) Q) else Q (some (.int (-12))) (K0, R0, I, M)) := by
    intro M Q
    rw [b236_0, s217_ok hp6]
    simp only [Option.toList, List.cons_append, List.nil_append]
    rw [b236_5, if_neg (by decide), s217_ok ho6]
    simp only [Option.toList, List.cons_append, List.nil_append]
    rw [b236_13, if_neg (by decide)]
    simp only [ip, io, cp, co, true_and, m0, m0', m1, m1']
    try exact Iff.rfl
  by_cases hn : s < 0
  · refine ⟨.int (-11), I, L, I, L, hI, fun Q => ?_, fun Q => ?_⟩
    · rw [cls, b139_31 hr hq, if_pos hn, if_pos rfl]
    · rw [mdl, if_pos hn]
  by_cases hn' : s' < 0
  · refine ⟨.int (-11), I, L, I, L, hI, fun Q => ?_, fun Q => ?_⟩
    · rw [cls, b139_31 hr hq, if_neg hn, if_neg (by decide), b116_0 hq, a0', if_pos hn']
      simp only [Option.toList, List.cons_append, List.nil_append]
      rw [b139_39 hr hq, if_pos rfl]
    · rw [mdl, if_neg hn, if_pos hn']
  have cls2 : ∀ Q : Option Value → XW → Prop, wp X (d + 100) m139 0 [some (.ref 0), some (.int (nI p)), some (.int x2), some (.int (nI o)), some (.int x4), some (.int x5), none, none] [] (K0, R0, I, L) Q ↔ (if s = s' then wp X (d + 99) m117 0 [some (.ref (112 + 2 * p)), some (.int x2), some (.int x5)] [] (K0, R0, I, L) (fun r w1 => wp X (d + 100) m139 69 [none, none, some (.int x2), none, some (.int x4), some (.int x5), some (.ref (112 + 2 * p)), some (.ref (112 + 2 * o))] (r.toList ++ []) w1 Q) else Q (some (.int (-12))) (K0, R0, I, L)) := by
    intro Q
    rw [cls, b139_31 hr hq, if_neg hn, if_neg (by decide), b116_0 hq, a0', if_neg hn']
    simp only [Option.toList, List.cons_append, List.nil_append]
    rw [b139_39 hr hq, if_neg (by decide), a0, a0']
    try exact Iff.rfl
  by_cases hss : s = s'
  · rcases rch_n (s := s) (x := x2) (n := x5) hz hn with ⟨h, g⟩ | ⟨i, n, rfl, rfl, hin, h⟩
    · refine ⟨.int (-13), I, L, I, L, hI, fun Q => ?_, fun Q => ?_⟩
      · rw [cls2, if_pos hss, s117 hr a0 a1]
        simp only [Option.toList, List.cons_append, List.nil_append]
        rw [b139_69 hr hq, h, if_pos rfl]
      · rw [mdl, if_neg hn, if_neg hn', if_pos hss]
        rcases g with g | g | g
        · rw [if_pos g]
        · by_cases g1 : x5 < 0
          · rw [if_pos g1]
          · rw [if_neg g1, if_pos g]
        · by_cases g1 : x5 < 0
          · rw [if_pos g1]
          rw [if_neg g1]
          by_cases g2 : x2 < 0
          · rw [if_pos g2]
          rw [if_neg g2]
          by_cases g3 : x4 < 0
          · rw [if_pos g3]
          rw [if_neg g3, if_pos g]
    have n5 : ¬ nI n < 0 := nI_pos (by omega)
    have n2 : ¬ nI i < 0 := nI_pos (by omega)
    have nz : ¬ nI z - nI n < nI i := by rw [nI_sub (by omega)]; exact nI_nlt (by omega) (by omega)
    rcases rch_n (s := s') (x := x4) (n := nI n) hz' hn' with ⟨h', g⟩ | ⟨j, n', rfl, en, hjn, h'⟩
    · refine ⟨.int (-13), I, L, I, L, hI, fun Q => ?_, fun Q => ?_⟩
      · rw [cls2, if_pos hss, s117 hr a0 a1]
        simp only [Option.toList, List.cons_append, List.nil_append]
        rw [b139_69 hr hq, h, if_neg (by decide), s117 hq a0' a1']
        simp only [Option.toList, List.cons_append, List.nil_append]
        rw [b139_81 hr hq, h', if_pos rfl]
      · rw [mdl, if_neg hn, if_neg hn', if_pos hss, if_neg n5, if_neg n2]
        rcases g with g | g | g
        · exact absurd g n5
        · rw [if_pos g]
        · by_cases g3 : x4 < 0
          · rw [if_pos g3]
          · rw [if_neg g3, if_neg nz, if_pos g]
    have en' : n = n' := (nI_eq (by omega) (by omega)).mp en
    subst en'
    have n4 : ¬ nI j < 0 := nI_pos (by omega)
    have nz' : ¬ nI z' - nI n < nI j := by rw [nI_sub (by omega)]; exact nI_nlt (by omega) (by omega)
    refine ⟨.int (nI n), I, cpyR L (112 + 2 * p + 1) i (112 + 2 * o + 1) j n, I, _, shift_inv (i := i) (j := j) (n := n) hI hp6 ho6 (by omega) (by omega), fun Q => ?_, fun Q => ?_⟩
    · rw [cls2, if_pos hss, s117 hr a0 a1]
      simp only [Option.toList, List.cons_append, List.nil_append]
      rw [b139_69 hr hq, h, if_neg (by decide), s117 hq a0' a1']
      simp only [Option.toList, List.cons_append, List.nil_append]
      rw [b139_81 hr hq, h', if_neg (by decide), nI_clamp (show i < 2 ^ 31 by omega), nI_clamp (show j < 2 ^ 31 by omega), nI_clamp (show n < 2 ^ 31 by omega)]
      exact and_iff_right ⟨n2, n4, n5, by omega, by omega⟩
    · rw [mdl, if_neg hn, if_neg hn', if_pos hss, if_neg n5, if_neg n2, if_neg n4, if_neg nz, if_neg nz']
      exact s236L (i := i) (j := j) (n := n) hp6 ho6 (by omega) (by omega)
  · refine ⟨.int (-12), I, L, I, L, hI, fun Q => ?_, fun Q => ?_⟩
    · rw [cls2, if_neg hss]
    · rw [mdl, if_neg hn, if_neg hn', if_neg hss]
theorem ok_judge {x1 x2 : Int32} : Ok X d m114 m216 [some (.ref 0), some (.int x1), some (.int x2), none, none, none] [some (.ref 124), some (.int x1), some (.int x2), none] := by
  intro I L hI
  have hT := tapes_view hI
  obtain ⟨n, t, z0, k, wd, nb, mm, T, hN, hn5, e1, e4, S⟩ := sit_view hI
  rcases num_cases x1 (n := 5) (by decide) with h | ⟨p, hp, rfl⟩
  · refine ⟨.int (-1), I, L, I, L, hI, fun Q => ?_, fun Q => ?_⟩
    · rw [b114_0, s115_no h]
      simp only [Option.toList, List.cons_append, List.nil_append]
      rw [b114_5_1]
    · rw [b216_0, s217_no h]
      simp only [Option.toList, List.cons_append, List.nil_append]
      rw [b216_5, if_pos rfl]
  have hp6 : p < 6 := by omega
  have hr := tapeK hp6
  have ip : inA (nI p) 6 = true := inA_nI hp6 (by decide)
  have cp : (nI p).toNatClampNeg = p := nI_clamp (by omega)
  obtain ⟨s, z, a0, m0, a1, m1, hs, hz, hL⟩ := tape_view hT hp6
  have cls : ∀ Q : Option Value → XW → Prop, wp X (d + 100) m114 0 [some (.ref 0), some (.int (nI p)), some (.int x2), none, none, none] [] (K0, R0, I, L) Q ↔ (if s < 0 then wp X (d + 100) m114 33 [some (.ref 0), none, some (.int x2), some (.ref (112 + 2 * p)), some (.int 0), none] [] (K0, R0, I, L) Q else if s = 1 then wp X (d + 100) m114 33 [some (.ref 0), none, some (.int x2), some (.ref (112 + 2 * p)), some (.int 0), none] [] (K0, R0, I, L) Q else Q (some (.int (-12))) (K0, R0, I, L)) := by
    intro Q
    rw [b114_0, s115_ok hp6]
    simp only [Option.toList, List.cons_append, List.nil_append]
    rw [b114_5 hr, b116_0 hr, a0]
    simp only [Option.toList, List.cons_append, List.nil_append]
    rw [b114_16 hr, a0]
    by_cases h : s < 0
    · rw [if_pos h, if_pos rfl, if_pos h]
    · rw [if_neg h, if_neg (by decide), if_neg h]
  have mdl : ∀ Q : Option Value → XW → Prop, wp X (d + 100) m216 0 [some (.ref 124), some (.int (nI p)), some (.int x2), none] [] (K0, R0, I, L) Q ↔ (if s < 0 then wp X (d + 100) m216 34 [some (.ref 124), some (.int (nI p)), some (.int x2), some (.int 0)] [] (K0, R0, I, L) Q else if s = 1 then wp X (d + 100) m216 34 [some (.ref 124), some (.int (nI p)), some (.int x2), some (.int 0)] [] (K0, R0, I, L) Q else Q (some (.int (-12))) (K0, R0, I, L)) := by
    intro Q
    rw [b216_0, s217_ok hp6]
    simp only [Option.toList, List.cons_append, List.nil_append]
    rw [b216_5, if_neg (by decide)]
    simp only [ip, cp, true_and, m0]
    try exact Iff.rfl
  have go : ∀ rem c, c + rem = n → ∃ r : Value, (∀ Q : Option Value → XW → Prop, wp X (d + 100) m114 33 [some (.ref 0), none, some (.int x2), some (.ref (112 + 2 * p)), some (.int (nI c)), none] [] (K0, R0, I, L) Q ↔ Q (some r) (K0, R0, I, L)) ∧ ∀ Q : Option Value → XW → Prop, wp X (d + 100) m216 34 [some (.ref 124), some (.int (nI p)), some (.int x2), some (.int (nI c))] [] (K0, R0, I, L) Q ↔ Q (some r) (K0, R0, I, L) := by
    intro rem
    induction rem with
    | zero =>
      intro c hc
      have e : c = n := by omega
      subst e
      refine ⟨.int (-5), fun Q => ?_, fun Q => ?_⟩
      · rw [b114_33 hr, e1, if_neg (nI_nlt (Nat.le_refl _) (by omega))]
      · rw [b216_34, e4, if_neg (nI_nlt (Nat.le_refl _) (by omega))]
    | succ rem ih =>
      intro c hc
      have hcn : c < n := by omega
      have hK := cupK (i := c) (by omega)
      have i5 : inA (nI c) 5 = true := inA_nI (by omega) (by decide)
      have hcl : (nI c).toNatClampNeg = c := nI_clamp (by omega)
      have el : I (12 + 2 * c) 3 = I 127 c := (cupcells hN (i := c) (by omega)).1.1
      have c1 : ∀ Q : Option Value → XW → Prop, wp X (d + 100) m114 33 [some (.ref 0), none, some (.int x2), some (.ref (112 + 2 * p)), some (.int (nI c)), none] [] (K0, R0, I, L) Q ↔ (if rchI s z x2 (nI (c + 1)) = 0 then Q (some (.int (100 + nI c))) (K0, R0, I, L) else wp X (d + 99) m118 0 [some (.ref (112 + 2 * p)), some (.int (x2 + nI c))] [] (K0, R0, I, L) (fun r w1 => wp X (d + 100) m114 87 [some (.ref 0), none, some (.int x2), some (.ref (112 + 2 * p)), some (.int (nI c)), some (.ref (12 + 2 * c))] (r.toList ++ []) w1 Q)) := by
        intro Q
        rw [b114_33 hr, e1, if_pos (nI_lt hcn (by omega)), s17_ok hn5 e1 hcn]
        simp only [Option.toList, List.cons_append, List.nil_append]
        rw [b114_54 hr hK, nI_1, s117 hr a0 a1]
        simp only [Option.toList, List.cons_append, List.nil_append]
        rw [b114_70 hr hK]
        try exact Iff.rfl
      have m2 : ∀ Q : Option Value → XW → Prop, wp X (d + 100) m216 34 [some (.ref 124), some (.int (nI p)), some (.int x2), some (.int (nI c))] [] (K0, R0, I, L) Q ↔ (if s < 0 then Q (some (.int (100 + nI c))) (K0, R0, I, L) else if x2 < 0 then Q (some (.int (100 + nI c))) (K0, R0, I, L) else if (nI z - nI c) - 1 < x2 then Q (some (.int (100 + nI c))) (K0, R0, I, L) else (inA (((60 : Int32) * nI p + x2) + nI c) 360 = true ∧ (if (lg_cmp (L 165 (((60 : Int32) * nI p + x2) + nI c).toNatClampNeg) (Int32.toInt64 (I 127 c))) = 0 then wp X (d + 100) m216 34 [some (.ref 124), some (.int (nI p)), some (.int x2), some (.int (nI (c + 1)))] [] (K0, R0, I, L) Q else Q (some (.int (nI c))) (K0, R0, I, L)))) := by
        intro Q
        rw [b216_34, e4, if_pos (nI_lt hcn (by omega)), and_iff_right ip, cp, m0, m1, and_iff_right ip, hcl, and_iff_right i5, nI_1]
      have ez : nI z - nI c - 1 = nI z - nI (c + 1) := by
        rw [← nI_1, Int32.sub_eq_add_neg, Int32.sub_eq_add_neg, Int32.sub_eq_add_neg, Int32.neg_add, Int32.add_assoc, ← Int32.sub_eq_add_neg]
      by_cases hn : s < 0
      · refine ⟨.int (100 + nI c), fun Q => ?_, fun Q => ?_⟩
        · rw [c1, show rchI s z x2 (nI (c + 1)) = 0 from if_pos hn, if_pos rfl]
        · rw [m2, if_pos hn]
      rcases rch_n (s := s) (x := x2) (n := nI (c + 1)) hz hn with ⟨h, g⟩ | ⟨i, u, rfl, hu, hiu, h⟩
      · refine ⟨.int (100 + nI c), fun Q => ?_, fun Q => ?_⟩
        · rw [c1, h, if_pos rfl]
        · rw [m2, if_neg hn, ez]
          rcases g with g | g | g
          · exact absurd g (nI_pos (by omega))
          · rw [if_pos g]
          · by_cases g2 : x2 < 0
            · rw [if_pos g2]
            · rw [if_neg g2, if_pos g]
      · have eu : c + 1 = u := (nI_eq (by omega) (by omega)).mp hu
        subst eu
        have c2 : ∀ Q : Option Value → XW → Prop, wp X (d + 100) m114 33 [some (.ref 0), none, some (.int (nI i)), some (.ref (112 + 2 * p)), some (.int (nI c)), none] [] (K0, R0, I, L) Q ↔ (if (lg_cmp (L 165 (60 * p + (i + c))) (Int32.toInt64 (I 127 c))) = 0 then wp X (d + 100) m114 33 [some (.ref 0), none, some (.int (nI i)), some (.ref (112 + 2 * p)), some (.int (nI (c + 1))), none] [] (K0, R0, I, L) Q else Q (some (.int (nI c))) (K0, R0, I, L)) := by
          intro Q
          rw [c1, h, if_neg (by decide), nI_add, s118 hr (by omega), hL _ (by omega)]
          simp only [Option.toList, List.cons_append, List.nil_append]
          rw [b114_87 hr hK, el, nI_1]
        have m3 : ∀ Q : Option Value → XW → Prop, wp X (d + 100) m216 34 [some (.ref 124), some (.int (nI p)), some (.int (nI i)), some (.int (nI c))] [] (K0, R0, I, L) Q ↔ (if (lg_cmp (L 165 (60 * p + (i + c))) (Int32.toInt64 (I 127 c))) = 0 then wp X (d + 100) m216 34 [some (.ref 124), some (.int (nI p)), some (.int (nI i)), some (.int (nI (c + 1)))] [] (K0, R0, I, L) Q else Q (some (.int (nI c))) (K0, R0, I, L)) := by
          intro Q
          rw [m2, if_neg hn, if_neg (nI_pos (by omega)), ez, nI_sub (by omega), if_neg (nI_nlt (by omega) (by omega)), i60, nI_add, and_iff_right (inA_nI (by omega) (by decide)), nI_clamp (by omega), show 60 * p + i + c = 60 * p + (i + c) by omega]
        obtain ⟨r, r1, r2⟩ := ih (c + 1) (by omega)
        by_cases q : lg_cmp (L 165 (60 * p + (i + c))) (Int32.toInt64 (I 127 c)) = 0
        · exact ⟨r, fun Q => by rw [c2, if_pos q]; exact r1 Q, fun Q => by rw [m3, if_pos q]; exact r2 Q⟩
        · exact ⟨.int (nI c), fun Q => by rw [c2, if_neg q], fun Q => by rw [m3, if_neg q]⟩
  obtain ⟨r, r1, r2⟩ := go n 0 (by omega)
  by_cases hn : s < 0
  · exact ⟨r, I, L, I, L, hI, fun Q => by rw [cls, if_pos hn]; exact r1 Q, fun Q => by rw [mdl, if_pos hn]; exact r2 Q⟩
  by_cases h1 : s = 1
  · exact ⟨r, I, L, I, L, hI, fun Q => by rw [cls, if_neg hn, if_pos h1]; exact r1 Q, fun Q => by rw [mdl, if_neg hn, if_pos h1]; exact r2 Q⟩
  · exact ⟨.int (-12), I, L, I, L, hI, fun Q => by rw [cls, if_neg hn, if_neg h1], fun Q => by rw [mdl, if_neg hn, if_neg h1]⟩
end CALLS
