/-! say, after. -/
theorem rise_rg {x : Int32} {a : Nat} (h : Rg 9 x) (ha : a ≤ 99) : Rg 9 (riseI x (nI a)) := by
  obtain ⟨m, hm, rfl⟩ := h
  unfold riseI
  rw [nI_add]
  by_cases c : (9 : Int32) < nI (m + a)
  · rw [if_pos c]; exact ⟨9, by decide, rfl⟩
  · rw [if_neg c]
    have g : ¬ 9 < m + a := fun q => c (nI_lt (a := 9) q (by omega))
    exact ⟨m + a, by omega, rfl⟩
theorem fall_rg {x : Int32} {a : Nat} (h : Rg 9 x) (ha : a ≤ 99) : Rg 9 (fallI x (nI a)) := by
  obtain ⟨m, hm, rfl⟩ := h
  unfold fallI
  by_cases c : a ≤ m
  · rw [nI_sub c, if_neg (nI_pos (by omega))]
    exact ⟨m - a, by omega, rfl⟩
  · rw [if_pos (by
      rw [Int32.lt_iff_toInt_lt, subI (by omega) (by omega)]
      show (m : Int) - (a : Int) < 0
      omega)]
    exact ⟨0, by decide, rfl⟩
theorem say_rg {wi : Nat → Nat → Int32} {dn : Nat → Nat → Nat} {wd nb : Nat → Nat} {k w : Nat} {s : Nat × Int32} (h : Rg 9 s.2) (hb : ∀ c, nb c ≤ 99) : Rg 9 (sayN wi dn (riS wd nb k) (faS wd nb k) w s).2 := by
  show Rg 9 (if wi w s.1 < s.2 then riseI s.2 (riS wd nb k) else fallI s.2 (faS wd nb k))
  split
  · exact rise_rg h (laN_le (by decide) hb k)
  · exact fall_rg h (laN_le (by decide) hb k)
theorem hR_rg {wi md : Int32} {r : Nat} (h : r < 9999) : Rg 9999 (hR wi md (nI r)) := by
  unfold hR
  split
  · rw [nI_1]; exact ⟨r + 1, by omega, rfl⟩
  · exact ⟨r, by omega, rfl⟩
theorem Sit.z_ne {I : Nat → Nat → Int32} {t z k : Nat} {wd nb mm T : Nat → Nat} (S : Sit I t z k wd nb mm T) {i : Nat} (hi : i < 5) : 12 + 2 * i ≠ z + 4 ∧ 12 + 2 * i ≠ z ∧ 12 + 2 * i + 1 ≠ z + 4 := by
  rcases S.1 with rfl | ⟨h, hh, rfl⟩ <;> omega
section CALLS
variable {X : Nat × (Nat → Int32)} {d : Nat}
/-- the leaves after a saying, once more -/
theorem s187N {I : Nat → Nat → Int32} {L : Nat → Nat → Int64} {t z k i kd v w r : Nat} {s : Nat × Int32} {ln wd nb mm T : Nat → Nat} (S : Sit I t z k wd nb mm T) (hc : CupM I i kd v s.1 s.2 (nI r) ln) (hr : r ≤ 100000) (hw : w ≤ 3) (hn : ∀ p, p < 4 → ln p ≤ 9) : ∃ J, Ak I J ∧ ∀ Q : Option Value → XW → Prop, wp X (d + 7) m187 0 [some (.ref 124), some (.int (nI i)), some (.int (nI w)), none] [] (K0, R0, I, L) Q ↔ Q (some (.int (nI (sayN (wiS T wd nb mm k t i kd v) (dnS kd t ln) (riS wd nb k) (faS wd nb k) w s).1))) (K0, R0, J, L) := by
  obtain ⟨lv, md⟩ := s
  have ht := S.2.2.2.2.2.2.2.2.1
  obtain ⟨J, g1, g2⟩ := s187 (X := X) (d := d) (L := L) S.2.2.1 hc hr hw (show t < 2 ^ 31 by omega) S.2.2.2.2.2.2.2.1 hn S.2.2.2.2.2.2.2.2.2.1
  exact ⟨J, g1, g2⟩
/-- the mood after a saying: the reference -/
theorem s186M {I : Nat → Nat → Int32} {L : Nat → Nat → Int64} {t z k i kd v w r : Nat} {s : Nat × Int32} {ln wd nb mm T : Nat → Nat} (S : Sit I t z k wd nb mm T) (hc : CupM I i kd v s.1 s.2 (nI r) ln) (hr : r ≤ 100000) (hw : w ≤ 3) (hn : ∀ p, p < 4 → ln p ≤ 9) : ∃ J, Ak I J ∧ ∀ Q : Option Value → XW → Prop, wp X (d + 6) m188 0 [some (.ref 124), none] [] (K0, R0, I, L) (fun r w1 => wp X (d + 7) m186 63 [some (.ref 124), some (.int (nI i)), some (.int (nI w)), none, none] (r.toList ++ []) w1 Q) ↔ Q (some (.int (sayN (wiS T wd nb mm k t i kd v) (dnS kd t ln) (riS wd nb k) (faS wd nb k) w s).2)) (K0, R0, J, L) := by
  have ht := S.2.2.2.2.2.2.2.2.1
  obtain ⟨mid, e7, e8, e9, et⟩ := mid_keep I
  have hc5 := hc.2.2.2.2.2.2.1
  have k188 : ∀ Q : Option Value → XW → Prop, wp X (d + 6) m188 0 [some (.ref 124), none] [] (K0, R0, I, L) Q ↔ Q none (K0, R0, itr keF 5 (updR (updR I 124 26 2000000000) 124 27 (I 124 1)), L) := fun Q => s188
  generalize itr keF 5 (updR (updR I 124 26 2000000000) 124 27 (I 124 1)) = J at mid e7 e8 e9 et k188
  have hcJ : CupM J i kd v s.1 s.2 (nI r) ln := hc.cong (mid.1 125 (by decide) (by decide) (by decide) (by decide) (by decide) (by decide) (by decide) (by decide)) (mid.1 126 (by decide) (by decide) (by decide) (by decide) (by decide) (by decide) (by decide) (by decide)) (mid.1 130 (by decide) (by decide) (by decide) (by decide) (by decide) (by decide) (by decide) (by decide)) (by rw [e7]) (by rw [e8]) (by rw [e9])
  obtain ⟨I1, g1, g2, g3, g4⟩ := hear_m (X := X) (d := d) (L := L) (S.2.2.1.mid mid) (et.trans S.2.2.2.2.2.2.2.1) (show t ≤ 99999 by omega) hcJ hw hn (by rw [mid.2.2.2.2.2]; exact rf_ok hr)
  have mid1 := mid_say mid hc5 g1 g2
  refine ⟨_, mid_back mid1 S.2.2.2.2.2.2.2.2.2.1, fun Q => ?_⟩
  rw [k188]
  simp only [Option.toList, List.cons_append, List.nil_append]
  rw [b186_63, g4]
  simp only [Option.toList, List.cons_append, List.nil_append]
  rw [b186_69, and_iff_right (inA_nI hc5 (by decide)), nI_clamp (by omega), s189, g3.2.2.2.1]
  simp only [Option.toList, List.cons_append, List.nil_append]
  rw [b186_81]
theorem ok_after {x1 x2 x3 : Int32} : Ok X d m76 m186 [some (.ref 0), some (.int x1), some (.int x2), some (.int x3), none, none] [some (.ref 124), some (.int x1), some (.int x2), some (.int x3), none] := by
  intro I L hI
  obtain ⟨n, t, z, k, wd, nb, mm, T, hN, hn, e1, e4, S⟩ := sit_view hI
  rcases argC x1 hn with h | ⟨i, hi, rfl⟩
  · refine ⟨.int (-1), I, L, I, L, hI, fun Q => ?_, fun Q => ?_⟩
    · simp only [b76_0, s17_no hn e1 h, b76_8_1, Option.toList, List.cons_append, List.nil_append]
    · simp only [b186_0, s145_no hn e4 h, b186_5, if_true, Option.toList, List.cons_append, List.nil_append]
  have hc := cupK (i := i) (by omega)
  rcases num_cases x2 (n := 3) (by decide) with h | ⟨w, hw, rfl⟩
  · refine ⟨.int (-1), I, L, I, L, hI, fun Q => ?_, fun Q => ?_⟩
    · rw [b76_0, s17_ok hn e1 hi]
      simp only [Option.toList, List.cons_append, List.nil_append]
      rw [b76_8 hc, s18_no h]
      simp only [Option.toList, List.cons_append, List.nil_append]
      rw [b76_19 hc, if_pos rfl]
    · rw [b186_0, s145_ok hn e4 hi]
      simp only [Option.toList, List.cons_append, List.nil_append]
      rw [b186_5, if_neg (by decide), s179_no h]
      simp only [Option.toList, List.cons_append, List.nil_append]
      rw [b186_13, if_pos rfl]
  rcases num_cases x3 (n := 2) (by decide) with h | ⟨u, hu, rfl⟩
  · refine ⟨.int (-1), I, L, I, L, hI, fun Q => ?_, fun Q => ?_⟩
    · rw [b76_0, s17_ok hn e1 hi]
      simp only [Option.toList, List.cons_append, List.nil_append]
      rw [b76_8 hc, s18_ok hw]
      simp only [Option.toList, List.cons_append, List.nil_append]
      rw [b76_19 hc, if_neg (by decide)]
      rcases h with h | h
      · rw [if_pos h]
      · rw [if_neg (nlt0 (n := 2) (by decide) h), if_pos (show (2 : Int32) < x3 from h)]
    · rw [b186_0, s145_ok hn e4 hi]
      simp only [Option.toList, List.cons_append, List.nil_append]
      rw [b186_5, if_neg (by decide), s179_ok hw]
      simp only [Option.toList, List.cons_append, List.nil_append]
      rw [b186_13, if_neg (by decide), s142_no (show x3 < 0 ∨ 2 < x3 from h)]
      simp only [Option.toList, List.cons_append, List.nil_append]
      rw [b186_23, if_pos rfl]
  obtain ⟨kd, v, lv, m, r, ln, hR, hM, hm, hr, hln⟩ := cup_view hN hi
  obtain ⟨J, as1, cj, hJ⟩ := s77 (X := X) (d := d + 93) (L := L) (s := (lv, nI m)) S hR hw hln
  have S1 := S.asked as1
  have hM1 := hM.asked as1
  have e4J : J 124 0 = nI n := (as1.2 0 (by decide)).trans e4
  have cls : ∀ Q : Option Value → XW → Prop, wp X (d + 100) m76 0 [some (.ref 0), some (.int (nI i)), some (.int (nI w)), some (.int (nI u)), none, none] [] (K0, R0, I, L) Q ↔ Q (some (.int (if nI u = 0 then nI (sayN (wiS T wd nb mm k t i kd v) (dnS kd t ln) (riS wd nb k) (faS wd nb k) w (lv, nI m)).1 else if nI u = 1 then (sayN (wiS T wd nb mm k t i kd v) (dnS kd t ln) (riS wd nb k) (faS wd nb k) w (lv, nI m)).2 else if hB (wiS T wd nb mm k t i kd v w lv) (nI m) = 0 then 1 else 0))) (K0, R0, J, L) := by
    intro Q
    rw [b76_0, s17_ok hn e1 hi]
    simp only [Option.toList, List.cons_append, List.nil_append]
    rw [b76_8 hc, s18_ok hw]
    simp only [Option.toList, List.cons_append, List.nil_append]
    rw [b76_19 hc, if_neg (by decide), if_neg (nI_pos (by omega)), if_neg (show ¬ (2 : Int32) < nI u from nI_nlt (a := 2) hu (by decide)), hJ]
    simp only [Option.toList, List.cons_append, List.nil_append]
    rw [b76_40, cj.2.2.2.2.1, cj.2.2.2.2.2.1]
  have mdl : ∀ Q : Option Value → XW → Prop, wp X (d + 100) m186 0 [some (.ref 124), some (.int (nI i)), some (.int (nI w)), some (.int (nI u)), none] [] (K0, R0, J, L) Q ↔ (if nI u = 0 then wp X (d + 99) m187 0 [some (.ref 124), some (.int (nI i)), some (.int (nI w)), none] [] (K0, R0, J, L) (fun r w1 => wp X (d + 100) m186 38 [none, none, none, none, none] (r.toList ++ []) w1 Q) else if nI u = 2 then wp X (d + 99) m180 0 [some (.ref 124), some (.int (nI i)), some (.int (nI w))] [] (K0, R0, J, L) (fun r w1 => wp X (d + 100) m186 50 [none, none, none, none, none] (r.toList ++ []) w1 Q) else wp X (d + 99) m188 0 [some (.ref 124), none] [] (K0, R0, J, L) (fun r w1 => wp X (d + 100) m186 63 [some (.ref 124), some (.int (nI i)), some (.int (nI w)), none, none] (r.toList ++ []) w1 Q)) := by
    intro Q
    rw [b186_0, s145_ok hn e4J hi]
    simp only [Option.toList, List.cons_append, List.nil_append]
    rw [b186_5, if_neg (by decide), s179_ok hw]
    simp only [Option.toList, List.cons_append, List.nil_append]
    rw [b186_13, if_neg (by decide)]
    refine (s142_nI (n := 2) hu (by decide)).trans ?_
    simp only [Option.toList, List.cons_append, List.nil_append]
    rw [b186_23, if_neg (by decide)]
    try exact Iff.rfl
  match u, hu with
  | 0, _ =>
    obtain ⟨K, ak, hK⟩ := s187N (X := X) (d := d + 92) (L := L) (s := (lv, nI m)) S1 hM1 (show r ≤ 100000 by omega) hw hln
    refine ⟨.int (nI (sayN (wiS T wd nb mm k t i kd v) (dnS kd t ln) (riS wd nb k) (faS wd nb k) w (lv, nI m)).1), J, L, K, L, hI.asked (as1.trans (Asked.ak ak)), fun Q => ?_, fun Q => ?_⟩
    · rw [cls, if_pos (by decide)]
    · rw [mdl, if_pos (by decide), hK]
      simp only [Option.toList, List.cons_append, List.nil_append]
      rw [b186_38]
  | 1, _ =>
    obtain ⟨K, ak, hK⟩ := s186M (X := X) (d := d + 93) (L := L) (s := (lv, nI m)) S1 hM1 (show r ≤ 100000 by omega) hw hln
    refine ⟨.int (sayN (wiS T wd nb mm k t i kd v) (dnS kd t ln) (riS wd nb k) (faS wd nb k) w (lv, nI m)).2, J, L, K, L, hI.asked (as1.trans (Asked.ak ak)), fun Q => ?_, fun Q => ?_⟩
    · rw [cls, if_neg (by decide), if_pos (by decide)]
    · rw [mdl, if_neg (by decide), if_neg (by decide)]
      exact hK Q
  | 2, _ =>
    obtain ⟨K, b1, b2⟩ := s180 (X := X) (d := d + 94) (L := L) S1.2.2.1 (hM1.mf hw (show t < 2 ^ 31 by have := S.2.2.2.2.2.2.2.2.1; omega) S1.2.2.2.2.2.2.2.1)
    have as2 : Asked J K := asked_k (fun k hk => b1 k (fun q => hk (by unfold Sk; omega)))
    refine ⟨.int (if hB (wiS T wd nb mm k t i kd v w lv) (nI m) = 0 then 1 else 0), J, L, K, L, hI.asked (as1.trans as2), fun Q => ?_, fun Q => ?_⟩
    · rw [cls, if_neg (by decide), if_neg (by decide)]
    · rw [mdl, if_neg (by decide), if_pos (by decide), b2]
      simp only [Option.toList, List.cons_append, List.nil_append]
      rw [b186_50, hM1.2.2.2.1]
      unfold hB
      by_cases c : wiS T wd nb mm k t i kd v w lv < nI m
      · have c' : mx0 (wiN (aQ i w kd v lv t) T wd nb mm k) < nI m := c
        rw [if_pos c, if_pos c', if_neg (by decide), if_pos rfl]
      · have c' : ¬ mx0 (wiN (aQ i w kd v lv t) T wd nb mm k) < nI m := c
        rw [if_neg c, if_neg c', if_pos rfl, if_neg (by decide)]
  | u + 3, hu => omega
theorem ok_say {x1 x2 : Int32} : Ok X d m71 m178 [some (.ref 0), some (.int x1), some (.int x2), none] [some (.ref 124), some (.int x1), some (.int x2), none] := by
  intro I L hI
  obtain ⟨n, t, z, k, wd, nb, mm, T, hN, hn, e1, e4, S⟩ := sit_view hI
  rcases argC x1 hn with h | ⟨i, hi, rfl⟩
  · refine ⟨.int (-1), I, L, I, L, hI, fun Q => ?_, fun Q => ?_⟩
    · simp only [b71_0, s17_no hn e1 h, b71_8_1, Option.toList, List.cons_append, List.nil_append]
    · simp only [b178_0, s145_no hn e4 h, b178_5, if_true, Option.toList, List.cons_append, List.nil_append]
  have h5 : i < 5 := by omega
  have hc := cupK h5
  have ix : inA (nI i) 5 = true := inA_nI h5 (by decide)
  have hcl : (nI i).toNatClampNeg = i := nI_clamp (by omega)
  rcases num_cases x2 (n := 3) (by decide) with h | ⟨w, hw, rfl⟩
  · refine ⟨.int (-1), I, L, I, L, hI, fun Q => ?_, fun Q => ?_⟩
    · rw [b71_0, s17_ok hn e1 hi]
      simp only [Option.toList, List.cons_append, List.nil_append]
      rw [b71_8 hc, s18_no h]
      simp only [Option.toList, List.cons_append, List.nil_append]
      rw [b71_17 hc, if_pos rfl]
    · rw [b178_0, s145_ok hn e4 hi]
      simp only [Option.toList, List.cons_append, List.nil_append]
      rw [b178_5, if_neg (by decide), s179_no h]
      simp only [Option.toList, List.cons_append, List.nil_append]
      rw [b178_13, if_pos rfl]
  obtain ⟨kd, v, lv, m, r, ln, hR, hM, hm, hr, hln⟩ := cup_view hN hi
  by_cases hfull : r = 9999
  · subst hfull
    refine ⟨.int (-3), I, L, I, L, hI, fun Q => ?_, fun Q => ?_⟩
    · rw [b71_0, s17_ok hn e1 hi]
      simp only [Option.toList, List.cons_append, List.nil_append]
      rw [b71_8 hc, s18_ok hw]
      simp only [Option.toList, List.cons_append, List.nil_append]
      rw [b71_17 hc, if_neg (by decide), hR.2.2.2.2.2.2.1, if_neg (by decide)]
    · rw [b178_0, s145_ok hn e4 hi]
      simp only [Option.toList, List.cons_append, List.nil_append]
      rw [b178_5, if_neg (by decide), s179_ok hw]
      simp only [Option.toList, List.cons_append, List.nil_append]
      rw [b178_13, if_neg (by decide), and_iff_right ix, hcl, hM.2.2.2.2.1, if_pos (by decide)]
  have ht := S.2.2.2.2.2.2.2.2.1
  obtain ⟨zn1, zn2, zn3⟩ := S.z_ne h5
  obtain ⟨J1, a1, a2, a3⟩ := hear_c (X := X) (d := d + 94) (L := L) (s := (lv, nI m)) S.1 S.2.1 S.2.2.2.1 S.2.2.2.2.1 (show t ≤ 99999 by omega) hR zn1 zn2 zn3 hw hln
  have skz := S.1.sk
  have q1 : ∀ k, k ≠ 12 + 2 * i → ¬ Sk k → J1 k = I k := fun k h1 h2 => a1 k (fun q => h2 (by rw [q]; exact skz)) h1
  have e124 : J1 124 = I 124 := q1 124 (by omega) (by unfold Sk; omega)
  have hM1 : CupM J1 i kd v lv (nI m) (nI r) ln := hM.cong (q1 125 (by omega) (by unfold Sk; omega)) (q1 126 (by omega) (by unfold Sk; omega)) (q1 130 (by omega) (by unfold Sk; omega)) (by rw [q1 127 (by omega) (by unfold Sk; omega)]) (by rw [q1 128 (by omega) (by unfold Sk; omega)]) (by rw [q1 129 (by omega) (by unfold Sk; omega)])
  have hH1 : Hd J1 k wd nb mm T := S.2.2.1.cong9 (by rw [e124]) (fun k h1 h2 => q1 k (by omega) (by unfold Sk; omega))
  have et1 : J1 124 1 = nI t := by rw [e124]; exact S.2.2.2.2.2.2.2.1
  obtain ⟨J2, b1, b2⟩ := s180 (X := X) (d := d + 94) (L := L) hH1 (hM1.mf hw (show t < 2 ^ 31 by omega) et1)
  have hM2 : CupM J2 i kd v lv (nI m) (nI r) ln := hM1.cong (b1 125 (by decide)) (b1 126 (by decide)) (b1 130 (by decide)) (by rw [b1 127 (by decide)]) (by rw [b1 128 (by decide)]) (by rw [b1 129 (by decide)])
  have hH2 : Hd J2 k wd nb mm T := hH1.cong9 (by rw [b1 124 (by decide)]) (fun k h1 h2 => b1 k (by omega))
  have e26 : J2 124 26 = 9999 := by rw [b1 124 (by decide), e124]; exact S.2.2.2.2.2.2.2.2.2.1
  obtain ⟨J3, c1, c2, c3, c4⟩ := hear_m (X := X) (d := d + 93) (L := L) (s := (lv, nI m)) hH2 (by rw [b1 124 (by decide)]; exact et1) (show t ≤ 99999 by omega) hM2 hw hln (by rw [e26, nI_1]; exact nI_nlt (a := 9999) (by omega) (by decide))
  have q3 : ∀ k, k ≠ 12 + 2 * i → k ≠ 127 → k ≠ 128 → k ≠ 129 → ¬ Sk k → J3 k = I k := fun k h1 h2 h3 h4 h5 => (c1 k (fun q => h5 (by unfold Sk; omega)) h2 h3 h4).trans ((b1 k (fun q => h5 (by unfold Sk; omega))).trans (q1 k h1 h5))
  have qc : J3 (12 + 2 * i) = J1 (12 + 2 * i) := (c1 _ (by omega) (by omega) (by omega) (by omega)).trans (b1 _ (by omega))
  have ql : J3 (12 + 2 * i + 1) = J1 (12 + 2 * i + 1) := (c1 _ (by omega) (by omega) (by omega) (by omega)).trans (b1 _ (by omega))
  obtain ⟨f0, f1, f2, f3, f4, f5, f6, f7, f8, f9, f10, f11⟩ := a2
  obtain ⟨p1, p2, p3, p4, p5, p6, p7, p8, p9, p10⟩ := c3
  refine ⟨.int (hB (wiS T wd nb mm k t i kd v w lv) (nI m)), J1, L, J3, L, ?_, fun Q => ?_, fun Q => ?_⟩
  · refine hI.cup1 h5 (fun k k1 k2 k3 k4 k5 => q3 k k1 (by omega) (by omega) (by omega) k5) (fun j hj => by rw [q3 124 (by omega) (by omega) (by omega) (by omega) (by unfold Sk; omega)]) ⟨?_, ?_, ?_⟩ ⟨?_, ?_, ?_, fun p hp => ?_⟩ ⟨?_, ?_, ?_, fun p hp => ?_⟩ (fun j hj => ⟨?_, ?_, ?_, fun p hp => ?_⟩)
    · rw [qc, f1, hR.2.1]
    · rw [qc, f2, hR.2.2.1]
    · rw [qc, f3, hR.2.2.2.1]
    · rw [qc, f4, p3]
    · rw [qc, f5, p4]
    · rw [qc, f6, p5]
    · rw [ql, f7 p hp, p6 p hp]
    · rw [p3]; exact ⟨_, p10, rfl⟩
    · rw [p4]; exact say_rg (s := (lv, nI m)) ⟨m, hm, rfl⟩ S.2.2.2.2.2.1
    · rw [p5]; exact hR_rg (by omega)
    · rw [p6 p hp]; exact ⟨_, hln p hp, rfl⟩
    · rw [(c2 j hj).1, b1 127 (by decide), q1 127 (by omega) (by unfold Sk; omega)]
    · rw [(c2 j hj).2.1, b1 128 (by decide), q1 128 (by omega) (by unfold Sk; omega)]
    · rw [(c2 j hj).2.2, b1 129 (by decide), q1 129 (by omega) (by unfold Sk; omega)]
    · rw [q3 130 (by omega) (by omega) (by omega) (by omega) (by unfold Sk; omega)]
  · rw [b71_0, s17_ok hn e1 hi]
    simp only [Option.toList, List.cons_append, List.nil_append]
    rw [b71_8 hc, s18_ok hw]
    simp only [Option.toList, List.cons_append, List.nil_append]
    rw [b71_17 hc, if_neg (by decide), hR.2.2.2.2.2.2.1, if_pos (show nI r < (9999 : Int32) from nI_lt (b := 9999) (by omega) (by decide)), S.2.2.2.2.2.2.2.2.2.2 _ _ _ _ _ rfl]
    simp only [Option.toList, List.cons_append, List.nil_append]
    rw [b71_48 hc S.1.inn, S.2.2.2.2.2.2.1, a3]
    simp only [Option.toList, List.cons_append, List.nil_append]
    rw [b71_51]
    unfold hB
    by_cases c : wiS T wd nb mm k t i kd v w lv < nI m
    · rw [if_pos c, if_pos rfl]
    · rw [if_neg c, if_neg (by decide)]
  · rw [b178_0, s145_ok hn (by rw [e124]; exact e4) hi]
    simp only [Option.toList, List.cons_append, List.nil_append]
    rw [b178_5, if_neg (by decide), s179_ok hw]
    simp only [Option.toList, List.cons_append, List.nil_append]
    rw [b178_13, if_neg (by decide), and_iff_right ix, hcl, hM1.2.2.2.2.1, if_neg (show ¬ nI r = 9999 from fun q => hfull ((nI_eq (b := 9999) (by omega) (by decide)).mp q)), b2, hM1.2.2.2.1]
    simp only [Option.toList, List.cons_append, List.nil_append]
    rw [b178_39]
    unfold hB
    by_cases c : wiS T wd nb mm k t i kd v w lv < nI m
    · have c' : mx0 (wiN (aQ i w kd v lv t) T wd nb mm k) < nI m := c
      rw [if_pos c, if_pos c', if_neg (by decide), c4]
      simp only [Option.toList, List.cons_append, List.nil_append]
      rw [b178_54]
    · have c' : ¬ mx0 (wiN (aQ i w kd v lv t) T wd nb mm k) < nI m := c
      rw [if_neg c, if_neg c', if_pos rfl, c4]
      simp only [Option.toList, List.cons_append, List.nil_append]
      rw [b178_54]
end CALLS
