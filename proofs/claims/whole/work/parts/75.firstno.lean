/-! firstNo, moods, can. -/
def fnN (ref : Nat × Int32 → Bool) (st : Nat × Int32 → Nat × Int32) : Nat → Nat → Nat × Int32 → Int32
  | 0, _, _ => -5
  | r + 1, k, s => if ref s = true then nI k else fnN ref st r (k + 1) (st s)
theorem mid_140 {I J J1 : Nat → Nat → Int32} (h : Mid I J) (g : ∀ k, k ≠ 140 → J1 k = J k) : Mid I J1 := by
  obtain ⟨m1, m2, m3, m4, m5, m6⟩ := h
  refine ⟨fun k k0 k1 k2 k3 k4 k5 k6 k7 => (g k k4).trans (m1 k k0 k1 k2 k3 k4 k5 k6 k7), ?_, ?_, ?_, ?_, ?_⟩
  · rw [g 141 (by decide), g 142 (by decide), g 143 (by decide)]; exact m2
  · rw [g 127 (by decide), g 128 (by decide), g 129 (by decide)]; exact m3
  · rw [g 124 (by decide)]; exact m4
  · rw [g 124 (by decide)]; exact m5
  · rw [g 124 (by decide)]; exact m6
section CALLS
variable {X : Nat × (Nat → Int32)} {d : Nat} {L : Nat → Nat → Int64}
theorem fn_c {I : Nat → Nat → Int32} {t z k i kd v w : Nat} {ln wd nb mm T : Nat → Nat} (S : Sit I t z k wd nb mm T) (hw : w ≤ 3) (hn : ∀ p, p < 4 → ln p ≤ 9) : ∀ rem e (s : Nat × Int32) (rf : Int32) (J : Nat → Nat → Int32), e + rem = 61 → 1 ≤ e → Asked I J → CupR J 72 i kd v s.1 s.2 rf ln → ∃ K, Asked I K ∧ ∀ Q : Option Value → XW → Prop, wp X (d + 6) m91 33 [some (.ref 0), none, some (.int (nI w)), none, some (.int (nI e))] [] (K0, R0, J, L) Q ↔ Q (some (.int (fnN (fun s => decide (wiS T wd nb mm k t i kd v w s.1 < s.2)) (sayN (wiS T wd nb mm k t i kd v) (dnS kd t ln) (riS wd nb k) (faS wd nb k) w) rem e s))) (K0, R0, K, L) := by
  intro rem
  induction rem with
  | zero =>
    intro e s rf J he h1 hJ hc
    refine ⟨J, hJ, fun Q => ?_⟩
    rw [b91_33, if_pos (show (60 : Int32) < nI e from nI_lt (a := 60) (by omega) (by omega))]
    exact Iff.rfl
  | succ rem ih =>
    intro e s rf J he h1 hJ hc
    have SJ := S.asked hJ
    have hz72 : 72 ≠ z + 4 ∧ 72 ≠ z ∧ 72 + 1 ≠ z + 4 := by
      rcases S.1 with rfl | ⟨h, hh, rfl⟩ <;> omega
    have hk := S.1.sk
    obtain ⟨M, m1, m2, m3⟩ := hear_c (X := X) (d := d) (L := L) SJ.1 SJ.2.1 SJ.2.2.2.1 SJ.2.2.2.2.1 (show t ≤ 99999 by have := S.2.2.2.2.2.2.2.2.1; omega) hc hz72.1 hz72.2.1 hz72.2.2 hw hn
    have aM : Asked I M := hJ.trans (asked_k (fun k h => m1 k (fun q => h (by rw [q]; exact hk)) (fun q => h (by unfold Sk; omega))))
    have step : ∀ Q : Option Value → XW → Prop, wp X (d + 6) m91 33 [some (.ref 0), none, some (.int (nI w)), none, some (.int (nI e))] [] (K0, R0, J, L) Q ↔ (if hB (wiS T wd nb mm k t i kd v w s.1) s.2 = 0 then Q (some (.int (nI e))) (K0, R0, M, L) else wp X (d + 6) m91 33 [some (.ref 0), none, some (.int (nI w)), none, some (.int (nI (e + 1)))] [] (K0, R0, M, L) Q) := by
      intro Q
      rw [b91_33, if_neg (show ¬ (60 : Int32) < nI e from nI_nlt (a := 60) (by omega) (by decide)), SJ.2.2.2.2.2.2.2.2.2.2 _ _ _ _ _ rfl]
      simp only [Option.toList, List.cons_append, List.nil_append]
      rw [b91_56 S.1.inn, SJ.2.2.2.2.2.2.1, m3]
      simp only [Option.toList, List.cons_append, List.nil_append]
      rw [b91_59, nI_1]
    by_cases c : wiS T wd nb mm k t i kd v w s.1 < s.2
    · refine ⟨M, aM, fun Q => ?_⟩
      rw [step]
      unfold hB fnN
      rw [if_pos c, if_pos rfl, if_pos (decide_eq_true c)]
    · obtain ⟨K, aK, hK⟩ := ih (e + 1) _ _ M (by omega) (by omega) aM m2
      refine ⟨K, aK, fun Q => ?_⟩
      rw [step, hK]
      unfold hB
      rw [if_neg c, if_neg (by decide)]
      show _ ↔ Q (some (.int (if decide (wiS T wd nb mm k t i kd v w s.1 < s.2) = true then nI e else _))) _
      rw [if_neg (fun q => c (of_decide_eq_true q))]
theorem fn_m {I : Nat → Nat → Int32} {t z k i kd v w : Nat} {ln wd nb mm T : Nat → Nat} (S : Sit I t z k wd nb mm T) (hw : w ≤ 3) (hn : ∀ p, p < 4 → ln p ≤ 9) : ∀ rem e (s : Nat × Int32) (r : Nat) (J : Nat → Nat → Int32), e + rem = 61 → 1 ≤ e → r + rem ≤ 20000 → Mid I J → J 124 1 = nI t → CupM J i kd v s.1 s.2 (nI r) ln → ∃ K, Mid I K ∧ ∀ Q : Option Value → XW → Prop, wp X (d + 7) m195 28 [some (.ref 124), some (.int (nI i)), some (.int (nI w)), some (.int (-5)), some (.int (nI e))] [] (K0, R0, J, L) Q ↔ wp X (d + 6) m189 0 [some (.ref 124), none] [] (K0, R0, K, L) (fun r w1 => wp X (d + 7) m195 72 [none, none, none, some (.int (fnN (fun s => decide (wiS T wd nb mm k t i kd v w s.1 < s.2)) (sayN (wiS T wd nb mm k t i kd v) (dnS kd t ln) (riS wd nb k) (faS wd nb k) w) rem e s)), none] (r.toList ++ []) w1 Q) := by
  intro rem
  induction rem with
  | zero =>
    intro e s r J he h1 hr hJ ht hc
    refine ⟨J, hJ, fun Q => ?_⟩
    rw [b195_28, if_neg (show ¬ nI e < (61 : Int32) from nI_nlt (b := 61) (by omega) (by omega))]
    exact Iff.rfl
  | succ rem ih =>
    intro e s r J he h1 hr hJ ht hc
    have htt := S.2.2.2.2.2.2.2.2.1
    have hH := S.2.2.1.mid hJ
    have hc5 := hc.2.2.2.2.2.2.1
    obtain ⟨M, m1, m2⟩ := s180 (X := X) (d := d + 1) (L := L) hH (hc.mf hw (show t < 2 ^ 31 by omega) ht)
    have midM := mid_140 hJ m1
    have hcM : CupM M i kd v s.1 s.2 (nI r) ln := hc.cong (m1 125 (by decide)) (m1 126 (by decide)) (m1 130 (by decide)) (by rw [m1 127 (by decide)]) (by rw [m1 128 (by decide)]) (by rw [m1 129 (by decide)])
    have htM : M 124 1 = nI t := by rw [m1 124 (by decide)]; exact ht
    obtain ⟨N, n1, n2, n3, n4⟩ := hear_m (X := X) (d := d) (L := L) (S.2.2.1.mid midM) htM (show t ≤ 99999 by omega) hcM hw hn (by rw [midM.2.2.2.2.2]; exact rf_ok (by omega))
    have midN := mid_say midM hc5 n1 n2
    have htN : N 124 1 = nI t := by rw [n1 124 (by decide) (by decide) (by decide) (by decide)]; exact htM
    have e61 : nI e < (61 : Int32) := nI_lt (b := 61) (by omega) (by decide)
    by_cases c : wiS T wd nb mm k t i kd v w s.1 < s.2
    · refine ⟨N, midN, fun Q => ?_⟩
      have c' : mx0 (wiN (aQ i w kd v s.1 t) T wd nb mm k) < s.2 := c
      rw [b195_28, if_pos e61, if_pos (by decide), m2, hc.2.2.2.1, if_pos c']
      simp only [Option.toList, List.cons_append, List.nil_append]
      rw [b195_45, if_neg (by decide), n4]
      simp only [Option.toList, List.cons_append, List.nil_append]
      rw [b195_62, nI_1, b195_28, if_neg (nI_pos (by omega))]
      unfold fnN
      rw [if_pos (decide_eq_true c)]
      by_cases q : nI (e + 1) < (61 : Int32)
      · rw [if_pos q]; exact Iff.rfl
      · rw [if_neg q]; exact Iff.rfl
    · have hrf : hR (wiS T wd nb mm k t i kd v w s.1) s.2 (nI r) = nI r := by unfold hR; rw [if_neg c]
      rw [hrf] at n3
      obtain ⟨K, aK, hK⟩ := ih (e + 1) _ r N (by omega) (by omega) (by omega) midN htN n3
      refine ⟨K, aK, fun Q => ?_⟩
      have c' : ¬ mx0 (wiN (aQ i w kd v s.1 t) T wd nb mm k) < s.2 := c
      rw [b195_28, if_pos e61, if_pos (by decide), m2, hc.2.2.2.1, if_neg c']
      simp only [Option.toList, List.cons_append, List.nil_append]
      rw [b195_45, if_pos rfl, n4]
      simp only [Option.toList, List.cons_append, List.nil_append]
      rw [b195_62, nI_1, hK]
      show _ ↔ wp X (d + 6) m189 0 [some (.ref 124), none] [] (K0, R0, K, L) (fun r w1 => wp X (d + 7) m195 72 [none, none, none, some (.int (if decide (wiS T wd nb mm k t i kd v w s.1 < s.2) = true then nI e else _)), none] (r.toList ++ []) w1 Q)
      rw [if_neg (fun q => c (of_decide_eq_true q))]
end CALLS
section CALLS
variable {X : Nat × (Nat → Int32)} {d : Nat}
theorem ok_firstNo {x1 x2 : Int32} : Ok X d m91 m195 [some (.ref 0), some (.int x1), some (.int x2), none, none] [some (.ref 124), some (.int x1), some (.int x2), none, none] := by
  intro I L hI
  obtain ⟨n, t, z, k, wd, nb, mm, T, hN, hn, e1, e4, S⟩ := sit_view hI
  rcases argC x1 hn with h | ⟨i, hi, rfl⟩
  · refine ⟨.int (-1), I, L, I, L, hI, fun Q => ?_, fun Q => ?_⟩
    · simp only [b91_0, s17_no hn e1 h, b91_8_1, Option.toList, List.cons_append, List.nil_append]
    · simp only [b195_0, s145_no hn e4 h, b195_5, if_true, Option.toList, List.cons_append, List.nil_append]
  have hc := cupK (i := i) (by omega)
  rcases num_cases x2 (n := 3) (by decide) with h | ⟨w, hw, rfl⟩
  · refine ⟨.int (-1), I, L, I, L, hI, fun Q => ?_, fun Q => ?_⟩
    · rw [b91_0, s17_ok hn e1 hi]
      simp only [Option.toList, List.cons_append, List.nil_append]
      rw [b91_8 hc, s18_no h]
      simp only [Option.toList, List.cons_append, List.nil_append]
      rw [b91_17 hc, if_pos rfl]
    · rw [b195_0, s145_ok hn e4 hi]
      simp only [Option.toList, List.cons_append, List.nil_append]
      rw [b195_5, if_neg (by decide), s179_no h]
      simp only [Option.toList, List.cons_append, List.nil_append]
      rw [b195_13, if_pos rfl]
  obtain ⟨kd, v, lv, m, r, ln, hR, hM, hm, hr, hln⟩ := cup_view hN hi
  obtain ⟨J1, a1, a2, -, -, a5⟩ := s78 (L := L) cup_72 hR (by omega) (by omega) (by omega)
  have as1 : Asked I J1 := asked_k (fun k hk => a1 k (fun q => hk (by unfold Sk; omega)) (fun q => hk (by unfold Sk; omega)))
  obtain ⟨J, aJ, hJ⟩ := fn_c (X := X) (d := d + 94) (L := L) S hw hln 60 1 (lv, nI m) (nI r) J1 rfl (by decide) as1 a2
  have SJ := S.asked aJ
  have hMJ := hM.asked aJ
  obtain ⟨mid, k7, k8, k9, kt⟩ := mid_keep J
  have k188 : ∀ Q : Option Value → XW → Prop, wp X (d + 99) m188 0 [some (.ref 124), none] [] (K0, R0, J, L) Q ↔ Q none (K0, R0, itr keF 5 (updR (updR J 124 26 2000000000) 124 27 (J 124 1)), L) := fun Q => s188
  generalize itr keF 5 (updR (updR J 124 26 2000000000) 124 27 (J 124 1)) = A at mid k7 k8 k9 kt k188
  have hcA : CupM A i kd v lv (nI m) (nI r) ln := hMJ.cong (mid.1 125 (by decide) (by decide) (by decide) (by decide) (by decide) (by decide) (by decide) (by decide)) (mid.1 126 (by decide) (by decide) (by decide) (by decide) (by decide) (by decide) (by decide) (by decide)) (mid.1 130 (by decide) (by decide) (by decide) (by decide) (by decide) (by decide) (by decide) (by decide)) (by rw [k7]) (by rw [k8]) (by rw [k9])
  obtain ⟨B, mB, hB'⟩ := fn_m (X := X) (d := d + 93) (L := L) SJ hw hln 60 1 (lv, nI m) r A rfl (by decide) (by omega) mid (kt.trans SJ.2.2.2.2.2.2.2.1) hcA
  refine ⟨.int (fnN (fun s => decide (wiS T wd nb mm k t i kd v w s.1 < s.2)) (sayN (wiS T wd nb mm k t i kd v) (dnS kd t ln) (riS wd nb k) (faS wd nb k) w) 60 1 (lv, nI m)), J, L, _, L, hI.asked (aJ.trans (Asked.ak (mid_back mB SJ.2.2.2.2.2.2.2.2.2.1))), fun Q => ?_, fun Q => ?_⟩
  · rw [b91_0, s17_ok hn e1 hi]
    simp only [Option.toList, List.cons_append, List.nil_append]
    rw [b91_8 hc, s18_ok hw]
    simp only [Option.toList, List.cons_append, List.nil_append]
    rw [b91_17 hc, if_neg (by decide), a5]
    simp only [Option.toList, List.cons_append, List.nil_append]
    rw [b91_30]
    exact hJ Q
  · rw [b195_0, s145_ok hn ((aJ.2 0 (by decide)).trans e4) hi]
    simp only [Option.toList, List.cons_append, List.nil_append]
    rw [b195_5, if_neg (by decide), s179_ok hw]
    simp only [Option.toList, List.cons_append, List.nil_append]
    rw [b195_13, if_neg (by decide), k188]
    simp only [Option.toList, List.cons_append, List.nil_append]
    rw [b195_22]
    refine (hB' Q).trans ?_
    rw [s189]
    simp only [Option.toList, List.cons_append, List.nil_append]
    rw [b195_72]
end CALLS
