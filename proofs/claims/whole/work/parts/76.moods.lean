/-! moods, can. -/
theorem b98_0N {X : Nat × (Nat → Int32)} {d : Nat} {I : Nat → Nat → Int32} {L : Nat → Nat → Int64} {Q : Option Value → XW → Prop} {x2 x3 : Int32} : wp X d m98 0 [some (.ref 0), some .null, some (.int x2), some (.int x3), none, none, none] [] (K0, R0, I, L) Q ↔ Q (some (.int (-1))) (K0, R0, I, L) := (w_aload_nN (pc' := 1) c98_0 rfl rfl).trans ((w_ifnullN c98_1).trans ((w_iconst (pc' := 14) (v := (-1)) c98_13 rfl rfl).trans (w_iret c98_14 rfl)))
/-- do rows from k on tell what g says -/
def fitN (g sw sl : Nat → Nat) : Nat → Nat → Bool
  | 0, _ => true
  | r + 1, k => if g (sw k) = sl k then fitN g sw sl r (k + 1) else false
/-- how many numbers fit, the least: those below 10, from 9 down -/
def fitF (f : Nat → Bool) (j : Nat) (s : Nat × Int32) : Nat × Int32 := if f (9 - j) = true then (s.1 + 1, nI (9 - j)) else s
theorem xj (j : Nat) (h : j < 10) : nI (10 - j) + (-1) = nI (9 - j) := by
  obtain ⟨e, he⟩ : ∃ e, 10 - j = e + 1 := ⟨9 - j, by omega⟩
  rw [he, nI_addn]
  congr 1
  omega
theorem Sit.row {I J : Nat → Nat → Int32} {t z k ro : Nat} {wd nb mm T : Nat → Nat} (h : Sit I t z k wd nb mm T) (hro : ro = 126 ∨ ro = 128) (g : ∀ k, k ≠ ro → J k = I k) : Sit J t z k wd nb mm T := by
  obtain ⟨h1, h2, h3, h4, h5, h6, h7, h8, h9, h10, h11⟩ := h
  have rz : ∀ k, z ≤ k ∧ k ≤ z + 3 → J k = I k := by
    intro k hk
    rcases h1 with rfl | ⟨i, hi, rfl⟩
    · exact g k (by omega)
    · exact g k (by omega)
  have r1 : J 1 = I 1 := g 1 (by omega)
  have r4 : J 124 = I 124 := g 124 (by omega)
  refine ⟨h1, h2.cg rz, h3.cong9 (by rw [r4]) (fun k a b => g k (by omega)), by rw [rz z (by omega)]; exact h4, by rw [rz z (by omega)]; exact h5, h6, by rw [r1]; exact h7, by rw [r4]; exact h8, h9, by rw [r4]; exact h10, fun X d K L Q e => h11 X d K L Q (by rw [e, r1])⟩
section FITS
variable {X : Nat × (Nat → Int32)} {d : Nat} {L : Nat → Nat → Int64}
/-- what is seen, read -/
def SeenV (I : Nat → Nat → Int32) (s : Nat) (sw sl : Nat → Nat) : Prop := s ≤ 5 ∧ I 3 2 = nI s ∧ I 124 31 = nI s ∧ ∀ k, k < s → I 4 k = nI (sw k) ∧ I 144 k = nI (sw k) ∧ sw k ≤ 3 ∧ I 5 k = nI (sl k) ∧ I 145 k = nI (sl k) ∧ sl k ≤ 4095
theorem seen_view {I : Nat → Nat → Int32} {n q : Nat} (h : NowI I n q) : ∃ s sw sl, SeenV I s sw sl := by
  obtain ⟨-, -, -, -, ⟨s, hs, s1, s2, s3⟩, -⟩ := h
  refine ⟨s, fun k => (I 144 k).toNatClampNeg, fun k => (I 145 k).toNatClampNeg, hs, s1, s2, fun k hk => ?_⟩
  obtain ⟨a1, a2, ⟨w, w1, w2⟩, u, u1, u2⟩ := s3 k hk
  have a1' : I 4 k = I 144 k := a1
  have a2' : I 5 k = I 145 k := a2
  have u2' : I 145 k = nI u := u2
  show I 4 k = nI (I 144 k).toNatClampNeg ∧ I 144 k = nI (I 144 k).toNatClampNeg ∧ (I 144 k).toNatClampNeg ≤ 3 ∧ I 5 k = nI (I 145 k).toNatClampNeg ∧ I 145 k = nI (I 145 k).toNatClampNeg ∧ (I 145 k).toNatClampNeg ≤ 4095
  rw [a1', a2', w2, u2', nI_clamp (by omega), nI_clamp (by omega)]
  exact ⟨rfl, rfl, w1, rfl, rfl, u1⟩
theorem SeenV.asked {I J : Nat → Nat → Int32} {s : Nat} {sw sl : Nat → Nat} (h : SeenV I s sw sl) (g : Asked I J) : SeenV J s sw sl := by
  unfold SeenV at h ⊢
  rw [g.1 3 (by decide) (by unfold Sk; omega), g.1 4 (by decide) (by unfold Sk; omega), g.1 5 (by decide) (by unfold Sk; omega), g.1 144 (by decide) (by unfold Sk; omega), g.1 145 (by decide) (by unfold Sk; omega), g.2 31 (by decide)]
  exact h
theorem SeenV.row {I J : Nat → Nat → Int32} {s ro : Nat} {sw sl : Nat → Nat} (h : SeenV I s sw sl) (hro : ro = 126 ∨ ro = 128) (g : ∀ k, k ≠ ro → J k = I k) : SeenV J s sw sl := by
  unfold SeenV at h ⊢
  rw [g 3 (by omega), g 4 (by omega), g 5 (by omega), g 144 (by omega), g 145 (by omega), g 124 (by omega)]
  exact h
theorem bI_c (b : Bool) : (bI b = 0) ↔ b = false := bI_0
/-- the class: does what is seen fit -/
theorem s99 {I : Nat → Nat → Int32} {t z k i kd v lv m r v' u f s : Nat} {md' x3 : Int32} {ln sw sl wd nb mm T : Nat → Nat} (S : Sit I t z k wd nb mm T) (V : SeenV I s sw sl) (hc : CupR I (12 + 2 * i) i kd v lv (nI m) (nI r) ln) (hn : ∀ p, p < 4 → ln p ≤ 9) (hf : (x3 = 0 ∧ f = 2) ∨ (x3 = 1 ∧ f = 4)) (hU : ∀ J, CupR J 72 i kd v lv (nI m) (nI r) ln → CupR (updR J 72 f (nI u)) 72 i kd v' lv md' (nI r) ln) : ∀ rem e (J : Nat → Nat → Int32), e + rem = s → Asked I J → ∃ K, Asked I K ∧ ∀ Q : Option Value → XW → Prop, wp X (d + 6) m99 3 [some (.ref 0), some (.ref (12 + 2 * i)), some (.int (nI u)), some (.int x3), some (.int (nI e))] [] (K0, R0, J, L) Q ↔ Q (some (.int (bI (fitN (fun w => (sayN (wiS T wd nb mm k t i kd v') (dnS kd t ln) (riS wd nb k) (faS wd nb k) w (lv, md')).1) sw sl rem e)))) (K0, R0, K, L) := by
  have hi : i < 5 := hc.2.2.2.2.2.2.2.2.1
  have hcK := hc.1
  intro rem
  induction rem with
  | zero =>
    intro e J he hJ
    refine ⟨J, hJ, fun Q => ?_⟩
    rw [b99_3 hcK, (V.asked hJ).2.1, if_neg (nI_nlt (by omega) (by have := V.1; omega))]
    exact Iff.rfl
  | succ rem ih =>
    intro e J he hJ
    have SJ := S.asked hJ
    have VJ := V.asked hJ
    have hs5 := V.1
    obtain ⟨J1, a1, a2, -, -, a5⟩ := s78 (L := L) cup_72 (hc.asked hi hJ) (by omega) (by omega) (by omega)
    have c2 := hU J1 a2
    have as2 : Asked I (updR J1 72 f (nI u)) := hJ.trans (asked_k (fun k hk => by rw [updR_row k (fun q => hk (by unfold Sk; omega))]; exact a1 k (fun q => hk (by unfold Sk; omega)) (fun q => hk (by unfold Sk; omega))))
    have S2 := S.asked as2
    have V2 := V.asked as2
    obtain ⟨w1, w2, w3, w4, w5, w6⟩ := V2.2.2.2 e (by omega)
    have hz72 : 72 ≠ z + 4 ∧ 72 ≠ z ∧ 72 + 1 ≠ z + 4 := by
      rcases S.1 with rfl | ⟨h, hh, rfl⟩ <;> omega
    have hk := S.1.sk
    obtain ⟨M, m1, m2, m3⟩ := hear_c (X := X) (d := d) (L := L) (s := (lv, md')) S2.1 S2.2.1 S2.2.2.2.1 S2.2.2.2.2.1 (show t ≤ 99999 by have := S.2.2.2.2.2.2.2.2.1; omega) c2 hz72.1 hz72.2.1 hz72.2.2 w3 hn
    have aM : Asked I M := as2.trans (asked_k (fun k h => m1 k (fun q => h (by rw [q]; exact hk)) (fun q => h (by unfold Sk; omega))))
    have VM := V.asked aM
    obtain ⟨y1, y2, y3, y4, y5, y6⟩ := VM.2.2.2 e (by omega)
    have gle : (sayN (wiS T wd nb mm k t i kd v') (dnS kd t ln) (riS wd nb k) (faS wd nb k) (sw e) (lv, md')).1 ≤ 4095 := hL_le (wi := wiS T wd nb mm k t i kd v' (sw e) lv) (md := md') hc.2.2.2.2.2.2.2.2.2.2.2 w3 hn
    have step : ∀ Q : Option Value → XW → Prop, wp X (d + 6) m99 3 [some (.ref 0), some (.ref (12 + 2 * i)), some (.int (nI u)), some (.int x3), some (.int (nI e))] [] (K0, R0, J, L) Q ↔ (if (sayN (wiS T wd nb mm k t i kd v') (dnS kd t ln) (riS wd nb k) (faS wd nb k) (sw e) (lv, md')).1 = sl e then wp X (d + 6) m99 3 [some (.ref 0), some (.ref (12 + 2 * i)), some (.int (nI u)), some (.int x3), some (.int (nI (e + 1)))] [] (K0, R0, M, L) Q else Q (some (.int 0)) (K0, R0, M, L)) := by
      intro Q
      have e26 : wp X (d + 6) m99 26 [some (.ref 0), some (.ref (12 + 2 * i)), some (.int (nI u)), some (.int x3), some (.int (nI e))] [] (K0, R0, J1, L) Q ↔ wp X (d + 5) m100 0 [some (.ref 3), some (.int (nI e))] [] (K0, R0, updR J1 72 f (nI u), L) (fun r w1 => wp X (d + 6) m99 65 [some (.ref 0), some (.ref (12 + 2 * i)), some (.int (nI u)), some (.int x3), some (.int (nI e))] (r.toList ++ [(.ref 72)]) w1 Q) := by
        rw [b99_26 hcK]
        rcases hf with ⟨rfl, rfl⟩ | ⟨rfl, rfl⟩
        · rw [if_pos rfl]
        · rw [if_neg (by decide)]
      rw [b99_3 hcK, VJ.2.1, if_pos (nI_lt (by omega) (by omega)), a5]
      simp only [Option.toList, List.cons_append, List.nil_append]
      rw [e26, s100_ok rows_3 (by decide) (by omega), show updR J1 72 f (nI u) (3 + 1) e = nI (sw e) from w1]
      simp only [Option.toList, List.cons_append, List.nil_append]
      rw [b99_65 hcK, S2.2.2.2.2.2.2.2.2.2.2 _ _ _ _ _ rfl]
      simp only [Option.toList, List.cons_append, List.nil_append]
      rw [b99_76 hcK S.1.inn, S2.2.2.2.2.2.2.1, m3]
      simp only [Option.toList, List.cons_append, List.nil_append]
      rw [b99_79 hcK, s101_ok rows_3 (by decide) (by omega), show M (3 + 2) e = nI (sl e) from y4, m2.2.2.2.2.1]
      simp only [Option.toList, List.cons_append, List.nil_append]
      rw [b99_99 hcK, nI_1]
      have g := nI_eq (a := (sayN (wiS T wd nb mm k t i kd v') (dnS kd t ln) (riS wd nb k) (faS wd nb k) (sw e) (lv, md')).1) (b := sl e) (by omega) (by omega)
      by_cases c : (sayN (wiS T wd nb mm k t i kd v') (dnS kd t ln) (riS wd nb k) (faS wd nb k) (sw e) (lv, md')).1 = sl e
      · rw [if_pos (g.mpr c), if_pos c]
      · rw [if_neg (fun z => c (g.mp z)), if_neg c]
    by_cases c : (sayN (wiS T wd nb mm k t i kd v') (dnS kd t ln) (riS wd nb k) (faS wd nb k) (sw e) (lv, md')).1 = sl e
    · obtain ⟨K, aK, hK⟩ := ih (e + 1) M (by omega) aM
      refine ⟨K, aK, fun Q => ?_⟩
      rw [step, if_pos c, hK]
      show _ ↔ Q (some (.int (bI (if (sayN (wiS T wd nb mm k t i kd v') (dnS kd t ln) (riS wd nb k) (faS wd nb k) (sw e) (lv, md')).1 = sl e then _ else false)))) (K0, R0, K, L)
      rw [if_pos c]
    · refine ⟨M, aM, fun Q => ?_⟩
      rw [step, if_neg c]
      show _ ↔ Q (some (.int (bI (if (sayN (wiS T wd nb mm k t i kd v') (dnS kd t ln) (riS wd nb k) (faS wd nb k) (sw e) (lv, md')).1 = sl e then _ else false)))) (K0, R0, M, L)
      rw [if_neg c]
      exact Iff.rfl
/-- the reference -/
theorem s206 {I : Nat → Nat → Int32} {t z k i kd lv r v' s : Nat} {md' : Int32} {ln sw sl wd nb mm T : Nat → Nat} (S : Sit I t z k wd nb mm T) (V : SeenV I s sw sl) (hc : CupM I i kd v' lv md' (nI r) ln) (hr : r ≤ 100000) (hn : ∀ p, p < 4 → ln p ≤ 9) : ∀ rem e (J : Nat → Nat → Int32), e + rem = s → Asked I J → ∃ K, Asked I K ∧ ∀ Q : Option Value → XW → Prop, wp X (d + 8) m206 2 [some (.ref 124), some (.int (nI i)), some (.int (nI e))] [] (K0, R0, J, L) Q ↔ Q (some (.int (bI (fitN (fun w => (sayN (wiS T wd nb mm k t i kd v') (dnS kd t ln) (riS wd nb k) (faS wd nb k) w (lv, md')).1) sw sl rem e)))) (K0, R0, K, L) := by
  intro rem
  induction rem with
  | zero =>
    intro e J he hJ
    refine ⟨J, hJ, fun Q => ?_⟩
    rw [b206_2, (V.asked hJ).2.2.1, if_neg (nI_nlt (by omega) (by have := V.1; omega))]
    exact Iff.rfl
  | succ rem ih =>
    intro e J he hJ
    have SJ := S.asked hJ
    have VJ := V.asked hJ
    have hs5 := V.1
    obtain ⟨w1, w2, w3, w4, w5, w6⟩ := VJ.2.2.2 e (by omega)
    have ix : inA (nI e) 5 = true := inA_nI (by omega) (by decide)
    have hcl : (nI e).toNatClampNeg = e := nI_clamp (by omega)
    obtain ⟨M, am, hM⟩ := s187N (X := X) (d := d) (L := L) (s := (lv, md')) SJ (hc.asked hJ) hr w3 hn
    have aM := hJ.trans (Asked.ak am)
    obtain ⟨y1, y2, y3, y4, y5, y6⟩ := (V.asked aM).2.2.2 e (by omega)
    have gle : (sayN (wiS T wd nb mm k t i kd v') (dnS kd t ln) (riS wd nb k) (faS wd nb k) (sw e) (lv, md')).1 ≤ 4095 := hL_le (wi := wiS T wd nb mm k t i kd v' (sw e) lv) (md := md') hc.2.2.2.2.2.2.2.2.2 w3 hn
    have step : ∀ Q : Option Value → XW → Prop, wp X (d + 8) m206 2 [some (.ref 124), some (.int (nI i)), some (.int (nI e))] [] (K0, R0, J, L) Q ↔ (if (sayN (wiS T wd nb mm k t i kd v') (dnS kd t ln) (riS wd nb k) (faS wd nb k) (sw e) (lv, md')).1 = sl e then wp X (d + 8) m206 2 [some (.ref 124), some (.int (nI i)), some (.int (nI (e + 1)))] [] (K0, R0, M, L) Q else Q (some (.int 0)) (K0, R0, M, L)) := by
      intro Q
      rw [b206_2, VJ.2.2.1, if_pos (nI_lt (by omega) (by omega)), and_iff_right ix, hcl, w2, hM]
      simp only [Option.toList, List.cons_append, List.nil_append]
      rw [b206_21, and_iff_right ix, hcl, y5, nI_1]
      have g := nI_eq (a := (sayN (wiS T wd nb mm k t i kd v') (dnS kd t ln) (riS wd nb k) (faS wd nb k) (sw e) (lv, md')).1) (b := sl e) (by omega) (by omega)
      by_cases c : (sayN (wiS T wd nb mm k t i kd v') (dnS kd t ln) (riS wd nb k) (faS wd nb k) (sw e) (lv, md')).1 = sl e
      · rw [if_pos (g.mpr c), if_pos c]
      · rw [if_neg (fun z => c (g.mp z)), if_neg c]
    by_cases c : (sayN (wiS T wd nb mm k t i kd v') (dnS kd t ln) (riS wd nb k) (faS wd nb k) (sw e) (lv, md')).1 = sl e
    · obtain ⟨K, aK, hK⟩ := ih (e + 1) M (by omega) aM
      refine ⟨K, aK, fun Q => ?_⟩
      rw [step, if_pos c, hK]
      show _ ↔ Q (some (.int (bI (if (sayN (wiS T wd nb mm k t i kd v') (dnS kd t ln) (riS wd nb k) (faS wd nb k) (sw e) (lv, md')).1 = sl e then _ else false)))) (K0, R0, K, L)
      rw [if_pos c]
    · refine ⟨M, aM, fun Q => ?_⟩
      rw [step, if_neg c]
      show _ ↔ Q (some (.int (bI (if (sayN (wiS T wd nb mm k t i kd v') (dnS kd t ln) (riS wd nb k) (faS wd nb k) (sw e) (lv, md')).1 = sl e then _ else false)))) (K0, R0, M, L)
      rw [if_neg c]
      exact Iff.rfl
end FITS
section CALLS
variable {X : Nat × (Nat → Int32)} {d : Nat}
theorem ok_moods {x1 x2 : Int32} : Ok X d m97 m205 [some (.ref 0), some (.int x1), some (.int x2)] [some (.ref 124), some (.int x1), some (.int x2), none, none, none, none] := by
  intro I L hI
  obtain ⟨n, t, z, k, wd, nb, mm, T, hN, hn, e1, e4, S⟩ := sit_view hI
  obtain ⟨s, sw, sl, V⟩ := seen_view hN
  rcases argC x1 hn with h | ⟨i, hi, rfl⟩
  · refine ⟨.int (-1), I, L, I, L, hI, fun Q => ?_, fun Q => ?_⟩
    · rw [b97_0, s17_no hn e1 h]
      simp only [Option.toList, List.cons_append, List.nil_append]
      rw [b97_9_1, b98_0N]
      simp only [Option.toList, List.cons_append, List.nil_append]
      rw [b97_14]
    · simp only [b205_0, s145_no hn e4 h, b205_5, if_true, Option.toList, List.cons_append, List.nil_append]
  have hc := cupK (i := i) (by omega)
  have hi5 : i < 5 := by omega
  have ix : inA (nI i) 5 = true := inA_nI hi5 (by decide)
  have hcl : (nI i).toNatClampNeg = i := nI_clamp (by omega)
  rcases num_cases x2 (n := 1) (by decide) with h | ⟨y, hy, rfl⟩
  · refine ⟨.int (-1), I, L, I, L, hI, fun Q => ?_, fun Q => ?_⟩
    · rw [b97_0, s17_ok hn e1 hi]
      simp only [Option.toList, List.cons_append, List.nil_append]
      rw [b97_9 hc, b98_0 hc]
      rcases h with h | h
      · rw [if_pos h]
        simp only [Option.toList, List.cons_append, List.nil_append]
        rw [b97_14]
      · rw [if_neg (nlt0 (n := 1) (by decide) h), if_pos (show (1 : Int32) < x2 from h)]
        simp only [Option.toList, List.cons_append, List.nil_append]
        rw [b97_14]
    · rw [b205_0, s145_ok hn e4 hi]
      simp only [Option.toList, List.cons_append, List.nil_append]
      rw [b205_5, if_neg (by decide), s142_no (show x2 < 0 ∨ 1 < x2 from h)]
      simp only [Option.toList, List.cons_append, List.nil_append]
      rw [b205_15, if_pos rfl]
  obtain ⟨kd, v, lv, m, r, ln, hR, hM, hm, hr, hln⟩ := cup_view hN hi
  have hU : ∀ u, u ≤ 9 → ∀ J, CupR J 72 i kd v lv (nI m) (nI r) ln → CupR (updR J 72 4 (nI u)) 72 i kd v lv (nI u) (nI r) ln := by
    intro u hu J hJ
    obtain ⟨c0, c1, c2, c3, c4, c5, c6, c7, c8, c9, c10, c11⟩ := hJ
    exact ⟨c0, by rw [updR_j (by decide)]; exact c1, by rw [updR_j (by decide)]; exact c2, by rw [updR_j (by decide)]; exact c3, by rw [updR_j (by decide)]; exact c4, by exact updR_same, by rw [updR_j (by decide)]; exact c6, fun p hp => by rw [updR_k (by decide)]; exact c7 p hp, c8, c9, by omega, c11⟩
  -- class
  obtain ⟨-, J, aJ, cJ⟩ := for_w (P := fun j (q : Nat × Int32) J (Q : Option Value → XW → Prop) => wp X (d + 99) m98 26 [some (.ref 0), some (.ref (12 + 2 * i)), some (.int (nI y)), some (.int 1), some (.int (nI q.1)), some (.int q.2), some (.int (nI (10 - j) + (-1)))] [] (K0, R0, J, L) Q) (F := fitF (fun u => fitN (fun w => (sayN (wiS T wd nb mm k t i kd v) (dnS kd t ln) (riS wd nb k) (faS wd nb k) w (lv, (nI u))).1) sw sl s 0)) (fun J => Asked I J) (fun _ => True) 10 (fun j q J hj _ hJ => by
    refine ⟨trivial, ?_⟩
    obtain ⟨K, aK, hK⟩ := s99 (X := X) (d := d + 92) (L := L) (u := 9 - j) (f := 4) (x3 := 1) (v' := v) (md' := (nI (9 - j))) S V hR hln (by exact Or.inr ⟨rfl, rfl⟩) (hU (9 - j) (by omega)) s 0 J (by omega) hJ
    refine ⟨K, aK, fun Q => ?_⟩
    rw [b98_26 hc, xj j hj, if_neg (nI_pos (by omega)), b99_0 hc]
    refine (hK _).trans ?_
    simp only [Option.toList, List.cons_append, List.nil_append]
    rw [b98_39 hc, nI_1]
    have e9 : nI (9 - j) + (-1) = nI (10 - (j + 1)) + (-1) := by rw [show 10 - (j + 1) = 9 - j by omega]
    rw [e9]
    unfold fitF
    by_cases c : fitN (fun w => (sayN (wiS T wd nb mm k t i kd v) (dnS kd t ln) (riS wd nb k) (faS wd nb k) w (lv, (nI (9 - j)))).1) sw sl s 0 = true
    · rw [if_neg (fun z => by rw [bI_0.mp z] at c; exact absurd c (by decide)), if_pos c]
    · rw [if_pos (bI_0.mpr (by simpa using c)), if_neg c]) (0, -5) I trivial Asked.rfl'
  -- reference
  have base : ∀ (u : Nat) (J : Nat → Nat → Int32), u ≤ 9 → Asked I (updR J 128 i (I 128 i)) → Sit (updR J 128 i (nI u)) t z k wd nb mm T ∧ SeenV (updR J 128 i (nI u)) s sw sl ∧ CupM (updR J 128 i (nI u)) i kd v lv (nI u) (nI r) ln := by
    intro u J hu hJ
    have eq : ∀ k, k ≠ 128 → updR J 128 i (nI u) k = updR J 128 i (I 128 i) k := fun k hk => by rw [updR_row k hk, updR_row k hk]
    have cM := hM.asked hJ
    obtain ⟨p1, p2, p3, p4, p5, p6, p7, p8, p9, p10⟩ := cM
    refine ⟨(S.asked hJ).row (Or.inr rfl) eq, (V.asked hJ).row (Or.inr rfl) eq, ?_, ?_, ?_, ?_, ?_, fun p hp => ?_, p7, p8, by omega, p10⟩
    · rw [eq 125 (by decide)]; exact p1
    · rw [eq 126 (by decide)]; exact p2
    · rw [eq 127 (by decide)]; exact p3
    · exact updR_same
    · rw [eq 129 (by decide)]; exact p5
    · rw [eq 130 (by decide)]; exact p6 p hp
  have back : ∀ (u : Nat) (J K : Nat → Nat → Int32), Asked I (updR J 128 i (I 128 i)) → Asked (updR J 128 i (nI u)) K → Asked I (updR K 128 i (I 128 i)) := by
    intro u J K hJ hK
    refine ⟨fun k k4 kS => ?_, fun j hj => ?_⟩
    · by_cases c : k = 128
      · subst c
        funext j
        by_cases q : j = i
        · subst q; rw [updR_same]
        · rw [updR_j q, hK.1 128 (by decide) kS, updR_j q]
          have := congrFun (hJ.1 128 (by decide) kS) j
          rw [updR_j q] at this
          exact this
      · have := hJ.1 k k4 kS
        rw [updR_row k c] at this
        rw [updR_row k c, hK.1 k k4 kS, updR_row k c]
        exact this
    · have := hJ.2 j hj
      rw [updR_k (by decide)] at this
      rw [updR_k (by decide), hK.2 j hj, updR_k (by decide)]
      exact this
  have a0 : Asked I (updR J 128 i (I 128 i)) := by
    refine ⟨fun k k4 kS => ?_, fun j hj => ?_⟩
    · by_cases c : k = 128
      · subst c
        funext j
        by_cases q : j = i
        · subst q; rw [updR_same]
        · rw [updR_j q, aJ.1 128 (by decide) kS]
      · rw [updR_row k c]; exact aJ.1 k k4 kS
    · rw [updR_k (by decide)]; exact aJ.2 j hj
  obtain ⟨-, K, aK, cK⟩ := for_w (P := fun j (q : Nat × Int32) J (Q : Option Value → XW → Prop) => wp X (d + 100) m205 38 [some (.ref 124), some (.int (nI i)), some (.int (nI y)), some (.int (I 128 i)), some (.int (nI q.1)), some (.int q.2), some (.int (nI (10 - j) + (-1)))] [] (K0, R0, J, L) Q) (F := fitF (fun u => fitN (fun w => (sayN (wiS T wd nb mm k t i kd v) (dnS kd t ln) (riS wd nb k) (faS wd nb k) w (lv, (nI u))).1) sw sl s 0)) (fun J => Asked I (updR J 128 i (I 128 i))) (fun _ => True) 10 (fun j q J hj _ hJ => by
    refine ⟨trivial, ?_⟩
    obtain ⟨b1, b2, b3⟩ := base (9 - j) J (by omega) hJ
    obtain ⟨K, aK, hK⟩ := s206 (X := X) (d := d + 91) (L := L) b1 b2 b3 (show r ≤ 100000 by omega) hln s 0 _ (by omega) Asked.rfl'
    refine ⟨K, back (9 - j) J K hJ aK, fun Q => ?_⟩
    rw [b205_38, xj j hj, if_neg (nI_pos (by omega)), and_iff_right ix, hcl, b206_0]
    refine (hK _).trans ?_
    simp only [Option.toList, List.cons_append, List.nil_append]
    rw [b205_56, nI_1]
    have e9 : nI (9 - j) + (-1) = nI (10 - (j + 1)) + (-1) := by rw [show 10 - (j + 1) = 9 - j by omega]
    rw [e9]
    unfold fitF
    by_cases c : fitN (fun w => (sayN (wiS T wd nb mm k t i kd v) (dnS kd t ln) (riS wd nb k) (faS wd nb k) w (lv, (nI (9 - j)))).1) sw sl s 0 = true
    · rw [if_neg (fun z => by rw [bI_0.mp z] at c; exact absurd c (by decide)), if_pos c]
    · rw [if_pos (bI_0.mpr (by simpa using c)), if_neg c]) (0, -5) J trivial a0
  refine ⟨.int (if nI y = 0 then nI (itr (fitF (fun u => fitN (fun w => (sayN (wiS T wd nb mm k t i kd v) (dnS kd t ln) (riS wd nb k) (faS wd nb k) w (lv, (nI u))).1) sw sl s 0)) 10 (0, -5)).1 else (itr (fitF (fun u => fitN (fun w => (sayN (wiS T wd nb mm k t i kd v) (dnS kd t ln) (riS wd nb k) (faS wd nb k) w (lv, (nI u))).1) sw sl s 0)) 10 (0, -5)).2), J, L, updR K 128 i (I 128 i), L, hI.asked aK, fun Q => ?_, fun Q => ?_⟩
  · rw [b97_0, s17_ok hn e1 hi]
    simp only [Option.toList, List.cons_append, List.nil_append]
    rw [b97_9 hc, b98_0 hc, if_neg (nI_pos (by omega)), if_neg (show ¬ (1 : Int32) < nI y from nI_nlt (a := 1) hy (by decide))]
    refine (cJ _).trans ?_
    rw [b98_26 hc, if_pos (show nI (10 - 10) + (-1) < 0 by decide)]
    simp only [Option.toList, List.cons_append, List.nil_append]
    rw [b97_14]
  · rw [b205_0, s145_ok hn ((aJ.2 0 (by decide)).trans e4) hi]
    simp only [Option.toList, List.cons_append, List.nil_append]
    rw [b205_5, if_neg (by decide)]
    refine (s142_nI (n := 1) hy (by decide)).trans ?_
    simp only [Option.toList, List.cons_append, List.nil_append]
    rw [b205_15, if_neg (by decide), and_iff_right ix, hcl, aJ.1 128 (by decide) (by unfold Sk; omega)]
    refine (cK Q).trans ?_
    rw [b205_38, if_pos (show nI (10 - 10) + (-1) < 0 by decide), and_iff_right ix, hcl]
end CALLS
section CALLS
variable {X : Nat × (Nat → Int32)} {d : Nat}
theorem ok_can {x1 x2 : Int32} : Ok X d m102 m207 [some (.ref 0), some (.int x1), some (.int x2)] [some (.ref 124), some (.int x1), some (.int x2), none, none, none, none] := by
  intro I L hI
  obtain ⟨n, t, z, k, wd, nb, mm, T, hN, hn, e1, e4, S⟩ := sit_view hI
  obtain ⟨s, sw, sl, V⟩ := seen_view hN
  rcases argC x1 hn with h | ⟨i, hi, rfl⟩
  · refine ⟨.int (-1), I, L, I, L, hI, fun Q => ?_, fun Q => ?_⟩
    · rw [b102_0, s17_no hn e1 h]
      simp only [Option.toList, List.cons_append, List.nil_append]
      rw [b102_9_1, b98_0N]
      simp only [Option.toList, List.cons_append, List.nil_append]
      rw [b102_14]
    · simp only [b207_0, s145_no hn e4 h, b207_5, if_true, Option.toList, List.cons_append, List.nil_append]
  have hc := cupK (i := i) (by omega)
  have hi5 : i < 5 := by omega
  have ix : inA (nI i) 5 = true := inA_nI hi5 (by decide)
  have hcl : (nI i).toNatClampNeg = i := nI_clamp (by omega)
  rcases num_cases x2 (n := 1) (by decide) with h | ⟨y, hy, rfl⟩
  · refine ⟨.int (-1), I, L, I, L, hI, fun Q => ?_, fun Q => ?_⟩
    · rw [b102_0, s17_ok hn e1 hi]
      simp only [Option.toList, List.cons_append, List.nil_append]
      rw [b102_9 hc, b98_0 hc]
      rcases h with h | h
      · rw [if_pos h]
        simp only [Option.toList, List.cons_append, List.nil_append]
        rw [b102_14]
      · rw [if_neg (nlt0 (n := 1) (by decide) h), if_pos (show (1 : Int32) < x2 from h)]
        simp only [Option.toList, List.cons_append, List.nil_append]
        rw [b102_14]
    · rw [b207_0, s145_ok hn e4 hi]
      simp only [Option.toList, List.cons_append, List.nil_append]
      rw [b207_5, if_neg (by decide), s142_no (show x2 < 0 ∨ 1 < x2 from h)]
      simp only [Option.toList, List.cons_append, List.nil_append]
      rw [b207_15, if_pos rfl]
  obtain ⟨kd, v, lv, m, r, ln, hR, hM, hm, hr, hln⟩ := cup_view hN hi
  have hU : ∀ u, u ≤ 9 → ∀ J, CupR J 72 i kd v lv (nI m) (nI r) ln → CupR (updR J 72 2 (nI u)) 72 i kd u lv (nI m) (nI r) ln := by
    intro u hu J hJ
    obtain ⟨c0, c1, c2, c3, c4, c5, c6, c7, c8, c9, c10, c11⟩ := hJ
    exact ⟨c0, by rw [updR_j (by decide)]; exact c1, by rw [updR_j (by decide)]; exact c2, by exact updR_same, by rw [updR_j (by decide)]; exact c4, by rw [updR_j (by decide)]; exact c5, by rw [updR_j (by decide)]; exact c6, fun p hp => by rw [updR_k (by decide)]; exact c7 p hp, c8, c9, by omega, c11⟩
  -- class
  obtain ⟨-, J, aJ, cJ⟩ := for_w (P := fun j (q : Nat × Int32) J (Q : Option Value → XW → Prop) => wp X (d + 99) m98 26 [some (.ref 0), some (.ref (12 + 2 * i)), some (.int (nI y)), some (.int 0), some (.int (nI q.1)), some (.int q.2), some (.int (nI (10 - j) + (-1)))] [] (K0, R0, J, L) Q) (F := fitF (fun u => fitN (fun w => (sayN (wiS T wd nb mm k t i kd u) (dnS kd t ln) (riS wd nb k) (faS wd nb k) w (lv, (nI m))).1) sw sl s 0)) (fun J => Asked I J) (fun _ => True) 10 (fun j q J hj _ hJ => by
    refine ⟨trivial, ?_⟩
    obtain ⟨K, aK, hK⟩ := s99 (X := X) (d := d + 92) (L := L) (u := 9 - j) (f := 2) (x3 := 0) (v' := (9 - j)) (md' := (nI m)) S V hR hln (by exact Or.inl ⟨rfl, rfl⟩) (hU (9 - j) (by omega)) s 0 J (by omega) hJ
    refine ⟨K, aK, fun Q => ?_⟩
    rw [b98_26 hc, xj j hj, if_neg (nI_pos (by omega)), b99_0 hc]
    refine (hK _).trans ?_
    simp only [Option.toList, List.cons_append, List.nil_append]
    rw [b98_39 hc, nI_1]
    have e9 : nI (9 - j) + (-1) = nI (10 - (j + 1)) + (-1) := by rw [show 10 - (j + 1) = 9 - j by omega]
    rw [e9]
    unfold fitF
    by_cases c : fitN (fun w => (sayN (wiS T wd nb mm k t i kd (9 - j)) (dnS kd t ln) (riS wd nb k) (faS wd nb k) w (lv, (nI m))).1) sw sl s 0 = true
    · rw [if_neg (fun z => by rw [bI_0.mp z] at c; exact absurd c (by decide)), if_pos c]
    · rw [if_pos (bI_0.mpr (by simpa using c)), if_neg c]) (0, -5) I trivial Asked.rfl'
  -- reference
  have base : ∀ (u : Nat) (J : Nat → Nat → Int32), u ≤ 9 → Asked I (updR J 126 i (I 126 i)) → Sit (updR J 126 i (nI u)) t z k wd nb mm T ∧ SeenV (updR J 126 i (nI u)) s sw sl ∧ CupM (updR J 126 i (nI u)) i kd u lv (nI m) (nI r) ln := by
    intro u J hu hJ
    have eq : ∀ k, k ≠ 126 → updR J 126 i (nI u) k = updR J 126 i (I 126 i) k := fun k hk => by rw [updR_row k hk, updR_row k hk]
    have cM := hM.asked hJ
    obtain ⟨p1, p2, p3, p4, p5, p6, p7, p8, p9, p10⟩ := cM
    refine ⟨(S.asked hJ).row (Or.inl rfl) eq, (V.asked hJ).row (Or.inl rfl) eq, ?_, ?_, ?_, ?_, ?_, fun p hp => ?_, p7, p8, by omega, p10⟩
    · rw [eq 125 (by decide)]; exact p1
    · exact updR_same
    · rw [eq 127 (by decide)]; exact p3
    · rw [eq 128 (by decide)]; exact p4
    · rw [eq 129 (by decide)]; exact p5
    · rw [eq 130 (by decide)]; exact p6 p hp
  have back : ∀ (u : Nat) (J K : Nat → Nat → Int32), Asked I (updR J 126 i (I 126 i)) → Asked (updR J 126 i (nI u)) K → Asked I (updR K 126 i (I 126 i)) := by
    intro u J K hJ hK
    refine ⟨fun k k4 kS => ?_, fun j hj => ?_⟩
    · by_cases c : k = 126
      · subst c
        funext j
        by_cases q : j = i
        · subst q; rw [updR_same]
        · rw [updR_j q, hK.1 126 (by decide) kS, updR_j q]
          have := congrFun (hJ.1 126 (by decide) kS) j
          rw [updR_j q] at this
          exact this
      · have := hJ.1 k k4 kS
        rw [updR_row k c] at this
        rw [updR_row k c, hK.1 k k4 kS, updR_row k c]
        exact this
    · have := hJ.2 j hj
      rw [updR_k (by decide)] at this
      rw [updR_k (by decide), hK.2 j hj, updR_k (by decide)]
      exact this
  have a0 : Asked I (updR J 126 i (I 126 i)) := by
    refine ⟨fun k k4 kS => ?_, fun j hj => ?_⟩
    · by_cases c : k = 126
      · subst c
        funext j
        by_cases q : j = i
        · subst q; rw [updR_same]
        · rw [updR_j q, aJ.1 126 (by decide) kS]
      · rw [updR_row k c]; exact aJ.1 k k4 kS
    · rw [updR_k (by decide)]; exact aJ.2 j hj
  obtain ⟨-, K, aK, cK⟩ := for_w (P := fun j (q : Nat × Int32) J (Q : Option Value → XW → Prop) => wp X (d + 100) m207 38 [some (.ref 124), some (.int (nI i)), some (.int (nI y)), some (.int (I 126 i)), some (.int (nI q.1)), some (.int q.2), some (.int (nI (10 - j) + (-1)))] [] (K0, R0, J, L) Q) (F := fitF (fun u => fitN (fun w => (sayN (wiS T wd nb mm k t i kd u) (dnS kd t ln) (riS wd nb k) (faS wd nb k) w (lv, (nI m))).1) sw sl s 0)) (fun J => Asked I (updR J 126 i (I 126 i))) (fun _ => True) 10 (fun j q J hj _ hJ => by
    refine ⟨trivial, ?_⟩
    obtain ⟨b1, b2, b3⟩ := base (9 - j) J (by omega) hJ
    obtain ⟨K, aK, hK⟩ := s206 (X := X) (d := d + 91) (L := L) b1 b2 b3 (show r ≤ 100000 by omega) hln s 0 _ (by omega) Asked.rfl'
    refine ⟨K, back (9 - j) J K hJ aK, fun Q => ?_⟩
    rw [b207_38, xj j hj, if_neg (nI_pos (by omega)), and_iff_right ix, hcl, b206_0]
    refine (hK _).trans ?_
    simp only [Option.toList, List.cons_append, List.nil_append]
    rw [b207_56, nI_1]
    have e9 : nI (9 - j) + (-1) = nI (10 - (j + 1)) + (-1) := by rw [show 10 - (j + 1) = 9 - j by omega]
    rw [e9]
    unfold fitF
    by_cases c : fitN (fun w => (sayN (wiS T wd nb mm k t i kd (9 - j)) (dnS kd t ln) (riS wd nb k) (faS wd nb k) w (lv, (nI m))).1) sw sl s 0 = true
    · rw [if_neg (fun z => by rw [bI_0.mp z] at c; exact absurd c (by decide)), if_pos c]
    · rw [if_pos (bI_0.mpr (by simpa using c)), if_neg c]) (0, -5) J trivial a0
  refine ⟨.int (if nI y = 0 then nI (itr (fitF (fun u => fitN (fun w => (sayN (wiS T wd nb mm k t i kd u) (dnS kd t ln) (riS wd nb k) (faS wd nb k) w (lv, (nI m))).1) sw sl s 0)) 10 (0, -5)).1 else (itr (fitF (fun u => fitN (fun w => (sayN (wiS T wd nb mm k t i kd u) (dnS kd t ln) (riS wd nb k) (faS wd nb k) w (lv, (nI m))).1) sw sl s 0)) 10 (0, -5)).2), J, L, updR K 126 i (I 126 i), L, hI.asked aK, fun Q => ?_, fun Q => ?_⟩
  · rw [b102_0, s17_ok hn e1 hi]
    simp only [Option.toList, List.cons_append, List.nil_append]
    rw [b102_9 hc, b98_0 hc, if_neg (nI_pos (by omega)), if_neg (show ¬ (1 : Int32) < nI y from nI_nlt (a := 1) hy (by decide))]
    refine (cJ _).trans ?_
    rw [b98_26 hc, if_pos (show nI (10 - 10) + (-1) < 0 by decide)]
    simp only [Option.toList, List.cons_append, List.nil_append]
    rw [b102_14]
  · rw [b207_0, s145_ok hn ((aJ.2 0 (by decide)).trans e4) hi]
    simp only [Option.toList, List.cons_append, List.nil_append]
    rw [b207_5, if_neg (by decide)]
    refine (s142_nI (n := 1) hy (by decide)).trans ?_
    simp only [Option.toList, List.cons_append, List.nil_append]
    rw [b207_15, if_neg (by decide), and_iff_right ix, hcl, aJ.1 126 (by decide) (by unfold Sk; omega)]
    refine (cK Q).trans ?_
    rw [b207_38, if_pos (show nI (10 - 10) + (-1) < 0 by decide), and_iff_right ix, hcl]
end CALLS
