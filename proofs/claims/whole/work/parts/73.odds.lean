/-! Loops in which the world changes; odds, mean. -/
theorem for_w {σ Ω : Type} {P : Nat → σ → (Nat → Nat → Int32) → Ω → Prop} {F : Nat → σ → σ} (A : (Nat → Nat → Int32) → Prop) (R : σ → Prop) (N : Nat) (h : ∀ k s J, k < N → R s → A J → R (F k s) ∧ ∃ J', A J' ∧ ∀ Q, P k s J Q ↔ P (k + 1) (F k s) J' Q) : ∀ s J, R s → A J → R (itr F N s) ∧ ∃ J', A J' ∧ ∀ Q, P 0 s J Q ↔ P N (itr F N s) J' Q := by
  induction N with
  | zero => intro s J hs hJ; exact ⟨hs, J, hJ, fun Q => Iff.rfl⟩
  | succ N ih =>
    intro s J hs hJ
    obtain ⟨a, J1, b, c⟩ := ih (fun k s J hk => h k s J (by omega)) s J hs hJ
    obtain ⟨a2, J2, b2, c2⟩ := h N _ J1 (by omega) a b
    exact ⟨a2, J2, b2, fun Q => (c Q).trans (c2 Q)⟩
def cdN (a b : Nat) : Nat := itr (fun e g => if a % (e + 2) = 0 then (if b % (e + 2) = 0 then e + 2 else g) else g) (b - 1) 1
theorem cd_gcd : ∀ b, b < 6 → ∀ a, a < 61 → 0 < b → cdN a b = Nat.gcd b a ∧ 0 < cdN a b := by decide +kernel
section FRAC
variable {X : Nat × (Nat → Int32)} {d : Nat} {I : Nat → Nat → Int32} {L : Nat → Nat → Int64} {Q : Option Value → XW → Prop}
theorem s106 {a b : Nat} (ha : a ≤ 60) (hb : b ≤ 5) (h0 : 0 < b) : wp X d m106 0 [some (.int (nI a)), some (.int (nI b)), none, none] [] (K0, R0, I, L) Q ↔ Q (some (.int (nI (cdN a b)))) (K0, R0, I, L) := by
  rw [b106_0]
  refine (for_iff (P := fun k (g : Nat) => wp X d m106 4 [some (.int (nI a)), some (.int (nI b)), some (.int (nI g)), some (.int (nI (k + 2)))] [] (K0, R0, I, L) Q) (F := fun e g => if a % (e + 2) = 0 then (if b % (e + 2) = 0 then e + 2 else g) else g) (b - 1) (fun k g hk => ?_) 1).trans ?_
  · have ne : ¬ nI (k + 2) = 0 := nI_ne0 (by omega) (by omega)
    have ra : nI a - nI a / nI (k + 2) * nI (k + 2) = nI (a % (k + 2)) := nI_rem (by omega) (by omega)
    have rb : nI b - nI b / nI (k + 2) * nI (k + 2) = nI (b % (k + 2)) := nI_rem (by omega) (by omega)
    have la := Nat.mod_lt a (show k + 2 > 0 by omega)
    have lb := Nat.mod_lt b (show k + 2 > 0 by omega)
    have ea : (nI (a % (k + 2)) = 0) ↔ a % (k + 2) = 0 := nI_eq (b := 0) (by omega) (by decide)
    have eb : (nI (b % (k + 2)) = 0) ↔ b % (k + 2) = 0 := nI_eq (b := 0) (by omega) (by decide)
    rw [b106_4, if_neg (nI_nlt (by omega) (by omega)), and_iff_right ne, and_iff_right ne, ra, rb, nI_1]
    by_cases c : a % (k + 2) = 0
    · rw [if_pos (ea.mpr c), if_pos c]
      by_cases c2 : b % (k + 2) = 0
      · rw [if_pos (eb.mpr c2), if_pos c2]
      · rw [if_neg (fun q => c2 (eb.mp q)), if_neg c2]
    · rw [if_neg (fun q => c (ea.mp q)), if_neg c]
  · rw [b106_4, if_pos (nI_lt (by omega) (by omega))]
    exact Iff.rfl
theorem s210 : ∀ n q p, q ≤ n → q < 2 ^ 31 → p < 2 ^ 31 → (wp X d m210 5 [none, none, none, some (.int (nI p)), some (.int (nI q)), none] [] (K0, R0, I, L) Q ↔ Q (some (.int (nI (Nat.gcd q p)))) (K0, R0, I, L)) := by
  intro n
  induction n with
  | zero =>
    intro q p hq h1 h2
    have e : q = 0 := by omega
    subst e
    rw [b210_5, if_pos (show nI 0 = 0 by decide), Nat.gcd_zero_left]
  | succ n ih =>
    intro q p hq h1 h2
    by_cases c : q = 0
    · subst c
      rw [b210_5, if_pos (show nI 0 = 0 by decide), Nat.gcd_zero_left]
    · have ne : ¬ nI q = 0 := nI_ne0 (by omega) h1
      have lt := Nat.mod_lt p (show q > 0 by omega)
      rw [b210_5, if_neg ne, and_iff_right ne, nI_rem h2 h1, ih (p % q) q (by omega) (by omega) h1, ← Nat.gcd_rec]
/-- a fraction's part, in lowest terms -/
def frI (a b : Nat) (part : Int32) : Int64 := if part = 0 then (nI a / nI (cdN a b)).toInt64 else (nI b / nI (cdN a b)).toInt64
theorem s105 {a b : Nat} {part : Int32} (ha : a ≤ 60) (hb : b ≤ 5) (h0 : 0 < b) : wp X (d + 1) m105 0 [some (.int (nI a)), some (.int (nI b)), some (.int part), none] [] (K0, R0, I, L) Q ↔ Q (some (.long (frI a b part))) (K0, R0, I, L) := by
  obtain ⟨g1, g2⟩ := cd_gcd b (by omega) a (by omega) h0
  have hl : cdN a b < 2 ^ 31 := by
    rw [g1]
    exact Nat.lt_of_le_of_lt (Nat.gcd_le_left a h0) (by omega)
  have ne : ¬ nI (cdN a b) = 0 := nI_ne0 g2 hl
  rw [b105_0, s106 ha hb h0]
  simp only [Option.toList, List.cons_append, List.nil_append]
  rw [b105_5, b3_0, if_neg (show ¬ nI (cdN a b) < 1 from nI_nlt (b := 1) g2 hl)]
  simp only [Option.toList, List.cons_append, List.nil_append]
  rw [b105_9, and_iff_right ne, and_iff_right ne]
  unfold frI
  by_cases c : part = 0
  · rw [if_pos c, if_pos c]
  · rw [if_neg c, if_neg c]
theorem s209 {a b : Nat} {part : Int32} (ha : a ≤ 60) (hb : b ≤ 5) (h0 : 0 < b) : wp X (d + 1) m209 0 [some (.ref 124), some (.int (nI a)), some (.int (nI b)), some (.int part), none] [] (K0, R0, I, L) Q ↔ Q (some (.long (frI a b part))) (K0, R0, I, L) := by
  obtain ⟨g1, g2⟩ := cd_gcd b (by omega) a (by omega) h0
  have hl : cdN a b < 2 ^ 31 := by
    rw [g1]
    exact Nat.lt_of_le_of_lt (Nat.gcd_le_left a h0) (by omega)
  have ne : ¬ nI (cdN a b) = 0 := nI_ne0 g2 hl
  rw [b209_0, b210_0, s210 b b a (Nat.le_refl _) (by omega) (by omega), ← g1]
  simp only [Option.toList, List.cons_append, List.nil_append]
  rw [b209_6, and_iff_right ne, and_iff_right ne]
  unfold frI
  by_cases c : part = 0
  · rw [if_pos c, if_pos c]
  · rw [if_neg c, if_neg c]
end FRAC
section CALLS
variable {X : Nat × (Nat → Int32)} {d : Nat}
theorem ok_mean {x1 : Int32} : Ok X d m107 m211 [some (.ref 0), some (.int x1), none, none, none] [some (.ref 124), some (.int x1), none, none] := by
  intro I L hI
  obtain ⟨n, t, z, k, wd, nb, mm, T, hN, hn, e1, e4, S⟩ := sit_view hI
  have hv := lv_view hN hn
  rcases num_cases x1 (n := 1) (by decide) with h | ⟨u, hu, rfl⟩
  · have n0 : ¬ x1 = 0 := fun q => by subst q; rcases h with h | h <;> exact absurd h (by decide)
    have n1 : ¬ x1 = 1 := fun q => by subst q; rcases h with h | h <;> exact absurd h (by decide)
    refine ⟨.long (-9223372036854775808), I, L, I, L, hI, fun Q => ?_, fun Q => ?_⟩
    · rw [b107_0, b104_0, if_neg n0, if_neg n1]
      simp only [Option.toList, List.cons_append, List.nil_append]
      rw [b107_4, if_pos rfl]
    · rw [b211_0, s142_no (show x1 < 0 ∨ 1 < x1 from h)]
      simp only [Option.toList, List.cons_append, List.nil_append]
      rw [b211_7, if_pos rfl]
  have p1 : (if nI u = 0 then (1 : Int32) else if nI u = 1 then 1 else 0) = 1 := by
    match u, hu with
    | 0, _ => rfl
    | 1, _ => rfl
    | u + 2, hu => omega
  by_cases h0 : n = 0
  · subst h0
    refine ⟨.long (-9223372036854775808), I, L, I, L, hI, fun Q => ?_, fun Q => ?_⟩
    · rw [b107_0, b104_0, p1]
      simp only [Option.toList, List.cons_append, List.nil_append]
      rw [b107_4, if_neg (by decide), e1, if_neg (by decide)]
    · rw [b211_0]
      refine (s142_nI (n := 1) hu (by decide)).trans ?_
      simp only [Option.toList, List.cons_append, List.nil_append]
      rw [b211_7, if_neg (by decide), e4, if_pos (by decide)]
  have sum_le : ∀ m, m ≤ n → itr (fun i x => x + pop (lvF I i)) m 0 ≤ 12 * m := by
    intro m
    induction m with
    | zero => intro _; exact Nat.le_refl _
    | succ m ih =>
      intro hm
      have a := ih (by omega)
      have b := (pop_ok (hv m (by omega)).2.2).1
      show itr (fun i x => x + pop (lvF I i)) m 0 + pop (lvF I m) ≤ 12 * (m + 1)
      omega
  have hsum := sum_le n (Nat.le_refl _)
  refine ⟨.long (frI (itr (fun i x => x + pop (lvF I i)) n 0) n (nI u)), I, L, I, L, hI, fun Q => ?_, fun Q => ?_⟩
  · rw [b107_0, b104_0, p1]
    simp only [Option.toList, List.cons_append, List.nil_append]
    rw [b107_4, if_neg (by decide), e1, if_pos (show (0 : Int32) < nI n from nI_lt (a := 0) (by omega) (by omega))]
    refine (for_iff (P := fun i (x : Nat) => wp X (d + 100) m107 25 [some (.ref 0), some (.int (nI u)), some (.int (nI x)), some (.int (nI i)), none] [] (K0, R0, I, L) Q) (F := fun i x => x + pop (lvF I i)) n (fun i x hi => ?_) 0).trans ?_
    · obtain ⟨v1, v2, v3⟩ := hv i hi
      have v1' : I (12 + 2 * i) 3 = nI (lvF I i) := v1
      rw [b107_25, e1, if_pos (nI_lt hi (by omega)), s17_ok hn e1 hi]
      simp only [Option.toList, List.cons_append, List.nil_append]
      rw [b107_44 (cupK (by omega)), v1', s22, (pop_ok v3).2.2]
      simp only [Option.toList, List.cons_append, List.nil_append]
      rw [b107_60, nI_add, nI_1]
    · rw [b107_25, e1, if_neg (nI_nlt (Nat.le_refl _) (by omega)), s105 (by omega) hn (by omega)]
      simp only [Option.toList, List.cons_append, List.nil_append]
      rw [b107_80]
  · rw [b211_0]
    refine (s142_nI (n := 1) hu (by decide)).trans ?_
    simp only [Option.toList, List.cons_append, List.nil_append]
    rw [b211_7, if_neg (by decide), e4, if_neg (show ¬ nI n = 0 from nI_ne0 (by omega) (by omega))]
    refine (for_iff (P := fun i (x : Nat) => wp X (d + 100) m211 25 [some (.ref 124), some (.int (nI u)), some (.int (nI x)), some (.int (nI i))] [] (K0, R0, I, L) Q) (F := fun i x => x + pop (lvF I i)) n (fun i x hi => ?_) 0).trans ?_
    · obtain ⟨v1, v2, v3⟩ := hv i hi
      rw [b211_25, e4, if_pos (nI_lt hi (by omega)), and_iff_right (inA_nI (by omega) (by decide)), nI_clamp (by omega), v2, s169, (pop_ok v3).2.1]
      simp only [Option.toList, List.cons_append, List.nil_append]
      rw [b211_44, nI_add, nI_1]
    · rw [b211_25, e4, if_neg (nI_nlt (Nat.le_refl _) (by omega)), s209 (by omega) hn (by omega)]
      simp only [Option.toList, List.cons_append, List.nil_append]
      rw [b211_62]
theorem ok_odds {x1 x2 x3 : Int32} : Ok X d m103 m208 [some (.ref 0), some (.int x1), some (.int x2), some (.int x3), none, none, none] [some (.ref 124), some (.int x1), some (.int x2), some (.int x3), none, none] := by
  intro I L hI
  obtain ⟨n, t, z, k, wd, nb, mm, T, hN, hn, e1, e4, S⟩ := sit_view hI
  rcases argC x1 hn with h | ⟨i, hi, rfl⟩
  · refine ⟨.long (-9223372036854775808), I, L, I, L, hI, fun Q => ?_, fun Q => ?_⟩
    · simp only [b103_0, s17_no hn e1 h, b103_8_1, Option.toList, List.cons_append, List.nil_append]
    · simp only [b208_0, s145_no hn e4 h, b208_5, if_true, Option.toList, List.cons_append, List.nil_append]
  have hc := cupK (i := i) (by omega)
  rcases num_cases x2 (n := 12) (by decide) with h | ⟨q, hq, rfl⟩
  · refine ⟨.long (-9223372036854775808), I, L, I, L, hI, fun Q => ?_, fun Q => ?_⟩
    · rw [b103_0, s17_ok hn e1 hi]
      simp only [Option.toList, List.cons_append, List.nil_append]
      rw [b103_8 hc]
      rcases h with h | h
      · rw [if_pos h]
      · rw [if_neg (nlt0 (n := 12) (by decide) h), if_pos (show (12 : Int32) < x2 from h)]
    · rw [b208_0, s145_ok hn e4 hi]
      simp only [Option.toList, List.cons_append, List.nil_append]
      rw [b208_5, if_neg (by decide), s142_no (show x2 < 0 ∨ 12 < x2 from h)]
      simp only [Option.toList, List.cons_append, List.nil_append]
      rw [b208_16, if_pos rfl]
  have q0 : ¬ nI q < 0 := nI_pos (by omega)
  have q12 : ¬ (12 : Int32) < nI q := nI_nlt (a := 12) hq (by decide)
  rcases num_cases x3 (n := 1) (by decide) with h | ⟨u, hu, rfl⟩
  · have n0 : ¬ x3 = 0 := fun q => by subst q; rcases h with h | h <;> exact absurd h (by decide)
    have n1 : ¬ x3 = 1 := fun q => by subst q; rcases h with h | h <;> exact absurd h (by decide)
    refine ⟨.long (-9223372036854775808), I, L, I, L, hI, fun Q => ?_, fun Q => ?_⟩
    · rw [b103_0, s17_ok hn e1 hi]
      simp only [Option.toList, List.cons_append, List.nil_append]
      rw [b103_8 hc, if_neg q0, if_neg q12, b104_0, if_neg n0, if_neg n1]
      simp only [Option.toList, List.cons_append, List.nil_append]
      rw [b103_29 hc, if_pos rfl]
    · rw [b208_0, s145_ok hn e4 hi]
      simp only [Option.toList, List.cons_append, List.nil_append]
      rw [b208_5, if_neg (by decide)]
      refine (s142_nI (n := 12) hq (by decide)).trans ?_
      simp only [Option.toList, List.cons_append, List.nil_append]
      rw [b208_16, if_neg (by decide), s142_no (show x3 < 0 ∨ 1 < x3 from h)]
      simp only [Option.toList, List.cons_append, List.nil_append]
      rw [b208_26, if_pos rfl]
  have p1 : (if nI u = 0 then (1 : Int32) else if nI u = 1 then 1 else 0) = 1 := by
    match u, hu with
    | 0, _ => rfl
    | 1, _ => rfl
    | u + 2, hu => omega
  obtain ⟨kd, v, lv, m, r, ln, hR, hM, hm, hr, hln⟩ := cup_view hN hi
  have le : ∀ w, w ≤ 3 → (sayN (wiS T wd nb mm k t i kd v) (dnS kd t ln) (riS wd nb k) (faS wd nb k) w (lv, nI m)).1 ≤ 4095 := fun w hw => hL_le (wi := wiS T wd nb mm k t i kd v w lv) (md := nI m) hM.2.2.2.2.2.2.2.2.2 hw hln
  -- class
  obtain ⟨-, J, aJ, cJ⟩ := for_w (P := fun w (x : Nat) J (Q : Option Value → XW → Prop) => wp X (d + 100) m103 42 [some (.ref 0), none, some (.int (nI q)), some (.int (nI u)), some (.ref (12 + 2 * i)), some (.int (nI x)), some (.int (nI w))] [] (K0, R0, J, L) Q) (F := fun w x => if pop (sayN (wiS T wd nb mm k t i kd v) (dnS kd t ln) (riS wd nb k) (faS wd nb k) w (lv, nI m)).1 < q then x else x + 1) (fun J => Asked I J) (fun _ => True) 4 (fun w x J hw _ hJ => by
    refine ⟨trivial, ?_⟩
    obtain ⟨K, ak, ck, hK⟩ := s77 (X := X) (d := d + 93) (L := L) (s := (lv, nI m)) (S.asked hJ) (hR.asked (by omega) hJ) (show w ≤ 3 by omega) hln
    refine ⟨K, hJ.trans ak, fun Q => ?_⟩
    have hp := pop_ok (le w (by omega))
    rw [b103_42 hc, if_pos (show nI w < (4 : Int32) from nI_lt (b := 4) hw (by decide)), hK]
    simp only [Option.toList, List.cons_append, List.nil_append]
    rw [b103_56 hc, ck.2.2.2.2.1, s22, hp.2.2]
    simp only [Option.toList, List.cons_append, List.nil_append]
    rw [b103_67 hc, nI_1, nI_1]
    have g := nI_ltI (a := pop (sayN (wiS T wd nb mm k t i kd v) (dnS kd t ln) (riS wd nb k) (faS wd nb k) w (lv, nI m)).1) (b := q) (by omega) (by omega)
    by_cases c : pop (sayN (wiS T wd nb mm k t i kd v) (dnS kd t ln) (riS wd nb k) (faS wd nb k) w (lv, nI m)).1 < q
    · rw [if_pos (g.mpr c), if_pos c]
    · rw [if_neg (fun z => c (g.mp z)), if_neg c]) 0 I trivial Asked.rfl'
  -- reference
  obtain ⟨-, K, aK, cK⟩ := for_w (P := fun w (x : Nat) J (Q : Option Value → XW → Prop) => wp X (d + 100) m208 39 [some (.ref 124), some (.int (nI i)), some (.int (nI q)), some (.int (nI u)), some (.int (nI x)), some (.int (nI w))] [] (K0, R0, J, L) Q) (F := fun w x => if pop (sayN (wiS T wd nb mm k t i kd v) (dnS kd t ln) (riS wd nb k) (faS wd nb k) w (lv, nI m)).1 < q then x else x + 1) (fun J => Asked I J) (fun _ => True) 4 (fun w x J hw _ hJ => by
    refine ⟨trivial, ?_⟩
    obtain ⟨K, ak, hK⟩ := s187N (X := X) (d := d + 92) (L := L) (s := (lv, nI m)) (S.asked hJ) (hM.asked hJ) (show r ≤ 100000 by omega) (show w ≤ 3 by omega) hln
    refine ⟨K, hJ.trans (Asked.ak ak), fun Q => ?_⟩
    have hp := pop_ok (le w (by omega))
    rw [b208_39, if_pos (show nI w < (4 : Int32) from nI_lt (b := 4) hw (by decide)), hK]
    simp only [Option.toList, List.cons_append, List.nil_append]
    rw [b208_55, s169, hp.2.1]
    simp only [Option.toList, List.cons_append, List.nil_append]
    rw [b208_58, nI_1, nI_1, Int32.add_zero]
    have g := nI_ltI (a := pop (sayN (wiS T wd nb mm k t i kd v) (dnS kd t ln) (riS wd nb k) (faS wd nb k) w (lv, nI m)).1) (b := q) (by omega) (by omega)
    by_cases c : pop (sayN (wiS T wd nb mm k t i kd v) (dnS kd t ln) (riS wd nb k) (faS wd nb k) w (lv, nI m)).1 < q
    · rw [if_pos (g.mpr c), if_pos c]
    · rw [if_neg (fun z => c (g.mp z)), if_neg c]) 0 J trivial aJ
  have cnt : ∀ N, itr (fun w x => if pop (sayN (wiS T wd nb mm k t i kd v) (dnS kd t ln) (riS wd nb k) (faS wd nb k) w (lv, nI m)).1 < q then x else x + 1) N 0 ≤ N := by
    intro N
    induction N with
    | zero => exact Nat.le_refl _
    | succ N ih =>
      show (if pop (sayN (wiS T wd nb mm k t i kd v) (dnS kd t ln) (riS wd nb k) (faS wd nb k) N (lv, nI m)).1 < q then _ else _) ≤ N + 1
      split <;> omega
  have c4 := cnt 4
  refine ⟨.long (frI (itr (fun w x => if pop (sayN (wiS T wd nb mm k t i kd v) (dnS kd t ln) (riS wd nb k) (faS wd nb k) w (lv, nI m)).1 < q then x else x + 1) 4 0) 4 (nI u)), J, L, K, L, hI.asked aK, fun Q => ?_, fun Q => ?_⟩
  · rw [b103_0, s17_ok hn e1 hi]
    simp only [Option.toList, List.cons_append, List.nil_append]
    rw [b103_8 hc, if_neg q0, if_neg q12, b104_0, p1]
    simp only [Option.toList, List.cons_append, List.nil_append]
    rw [b103_29 hc, if_neg (by decide)]
    refine (cJ Q).trans ?_
    rw [b103_42 hc, if_neg (show ¬ nI 4 < (4 : Int32) by decide)]
    refine (s105 (b := 4) (by omega) (by decide) (by decide)).trans ?_
    simp only [Option.toList, List.cons_append, List.nil_append]
    rw [b103_87]
  · rw [b208_0, s145_ok hn ((aJ.2 0 (by decide)).trans e4) hi]
    simp only [Option.toList, List.cons_append, List.nil_append]
    rw [b208_5, if_neg (by decide)]
    refine (s142_nI (n := 12) hq (by decide)).trans ?_
    simp only [Option.toList, List.cons_append, List.nil_append]
    rw [b208_16, if_neg (by decide)]
    refine (s142_nI (n := 1) hu (by decide)).trans ?_
    simp only [Option.toList, List.cons_append, List.nil_append]
    rw [b208_26, if_neg (by decide)]
    refine (cK Q).trans ?_
    rw [b208_39, if_neg (show ¬ nI 4 < (4 : Int32) by decide)]
    refine (s209 (b := 4) (by omega) (by decide) (by decide)).trans ?_
    simp only [Option.toList, List.cons_append, List.nil_append]
    rw [b208_84]
end CALLS
