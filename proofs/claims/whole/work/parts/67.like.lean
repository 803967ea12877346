/-! One table becomes like another: the class. -/
section LIKE
variable {X : Nat × (Nat → Int32)} {d : Nat} {I : Nat → Nat → Int32} {L : Nat → Nat → Int64}
/-- one cup becomes like another, whatever it is -/
theorem s78g {r0 r1 : Nat} (h0 : isCup r0) (h4 : isCup r1) (h1 : r1 ≠ r0) (h2 : r1 + 1 ≠ r0) : ∃ J, (∀ k, k ≠ r0 → k ≠ r0 + 1 → J k = I k) ∧ (∀ b, b < 6 → J r0 b = I r1 b) ∧ (∀ p, p < 4 → J (r0 + 1) p = I (r1 + 1) p) ∧ ∀ Q : Option Value → XW → Prop, wp X d m78 0 [some (.ref r0), some (.ref r1)] [] (K0, R0, I, L) Q ↔ Q none (K0, R0, J, L) := by
  have ne : ¬ r0 = r0 + 1 := by omega
  refine ⟨cpyR (updR (updR (updR (updR (updR (updR I r0 0 (I r1 0)) r0 1 (I r1 1)) r0 2 (I r1 2)) r0 3 (I r1 3)) r0 4 (I r1 4)) r0 5 (I r1 5)) (r1 + 1) 0 (r0 + 1) 0 4, fun k k1 k2 => ?_, fun b hb => ?_, fun p hp => ?_, fun Q => b78_0 h0 h4⟩
  · funext j
    unfold cpyR
    rw [if_neg (fun q => k2 q.1), updR_k k1, updR_k k1, updR_k k1, updR_k k1, updR_k k1, updR_k k1]
  · match b, hb with
    | 0, _ => simp [cpyR, updR]
    | 1, _ => simp [cpyR, updR]
    | 2, _ => simp [cpyR, updR]
    | 3, _ => simp [cpyR, updR]
    | 4, _ => simp [cpyR, updR]
    | 5, _ => simp [cpyR, updR]
    | k + 6, hb => omega
  · unfold cpyR
    rw [if_pos ⟨rfl, Nat.zero_le _, by omega⟩, updR_k h2, updR_k h2, updR_k h2, updR_k h2, updR_k h2, updR_k h2, Nat.sub_zero, Nat.zero_add]
def rwF (r0 r1 k : Nat) (J : Nat → Nat → Int32) : Nat → Nat → Int32 := updR (updR (updR J (r0 + 1) k (J (r1 + 1) k)) (r0 + 2) k (J (r1 + 2) k)) r0 2 (nI (k + 1))
theorem rw_facts {r0 r1 : Nat} (h : r1 + 2 < r0 ∨ r0 + 2 < r1) {J : Nat → Nat → Int32} : ∀ n, (∀ a, a ≠ r0 → a ≠ r0 + 1 → a ≠ r0 + 2 → itr (rwF r0 r1) n J a = J a) ∧ (∀ b, b ≠ 2 → itr (rwF r0 r1) n J r0 b = J r0 b) ∧ (0 < n → itr (rwF r0 r1) n J r0 2 = nI n) ∧ ∀ k, k < n → itr (rwF r0 r1) n J (r0 + 1) k = J (r1 + 1) k ∧ itr (rwF r0 r1) n J (r0 + 2) k = J (r1 + 2) k := by
  intro n
  induction n with
  | zero => exact ⟨fun _ _ _ _ => rfl, fun _ _ => rfl, fun h => absurd h (Nat.lt_irrefl _), fun k hk => absurd hk (Nat.not_lt_zero _)⟩
  | succ n ih =>
    have e : itr (rwF r0 r1) (n + 1) J = updR (updR (updR (itr (rwF r0 r1) n J) (r0 + 1) n (itr (rwF r0 r1) n J (r1 + 1) n)) (r0 + 2) n (itr (rwF r0 r1) n J (r1 + 2) n)) r0 2 (nI (n + 1)) := rfl
    rw [e, ih.1 (r1 + 1) (by omega) (by omega) (by omega), ih.1 (r1 + 2) (by omega) (by omega) (by omega)]
    refine ⟨fun a a1 a2 a3 => by rw [updR_row a a1, updR_row a a3, updR_row a a2]; exact ih.1 a a1 a2 a3, fun b hb => by rw [updR_j hb, updR_k (by omega), updR_k (by omega)]; exact ih.2.1 b hb, fun _ => updR_same, fun k hk => ?_⟩
    refine ⟨?_, ?_⟩
    · by_cases c : k = n
      · subst c; rw [updR_k (by omega), updR_k (by omega), updR_same]
      · rw [updR_k (by omega), updR_k (by omega), updR_j c]; exact (ih.2.2.2 k (by omega)).1
    · by_cases c : k = n
      · subst c; rw [updR_k (by omega), updR_same]
      · rw [updR_k (by omega), updR_j c, updR_k (by omega)]; exact (ih.2.2.2 k (by omega)).2
/-- rows become like others -/
theorem s111 {r0 r1 n s : Nat} (h0 : isRows r0 n) (h1 : isRows r1 n) (hd : r1 + 2 < r0 ∨ r0 + 2 < r1) (hn : n < 1000) (hs : I r1 2 = nI s) (hsn : s ≤ n) : ∃ J, (∀ a, a ≠ r0 → a ≠ r0 + 1 → a ≠ r0 + 2 → J a = I a) ∧ J r0 2 = nI s ∧ (∀ k, k < s → J (r0 + 1) k = I (r1 + 1) k ∧ J (r0 + 2) k = I (r1 + 2) k) ∧ ∀ Q : Option Value → XW → Prop, wp X (d + 1) m111 0 [some (.ref r0), some (.ref r1), none] [] (K0, R0, I, L) Q ↔ Q none (K0, R0, J, L) := by
  have f := @rw_facts r0 r1 hd (updR I r0 2 0)
  refine ⟨itr (rwF r0 r1) s (updR I r0 2 0), fun a a1 a2 a3 => ((f s).1 a a1 a2 a3).trans (updR_row a a1), ?_, fun k hk => ?_, fun Q => ?_⟩
  · match s with
    | 0 => exact updR_same
    | s + 1 => exact (f (s + 1)).2.2.1 (by omega)
  · obtain ⟨g1, g2⟩ := (f s).2.2.2 k hk
    rw [updR_k (by omega)] at g1 g2
    exact ⟨g1, g2⟩
  · rw [b111_0 h0 h1]
    refine (for_at (P := fun k (M : Nat → Nat → Int32) => wp X (d + 1) m111 7 [some (.ref r0), some (.ref r1), some (.int (nI k))] [] (K0, R0, M, L) Q) (F := rwF r0 r1) (updR I r0 2 0) s (fun k hk => ?_)).trans ?_
    · have g := f k
      have g1 : itr (rwF r0 r1) k (updR I r0 2 0) r1 2 = nI s := by rw [g.1 r1 (by omega) (by omega) (by omega), updR_k (by omega)]; exact hs
      have g2 : itr (rwF r0 r1) k (updR I r0 2 0) r0 2 = nI k := by
        match k with
        | 0 => exact updR_same
        | k + 1 => exact (f (k + 1)).2.2.1 (by omega)
      generalize itr (rwF r0 r1) k (updR I r0 2 0) = M at g1 g2
      rw [b111_7 h0 h1, g1, if_pos (nI_lt hk (by omega)), s100_ok h1 (by omega) (by omega)]
      simp only [Option.toList, List.cons_append, List.nil_append]
      rw [b111_21 h0 h1 h0, s101_ok h1 (by omega) (by omega)]
      simp only [Option.toList, List.cons_append, List.nil_append]
      rw [b111_26 h0 h1 h0, s96_ok h0 (by omega) g2 (by omega)]
      simp only [Option.toList, List.cons_append, List.nil_append]
      rw [b111_29 h0 h1, nI_1]
      exact Iff.rfl
    · have g1 : itr (rwF r0 r1) s (updR I r0 2 0) r1 2 = nI s := by rw [(f s).1 r1 (by omega) (by omega) (by omega), updR_k (by omega)]; exact hs
      rw [b111_7 h0 h1, g1, if_neg (nI_nlt (Nat.le_refl _) (by omega))]
/-- five cups, one by one -/
theorem cups_like {t0 t1 : Nat} (h0 : isTable t0) (h1 : isTable t1) (hd : t1 + 20 < t0 ∨ t0 + 20 < t1) : ∀ rem k (I : Nat → Nat → Int32), k + rem = 5 → ∃ J, (∀ a, (a < t0 + 11 ∨ t0 + 20 < a) → J a = I a) ∧ (∀ i, i < k → J (t0 + 11 + 2 * i) = I (t0 + 11 + 2 * i) ∧ J (t0 + 11 + 2 * i + 1) = I (t0 + 11 + 2 * i + 1)) ∧ (∀ i, k ≤ i → i < 5 → (∀ b, b < 6 → J (t0 + 11 + 2 * i) b = I (t1 + 11 + 2 * i) b) ∧ ∀ p, p < 4 → J (t0 + 11 + 2 * i + 1) p = I (t1 + 11 + 2 * i + 1) p) ∧ ∀ Q : Option Value → XW → Prop, wp X (d + 4) m110 2 [some (.ref t0), some (.ref t1), some (.int (nI k)), none, none] [] (K0, R0, I, L) Q ↔ wp X (d + 4) m110 2 [some (.ref t0), some (.ref t1), some (.int (nI 5)), none, none] [] (K0, R0, J, L) Q := by
  intro rem
  induction rem with
  | zero =>
    intro k I hk
    have e : k = 5 := by omega
    subst e
    exact ⟨I, fun _ _ => rfl, fun _ _ => ⟨rfl, rfl⟩, fun i h1 h2 => absurd h1 (by omega), fun Q => Iff.rfl⟩
  | succ rem ih =>
    intro k I hk
    have c0 := tcup h0 (i := k) (by omega)
    have c1 := tcup h1 (i := k) (by omega)
    obtain ⟨M, m1, m2, m3, m4⟩ := s78g (X := X) (d := d + 3) (I := I) (L := L) c0 c1 (by omega) (by omega)
    obtain ⟨J, j1, j2, j3, j4⟩ := ih (k + 1) M (by omega)
    refine ⟨J, fun a ha => (j1 a ha).trans (m1 a (by omega) (by omega)), fun i hi => ?_, fun i hi hi5 => ?_, fun Q => ?_⟩
    · obtain ⟨g1, g2⟩ := j2 i (by omega)
      exact ⟨g1.trans (m1 _ (by omega) (by omega)), g2.trans (m1 _ (by omega) (by omega))⟩
    · by_cases c : i = k
      · subst c
        obtain ⟨g1, g2⟩ := j2 i (by omega)
        rw [g1, g2]
        exact ⟨m2, m3⟩
      · obtain ⟨g1, g2⟩ := j3 i (by omega) hi5
        refine ⟨fun b hb => (g1 b hb).trans (by rw [m1 _ (by omega) (by omega)]), fun p hp => (g2 p hp).trans (by rw [m1 _ (by omega) (by omega)])⟩
    · rw [b110_2 h0 h1, if_pos (show nI k < (5 : Int32) from nI_lt (b := 5) (by omega) (by decide)), b13_0 h0, if_neg (nI_pos (by omega)), if_pos (show nI k < (5 : Int32) from nI_lt (b := 5) (by omega) (by decide)), and_iff_right (inA_nI (by omega) (by decide)), nI_clamp (by omega)]
      simp only [Option.toList, List.cons_append, List.nil_append]
      rw [b110_12 h0 h1 c0, b13_0 h1, if_neg (nI_pos (by omega)), if_pos (show nI k < (5 : Int32) from nI_lt (b := 5) (by omega) (by decide)), and_iff_right (inA_nI (by omega) (by decide)), nI_clamp (by omega)]
      simp only [Option.toList, List.cons_append, List.nil_append]
      rw [b110_18 h0 h1 c0 c1, m4]
      simp only [Option.toList, List.cons_append, List.nil_append]
      rw [b110_35 h0 h1, nI_1]
      exact j4 Q
/-- a whole table -/
theorem s110 {t0 t1 x y z : Nat} (h0 : isTable t0) (h1 : isTable t1) (hd : t1 + 20 < t0 ∨ t0 + 20 < t1) (hx : I (t1 + 2) 2 = nI x) (hx5 : x ≤ 5) (hy : I (t1 + 5) 2 = nI y) (hy10 : y ≤ 10) (hz : I (t1 + 8) 2 = nI z) (hz8 : z ≤ 8) : ∃ J, (∀ a, (a < t0 ∨ t0 + 20 < a) → J a = I a) ∧ (J t0 1 = I t1 1 ∧ J t0 2 = I t1 2 ∧ J t0 3 = I t1 3) ∧ (∀ i, i < 5 → (∀ b, b < 6 → J (t0 + 11 + 2 * i) b = I (t1 + 11 + 2 * i) b) ∧ ∀ p, p < 4 → J (t0 + 11 + 2 * i + 1) p = I (t1 + 11 + 2 * i + 1) p) ∧ (J (t0 + 2) 2 = nI x ∧ ∀ k, k < x → J (t0 + 2 + 1) k = I (t1 + 2 + 1) k ∧ J (t0 + 2 + 2) k = I (t1 + 2 + 2) k) ∧ (J (t0 + 5) 2 = nI y ∧ ∀ k, k < y → J (t0 + 5 + 1) k = I (t1 + 5 + 1) k ∧ J (t0 + 5 + 2) k = I (t1 + 5 + 2) k) ∧ (J (t0 + 8) 2 = nI z ∧ ∀ k, k < z → J (t0 + 8 + 1) k = I (t1 + 8 + 1) k ∧ J (t0 + 8 + 2) k = I (t1 + 8 + 2) k) ∧ ∀ Q : Option Value → XW → Prop, wp X (d + 4) m110 0 [some (.ref t0), some (.ref t1), none, none, none] [] (K0, R0, I, L) Q ↔ Q none (K0, R0, J, L) := by
  obtain ⟨M, m1, m2, m3, m4⟩ := cups_like (X := X) (d := d) (L := L) h0 h1 hd 5 0 I rfl
  have q : ∀ a, (a < t0 ∨ t0 + 20 < a) → updR (updR (updR M t0 1 (M t1 1)) t0 2 (M t1 2)) t0 3 (M t1 3) a = I a := fun a ha => by rw [updR_row a (by omega), updR_row a (by omega), updR_row a (by omega)]; exact m1 a (by omega)
  have qc : ∀ a, a ≠ t0 → updR (updR (updR M t0 1 (M t1 1)) t0 2 (M t1 2)) t0 3 (M t1 3) a = M a := fun a ha => by rw [updR_row a ha, updR_row a ha, updR_row a ha]
  have qt : updR (updR (updR M t0 1 (M t1 1)) t0 2 (M t1 2)) t0 3 (M t1 3) t0 1 = I t1 1 ∧ updR (updR (updR M t0 1 (M t1 1)) t0 2 (M t1 2)) t0 3 (M t1 3) t0 2 = I t1 2 ∧ updR (updR (updR M t0 1 (M t1 1)) t0 2 (M t1 2)) t0 3 (M t1 3) t0 3 = I t1 3 := by
    rw [← m1 t1 (by omega)]
    exact ⟨by rw [updR_j (by decide), updR_j (by decide), updR_same], by rw [updR_j (by decide), updR_same], updR_same⟩
  have k110 : ∀ Q : Option Value → XW → Prop, wp X (d + 4) m110 0 [some (.ref t0), some (.ref t1), none, none, none] [] (K0, R0, I, L) Q ↔ wp X (d + 3) m111 0 [some (.ref (t0 + 2)), some (.ref (t1 + 2)), none] [] (K0, R0, updR (updR (updR M t0 1 (M t1 1)) t0 2 (M t1 2)) t0 3 (M t1 3), L) (fun r w1 => wp X (d + 4) m110 76 [some (.ref t0), some (.ref t1), none, none, none] (r.toList ++ []) w1 Q) := by
    intro Q
    rw [b110_0 h0 h1]
    refine (m4 Q).trans ?_
    have e5 : ¬ nI 5 < (5 : Int32) := by decide
    rw [b110_2 h0 h1, if_neg e5]
  generalize updR (updR (updR M t0 1 (M t1 1)) t0 2 (M t1 2)) t0 3 (M t1 3) = A at q qc qt k110
  have r2a : isRows (t0 + 2) 5 := h0.2.2.2.2.2.2.1
  have r2b : isRows (t1 + 2) 5 := h1.2.2.2.2.2.2.1
  have r5a : isRows (t0 + 5) 10 := h0.2.2.2.2.2.2.2.1
  have r5b : isRows (t1 + 5) 10 := h1.2.2.2.2.2.2.2.1
  have r8a : isRows (t0 + 8) 8 := h0.2.2.2.2.2.2.2.2.1
  have r8b : isRows (t1 + 8) 8 := h1.2.2.2.2.2.2.2.2.1
  obtain ⟨B, b1, b2, b3, b4⟩ := s111 (X := X) (d := d + 2) (I := A) (L := L) r2a r2b (by omega) (by decide) (s := x) (by rw [q _ (by omega)]; exact hx) hx5
  obtain ⟨C, c1, c2, c3, c4⟩ := s111 (X := X) (d := d + 2) (I := B) (L := L) r5a r5b (by omega) (by decide) (s := y) (by rw [b1 _ (by omega) (by omega) (by omega), q _ (by omega)]; exact hy) hy10
  obtain ⟨D, d1, d2, d3, d4⟩ := s111 (X := X) (d := d + 2) (I := C) (L := L) r8a r8b (by omega) (by decide) (s := z) (by rw [c1 _ (by omega) (by omega) (by omega), b1 _ (by omega) (by omega) (by omega), q _ (by omega)]; exact hz) hz8
  have dA : ∀ a, (a < t0 + 2 ∨ t0 + 10 < a) → D a = A a := fun a ha => (d1 a (by omega) (by omega) (by omega)).trans ((c1 a (by omega) (by omega) (by omega)).trans (b1 a (by omega) (by omega) (by omega)))
  refine ⟨D, fun a ha => (dA a (by omega)).trans (q a ha), ?_, fun i hi => ?_, ⟨?_, fun k hk => ?_⟩, ⟨?_, fun k hk => ?_⟩, ⟨d2, fun k hk => ?_⟩, fun Q => ?_⟩
  · rw [dA t0 (by omega)]; exact qt
  · obtain ⟨g1, g2⟩ := m3 i (Nat.zero_le _) hi
    rw [dA _ (by omega), dA _ (by omega), qc _ (by omega), qc _ (by omega)]
    exact ⟨g1, g2⟩
  · rw [d1 _ (by omega) (by omega) (by omega), c1 _ (by omega) (by omega) (by omega)]; exact b2
  · obtain ⟨g1, g2⟩ := b3 k hk
    rw [q _ (by omega)] at g1 g2
    rw [d1 _ (by omega) (by omega) (by omega), c1 _ (by omega) (by omega) (by omega), d1 _ (by omega) (by omega) (by omega), c1 _ (by omega) (by omega) (by omega)]
    exact ⟨g1, g2⟩
  · rw [d1 _ (by omega) (by omega) (by omega)]; exact c2
  · obtain ⟨g1, g2⟩ := c3 k hk
    rw [b1 _ (by omega) (by omega) (by omega), q _ (by omega)] at g1 g2
    rw [d1 _ (by omega) (by omega) (by omega), d1 _ (by omega) (by omega) (by omega)]
    exact ⟨g1, g2⟩
  · obtain ⟨g1, g2⟩ := d3 k hk
    rw [c1 _ (by omega) (by omega) (by omega), b1 _ (by omega) (by omega) (by omega), q _ (by omega)] at g1 g2
    exact ⟨g1, g2⟩
  · rw [k110, b4]
    simp only [Option.toList, List.cons_append, List.nil_append]
    rw [b110_76 h0 h1, c4]
    simp only [Option.toList, List.cons_append, List.nil_append]
    rw [b110_87 h0 h1, d4]
    simp only [Option.toList, List.cons_append, List.nil_append]
    rw [b110_98]
end LIKE
