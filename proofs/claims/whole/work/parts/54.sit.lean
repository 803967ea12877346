/-! One saying, in short: (leaves, mood) before and behind; the class's trial cup. -/
def sayN (wi : Nat → Nat → Int32) (dn : Nat → Nat → Nat) (ri fa : Int32) (w : Nat) (s : Nat × Int32) : Nat × Int32 := (if wi w s.1 < s.2 then s.1 else dn w s.1, if wi w s.1 < s.2 then riseI s.2 ri else fallI s.2 fa)
def wiS (T wd nb mm : Nat → Nat) (k t num kd v w lv : Nat) : Int32 := wiC T wd nb mm k t num w kd v lv
def dnS (kd t : Nat) (ln : Nat → Nat) (w lv : Nat) : Nat := doneN kd lv w t (ln (t % 4))
def riS (wd nb : Nat → Nat) (k : Nat) : Int32 := nI (laN wd nb 2 k 2)
def faS (wd nb : Nat → Nat) (k : Nat) : Int32 := nI (laN wd nb 3 k 1)
/-- how things stand for what is said: nights, the inn that holds -/
def Sit (I : Nat → Nat → Int32) (t z k : Nat) (wd nb mm T : Nat → Nat) : Prop := isQ z ∧ InnC I z k wd nb mm T ∧ Hd I k wd nb mm T ∧ I z 0 = riS wd nb k ∧ I z 1 = faS wd nb k ∧ (∀ c, nb c ≤ 99) ∧ I 1 2 = nI t ∧ I 124 1 = nI t ∧ t ≤ 9999 ∧ I 124 26 = 9999 ∧ ∀ (X : Nat × (Nat → Int32)) (d : Nat) (J : Nat → Nat → Int32) (L : Nat → Nat → Int64) (Q : Option Value → XW → Prop), J 1 3 = I 1 3 → (wp X d m19 0 [some (.ref 0), none] [] (K0, R0, J, L) Q ↔ Q (some (.ref z)) (K0, R0, J, L))
theorem sit_view {I : Nat → Nat → Int32} {L : Nat → Nat → Int64} (h : Inv I L) : ∃ (n t z k : Nat) (wd nb mm T : Nat → Nat), NowI I n t ∧ n ≤ 5 ∧ I 1 1 = nI n ∧ I 124 0 = nI n ∧ Sit I t z k wd nb mm T := by
  obtain ⟨n, q, n', q', c, h1, h2, h3, h4, h5, h6, h7, h8, h9, h10⟩ := h
  obtain ⟨z, k, wd, nb, mm, T, g1, g2, g3, g4, g5, g6, g7⟩ := inn_view h1 h3 h6 h10
  have a := h1.1
  exact ⟨n, q, z, k, wd, nb, mm, T, h1, a.1, a.2.2.1, a.2.2.2.1, g1, g2, g3, g4, g5, g6, a.2.2.2.2.1, a.2.2.2.2.2.1, a.2.1, h10.1, g7⟩
theorem Sit.asked {I J : Nat → Nat → Int32} {t z k : Nat} {wd nb mm T : Nat → Nat} (h : Sit I t z k wd nb mm T) (g : Asked I J) : Sit J t z k wd nb mm T := by
  obtain ⟨h1, h2, h3, h4, h5, h6, h7, h8, h9, h10, h11⟩ := h
  have r : ∀ k, k ≠ 124 → ¬ Sk k → J k = I k := g.1
  have rz : ∀ k, z ≤ k ∧ k ≤ z + 3 → J k = I k := by
    intro k hk
    rcases h1 with rfl | ⟨i, hi, rfl⟩
    · exact r k (by omega) (by unfold Sk; omega)
    · exact r k (by omega) (by unfold Sk; omega)
  have r1 : J 1 = I 1 := r 1 (by decide) (by unfold Sk; omega)
  refine ⟨h1, h2.cg rz, h3.cong9 (g.2 9 (by decide)) (fun k a b => r k (by omega) (by unfold Sk; omega)), by rw [rz z (by omega)]; exact h4, by rw [rz z (by omega)]; exact h5, h6, by rw [r1]; exact h7, (g.2 1 (by decide)).trans h8, h9, (g.2 26 (by decide)).trans h10, fun X d K L Q e => h11 X d K L Q (by rw [e, r1])⟩
theorem CupM.asked {I J : Nat → Nat → Int32} {ci kd v lv : Nat} {md rf : Int32} {ln : Nat → Nat} (h : CupM I ci kd v lv md rf ln) (g : Asked I J) : CupM J ci kd v lv md rf ln := by
  have r : ∀ k, k ≠ 124 → ¬ Sk k → J k = I k := g.1
  refine h.cong (r 125 (by decide) (by unfold Sk; omega)) (r 126 (by decide) (by unfold Sk; omega)) (r 130 (by decide) (by unfold Sk; omega)) ?_ ?_ ?_
  · rw [r 127 (by decide) (by unfold Sk; omega)]
  · rw [r 128 (by decide) (by unfold Sk; omega)]
  · rw [r 129 (by decide) (by unfold Sk; omega)]
theorem CupR.cong {I J : Nat → Nat → Int32} {r num kd v lv : Nat} {md rf : Int32} {ln : Nat → Nat} (h : CupR I r num kd v lv md rf ln) (e : J r = I r) (e1 : J (r + 1) = I (r + 1)) : CupR J r num kd v lv md rf ln := by
  unfold CupR at h ⊢
  rw [e, e1]
  exact h
theorem CupR.asked {I J : Nat → Nat → Int32} {i num kd v lv : Nat} {md rf : Int32} {ln : Nat → Nat} (h : CupR I (12 + 2 * i) num kd v lv md rf ln) (hi : i < 5) (g : Asked I J) : CupR J (12 + 2 * i) num kd v lv md rf ln := h.cong (g.1 _ (by omega) (by unfold Sk; omega)) (g.1 _ (by omega) (by unfold Sk; omega))
/-- one cup becomes like another -/
theorem s78 {I : Nat → Nat → Int32} {L : Nat → Nat → Int64} {r0 r1 num kd v lv : Nat} {md rf : Int32} {ln : Nat → Nat} (h0 : isCup r0) (hc : CupR I r1 num kd v lv md rf ln) (h1 : r1 ≠ r0) (h2 : r1 + 1 ≠ r0) (h3 : r1 ≠ r0 + 1) : ∃ J, (∀ k, k ≠ r0 → k ≠ r0 + 1 → J k = I k) ∧ CupR J r0 num kd v lv md rf ln ∧ (∀ b, b < 6 → J r0 b = I r1 b) ∧ (∀ p, p < 4 → J (r0 + 1) p = I (r1 + 1) p) ∧ ∀ (X : Nat × (Nat → Int32)) (d : Nat) (Q : Option Value → XW → Prop), wp X d m78 0 [some (.ref r0), some (.ref r1)] [] (K0, R0, I, L) Q ↔ Q none (K0, R0, J, L) := by
  have hJ : ∀ (X : Nat × (Nat → Int32)) (d : Nat) (Q : Option Value → XW → Prop), _ := fun X d Q => b78_0 (X := X) (d := d) (I := I) (L := L) (Q := Q) h0 hc.1
  have ne : ¬ r0 = r0 + 1 := by omega
  have ne2 : ¬ r0 + 1 = r0 := by omega
  have a : ∀ b, b < 6 → cpyR (updR (updR (updR (updR (updR (updR I r0 0 (I r1 0)) r0 1 (I r1 1)) r0 2 (I r1 2)) r0 3 (I r1 3)) r0 4 (I r1 4)) r0 5 (I r1 5)) (r1 + 1) 0 (r0 + 1) 0 4 r0 b = I r1 b := by
    intro b hb
    match b, hb with
    | 0, _ => simp [cpyR, updR]
    | 1, _ => simp [cpyR, updR]
    | 2, _ => simp [cpyR, updR]
    | 3, _ => simp [cpyR, updR]
    | 4, _ => simp [cpyR, updR]
    | 5, _ => simp [cpyR, updR]
    | k + 6, hb => omega
  have b : ∀ p, p < 4 → cpyR (updR (updR (updR (updR (updR (updR I r0 0 (I r1 0)) r0 1 (I r1 1)) r0 2 (I r1 2)) r0 3 (I r1 3)) r0 4 (I r1 4)) r0 5 (I r1 5)) (r1 + 1) 0 (r0 + 1) 0 4 (r0 + 1) p = I (r1 + 1) p := by
    intro p hp
    unfold cpyR
    rw [if_pos ⟨rfl, Nat.zero_le _, by omega⟩, updR_k h2, updR_k h2, updR_k h2, updR_k h2, updR_k h2, updR_k h2, Nat.sub_zero, Nat.zero_add]
  refine ⟨cpyR (updR (updR (updR (updR (updR (updR I r0 0 (I r1 0)) r0 1 (I r1 1)) r0 2 (I r1 2)) r0 3 (I r1 3)) r0 4 (I r1 4)) r0 5 (I r1 5)) (r1 + 1) 0 (r0 + 1) 0 4, fun k k1 k2 => ?_, ?_, a, b, hJ⟩
  · funext j
    unfold cpyR
    rw [if_neg (fun q => k2 q.1), updR_k k1, updR_k k1, updR_k k1, updR_k k1, updR_k k1, updR_k k1]
  · obtain ⟨c0, c1, c2, c3, c4, c5, c6, c7, c8, c9, c10, c11⟩ := hc
    exact ⟨h0, (a 0 (by decide)).trans c1, (a 1 (by decide)).trans c2, (a 2 (by decide)).trans c3, (a 3 (by decide)).trans c4, (a 4 (by decide)).trans c5, (a 5 (by decide)).trans c6, fun p hp => (b p hp).trans (c7 p hp), c8, c9, c10, c11⟩
section HEAR
variable {X : Nat × (Nat → Int32)} {d : Nat} {I : Nat → Nat → Int32} {L : Nat → Nat → Int64}
/-- the class's cup hears -/
theorem hear_c {t z k r num kd v w : Nat} {s : Nat × Int32} {rf : Int32} {ln wd nb mm T : Nat → Nat} (hz : isQ z) (hI : InnC I z k wd nb mm T) (e0 : I z 0 = riS wd nb k) (e1 : I z 1 = faS wd nb k) (ht : t ≤ 99999) (hc : CupR I r num kd v s.1 s.2 rf ln) (hr : r ≠ z + 4) (hr2 : r ≠ z) (hr3 : r + 1 ≠ z + 4) (hw : w ≤ 3) (hn : ∀ p, p < 4 → ln p ≤ 9) : ∃ J, (∀ k, k ≠ z + 4 → k ≠ r → J k = I k) ∧ CupR J r num kd v (sayN (wiS T wd nb mm k t num kd v) (dnS kd t ln) (riS wd nb k) (faS wd nb k) w s).1 (sayN (wiS T wd nb mm k t num kd v) (dnS kd t ln) (riS wd nb k) (faS wd nb k) w s).2 (hR (wiS T wd nb mm k t num kd v w s.1) s.2 rf) ln ∧ ∀ Q : Option Value → XW → Prop, wp X (d + 5) m72 0 [some (.ref r), some (.int (nI w)), some (.int (nI t)), some (.ref z)] [] (K0, R0, I, L) Q ↔ Q (some (.int (hB (wiS T wd nb mm k t num kd v w s.1) s.2))) (K0, R0, J, L) := by
  obtain ⟨lv, md⟩ := s
  obtain ⟨J, g1, g2, g3⟩ := s72 (X := X) (d := d) (L := L) hz.inn hI e0 e1 hc hr hr2 hr3 hw (show t < 2 ^ 31 by omega) hn
  exact ⟨J, g1, g2, g3⟩
/-- the reference's -/
theorem hear_m {t k i kd v w : Nat} {s : Nat × Int32} {rf : Int32} {ln wd nb mm T : Nat → Nat} (hH : Hd I k wd nb mm T) (h1 : I 124 1 = nI t) (ht : t ≤ 99999) (hc : CupM I i kd v s.1 s.2 rf ln) (hw : w ≤ 3) (hn : ∀ p, p < 4 → ln p ≤ 9) (hmo : ¬ I 124 26 < rf + 1) : ∃ J, (∀ k, k ≠ 140 → k ≠ 127 → k ≠ 128 → k ≠ 129 → J k = I k) ∧ (∀ j, j ≠ i → J 127 j = I 127 j ∧ J 128 j = I 128 j ∧ J 129 j = I 129 j) ∧ CupM J i kd v (sayN (wiS T wd nb mm k t i kd v) (dnS kd t ln) (riS wd nb k) (faS wd nb k) w s).1 (sayN (wiS T wd nb mm k t i kd v) (dnS kd t ln) (riS wd nb k) (faS wd nb k) w s).2 (hR (wiS T wd nb mm k t i kd v w s.1) s.2 rf) ln ∧ ∀ Q : Option Value → XW → Prop, wp X (d + 6) m181 0 [some (.ref 124), some (.int (nI i)), some (.int (nI w)), none] [] (K0, R0, I, L) Q ↔ Q none (K0, R0, J, L) := by
  obtain ⟨lv, md⟩ := s
  obtain ⟨J, g1, g2, g3, g4⟩ := s181 (X := X) (d := d) (L := L) hH hc hw (show t < 2 ^ 31 by omega) h1 hn hmo
  exact ⟨J, g1, g2, g3, g4⟩
theorem asked_k {I J : Nat → Nat → Int32} (e : ∀ k, ¬ Sk k → J k = I k) : Asked I J := ⟨fun k _ h => e k h, fun j _ => by rw [e 124 (by unfold Sk; omega)]⟩
/-- the class's trial: what one would be behind a saying -/
theorem s77 {t z k i kd v w : Nat} {s : Nat × Int32} {rf : Int32} {ln wd nb mm T : Nat → Nat} (S : Sit I t z k wd nb mm T) (hc : CupR I (12 + 2 * i) i kd v s.1 s.2 rf ln) (hw : w ≤ 3) (hn : ∀ p, p < 4 → ln p ≤ 9) : ∃ J, Asked I J ∧ CupR J 72 i kd v (sayN (wiS T wd nb mm k t i kd v) (dnS kd t ln) (riS wd nb k) (faS wd nb k) w s).1 (sayN (wiS T wd nb mm k t i kd v) (dnS kd t ln) (riS wd nb k) (faS wd nb k) w s).2 (hR (wiS T wd nb mm k t i kd v w s.1) s.2 rf) ln ∧ ∀ Q : Option Value → XW → Prop, wp X (d + 6) m77 0 [some (.ref 0), some (.ref (12 + 2 * i)), some (.int (nI w))] [] (K0, R0, I, L) Q ↔ Q (some (.int (hB (wiS T wd nb mm k t i kd v w s.1) s.2))) (K0, R0, J, L) := by
  have hi : i < 5 := hc.2.2.2.2.2.2.2.2.1
  obtain ⟨J1, a1, a2, -, -, a5⟩ := s78 (L := L) cup_72 hc (by omega) (by omega) (by omega)
  have as1 : Asked I J1 := asked_k (fun k hk => a1 k (fun q => hk (by unfold Sk; omega)) (fun q => hk (by unfold Sk; omega)))
  have S1 := S.asked as1
  have hk := S.1.sk
  have hz72 : 72 ≠ z + 4 ∧ 72 ≠ z ∧ 72 + 1 ≠ z + 4 := by
    rcases S.1 with rfl | ⟨h, hh, rfl⟩ <;> omega
  obtain ⟨J, b1, b2, b3⟩ := hear_c (X := X) (d := d) (L := L) S1.1 S1.2.1 S1.2.2.2.1 S1.2.2.2.2.1 (show t ≤ 99999 by have := S.2.2.2.2.2.2.2.2.1; omega) a2 hz72.1 hz72.2.1 hz72.2.2 hw hn
  have as2 : Asked J1 J := asked_k (fun k h => b1 k (fun q => h (by rw [q]; exact hk)) (fun q => h (by unfold Sk; omega)))
  refine ⟨J, as1.trans as2, b2, fun Q => ?_⟩
  rw [b77_0 hc.1, a5]
  simp only [Option.toList, List.cons_append, List.nil_append]
  rw [b77_8, S.2.2.2.2.2.2.2.2.2.2 _ _ _ _ _ (by rw [as1.1 1 (by decide) (by unfold Sk; omega)])]
  simp only [Option.toList, List.cons_append, List.nil_append]
  rw [b77_24 S.1.inn, S1.2.2.2.2.2.2.1, b3]
  simp only [Option.toList, List.cons_append, List.nil_append]
  rw [b77_27]
  exact and_iff_right (by unfold hB; split <;> rfl)
end HEAR
