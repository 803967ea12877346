/-! All rows of up to four sayings: the class's tree, the reference's rows. -/
theorem for_wk {σ Ω : Type} {P : Nat → σ → (Nat → Nat → Int32) → Ω → Prop} {F : Nat → σ → σ} (A : Nat → (Nat → Nat → Int32) → Prop) (R : σ → Prop) (N : Nat) (h : ∀ k s J, k < N → R s → A k J → R (F k s) ∧ ∃ J', A (k + 1) J' ∧ ∀ Q, P k s J Q ↔ P (k + 1) (F k s) J' Q) : ∀ s J, R s → A 0 J → R (itr F N s) ∧ ∃ J', A N J' ∧ ∀ Q, P 0 s J Q ↔ P N (itr F N s) J' Q := by
  induction N with
  | zero => intro s J hs hJ; exact ⟨hs, J, hJ, fun Q => Iff.rfl⟩
  | succ N ih =>
    intro s J hs hJ
    obtain ⟨a, J1, b, c⟩ := ih (fun k s J hk => h k s J (by omega)) s J hs hJ
    obtain ⟨a2, J2, b2, c2⟩ := h N _ J1 (by omega) a b
    exact ⟨a2, J2, b2, fun Q => (c Q).trans (c2 Q)⟩
/-- behind m sayings, told by a number of base 4 -/
def mdS (f : Nat → Nat × Int32 → Nat × Int32) (s0 : Nat × Int32) : Nat → Nat → Nat × Int32
  | 0, _ => s0
  | m + 1, row => f (row % 4) (mdS f s0 m (row / 4))
/-- in the class's tree -/
def stS (f : Nat → Nat × Int32 → Nat × Int32) (s0 : Nat × Int32) : Nat → Nat → Nat × Int32
  | 0, _ => s0
  | n + 1, j => if j = 0 then s0 else f ((j - 1) % 4) (stS f s0 n ((j - 1) / 4))
def bgN (m : Nat) : Nat := ([0, 1, 5, 21, 85, 341] : List Nat).getD m 0
theorem st_md {f : Nat → Nat × Int32 → Nat × Int32} {s0 : Nat × Int32} : ∀ n m row, m ≤ n → m ≤ 4 → row < 4 ^ m → stS f s0 (n + 1) (bgN m + row) = mdS f s0 m row := by
  intro n
  induction n with
  | zero =>
    intro m row hm h4 hr
    have e : m = 0 := by omega
    subst e
    have e2 : row = 0 := by simp at hr; exact hr
    subst e2
    rfl
  | succ n ih =>
    intro m row hm h4 hr
    match m, h4, hr with
    | 0, _, hr =>
      have e2 : row = 0 := by simp at hr; exact hr
      subst e2
      rfl
    | m + 1, h4, hr =>
      have hb : bgN (m + 1) = 4 * bgN m + 1 := by
        match m, h4 with
        | 0, _ => rfl
        | 1, _ => rfl
        | 2, _ => rfl
        | 3, _ => rfl
        | k + 4, h4 => omega
      have hp : 4 ^ (m + 1) = 4 * 4 ^ m := by rw [Nat.pow_succ, Nat.mul_comm]
      show (if bgN (m + 1) + row = 0 then s0 else f ((bgN (m + 1) + row - 1) % 4) (stS f s0 (n + 1) ((bgN (m + 1) + row - 1) / 4))) = f (row % 4) (mdS f s0 m (row / 4))
      rw [if_neg (by omega), show (bgN (m + 1) + row - 1) % 4 = row % 4 by omega, show (bgN (m + 1) + row - 1) / 4 = bgN m + row / 4 by omega, ih m (row / 4) (by omega) (by omega) (by omega)]
/-- the fuel is enough -/
theorem st_fuel {f : Nat → Nat × Int32 → Nat × Int32} {s0 : Nat × Int32} : ∀ n j, j < bgN n → n ≤ 5 → stS f s0 n j = stS f s0 (n + 1) j := by
  intro n
  induction n with
  | zero => intro j hj _; exact absurd hj (Nat.not_lt_zero _)
  | succ n ih =>
    intro j hj hn
    show (if j = 0 then s0 else f ((j - 1) % 4) (stS f s0 n ((j - 1) / 4))) = (if j = 0 then s0 else f ((j - 1) % 4) (stS f s0 (n + 1) ((j - 1) / 4)))
    by_cases c : j = 0
    · rw [if_pos c, if_pos c]
    · rw [if_neg c, if_neg c]
      match n, hn, hj, ih with
      | 0, _, hj, _ => exact absurd (show j < 1 from hj) (by omega)
      | 1, hn, hj, ih => rw [ih ((j - 1) / 4) (by have : j < 5 := hj; show (j - 1) / 4 < 1; omega) (by omega)]
      | 2, hn, hj, ih => rw [ih ((j - 1) / 4) (by have : j < 21 := hj; show (j - 1) / 4 < 5; omega) (by omega)]
      | 3, hn, hj, ih => rw [ih ((j - 1) / 4) (by have : j < 85 := hj; show (j - 1) / 4 < 21; omega) (by omega)]
      | 4, hn, hj, ih => rw [ih ((j - 1) / 4) (by have : j < 341 := hj; show (j - 1) / 4 < 85; omega) (by omega)]
      | n + 5, hn, _, _ => omega
theorem st_next {f : Nat → Nat × Int32 → Nat × Int32} {s0 : Nat × Int32} {j : Nat} (h0 : 0 < j) (h : j < 341) : stS f s0 5 j = f ((j - 1) % 4) (stS f s0 5 ((j - 1) / 4)) := by
  show (if j = 0 then s0 else f ((j - 1) % 4) (stS f s0 4 ((j - 1) / 4))) = _
  rw [if_neg (by omega), st_fuel 4 ((j - 1) / 4) (by show (j - 1) / 4 < 85; omega) (by decide)]
section TREE
variable {X : Nat × (Nat → Int32)} {d : Nat} {L : Nat → Nat → Int64}
theorem s81 {n : Nat} (h : n = 3 ∨ n = 4) {I : Nat → Nat → Int32} {Q : Option Value → XW → Prop} : wp X (d + 1) m81 0 [some (.int (nI n))] [] (K0, R0, I, L) Q ↔ Q (some (.int (nI (bgN (n + 1))))) (K0, R0, I, L) := by
  rcases h with rfl | rfl
  · rw [b81_0, show nI 3 + 1 = nI 4 from nI_1 3, b82_0, if_neg (by decide), if_pos (by decide), and_iff_right (by decide), show RB (nI 4).toNatClampNeg = nI 85 by decide]
    simp only [Option.toList, List.cons_append, List.nil_append]
    rw [b81_6, b73_0, if_neg (by decide)]
    simp only [Option.toList, List.cons_append, List.nil_append]
    rw [b81_12]
    exact Iff.rfl
  · rw [b81_0, show nI 4 + 1 = nI 5 from nI_1 4, b82_0, if_neg (by decide), if_pos (by decide), and_iff_right (by decide), show RB (nI 5).toNatClampNeg = nI 341 by decide]
    simp only [Option.toList, List.cons_append, List.nil_append]
    rw [b81_6, b73_0, if_neg (by decide)]
    simp only [Option.toList, List.cons_append, List.nil_append]
    rw [b81_12]
    exact Iff.rfl
/-- the tree grows -/
theorem s80 {I : Nat → Nat → Int32} {t z k i kd v n : Nat} {s0 : Nat × Int32} {rf : Int32} {ln wd nb mm T : Nat → Nat} (S : Sit I t z k wd nb mm T) (hc : CupR I (12 + 2 * i) i kd v s0.1 s0.2 rf ln) (hn : ∀ p, p < 4 → ln p ≤ 9) (h34 : n = 3 ∨ n = 4) : ∃ J, Asked I J ∧ (∀ j, j < bgN (n + 1) → J 75 j = nI (stS (sayN (wiS T wd nb mm k t i kd v) (dnS kd t ln) (riS wd nb k) (faS wd nb k)) s0 5 j).1 ∧ (stS (sayN (wiS T wd nb mm k t i kd v) (dnS kd t ln) (riS wd nb k) (faS wd nb k)) s0 5 j).1 ≤ 4095) ∧ ∀ Q : Option Value → XW → Prop, wp X (d + 6) m80 0 [some (.ref 74), some (.ref (12 + 2 * i)), some (.int (nI n)), some (.int (nI t)), some (.ref z), none, none, none] [] (K0, R0, I, L) Q ↔ Q none (K0, R0, J, L) := by
  have hi : i < 5 := hc.2.2.2.2.2.2.2.2.1
  have hl0 : s0.1 ≤ 4095 := hc.2.2.2.2.2.2.2.2.2.2.2
  have hcK := hc.1
  have hz := S.1.inn
  have hb : bgN (n + 1) ≤ 341 := by rcases h34 with rfl | rfl <;> decide
  have hb1 : 1 ≤ bgN (n + 1) := by rcases h34 with rfl | rfl <;> decide
  have hz77 : 77 ≠ z + 4 ∧ 77 ≠ z ∧ 77 + 1 ≠ z + 4 := by
    rcases S.1 with rfl | ⟨h, hh, rfl⟩ <;> omega
  have z75 : 75 ≠ z + 4 ∧ 76 ≠ z + 4 := by
    rcases S.1 with rfl | ⟨h, hh, rfl⟩ <;> omega
  have hk := S.1.sk
  obtain ⟨J1, a1, a2, -, -, a5⟩ := s78 (L := L) cup_77 hc (by omega) (by omega) (by omega)
  have as1 : Asked I J1 := asked_k (fun k hk => a1 k (fun q => hk (by unfold Sk; omega)) (fun q => hk (by unfold Sk; omega)))
  have c12 : J1 (12 + 2 * i) = I (12 + 2 * i) := a1 _ (by omega) (by omega)
  obtain ⟨-, J, ⟨aJ, gJ, -⟩, cJ⟩ := for_wk (σ := Unit) (P := fun j _ J (Q : Option Value → XW → Prop) => wp X (d + 6) m80 37 [some (.ref 74), none, none, some (.int (nI t)), some (.ref z), some (.int (nI (bgN (n + 1)))), some (.int (nI (j + 1))), none] [] (K0, R0, J, L) Q) (F := fun _ u => u) (fun j J => Asked I J ∧ (∀ e, e < j + 1 → J 75 e = nI (stS (sayN (wiS T wd nb mm k t i kd v) (dnS kd t ln) (riS wd nb k) (faS wd nb k)) s0 5 e).1 ∧ J 76 e = (stS (sayN (wiS T wd nb mm k t i kd v) (dnS kd t ln) (riS wd nb k) (faS wd nb k)) s0 5 e).2 ∧ (stS (sayN (wiS T wd nb mm k t i kd v) (dnS kd t ln) (riS wd nb k) (faS wd nb k)) s0 5 e).1 ≤ 4095) ∧ ∃ lv md rf, CupR J 77 i kd v lv md rf ln) (fun _ => True) (bgN (n + 1) - 1) (fun j _ J hj _ hA => by
    refine ⟨trivial, ?_⟩
    obtain ⟨aJ, gJ, lv', md', rf', cJ⟩ := hA
    obtain ⟨p1, p2, p3⟩ := gJ (j / 4) (by omega)
    have S2 := S.asked aJ
    have cU : CupR (updR (updR J 77 3 (J 75 (j / 4))) 77 4 (J 76 (j / 4))) 77 i kd v (stS (sayN (wiS T wd nb mm k t i kd v) (dnS kd t ln) (riS wd nb k) (faS wd nb k)) s0 5 (j / 4)).1 (stS (sayN (wiS T wd nb mm k t i kd v) (dnS kd t ln) (riS wd nb k) (faS wd nb k)) s0 5 (j / 4)).2 rf' ln := by
      obtain ⟨c0, c1, c2, c3, c4, c5, c6, c7, c8, c9, c10, c11⟩ := cJ
      exact ⟨c0, by rw [updR_j (by decide), updR_j (by decide)]; exact c1, by rw [updR_j (by decide), updR_j (by decide)]; exact c2, by rw [updR_j (by decide), updR_j (by decide)]; exact c3, by rw [updR_j (by decide), updR_same]; exact p1, by rw [updR_same]; exact p2, by rw [updR_j (by decide), updR_j (by decide)]; exact c6, fun p hp => by rw [updR_k (by decide), updR_k (by decide)]; exact c7 p hp, c8, c9, c10, p3⟩
    have aU : Asked I (updR (updR J 77 3 (J 75 (j / 4))) 77 4 (J 76 (j / 4))) := aJ.trans (asked_k (fun k hk => by rw [updR_row k (fun q => hk (by unfold Sk; omega)), updR_row k (fun q => hk (by unfold Sk; omega))]))
    have SU := S.asked aU
    have hw : j % 4 ≤ 3 := by omega
    obtain ⟨M, m1, m2, m3⟩ := hear_c (X := X) (d := d) (L := L) SU.1 SU.2.1 SU.2.2.2.1 SU.2.2.2.2.1 (show t ≤ 99999 by have := S.2.2.2.2.2.2.2.2.1; omega) cU hz77.1 hz77.2.1 hz77.2.2 hw hn
    have eS : sayN (wiS T wd nb mm k t i kd v) (dnS kd t ln) (riS wd nb k) (faS wd nb k) (j % 4) (stS (sayN (wiS T wd nb mm k t i kd v) (dnS kd t ln) (riS wd nb k) (faS wd nb k)) s0 5 (j / 4)) = stS (sayN (wiS T wd nb mm k t i kd v) (dnS kd t ln) (riS wd nb k) (faS wd nb k)) s0 5 (j + 1) := (st_next (j := j + 1) (by omega) (by omega)).symm
    rw [eS] at m2
    have m75 : M 75 = J 75 := (m1 75 z75.1 (by decide)).trans (by rw [updR_row 75 (by decide), updR_row 75 (by decide)])
    have m76 : M 76 = J 76 := (m1 76 z75.2 (by decide)).trans (by rw [updR_row 76 (by decide), updR_row 76 (by decide)])
    have aM : Asked I M := aU.trans (asked_k (fun k h => m1 k (fun q => h (by rw [q]; exact hk)) (fun q => h (by unfold Sk; omega))))
    refine ⟨updR (updR M 75 (j + 1) (M 77 3)) 76 (j + 1) (M 77 4), ⟨aM.trans (asked_k (fun k hk => by rw [updR_row k (fun q => hk (by unfold Sk; omega)), updR_row k (fun q => hk (by unfold Sk; omega))])), fun e he => ?_, _, _, _, m2.cong (by rw [updR_row 77 (by decide), updR_row 77 (by decide)]) (by rw [updR_row 78 (by decide), updR_row 78 (by decide)])⟩, fun Q => ?_⟩
    · by_cases c : e = j + 1
      · subst c
        rw [updR_k (by decide), updR_same, updR_same]
        exact ⟨m2.2.2.2.2.1, m2.2.2.2.2.2.1, m2.2.2.2.2.2.2.2.2.2.2.2⟩
      · rw [updR_k (by decide), updR_j c, updR_j c, updR_k (by decide), m75, m76]
        exact gJ e (by omega)
    · have q1 : (nI (j + 1) - 1) / 4 = nI (j / 4) := by rw [nI_pred]; exact nI_div (b := 4) (by omega) (by decide)
      have q2 : nI (j + 1) - 1 - nI (j / 4) * 4 = nI (j % 4) := by
        rw [← q1, nI_pred]
        exact nI_rem (b := 4) (by omega) (by decide)
      have i1 : inA (nI (j / 4)) 341 = true := inA_nI (by omega) (by decide)
      have i2 : inA (nI (j + 1)) 341 = true := inA_nI (by omega) (by decide)
      rw [b80_37 hz, if_pos (nI_lt (by omega) (by omega)), q1, and_iff_right i1, and_iff_right i1, q2, nI_clamp (by omega), m3]
      simp only [Option.toList, List.cons_append, List.nil_append]
      rw [b80_96 hz, and_iff_right i2, and_iff_right i2, nI_clamp (by omega), nI_1]) () (updR (updR J1 75 0 (J1 (12 + 2 * i) 3)) 76 0 (J1 (12 + 2 * i) 4)) trivial ⟨as1.trans (asked_k (fun k hk => by rw [updR_row k (fun q => hk (by unfold Sk; omega)), updR_row k (fun q => hk (by unfold Sk; omega))])), fun e he => by
      have e0 : e = 0 := by omega
      subst e0
      rw [updR_k (by decide), updR_same, updR_same, c12]
      exact ⟨hc.2.2.2.2.1, hc.2.2.2.2.2.1, hl0⟩, _, _, _, a2.cong (by rw [updR_row 77 (by decide), updR_row 77 (by decide)]) (by rw [updR_row 78 (by decide), updR_row 78 (by decide)])⟩
  refine ⟨J, aJ, fun j hj => ⟨(gJ j (by omega)).1, (gJ j (by omega)).2.2⟩, fun Q => ?_⟩
  rw [b80_0 hcK hz, a5]
  simp only [Option.toList, List.cons_append, List.nil_append]
  rw [b80_8 hcK hz, s81 h34]
  simp only [Option.toList, List.cons_append, List.nil_append]
  rw [b80_32 hz]
  refine (cJ Q).trans ?_
  show wp X (d + 6) m80 37 [some (.ref 74), none, none, some (.int (nI t)), some (.ref z), some (.int (nI (bgN (n + 1)))), some (.int (nI (bgN (n + 1) - 1 + 1))), none] [] (K0, R0, J, L) Q ↔ _
  rw [b80_37 hz, if_neg (nI_nlt (by omega) (by omega))]
theorem p4_le : ∀ e, e ≤ 4 → 4 ^ e ≤ 256 ∧ 0 < 4 ^ e := by
  intro e he
  match e, he with
  | 0, _ => decide
  | 1, _ => decide
  | 2, _ => decide
  | 3, _ => decide
  | 4, _ => decide
  | e + 5, he => omega
theorem s192 {I : Nat → Nat → Int32} {Q : Option Value → XW → Prop} {row many k : Nat} (hm : many ≤ 4) (hk : k < many) (hr : row ≤ 300) : wp X d m192 0 [some (.ref 124), some (.int (nI row)), some (.int (nI many)), some (.int (nI k)), none, none] [] (K0, R0, I, L) Q ↔ Q (some (.int (nI (row / 4 ^ (many - 1 - k) % 4)))) (K0, R0, I, L) := by
  rw [b192_0, nI_1]
  refine (for_iff (P := fun e (b : Nat) => wp X d m192 8 [none, some (.int (nI row)), some (.int (nI many)), none, some (.int (nI (4 ^ e))), some (.int (nI (k + 1 + e)))] [] (K0, R0, I, L) Q) (F := fun _ b => b) (many - 1 - k) (fun e b he => ?_) 0).trans ?_
  · rw [b192_8, if_pos (nI_lt (by omega) (by omega)), nI_1, show nI (4 ^ e) * 4 = nI (4 ^ (e + 1)) by rw [Nat.pow_succ]; exact nI_mul (4 ^ e) 4]
    exact Iff.rfl
  · have hp := p4_le (many - 1 - k) (by omega)
    have hd : row / 4 ^ (many - 1 - k) ≤ row := Nat.div_le_self _ _
    rw [b192_8, if_neg (nI_nlt (by omega) (by omega)), and_iff_right (nI_ne0 hp.2 (by omega)), nI_div (by omega) (by omega), show nI (row / 4 ^ (many - 1 - k)) - nI (row / 4 ^ (many - 1 - k)) / 4 * 4 = nI (row / 4 ^ (many - 1 - k) % 4) from nI_rem (b := 4) (by omega) (by decide)]
/-- leaves behind a row of sayings: the reference -/
theorem s191 {I : Nat → Nat → Int32} {t z k i kd v r many row : Nat} {s0 : Nat × Int32} {ln wd nb mm T : Nat → Nat} (S : Sit I t z k wd nb mm T) (hc : CupM I i kd v s0.1 s0.2 (nI r) ln) (hr : r ≤ 50000) (hn : ∀ p, p < 4 → ln p ≤ 9) (hm : many ≤ 4) (hrow : row < 4 ^ many) : ∃ J, Ak I J ∧ ∀ Q : Option Value → XW → Prop, wp X (d + 8) m191 0 [some (.ref 124), some (.int (nI i)), some (.int (nI row)), some (.int (nI many)), none] [] (K0, R0, I, L) Q ↔ Q (some (.int (nI (mdS (sayN (wiS T wd nb mm k t i kd v) (dnS kd t ln) (riS wd nb k) (faS wd nb k)) s0 many row).1))) (K0, R0, J, L) := by
  obtain ⟨mid, e7, e8, e9, et⟩ := mid_keep I
  have hc5 := hc.2.2.2.2.2.2.1
  have htt := S.2.2.2.2.2.2.2.2.1
  have k188 : ∀ Q : Option Value → XW → Prop, wp X (d + 7) m188 0 [some (.ref 124), none] [] (K0, R0, I, L) Q ↔ Q none (K0, R0, itr keF 5 (updR (updR I 124 26 2000000000) 124 27 (I 124 1)), L) := fun Q => s188
  generalize itr keF 5 (updR (updR I 124 26 2000000000) 124 27 (I 124 1)) = J at mid e7 e8 e9 et k188
  have hcJ : CupM J i kd v s0.1 s0.2 (nI r) ln := hc.cong (mid.1 125 (by decide) (by decide) (by decide) (by decide) (by decide) (by decide) (by decide) (by decide)) (mid.1 126 (by decide) (by decide) (by decide) (by decide) (by decide) (by decide) (by decide) (by decide)) (mid.1 130 (by decide) (by decide) (by decide) (by decide) (by decide) (by decide) (by decide) (by decide)) (by rw [e7]) (by rw [e8]) (by rw [e9])
  have p256 := p4_le many hm
  obtain ⟨-, K, ⟨mK, tK, r', hr', cK'⟩, cK⟩ := for_wk (σ := Unit) (P := fun e _ J (Q : Option Value → XW → Prop) => wp X (d + 8) m191 7 [some (.ref 124), some (.int (nI i)), some (.int (nI row)), some (.int (nI many)), some (.int (nI e))] [] (K0, R0, J, L) Q) (F := fun _ u => u) (fun e J => Mid I J ∧ J 124 1 = nI t ∧ ∃ r', r' ≤ r + e ∧ CupM J i kd v (mdS (sayN (wiS T wd nb mm k t i kd v) (dnS kd t ln) (riS wd nb k) (faS wd nb k)) s0 e (row / 4 ^ (many - e))).1 (mdS (sayN (wiS T wd nb mm k t i kd v) (dnS kd t ln) (riS wd nb k) (faS wd nb k)) s0 e (row / 4 ^ (many - e))).2 (nI r') ln) (fun _ => True) many (fun e _ J he _ hA => by
    refine ⟨trivial, ?_⟩
    obtain ⟨mJ, tJ, r', hr', cJ⟩ := hA
    have hw : row / 4 ^ (many - 1 - e) % 4 ≤ 3 := by omega
    obtain ⟨M, m1, m2, m3, m4⟩ := hear_m (X := X) (d := d + 1) (L := L) (S.2.2.1.mid mJ) tJ (show t ≤ 99999 by omega) cJ hw hn (by rw [mJ.2.2.2.2.2]; exact rf_ok (by omega))
    have eS : sayN (wiS T wd nb mm k t i kd v) (dnS kd t ln) (riS wd nb k) (faS wd nb k) (row / 4 ^ (many - 1 - e) % 4) (mdS (sayN (wiS T wd nb mm k t i kd v) (dnS kd t ln) (riS wd nb k) (faS wd nb k)) s0 e (row / 4 ^ (many - e))) = mdS (sayN (wiS T wd nb mm k t i kd v) (dnS kd t ln) (riS wd nb k) (faS wd nb k)) s0 (e + 1) (row / 4 ^ (many - (e + 1))) := by
      show _ = sayN (wiS T wd nb mm k t i kd v) (dnS kd t ln) (riS wd nb k) (faS wd nb k) (row / 4 ^ (many - (e + 1)) % 4) (mdS (sayN (wiS T wd nb mm k t i kd v) (dnS kd t ln) (riS wd nb k) (faS wd nb k)) s0 e (row / 4 ^ (many - (e + 1)) / 4))
      rw [show many - 1 - e = many - (e + 1) by omega, Nat.div_div_eq_div_mul, ← Nat.pow_succ, show (many - (e + 1)).succ = many - e by omega]
    rw [eS] at m3
    have hrr : ∃ r'', r'' ≤ r + (e + 1) ∧ hR (wiS T wd nb mm k t i kd v (row / 4 ^ (many - 1 - e) % 4) (mdS (sayN (wiS T wd nb mm k t i kd v) (dnS kd t ln) (riS wd nb k) (faS wd nb k)) s0 e (row / 4 ^ (many - e))).1) (mdS (sayN (wiS T wd nb mm k t i kd v) (dnS kd t ln) (riS wd nb k) (faS wd nb k)) s0 e (row / 4 ^ (many - e))).2 (nI r') = nI r'' := by
      unfold hR
      split
      · exact ⟨r' + 1, by omega, nI_1 _⟩
      · exact ⟨r', by omega, rfl⟩
    obtain ⟨r'', h1, h2⟩ := hrr
    rw [h2] at m3
    refine ⟨M, ⟨mid_say mJ hc5 m1 m2, by rw [m1 124 (by decide) (by decide) (by decide) (by decide)]; exact tJ, r'', h1, m3⟩, fun Q => ?_⟩
    rw [b191_7, if_pos (nI_lt he (by omega)), s192 hm he (by omega)]
    simp only [Option.toList, List.cons_append, List.nil_append]
    rw [b191_23, m4]
    simp only [Option.toList, List.cons_append, List.nil_append]
    rw [b191_26, nI_1]) () J trivial ⟨mid, et.trans S.2.2.2.2.2.2.2.1, r, by omega, hcJ⟩
  refine ⟨_, mid_back mK S.2.2.2.2.2.2.2.2.2.1, fun Q => ?_⟩
  rw [b191_0, k188]
  simp only [Option.toList, List.cons_append, List.nil_append]
  rw [b191_4]
  refine (cK Q).trans ?_
  have eq : mdS (sayN (wiS T wd nb mm k t i kd v) (dnS kd t ln) (riS wd nb k) (faS wd nb k)) s0 many (row / 4 ^ (many - many)) = mdS (sayN (wiS T wd nb mm k t i kd v) (dnS kd t ln) (riS wd nb k) (faS wd nb k)) s0 many row := by rw [Nat.sub_self, Nat.pow_zero, Nat.div_one]
  rw [eq] at cK'
  rw [b191_7, if_neg (nI_nlt (Nat.le_refl _) (by omega)), and_iff_right (inA_nI hc5 (by decide)), nI_clamp (by omega), cK'.2.2.1, s189]
  simp only [Option.toList, List.cons_append, List.nil_append]
  rw [b191_44]
end TREE
