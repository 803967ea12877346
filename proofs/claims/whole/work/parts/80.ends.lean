/-! ends: an evening gone through, and all put back. -/
theorem for_ws {σ Ω : Type} {P : Nat → σ → (Nat → Nat → Int32) → Ω → Prop} {F : Nat → σ → σ} (A : Nat → σ → (Nat → Nat → Int32) → Prop) (N : Nat) (h : ∀ k s J, k < N → A k s J → ∃ J', A (k + 1) (F k s) J' ∧ ∀ Q, P k s J Q ↔ P (k + 1) (F k s) J' Q) : ∀ s J, A 0 s J → ∃ J', A N (itr F N s) J' ∧ ∀ Q, P 0 s J Q ↔ P N (itr F N s) J' Q := by
  induction N with
  | zero => intro s J hJ; exact ⟨J, hJ, fun Q => Iff.rfl⟩
  | succ N ih =>
    intro s J hJ
    obtain ⟨J1, b, c⟩ := ih (fun k s J hk => h k s J (by omega)) s J hJ
    obtain ⟨J2, b2, c2⟩ := h N _ J1 (by omega) b
    exact ⟨J2, b2, fun Q => (c Q).trans (c2 Q)⟩
/-- nights, each cup's (leaves, mood), how often each refused, how often all -/
abbrev Evs : Type := Nat × (Nat → Nat × Int32) × (Nat → Nat) × Nat
def updN {α : Type} (f : Nat → α) (c : Nat) (x : α) : Nat → α := fun i => if i = c then x else f i
def evN' (wi : Nat → Nat → Nat → Nat → Int32) (st : Nat → Nat → Nat → Nat × Int32 → Nat × Int32) (ec ew : Nat → Nat) (e : Nat) (s : Evs) : Evs :=
  if ec e = 5 then (s.1 + 1, fun i => ((s.2.1 i).1, dnI (s.2.1 i).2), s.2.2.1, s.2.2.2)
  else (s.1, updN s.2.1 (ec e) (st s.1 (ec e) (ew e) (s.2.1 (ec e))), if wi s.1 (ec e) (ew e) (s.2.1 (ec e)).1 < (s.2.1 (ec e)).2 then updN s.2.2.1 (ec e) (s.2.2.1 (ec e) + 1) else s.2.2.1, if wi s.1 (ec e) (ew e) (s.2.1 (ec e)).1 < (s.2.1 (ec e)).2 then s.2.2.2 + 1 else s.2.2.2)
def sumN (f : Nat → Nat) (n : Nat) : Nat := itr (fun c x => x + f c) n 0
theorem sum_upd {f : Nat → Nat} {c : Nat} : ∀ n, sumN (updN f c (f c + 1)) n = sumN f n + (if c < n then 1 else 0) := by
  intro n
  induction n with
  | zero => exact (if_neg (Nat.not_lt_zero c)).symm ▸ rfl
  | succ n ih =>
    show sumN (updN f c (f c + 1)) n + updN f c (f c + 1) n = sumN f n + f n + (if c < n + 1 then 1 else 0)
    rw [ih]
    unfold updN
    by_cases h : n = c
    · subst h
      rw [if_pos rfl, if_neg (Nat.lt_irrefl _), if_pos (by omega)]
      omega
    · rw [if_neg h]
      by_cases g : c < n
      · rw [if_pos g, if_pos (by omega)]; omega
      · rw [if_neg g, if_neg (by omega)]; omega
theorem dn_rg {x : Int32} (h : Rg 9 x) : Rg 9 (dnI x) := by
  obtain ⟨m, hm, rfl⟩ := h
  rw [dn_nI m (by omega)]
  exact ⟨m - 1, by omega, rfl⟩
section CALLS
variable {X : Nat × (Nat → Int32)} {d : Nat}
theorem ok_ends {x1 : Int32} : Ok X d m109 m213 [some (.ref 0), some (.int x1), none, none, none, none] [some (.ref 124), some (.int x1), none, none] := by
  intro I L hI
  obtain ⟨n, t, z, k, wd, nb, mm, T, hN, hn, e1, e4, S⟩ := sit_view hI
  rcases num_cases x1 (n := 1) (by decide) with h | ⟨u, hu, rfl⟩
  · refine ⟨.int (-1), I, L, I, L, hI, fun Q => ?_, fun Q => ?_⟩
    · rw [b109_0]
      rcases h with h | h
      · rw [if_pos h]
      · rw [if_neg (nlt0 (n := 1) (by decide) h), if_pos (show (1 : Int32) < x1 from h)]
    · rw [b213_0, s142_no (show x1 < 0 ∨ 1 < x1 from h)]
      simp only [Option.toList, List.cons_append, List.nil_append]
      rw [b213_7, if_pos rfl]
  have htt := S.2.2.2.2.2.2.2.2.1
  have et : I 1 2 = nI t := S.2.2.2.2.2.2.1
  have et4 : I 124 1 = nI t := S.2.2.2.2.2.2.2.1
  obtain ⟨hd, -, -, -, ⟨x, hx5, x2, -, -⟩, ⟨y, hy10, y2, y3, y4⟩, ⟨w8, hz8, z2, -, -⟩⟩ := id hN
  have y2' : I 6 2 = nI y := y2
  -- cups as functions
  have hcv : ∀ i, ∃ q : Nat × Nat × Nat × Nat × Nat × (Nat → Nat), i < n → CupR I (12 + 2 * i) i q.1 q.2.1 q.2.2.1 (nI q.2.2.2.1) (nI q.2.2.2.2.1) q.2.2.2.2.2 ∧ CupM I i q.1 q.2.1 q.2.2.1 (nI q.2.2.2.1) (nI q.2.2.2.2.1) q.2.2.2.2.2 ∧ q.2.2.2.1 ≤ 9 ∧ q.2.2.2.2.1 ≤ 9999 ∧ ∀ p, p < 4 → q.2.2.2.2.2 p ≤ 9 := by
    intro i
    by_cases hi : i < n
    · obtain ⟨kd, v, lv, m, r, ln, hR, hM, hm, hr, hln⟩ := cup_view hN hi
      exact ⟨(kd, v, lv, m, r, ln), fun _ => ⟨hR, hM, hm, hr, hln⟩⟩
    · exact ⟨(0, 0, 0, 0, 0, fun _ => 0), fun q => absurd q hi⟩
  have cs : ∃ (kd v lv m r : Nat → Nat) (ln : Nat → Nat → Nat), ∀ i, i < n → CupR I (12 + 2 * i) i (kd i) (v i) (lv i) (nI (m i)) (nI (r i)) (ln i) ∧ CupM I i (kd i) (v i) (lv i) (nI (m i)) (nI (r i)) (ln i) ∧ m i ≤ 9 ∧ r i ≤ 9999 ∧ ∀ p, p < 4 → ln i p ≤ 9 := ⟨fun i => (hcv i).choose.1, fun i => (hcv i).choose.2.1, fun i => (hcv i).choose.2.2.1, fun i => (hcv i).choose.2.2.2.1, fun i => (hcv i).choose.2.2.2.2.1, fun i => (hcv i).choose.2.2.2.2.2, fun i hi => (hcv i).choose_spec hi⟩
  obtain ⟨kd, v, lv, m, r, ln, hcup⟩ := cs
  -- rows of the evening
  have rows : ∃ ec ew : Nat → Nat, ∀ e, e < y → (ec e = 5 ∧ I 146 e = 5 ∧ I 7 e = 5) ∨ (ec e < n ∧ ew e ≤ 3 ∧ I 146 e = nI (ec e) ∧ I 7 e = nI (ec e) ∧ I 8 e = nI (ew e) ∧ I 147 e = nI (ew e)) := by
    refine ⟨fun e => (I 146 e).toNatClampNeg, fun e => (I 147 e).toNatClampNeg, fun e he => ?_⟩
    obtain ⟨g1, g2⟩ := y4 e he
    have g1' : I 7 e = I 146 e := g1
    rcases g2 with g2 | ⟨⟨c, hc, g2⟩, g3, ⟨w, hw, g4⟩⟩
    · have g2' : I 146 e = 5 := g2
      refine Or.inl ⟨?_, g2', g1'.trans g2'⟩
      show (I 146 e).toNatClampNeg = 5
      rw [g2']; decide
    · have g2' : I 146 e = nI c := g2
      have g3' : I 8 e = I 147 e := g3
      have g4' : I 147 e = nI w := g4
      have q1 : (I 146 e).toNatClampNeg = c := by rw [g2', nI_clamp (by omega)]
      have q2 : (I 147 e).toNatClampNeg = w := by rw [g4', nI_clamp (by omega)]
      refine Or.inr ?_
      show (I 146 e).toNatClampNeg < n ∧ (I 147 e).toNatClampNeg ≤ 3 ∧ I 146 e = nI (I 146 e).toNatClampNeg ∧ I 7 e = nI (I 146 e).toNatClampNeg ∧ I 8 e = nI (I 147 e).toNatClampNeg ∧ I 147 e = nI (I 147 e).toNatClampNeg
      rw [q1, q2]
      exact ⟨hc, hw, g2', g1'.trans g2', g3'.trans g4', g4'⟩
  obtain ⟨ec, ew, hrow⟩ := rows
  -- the step
  have hF : ∃ F : Nat → Evs → Evs, F = evN' (fun t c w l => wiS T wd nb mm k t c (kd c) (v c) w l) (fun t c w s => sayN (wiS T wd nb mm k t c (kd c) (v c)) (dnS (kd c) t (ln c)) (riS wd nb k) (faS wd nb k) w s) ec ew := ⟨_, rfl⟩
  obtain ⟨F, hFe⟩ := hF
  have F5 : ∀ e s, ec e = 5 → F e s = (s.1 + 1, fun i => ((s.2.1 i).1, dnI (s.2.1 i).2), s.2.2.1, s.2.2.2) := by
    intro e s h
    rw [hFe]
    exact if_pos h
  have Fc : ∀ e s, ec e ≠ 5 → F e s = (s.1, updN s.2.1 (ec e) (sayN (wiS T wd nb mm k s.1 (ec e) (kd (ec e)) (v (ec e))) (dnS (kd (ec e)) s.1 (ln (ec e))) (riS wd nb k) (faS wd nb k) (ew e) (s.2.1 (ec e))), if wiS T wd nb mm k s.1 (ec e) (kd (ec e)) (v (ec e)) (ew e) (s.2.1 (ec e)).1 < (s.2.1 (ec e)).2 then updN s.2.2.1 (ec e) (s.2.2.1 (ec e) + 1) else s.2.2.1, if wiS T wd nb mm k s.1 (ec e) (kd (ec e)) (v (ec e)) (ew e) (s.2.1 (ec e)).1 < (s.2.1 (ec e)).2 then s.2.2.2 + 1 else s.2.2.2) := by
    intro e s h
    rw [hFe]
    exact if_neg h
  -- what holds of the numbers
  have R : ∃ R : Nat → Evs → Prop, ∀ e s, R e s ↔ (s.1 ≤ t + e ∧ (∀ i, i < n → (s.2.1 i).1 ≤ 4095 ∧ Rg 9 (s.2.1 i).2 ∧ s.2.2.1 i ≤ e) ∧ s.2.2.2 = sumN s.2.2.1 n ∧ s.2.2.2 ≤ e) := ⟨_, fun _ _ => Iff.rfl⟩
  obtain ⟨R, hRs0⟩ := R
  have Rstep : ∀ e s, e < y → R e s → R (e + 1) (F e s) := by
    intro e s he h
    rw [hRs0] at h ⊢
    obtain ⟨h1, h2, h3, h4⟩ := h
    rcases hrow e he with ⟨q1, -, -⟩ | ⟨q1, q2, -⟩
    · rw [F5 e s q1]
      refine ⟨?_, fun i hi => ⟨(h2 i hi).1, dn_rg (h2 i hi).2.1, ?_⟩, h3, ?_⟩
      · show s.1 + 1 ≤ t + (e + 1); omega
      · show s.2.2.1 i ≤ e + 1
        have := (h2 i hi).2.2; omega
      · show s.2.2.2 ≤ e + 1; omega
    · rw [Fc e s (by omega)]
      refine ⟨?_, fun i hi => ?_, ?_, ?_⟩
      · show s.1 ≤ t + (e + 1); omega
      · obtain ⟨a1, a2, a3⟩ := h2 i hi
        refine ⟨?_, ?_, ?_⟩
        · show (updN s.2.1 (ec e) _ i).1 ≤ 4095
          unfold updN
          by_cases c : i = ec e
          · rw [if_pos c]
            exact hL_le (wi := wiS T wd nb mm k s.1 (ec e) (kd (ec e)) (v (ec e)) (ew e) (s.2.1 (ec e)).1) (md := (s.2.1 (ec e)).2) (h2 _ q1).1 q2 (hcup _ q1).2.2.2.2
          · rw [if_neg c]; exact a1
        · show Rg 9 (updN s.2.1 (ec e) _ i).2
          unfold updN
          by_cases c : i = ec e
          · rw [if_pos c]
            exact say_rg (h2 _ q1).2.1 S.2.2.2.2.2.1
          · rw [if_neg c]; exact a2
        · show (if _ then updN s.2.2.1 (ec e) (s.2.2.1 (ec e) + 1) else s.2.2.1) i ≤ e + 1
          have b3 := (h2 _ q1).2.2
          split
          · unfold updN
            split <;> omega
          · omega
      · show (if _ then s.2.2.2 + 1 else s.2.2.2) = sumN (if _ then updN s.2.2.1 (ec e) (s.2.2.1 (ec e) + 1) else s.2.2.1) n
        by_cases c : wiS T wd nb mm k s.1 (ec e) (kd (ec e)) (v (ec e)) (ew e) (s.2.1 (ec e)).1 < (s.2.1 (ec e)).2
        · rw [if_pos c, if_pos c, sum_upd, if_pos q1, h3]
        · rw [if_neg c, if_neg c, h3]
      · show (if _ then s.2.2.2 + 1 else s.2.2.2) ≤ e + 1
        by_cases c : wiS T wd nb mm k s.1 (ec e) (kd (ec e)) (v (ec e)) (ew e) (s.2.1 (ec e)).1 < (s.2.1 (ec e)).2
        · rw [if_pos c]; omega
        · rw [if_neg c]; omega
  -- class
  obtain ⟨J0, j1, j2, j3, j4, j5, j6, j7⟩ := s110 (X := X) (d := d + 95) (L := L) tbl_43 tbl_1 (by omega) x2 hx5 y2 hy10 z2 hz8
  have aJ0 : Asked I J0 := asked_k (fun a ha => j1 a (by unfold Sk at ha; omega))
  have CR : ∃ CR : Evs → (Nat → Nat → Int32) → Prop, ∀ s J, CR s J ↔ (Asked I J ∧ J 43 1 = nI n ∧ J 43 2 = nI s.1 ∧ ∀ i, i < n → CupR J (43 + 11 + 2 * i) i (kd i) (v i) (s.2.1 i).1 (s.2.1 i).2 (nI (r i + s.2.2.1 i)) (ln i)) := ⟨_, fun _ _ => Iff.rfl⟩
  obtain ⟨CR, hCR⟩ := CR
  have start : R 0 (t, fun i => (lv i, nI (m i)), fun _ => 0, 0) := by
    rw [hRs0]
    refine ⟨Nat.le_refl _, fun i hi => ⟨(hcup i hi).1.2.2.2.2.2.2.2.2.2.2.2, ⟨m i, (hcup i hi).2.2.1, rfl⟩, Nat.le_refl _⟩, ?_, Nat.le_refl _⟩
    have : ∀ q, sumN (fun _ => 0) q = 0 := by
      intro q
      induction q with
      | zero => rfl
      | succ q ih => show sumN (fun _ => 0) q + 0 = 0; rw [ih]
    exact (this n).symm
  obtain ⟨J, ⟨hRJ, hJ⟩, cJ⟩ := for_ws (P := fun e (s : Evs) J (Q : Option Value → XW → Prop) => wp X (d + 100) m109 26 [some (.ref 0), some (.int (nI u)), some (.int (nI s.2.2.2)), some (.int (nI e)), none, none] [] (K0, R0, J, L) Q) (F := F) (fun e s J => R e s ∧ CR s J) y (fun e s J he hA => by
    obtain ⟨hRs, hC⟩ := hA
    have hRn := Rstep e s he hRs
    rw [hCR] at hC
    rw [hRs0] at hRs
    obtain ⟨aJ, c1, c2, c3⟩ := hC
    obtain ⟨r1, r2, r3, r4⟩ := hRs
    have S2 := S.asked aJ
    have r6 : J 6 = I 6 := aJ.1 6 (by decide) (by unfold Sk; omega)
    have r7 : J 7 = I 7 := aJ.1 7 (by decide) (by unfold Sk; omega)
    have r8 : J 8 = I 8 := aJ.1 8 (by decide) (by unfold Sk; omega)
    have le : nI e < nI y := nI_lt he (by omega)
    rcases hrow e he with ⟨q1, q2, q3⟩ | ⟨q1, q2, q3, q4, q5, q6⟩
    · have f := @ng_facts 43 J n
      refine ⟨updR (itr (ngF 43) n J) 43 2 (J 43 2 + 1), ⟨hRn, ?_⟩, fun Q => ?_⟩
      · rw [hCR, F5 e s q1]
        refine ⟨aJ.trans (asked_k (fun a ha => ?_)), ?_, ?_, fun i hi => ?_⟩
        · rw [updR_row a (fun q => ha (by unfold Sk; omega))]
          funext j
          exact f.1 a j (fun i hi q => absurd (show Sk a by unfold Sk; omega) ha)
        · rw [updR_j (by decide), f.1 43 1 (fun i hi q => by omega)]; exact c1
        · rw [updR_same, c2, nI_1]
        · obtain ⟨p0, p1, p2, p3, p4, p5, p6, p7, p8, p9, p10, p11⟩ := c3 i hi
          have fr : ∀ b, b ≠ 4 → updR (itr (ngF 43) n J) 43 2 (J 43 2 + 1) (43 + 11 + 2 * i) b = J (43 + 11 + 2 * i) b := fun b hb => by
            rw [updR_k (by omega)]; exact f.1 _ b (fun i' hi' q => hb)
          refine ⟨p0, (fr 0 (by decide)).trans p1, (fr 1 (by decide)).trans p2, (fr 2 (by decide)).trans p3, (fr 3 (by decide)).trans p4, ?_, (fr 5 (by decide)).trans p6, fun p hp => ?_, p8, p9, p10, p11⟩
          · rw [updR_k (by omega), f.2 i hi, p5]
          · rw [updR_k (by omega), f.1 _ p (fun i' hi' q => by omega)]; exact p7 p hp
      · have n5 : ¬ (5 : Int32) < J 43 1 := by rw [c1]; exact nI_nlt (b := n) (a := 5) hn (by decide)
        rw [b109_26, r6, y2', if_pos le, s100_ok rows_6 (by decide) (by omega), show J (6 + 1) e = 5 by rw [show J (6 + 1) = I 7 from r7]; exact q3]
        simp only [Option.toList, List.cons_append, List.nil_append]
        rw [b109_51, b17_0 tbl_43, if_neg n5]
        simp only [Option.toList, List.cons_append, List.nil_append]
        rw [b109_62_1, if_pos rfl]
        refine (s75 tbl_43 hn c1).trans ?_
        simp only [Option.toList, List.cons_append, List.nil_append]
        rw [b109_77, nI_1, F5 e s q1]
    · have ne5 : ec e ≠ 5 := by omega
      have hK := tcup tbl_43 (i := ec e) (by omega)
      have zn : 43 + 11 + 2 * ec e ≠ z + 4 ∧ 43 + 11 + 2 * ec e ≠ z ∧ 43 + 11 + 2 * ec e + 1 ≠ z + 4 := by
        rcases S.1 with rfl | ⟨h, hh, rfl⟩ <;> omega
      have skz := S.1.sk
      obtain ⟨M, m1, m2, m3⟩ := hear_c (X := X) (d := d + 94) (L := L) (t := s.1) (s := s.2.1 (ec e)) S2.1 S2.2.1 S2.2.2.2.1 S2.2.2.2.2.1 (show s.1 ≤ 99999 by omega) (c3 _ q1) zn.1 zn.2.1 zn.2.2 q2 (hcup _ q1).2.2.2.2
      have mr : ∀ a, a ≠ z + 4 → a ≠ 43 + 11 + 2 * ec e → M a = J a := m1
      refine ⟨M, ⟨hRn, ?_⟩, fun Q => ?_⟩
      · rw [hCR, Fc e s ne5]
        refine ⟨aJ.trans (asked_k (fun a ha => m1 a (fun q => ha (by rw [q]; exact skz)) (fun q => ha (by unfold Sk; omega)))), ?_, ?_, fun i hi => ?_⟩
        · rw [mr 43 (by rcases S.1 with rfl | ⟨h, hh, rfl⟩ <;> omega) (by omega)]; exact c1
        · rw [mr 43 (by rcases S.1 with rfl | ⟨h, hh, rfl⟩ <;> omega) (by omega)]; exact c2
        · show CupR M (43 + 11 + 2 * i) i (kd i) (v i) (updN s.2.1 (ec e) _ i).1 (updN s.2.1 (ec e) _ i).2 (nI (r i + (if _ then updN s.2.2.1 (ec e) (s.2.2.1 (ec e) + 1) else s.2.2.1) i)) (ln i)
          unfold updN
          by_cases c : i = ec e
          · subst c
            rw [if_pos rfl]
            unfold hR at m2
            by_cases c2 : wiS T wd nb mm k s.1 (ec e) (kd (ec e)) (v (ec e)) (ew e) (s.2.1 (ec e)).1 < (s.2.1 (ec e)).2
            · rw [if_pos c2, nI_1] at m2
              rw [if_pos c2, if_pos rfl]
              exact m2
            · rw [if_neg c2] at m2
              rw [if_neg c2]
              exact m2
          · rw [if_neg c]
            have zi : 43 + 11 + 2 * i ≠ z + 4 ∧ 43 + 11 + 2 * i + 1 ≠ z + 4 := by
              rcases S.1 with rfl | ⟨h, hh, rfl⟩ <;> omega
            have base := (c3 i hi).cong (mr (43 + 11 + 2 * i) zi.1 (by omega)) (mr (43 + 11 + 2 * i + 1) zi.2 (by omega))
            split
            · simp only [c, if_false]; exact base
            · exact base
      · have n5 : ¬ nI (ec e) = 5 := fun q => ne5 ((nI_eq (b := 5) (by omega) (by decide)).mp q)
        rw [b109_26, r6, y2', if_pos le, s100_ok rows_6 (by decide) (by omega), show J (6 + 1) e = nI (ec e) by rw [show J (6 + 1) = I 7 from r7]; exact q4]
        simp only [Option.toList, List.cons_append, List.nil_append]
        rw [b109_51, s17_t tbl_43 hn c1 q1]
        simp only [Option.toList, List.cons_append, List.nil_append]
        rw [b109_62 hK, if_neg n5, s101_ok rows_6 (by decide) (by omega), show J (6 + 2) e = nI (ew e) by rw [show J (6 + 2) = I 8 from r8]; exact q5]
        simp only [Option.toList, List.cons_append, List.nil_append]
        rw [b109_98 hK, S2.2.2.2.2.2.2.2.2.2.2 _ _ _ _ _ rfl]
        simp only [Option.toList, List.cons_append, List.nil_append]
        rw [b109_109 hK S.1.inn, c2, m3]
        simp only [Option.toList, List.cons_append, List.nil_append]
        rw [b109_112, nI_1, nI_1, Fc e s ne5]
        unfold hB
        by_cases c2 : wiS T wd nb mm k s.1 (ec e) (kd (ec e)) (v (ec e)) (ew e) (s.2.1 (ec e)).1 < (s.2.1 (ec e)).2
        · simp only [c2, if_true]
          try exact Iff.rfl
        · simp only [c2, if_false]
          try exact Iff.rfl) (t, fun i => (lv i, nI (m i)), fun _ => 0, 0) J0 ⟨start, by
    rw [hCR]
    refine ⟨aJ0, j2.1.trans e1, j2.2.1.trans et, fun i hi => ?_⟩
    obtain ⟨q1, q2⟩ := j3 i (by omega)
    obtain ⟨p0, p1, p2, p3, p4, p5, p6, p7, p8, p9, p10, p11⟩ := (hcup i hi).1
    exact ⟨tcup tbl_43 (by omega), (q1 0 (by decide)).trans p1, (q1 1 (by decide)).trans p2, (q1 2 (by decide)).trans p3, (q1 3 (by decide)).trans p4, (q1 4 (by decide)).trans p5, (q1 5 (by decide)).trans p6, fun p hp => (q2 p hp).trans (p7 p hp), p8, p9, p10, p11⟩⟩
  rw [hCR] at hJ
  obtain ⟨aJ, gJ1, gJ2, gJ3⟩ := hJ
  -- reference
  have SJ := S.asked aJ
  obtain ⟨mid, k7, k8, k9, kt⟩ := mid_keep J
  have k188 : ∀ Q : Option Value → XW → Prop, wp X (d + 99) m188 0 [some (.ref 124), none] [] (K0, R0, J, L) Q ↔ Q none (K0, R0, itr keF 5 (updR (updR J 124 26 2000000000) 124 27 (J 124 1)), L) := fun Q => s188
  generalize itr keF 5 (updR (updR J 124 26 2000000000) 124 27 (J 124 1)) = A at mid k7 k8 k9 kt k188
  have MR : ∃ MR : Evs → (Nat → Nat → Int32) → Prop, ∀ s K, MR s K ↔ (Mid J K ∧ K 124 1 = nI s.1 ∧ ∀ i, i < n → CupM K i (kd i) (v i) (s.2.1 i).1 (s.2.1 i).2 (nI (r i + s.2.2.1 i)) (ln i)) := ⟨_, fun _ _ => Iff.rfl⟩
  obtain ⟨MR, hMR⟩ := MR
  have j146 : ∀ K, Mid J K → K 146 = I 146 ∧ K 147 = I 147 ∧ K 124 34 = nI y ∧ K 124 0 = nI n := fun K hK => ⟨(hK.1 146 (by decide) (by decide) (by decide) (by decide) (by decide) (by decide) (by decide) (by decide)).trans (aJ.1 146 (by decide) (by unfold Sk; omega)), (hK.1 147 (by decide) (by decide) (by decide) (by decide) (by decide) (by decide) (by decide) (by decide)).trans (aJ.1 147 (by decide) (by unfold Sk; omega)), (hK.2.2.2.1 34 (by decide) (by decide) (by decide)).trans ((aJ.2 34 (by decide)).trans y3), (hK.2.2.2.1 0 (by decide) (by decide) (by decide)).trans ((aJ.2 0 (by decide)).trans e4)⟩
  obtain ⟨K, ⟨hRK, hK⟩, cK⟩ := for_ws (P := fun e (s : Evs) K (Q : Option Value → XW → Prop) => wp X (d + 100) m213 18 [some (.ref 124), some (.int (nI u)), some (.int (nI e)), none] [] (K0, R0, K, L) Q) (F := F) (fun e s K => R e s ∧ MR s K) y (fun e s K he hA => by
    obtain ⟨hRs, hC⟩ := hA
    have hRn := Rstep e s he hRs
    rw [hMR] at hC
    rw [hRs0] at hRs
    obtain ⟨mK, c2, c3⟩ := hC
    obtain ⟨r1, r2, r3, r4⟩ := hRs
    obtain ⟨l1, l2, l3, l4⟩ := j146 K mK
    have ix : inA (nI e) 10 = true := inA_nI (by omega) (by decide)
    have hcl : (nI e).toNatClampNeg = e := nI_clamp (by omega)
    have le : nI e < nI y := nI_lt he (by omega)
    rcases hrow e he with ⟨q1, q2, q3⟩ | ⟨q1, q2, q3, q4, q5, q6⟩
    · have f := @nm_facts K n
      refine ⟨updR (itr nmF n K) 124 1 (K 124 1 + 1), ⟨hRn, ?_⟩, fun Q => ?_⟩
      · rw [hMR, F5 e s q1]
        obtain ⟨w1, w2, w3, w4, w5, w6⟩ := mK
        have fr : ∀ a, a ≠ 124 → a ≠ 128 → updR (itr nmF n K) 124 1 (K 124 1 + 1) a = K a := fun a h1 h2 => by
          rw [updR_row a h1]
          funext j
          exact f.1 a j (fun q => absurd q h2)
        have f4 : ∀ j, j ≠ 1 → updR (itr nmF n K) 124 1 (K 124 1 + 1) 124 j = K 124 j := fun j hj => by
          rw [updR_j hj]; exact f.1 124 j (fun q => by omega)
        refine ⟨⟨fun a k0 k1 k2 k3 k4 k5 k6 k7 => (fr a k0 k2).trans (w1 a k0 k1 k2 k3 k4 k5 k6 k7), fun i hi => ?_, fun i hi => ?_, fun j h1 h2 h3 => (f4 j h3).trans (w4 j h1 h2 h3), (f4 27 (by decide)).trans w5, (f4 26 (by decide)).trans w6⟩, ?_, fun i hi => ?_⟩
        · rw [fr 141 (by decide) (by decide), fr 142 (by decide) (by decide), fr 143 (by decide) (by decide)]
          exact w2 i hi
        · rw [fr 127 (by decide) (by decide), fr 129 (by decide) (by decide), updR_k (by decide), f.1 128 i (fun _ => by omega)]
          exact w3 i hi
        · rw [updR_same, c2, nI_1]
        · obtain ⟨p1, p2, p3, p4, p5, p6, p7, p8, p9, p10⟩ := c3 i hi
          refine ⟨?_, ?_, ?_, ?_, ?_, fun p hp => ?_, p7, p8, p9, p10⟩
          · rw [fr 125 (by decide) (by decide)]; exact p1
          · rw [fr 126 (by decide) (by decide)]; exact p2
          · rw [fr 127 (by decide) (by decide)]; exact p3
          · obtain ⟨mo, hmo, emo⟩ := (r2 i hi).2.1
            rw [updR_k (by decide), f.2 i hi, p4]
            show (if 0 < (s.2.1 i).2 then (s.2.1 i).2 - 1 else 0) = dnI (s.2.1 i).2
            rw [emo, mdn mo (by omega), dn_nI mo (by omega)]
          · rw [fr 129 (by decide) (by decide)]; exact p5
          · rw [fr 130 (by decide) (by decide)]; exact p6 p hp
      · rw [b213_18, l3, if_pos le, and_iff_right ix, hcl, l1, if_pos q2, s185 hn l4]
        simp only [Option.toList, List.cons_append, List.nil_append]
        rw [b213_40, b213_59, nI_1]
    · have ne5 : ec e ≠ 5 := by omega
      obtain ⟨M, m1, m2, m3, m4⟩ := hear_m (X := X) (d := d + 93) (L := L) (t := s.1) (s := s.2.1 (ec e)) (SJ.2.2.1.mid mK) c2 (show s.1 ≤ 99999 by omega) (c3 _ q1) q2 (hcup _ q1).2.2.2.2 (by rw [mK.2.2.2.2.2]; exact rf_ok (by have := (hcup _ q1).2.2.2.1; have := (r2 _ q1).2.2; omega))
      refine ⟨M, ⟨hRn, ?_⟩, fun Q => ?_⟩
      · rw [hMR, Fc e s ne5]
        refine ⟨mid_say mK (by omega) m1 m2, ?_, fun i hi => ?_⟩
        · rw [m1 124 (by decide) (by decide) (by decide) (by decide)]; exact c2
        · show CupM M i (kd i) (v i) (updN s.2.1 (ec e) _ i).1 (updN s.2.1 (ec e) _ i).2 (nI (r i + (if _ then updN s.2.2.1 (ec e) (s.2.2.1 (ec e) + 1) else s.2.2.1) i)) (ln i)
          unfold updN
          by_cases c : i = ec e
          · subst c
            rw [if_pos rfl]
            unfold hR at m3
            by_cases c2 : wiS T wd nb mm k s.1 (ec e) (kd (ec e)) (v (ec e)) (ew e) (s.2.1 (ec e)).1 < (s.2.1 (ec e)).2
            · rw [if_pos c2, nI_1] at m3
              rw [if_pos c2, if_pos rfl]
              exact m3
            · rw [if_neg c2] at m3
              rw [if_neg c2]
              exact m3
          · rw [if_neg c]
            obtain ⟨o1, o2, o3⟩ := m2 i c
            have base := (c3 i hi).cong (m1 125 (by decide) (by decide) (by decide) (by decide)) (m1 126 (by decide) (by decide) (by decide) (by decide)) (m1 130 (by decide) (by decide) (by decide) (by decide)) o1 o2 o3
            split
            · simp only [c, if_false]; exact base
            · exact base
      · have n5 : ¬ nI (ec e) = 5 := fun q => ne5 ((nI_eq (b := 5) (by omega) (by decide)).mp q)
        rw [b213_18, l3, if_pos le, and_iff_right ix, hcl, l1, q3, if_neg n5, and_iff_right ix, and_iff_right ix, l2, q6, m4]
        simp only [Option.toList, List.cons_append, List.nil_append]
        rw [b213_59, nI_1]) (t, fun i => (lv i, nI (m i)), fun _ => 0, 0) A ⟨start, by
    rw [hMR]
    refine ⟨mid, kt.trans SJ.2.2.2.2.2.2.2.1, fun i hi => ?_⟩
    exact ((hcup i hi).2.1.asked aJ).cong (mid.1 125 (by decide) (by decide) (by decide) (by decide) (by decide) (by decide) (by decide) (by decide)) (mid.1 126 (by decide) (by decide) (by decide) (by decide) (by decide) (by decide) (by decide) (by decide)) (mid.1 130 (by decide) (by decide) (by decide) (by decide) (by decide) (by decide) (by decide) (by decide)) (by rw [k7]) (by rw [k8]) (by rw [k9])⟩
  rw [hMR] at hK
  rw [hRs0] at hRK
  obtain ⟨mK, gK1, gK2⟩ := hK
  generalize itr F y (t, fun i => (lv i, nI (m i)), fun _ => 0, 0) = s at hRJ gJ2 gJ3 cJ hRK gK1 gK2 cK
  obtain ⟨f1, f2, f3, f4⟩ := hRK
  obtain ⟨l1, l2, l3, l4⟩ := j146 K mK
  have sum : ∀ Q : Option Value → XW → Prop, wp X (d + 100) m213 69 [some (.ref 124), some (.int (nI u)), some (.int 0), some (.int 0)] [] (K0, R0, K, L) Q ↔ wp X (d + 100) m213 69 [some (.ref 124), some (.int (nI u)), some (.int (nI s.2.2.2)), some (.int (nI n))] [] (K0, R0, K, L) Q := by
    intro Q
    rw [f3]
    refine for_iff (P := fun c (a : Nat) => wp X (d + 100) m213 69 [some (.ref 124), some (.int (nI u)), some (.int (nI a)), some (.int (nI c))] [] (K0, R0, K, L) Q) (F := fun c a => a + s.2.2.1 c) n (fun c a hc => ?_) 0
    have ix : inA (nI c) 5 = true := inA_nI (by omega) (by decide)
    have h3 : K 143 c = nI (r c) := by
      rw [(mK.2.1 c (by omega)).2.2, aJ.1 129 (by decide) (by unfold Sk; omega)]
      exact (hcup c hc).2.1.2.2.2.2.1
    rw [b213_69, l4, if_pos (nI_lt hc (by omega)), and_iff_right ix, and_iff_right ix, nI_clamp (by omega), (gK2 c hc).2.2.2.2.1, h3, nI_sub (by omega), show r c + s.2.2.1 c - r c = s.2.2.1 c by omega, nI_add, nI_1]
  have fin : ∀ Q : Option Value → XW → Prop, wp X (d + 100) m213 0 [some (.ref 124), some (.int (nI u)), none, none] [] (K0, R0, J, L) Q ↔ (if nI u = 0 then wp X (d + 99) m197 0 [some (.ref 124)] [] (K0, R0, K, L) (fun r w1 => wp X (d + 100) m213 107 [some (.ref 124), none, none, none] (r.toList ++ []) w1 Q) else wp X (d + 99) m189 0 [some (.ref 124), none] [] (K0, R0, K, L) (fun r w1 => wp X (d + 100) m213 116 [none, none, none, some (.int (nI s.2.2.2))] (r.toList ++ []) w1 Q)) := by
    intro Q
    rw [b213_0]
    refine (s142_nI (n := 1) hu (by decide)).trans ?_
    simp only [Option.toList, List.cons_append, List.nil_append]
    rw [b213_7, if_neg (by decide), k188]
    simp only [Option.toList, List.cons_append, List.nil_append]
    rw [b213_16]
    refine (cK Q).trans ?_
    rw [b213_18, l3, if_neg (nI_nlt (Nat.le_refl _) (by omega))]
    refine (sum Q).trans ?_
    rw [b213_69, l4, if_neg (nI_nlt (Nat.le_refl _) (by omega))]
    exact Iff.rfl
  have cls : ∀ Q : Option Value → XW → Prop, wp X (d + 100) m109 0 [some (.ref 0), some (.int (nI u)), none, none, none, none] [] (K0, R0, I, L) Q ↔ (if nI u = 0 then wp X (d + 99) m64 0 [some (.ref 43), some (.int (-1)), none, none] [] (K0, R0, J, L) (fun r w1 => wp X (d + 100) m109 136 [none, none, none, none, none, none] (r.toList ++ []) w1 Q) else Q (some (.int (nI s.2.2.2))) (K0, R0, J, L)) := by
    intro Q
    rw [b109_0, if_neg (nI_pos (by omega)), if_neg (show ¬ (1 : Int32) < nI u from nI_nlt (a := 1) hu (by decide)), j7]
    simp only [Option.toList, List.cons_append, List.nil_append]
    rw [b109_22]
    refine (cJ Q).trans ?_
    rw [b109_26, aJ.1 6 (by decide) (by unfold Sk; omega), y2', if_neg (nI_nlt (Nat.le_refl _) (by omega))]
    exact Iff.rfl
  have inv := hI.asked (aJ.trans (Asked.ak (mid_back mK SJ.2.2.2.2.2.2.2.2.2.1)))
  match u, hu with
  | 0, _ =>
    refine ⟨.int (nI (jnN (fun i => (s.2.1 i).1) (fun _ => true) n)), J, L, _, L, inv, fun Q => ?_, fun Q => ?_⟩
    · rw [cls, if_pos (by decide), s64 (lv := fun i => (s.2.1 i).1) (p := fun _ => true) tbl_43 hn gJ1 (fun i hi => (gJ3 i hi).2.2.2.2.1) (fun i hi => ⟨fun q => absurd q (by
        have := nI_toInt (n := i) (by omega)
        intro q
        rw [q, show (-1 : Int32).toInt = -1 by decide] at this
        omega), fun q => absurd q (by decide)⟩)]
      simp only [Option.toList, List.cons_append, List.nil_append]
      rw [b109_136]
    · rw [fin, if_pos (by decide), b197_0]
      refine (s198 (s := 31) (lv := fun i => (s.2.1 i).1) (p := fun _ => true) hn l4 (fun i hi => (gK2 i hi).2.2.1) (fun i hi => ?_)).trans ?_
      · have : ∀ j, j < 5 → ¬ hasI 31 (nI j) = 0 := by decide +kernel
        exact ⟨fun q => absurd q (this i (by omega)), fun q => absurd q (by decide)⟩
      · simp only [Option.toList, List.cons_append, List.nil_append]
        rw [b197_6]
        simp only [Option.toList, List.cons_append, List.nil_append]
        rw [b213_107, s189]
        simp only [Option.toList, List.cons_append, List.nil_append]
        rw [b213_116]
  | 1, _ =>
    refine ⟨.int (nI s.2.2.2), J, L, _, L, inv, fun Q => ?_, fun Q => ?_⟩
    · rw [cls, if_neg (by decide)]
    · rw [fin, if_neg (by decide), s189]
      simp only [Option.toList, List.cons_append, List.nil_append]
      rw [b213_116]
  | u + 2, hu => omega
end CALLS
