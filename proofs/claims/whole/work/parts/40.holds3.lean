/-! E, as the reference works it out. -/
/-- what is asked of a cup and a saying, in the reference's cells -/
def MF (I : Nat → Nat → Int32) (ci w : Nat) (a : Nat → Nat) : Prop := ci < 5 ∧ a 0 = ci ∧ a 1 = w ∧ I 125 ci = nI (a 2) ∧ I 126 ci = nI (a 3) ∧ (∃ lv, lv ≤ 4095 ∧ I 127 ci = nI lv ∧ a 4 = pop lv) ∧ (∃ t, t < 2 ^ 31 ∧ I 124 1 = nI t ∧ a 5 = t % 10) ∧ ∀ f, f < 6 → a f < 2 ^ 31
theorem MF.cong {I I1 : Nat → Nat → Int32} {ci w : Nat} {a : Nat → Nat} (h : MF I ci w a) (e : ∀ k, k ≠ 140 → I1 k = I k) : MF I1 ci w a := by
  unfold MF at h ⊢
  rw [e 125 (by decide), e 126 (by decide), e 127 (by decide), e 124 (by decide)]
  exact h
def PileAt (I : Nat → Nat → Int32) : List Bool → Prop
  | [] => True
  | b :: r => I 140 r.length = bI b ∧ PileAt I r
theorem PileAt.upd {I : Nat → Nat → Int32} {j : Nat} {v : Int32} : ∀ {st : List Bool}, PileAt I st → st.length ≤ j → PileAt (updR I 140 j v) st := by
  intro st
  induction st with
  | nil => intro _ _; trivial
  | cons b r ih =>
    intro h hj
    simp only [List.length_cons] at hj
    exact ⟨by rw [updR_j (by omega)]; exact h.1, ih h.2 (by omega)⟩
theorem updR_row {I : Nat → Nat → Int32} {q j : Nat} {v : Int32} : ∀ k, k ≠ q → updR I q j v k = I k := by
  intro k hk
  funext i
  exact updR_k hk
theorem nI_addn (n : Nat) : nI (n + 1) + (-1) = nI n := by
  rw [← Int32.sub_eq_add_neg]
  exact nI_pred n
theorem fz0 : fits .boolean (.int 0) = true := rfl
theorem fz1 : fits .boolean (.int 1) = true := rfl
section HOLD
variable {X : Nat × (Nat → Int32)} {d : Nat} {L : Nat → Nat → Int64}
theorem s168 {I : Nat → Nat → Int32} {Q : Option Value → XW → Prop} {f ci w : Nat} {a : Nat → Nat} (hf : f < 6) (h : MF I ci w a) : wp X (d + 2) m168 0 [some (.ref 124), some (.int (nI f)), some (.int (nI ci)), some (.int (nI w))] [] (K0, R0, I, L) Q ↔ Q (some (.int (nI (a f)))) (K0, R0, I, L) := by
  obtain ⟨hc, a0, a1, h2, h3, ⟨lv, hl, h4, a4⟩, ⟨t, ht, h5, a5⟩, hb⟩ := h
  have hx : inA (nI ci) 5 = true := inA_nI hc (by decide)
  have hcl : (nI ci).toNatClampNeg = ci := nI_clamp (by omega)
  have hm : nI t - nI t / 10 * 10 = nI (t % 10) := nI_rem (b := 10) ht (by decide)
  rw [b168_0]
  match f, hf with
  | 0, _ => rw [if_pos (show nI 0 = 0 by decide), a0]
  | 1, _ => rw [if_neg (show ¬ nI 1 = 0 by decide), if_pos (show nI 1 = 1 by decide), a1]
  | 2, _ => rw [if_neg (show ¬ nI 2 = 0 by decide), if_neg (show ¬ nI 2 = 1 by decide), if_pos (show nI 2 = 2 by decide), and_iff_right hx, hcl, h2]
  | 3, _ => rw [if_neg (show ¬ nI 3 = 0 by decide), if_neg (show ¬ nI 3 = 1 by decide), if_neg (show ¬ nI 3 = 2 by decide), if_pos (show nI 3 = 3 by decide), and_iff_right hx, hcl, h3]
  | 4, _ =>
    rw [if_neg (show ¬ nI 4 = 0 by decide), if_neg (show ¬ nI 4 = 1 by decide), if_neg (show ¬ nI 4 = 2 by decide), if_neg (show ¬ nI 4 = 3 by decide), if_pos (show nI 4 = 4 by decide), and_iff_right hx, hcl, h4, s169, (pop_ok hl).2.1, a4]
    simp only [Option.toList, List.cons_append, List.nil_append]
    rw [b168_64]
  | 5, _ => rw [if_neg (show ¬ nI 5 = 0 by decide), if_neg (show ¬ nI 5 = 1 by decide), if_neg (show ¬ nI 5 = 2 by decide), if_neg (show ¬ nI 5 = 3 by decide), if_neg (show ¬ nI 5 = 4 by decide), h5, hm, a5]
  | k + 6, hf => omega
theorem bI_if {c : Prop} [Decidable c] {A B : Prop} (P : Int32 → Prop) (hA : c → (A ↔ P 1)) (hB : ¬ c → (B ↔ P 0)) : (if c then A else B) ↔ P (bI (decide c)) := by
  by_cases h : c
  · rw [if_pos h, decide_eq_true h]; exact hA h
  · rw [if_neg h, decide_eq_false h]; exact hB h
theorem hold_go {c ci w fr lo m : Nat} {a T : Nat → Nat} (hc : c < 60) (hm : fr + m ≤ 600) (ho : okE T lo m) : ∀ rem k (st : List Bool) (I : Nat → Nat → Int32), k + rem = m → st = evA a T lo k → PileAt I st → MF I ci w a → I 136 c = nI (fr + m) → (∀ k, k < m → I 137 (fr + k) = mT (T (lo + k))) → ∃ I1, (∀ k, k ≠ 140 → I1 k = I k) ∧ ∀ Q : Option Value → XW → Prop, wp X (d + 3) m167 11 [some (.ref 124), some (.int (nI c)), some (.int (nI ci)), some (.int (nI w)), some (.int (nI st.length)), some (.int (nI (fr + k))), none, none, none] [] (K0, R0, I, L) Q ↔ Q (some (.int (bI (holdN a T lo m)))) (K0, R0, I1, L) := by
  intro rem
  induction rem with
  | zero =>
    intro k st I hk hst hp hM h6 h7
    obtain rfl : k = m := by omega
    have hl := evA_len (a := a) ho k (Nat.le_refl _)
    rw [← hst, ho.2] at hl
    refine ⟨I, fun _ _ => rfl, fun Q => ?_⟩
    match st, hl with
    | [b], _ =>
      have e : holdN a T lo k = b := by unfold holdN; rw [← hst]; rfl
      rw [b167_11, and_iff_right (inA_nI hc (by decide)), nI_clamp (by omega), h6, if_neg (nI_nlt (Nat.le_refl _) (by omega)), show I 140 0 = bI b from hp.1, e]
      exact and_iff_right (by cases b <;> rfl)
    | [], hl => simp at hl
    | _ :: _ :: _, hl => simp at hl
  | succ rem ih =>
    intro k st I hk hst hp hM h6 h7
    have hl := evA_len (a := a) ho k (by omega)
    rw [← hst] at hl
    have hd := dpA_le ho k (by omega)
    have hok := ho.1 k (by omega)
    have hTk := h7 k (by omega)
    have nxt : evA a T lo (k + 1) = evN a (T (lo + k)) st := by rw [hst]; rfl
    -- one step: a cell of the pile is written
    have go : ∀ (st' : List Bool) (j : Nat) (v : Int32), st' = evN a (T (lo + k)) st → PileAt (updR I 140 j v) st' → ∃ I1, (∀ k, k ≠ 140 → I1 k = I k) ∧ ∀ Q : Option Value → XW → Prop, wp X (d + 3) m167 11 [some (.ref 124), some (.int (nI c)), some (.int (nI ci)), some (.int (nI w)), some (.int (nI st'.length)), some (.int (nI (fr + k) + 1)), none, none, none] [] (K0, R0, updR I 140 j v, L) Q ↔ Q (some (.int (bI (holdN a T lo m)))) (K0, R0, I1, L) := by
      intro st' j v e1 e2
      obtain ⟨I1, g1, g2⟩ := ih (k + 1) st' (updR I 140 j v) (by omega) (e1.trans nxt.symm) e2 (hM.cong updR_row) (by rw [updR_row 136 (by decide)]; exact h6) (fun k hk => by rw [updR_row 137 (by decide)]; exact h7 k hk)
      exact ⟨I1, fun k hk => (g1 k hk).trans (updR_row k hk), fun Q => by rw [nI_1]; exact g2 Q⟩
    have top : ∀ Q : Option Value → XW → Prop, _ := fun Q => b167_11 (X := X) (d := d + 2) (I := I) (L := L) (Q := Q) (x1 := nI c) (x2 := nI ci) (x3 := nI w) (x4 := nI st.length) (x5 := nI (fr + k))
    have hx : inA (nI (fr + k)) 600 = true := inA_nI (by omega) (by decide)
    generalize T (lo + k) = n at hok hTk go
    match n, hok, hTk, go with
    | 0, hok, hTk, go =>
      match st, hl, hp, go, top with
      | b :: r, hl, hp, go, top =>
        simp only [List.length_cons] at hl
        obtain ⟨I1, g1, g2⟩ := go ((!b) :: r) r.length (bI (!b)) rfl ⟨updR_same, hp.2.upd (Nat.le_refl _)⟩
        refine ⟨I1, g1, fun Q => ?_⟩
        have ix : inA (nI r.length) 100 = true := inA_nI (by omega) (by decide)
        rw [top Q, and_iff_right (inA_nI hc (by decide)), nI_clamp (show c < 2 ^ 31 by omega), h6, if_pos (nI_lt (by omega) (by omega)), and_iff_right hx, nI_clamp (show fr + k < 2 ^ 31 by omega), hTk, if_pos (show mT 0 = (-33) by decide), show nI (b :: r).length - 1 = nI r.length from nI_pred _, and_iff_right ix, nI_clamp (by omega), hp.1, and_iff_right (show inA (nI r.length) 100 = true ∧ fits .boolean (.int 1) = true from ⟨ix, rfl⟩), and_iff_right (show inA (nI r.length) 100 = true ∧ fits .boolean (.int 0) = true from ⟨ix, rfl⟩)]
        have g3 := g2 Q
        cases b
        · rw [if_pos (bI_0.mpr rfl)]; exact g3
        · rw [if_neg (fun q => absurd (bI_0.mp q) (by decide))]; exact g3
      | [], hl, _, _, _ => exact absurd (show 1 ≤ dpA T lo k from hok) (by simp only [List.length_nil] at hl; omega)
    | 1, hok, hTk, go =>
      match st, hl, hp, go, top with
      | b :: e :: r, hl, hp, go, top =>
        simp only [List.length_cons] at hl
        obtain ⟨I1, g1, g2⟩ := go ((e && b) :: r) r.length (bI (e && b)) rfl ⟨updR_same, hp.2.2.upd (Nat.le_refl _)⟩
        refine ⟨I1, g1, fun Q => ?_⟩
        have ix : inA (nI r.length) 100 = true := inA_nI (by omega) (by decide)
        have iy : inA (nI (r.length + 1)) 100 = true := inA_nI (by omega) (by decide)
        have hb : I 140 (r.length + 1) = bI b := hp.1
        rw [top Q, and_iff_right (inA_nI hc (by decide)), nI_clamp (show c < 2 ^ 31 by omega), h6, if_pos (nI_lt (by omega) (by omega)), and_iff_right hx, nI_clamp (show fr + k < 2 ^ 31 by omega), hTk, if_neg (show ¬ mT 1 = (-33) by decide), if_pos (show mT 1 < 0 by decide), if_pos (show mT 1 = (-38) by decide), show nI (b :: e :: r).length + (-1) = nI (r.length + 1) from nI_addn _, show nI (r.length + 1) - 1 = nI r.length from nI_pred _]
        simp only [nI_clamp (show r.length < 2 ^ 31 by omega), nI_clamp (show r.length + 1 < 2 ^ 31 by omega), ix, iy, hp.2.1, hb, fz0, fz1, true_and]
        have g3 := g2 Q
        cases b <;> cases e <;> simp only [bI_0, Bool.false_eq_true, Bool.true_eq_false, if_true, if_false, true_and, reduceCtorEq] <;> exact g3
      | [b], hl, _, _, _ => exact absurd (show 2 ≤ dpA T lo k from hok) (by simp only [List.length_cons, List.length_nil] at hl; omega)
      | [], hl, _, _, _ => exact absurd (show 2 ≤ dpA T lo k from hok) (by simp only [List.length_nil] at hl; omega)
    | 2, hok, hTk, go =>
      match st, hl, hp, go, top with
      | b :: e :: r, hl, hp, go, top =>
        simp only [List.length_cons] at hl
        obtain ⟨I1, g1, g2⟩ := go ((e || b) :: r) r.length (bI (e || b)) rfl ⟨updR_same, hp.2.2.upd (Nat.le_refl _)⟩
        refine ⟨I1, g1, fun Q => ?_⟩
        have ix : inA (nI r.length) 100 = true := inA_nI (by omega) (by decide)
        have iy : inA (nI (r.length + 1)) 100 = true := inA_nI (by omega) (by decide)
        have hb : I 140 (r.length + 1) = bI b := hp.1
        rw [top Q, and_iff_right (inA_nI hc (by decide)), nI_clamp (show c < 2 ^ 31 by omega), h6, if_pos (nI_lt (by omega) (by omega)), and_iff_right hx, nI_clamp (show fr + k < 2 ^ 31 by omega), hTk, if_neg (show ¬ mT 2 = (-33) by decide), if_pos (show mT 2 < 0 by decide), if_neg (show ¬ mT 2 = (-38) by decide), show nI (b :: e :: r).length + (-1) = nI (r.length + 1) from nI_addn _, show nI (r.length + 1) - 1 = nI r.length from nI_pred _]
        simp only [nI_clamp (show r.length < 2 ^ 31 by omega), nI_clamp (show r.length + 1 < 2 ^ 31 by omega), ix, iy, hp.2.1, hb, fz0, fz1, true_and]
        have g3 := g2 Q
        cases b <;> cases e <;> simp only [bI_0, Bool.false_eq_true, Bool.true_eq_false, if_true, if_false, true_and, reduceCtorEq] <;> exact g3
      | [b], hl, _, _, _ => exact absurd (show 2 ≤ dpA T lo k from hok) (by simp only [List.length_cons, List.length_nil] at hl; omega)
      | [], hl, _, _, _ => exact absurd (show 2 ≤ dpA T lo k from hok) (by simp only [List.length_nil] at hl; omega)
    | n + 3, hok, hTk, go =>
      have hn : n < 1800 := hok.2
      have hk12 : dpA T lo k < 12 := hok.1
      obtain ⟨I1, g1, g2⟩ := go (tstN a n :: st) st.length (bI (tstN a n)) rfl ⟨updR_same, hp.upd (Nat.le_refl _)⟩
      refine ⟨I1, g1, fun Q => ?_⟩
      have ix : inA (nI st.length) 100 = true := inA_nI (by omega) (by decide)
      have z1 : nI (1000 * (n / 300) + 100 * (n / 100 % 3) + n % 100) / 1000 = nI (n / 300) := by
        rw [show (1000 : Int32) = nI 1000 from rfl, nI_div (by omega) (by decide)]
        congr 1
        omega
      have z2 : nI (1000 * (n / 300) + 100 * (n / 100 % 3) + n % 100) / 100 = nI (10 * (n / 300) + n / 100 % 3) := by
        rw [show (100 : Int32) = nI 100 from rfl, nI_div (by omega) (by decide)]
        congr 1
        omega
      have z3 : nI (10 * (n / 300) + n / 100 % 3) - nI (10 * (n / 300) + n / 100 % 3) / 10 * 10 = nI (n / 100 % 3) := by
        refine (nI_rem (b := 10) (by omega) (by decide)).trans ?_
        congr 1
        omega
      have z4 : nI (1000 * (n / 300) + 100 * (n / 100 % 3) + n % 100) - nI (10 * (n / 300) + n / 100 % 3) * 100 = nI (n % 100) := by
        rw [← z2]
        refine (nI_rem (b := 100) (by omega) (by decide)).trans ?_
        congr 1
        omega
      have z0 : ¬ nI (1000 * (n / 300) + 100 * (n / 100 % 3) + n % 100) = (-33 : Int32) := fun q => by
        have e := nI_toInt (n := 1000 * (n / 300) + 100 * (n / 100 % 3) + n % 100) (by omega)
        rw [q, show (-33 : Int32).toInt = -33 by decide] at e
        omega
      have hlen : nI (tstN a n :: st).length = nI st.length + 1 := (nI_1 _).symm
      have f1 : (inA (nI st.length) 100 = true ∧ fits .boolean (.int 1) = true) := ⟨ix, rfl⟩
      have f0 : (inA (nI st.length) 100 = true ∧ fits .boolean (.int 0) = true) := ⟨ix, rfl⟩
      have hb := hM.2.2.2.2.2.2.2 (n / 300) (by omega)
      rw [top Q, and_iff_right (inA_nI hc (by decide)), nI_clamp (show c < 2 ^ 31 by omega), h6, if_pos (nI_lt (by omega) (by omega)), and_iff_right hx, nI_clamp (show fr + k < 2 ^ 31 by omega), hTk, show mT (n + 3) = nI (1000 * (n / 300) + 100 * (n / 100 % 3) + n % 100) from rfl, if_neg z0, if_neg (nI_pos (by omega)), z1, s168 (show n / 300 < 6 by omega) hM]
      simp only [Option.toList, List.cons_append, List.nil_append]
      rw [b167_163, z2, z3, z4, and_iff_right f1, and_iff_right f0, nI_clamp (show st.length < 2 ^ 31 by omega)]
      have g3 := g2 Q
      rw [hlen] at g3
      refine Iff.trans ?_ g3
      unfold tstN
      have e0 : (nI (n / 100 % 3) = 0) ↔ n / 100 % 3 = 0 := nI_eq (b := 0) (by omega) (by decide)
      have e1 : (nI (n / 100 % 3) = 1) ↔ n / 100 % 3 = 1 := nI_eq (b := 1) (by omega) (by decide)
      by_cases c0 : n / 100 % 3 = 0
      · rw [if_pos (e0.mpr c0), if_pos c0]
        have e := nI_ltI hb (show n % 100 < 2 ^ 31 by omega)
        by_cases c : a (n / 300) < n % 100
        · rw [if_pos (e.mpr c), decide_eq_true c]; exact Iff.rfl
        · rw [if_neg (fun z => c (e.mp z)), decide_eq_false c]; exact Iff.rfl
      rw [if_neg (fun z => c0 (e0.mp z)), if_neg c0]
      by_cases c1 : n / 100 % 3 = 1
      · rw [if_pos (e1.mpr c1), if_pos c1]
        have e := nI_eq hb (show n % 100 < 2 ^ 31 by omega)
        by_cases c : a (n / 300) = n % 100
        · rw [if_pos (e.mpr c), decide_eq_true c]; exact Iff.rfl
        · rw [if_neg (fun z => c (e.mp z)), decide_eq_false c]; exact Iff.rfl
      · rw [if_neg (fun z => c1 (e1.mp z)), if_neg c1]
        have e := nI_ltI (show n % 100 < 2 ^ 31 by omega) hb
        by_cases c : n % 100 < a (n / 300)
        · rw [if_pos (e.mpr c), decide_eq_true c]; exact Iff.rfl
        · rw [if_neg (fun z => c (e.mp z)), decide_eq_false c]; exact Iff.rfl
/-- does E hold: the reference -/
theorem s167 {I : Nat → Nat → Int32} {c ci w fr lo m : Nat} {a T : Nat → Nat} (hc : c < 60) (hm : fr + m ≤ 600) (ho : okE T lo m) (hM : MF I ci w a) (h5 : I 135 c = nI fr) (h6 : I 136 c = nI (fr + m)) (h7 : ∀ k, k < m → I 137 (fr + k) = mT (T (lo + k))) : ∃ I1, (∀ k, k ≠ 140 → I1 k = I k) ∧ ∀ Q : Option Value → XW → Prop, wp X (d + 3) m167 0 [some (.ref 124), some (.int (nI c)), some (.int (nI ci)), some (.int (nI w)), none, none, none, none, none] [] (K0, R0, I, L) Q ↔ Q (some (.int (bI (holdN a T lo m)))) (K0, R0, I1, L) := by
  obtain ⟨I1, g1, g2⟩ := hold_go (X := X) (d := d) (L := L) hc hm ho m 0 [] I (by omega) rfl trivial hM h6 h7
  refine ⟨I1, g1, fun Q => ?_⟩
  rw [b167_0, and_iff_right (inA_nI hc (by decide)), nI_clamp (by omega), h5]
  exact g2 Q
end HOLD
