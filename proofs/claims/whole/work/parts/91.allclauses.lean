/-! All clauses of an inn. -/
section ALL
variable {X : Nat × (Nat → Int32)} {d d' : Nat} {L : Nat → Nat → Int64} {tx : Nat → Nat} {sz r h : Nat}
def m41W (X : Nat × (Nat → Int32)) (d : Nat) (L : Nat → Nat → Int64) (r c : Nat) (I : Nat → Nat → Int32) (Q : Option Value → XW → Prop) : Prop := wp X (d + 37) m41 11 [some (.ref 64), some (.ref r), some (.int (nI c))] [] (K0, R0, I, L) Q
def m149W (X : Nat × (Nat → Int32)) (d : Nat) (L : Nat → Nat → Int64) (h c : Nat) (I : Nat → Nat → Int32) (Q : Option Value → XW → Prop) : Prop := wp X (d + 9) m149 15 [some (.ref 124), some (.int (nI h)), some (.int (nI c))] [] (K0, R0, I, L) Q
def AllR (X : Nat × (Nat → Int32)) (d d' : Nat) (L : Nat → Nat → Int64) (tx : Nat → Nat) (sz r h c p : Nat) (wd nb mm : Nat → Nat) (o : List Nat) : Prop := ∃ q, q ≤ sz ∧ (((∀ J I, TxC J tx sz → CLS r c wd nb mm o p J I → ∃ I1, CFr r J I1 ∧ I1 64 2 = nI q ∧ ∀ Q, m41W X d L r c I Q ↔ Q (some (.int 0)) (K0, R0, I1, L)) ∧ ∀ J I, TxM J tx sz → (∀ k, k < 16 → J 139 k = I0 139 k) → MLS h c wd nb mm o p J I → ∃ I1, MFL h J I1 ∧ I1 124 11 = nI q ∧ ∀ Q, m149W X d' L h c I Q ↔ Q (some (.int 0)) (K0, R0, I1, L)) ∨ ∃ c' wd' nb' mm' o', c' ≤ 10 ∧ PF c' wd' nb' mm' o' ∧ o'.length ≤ q ∧ (∀ J I, TxC J tx sz → CLS r c wd nb mm o p J I → ∃ I1, CLS r c' wd' nb' mm' o' q J I1 ∧ ∀ Q, m41W X d L r c I Q ↔ Q (some (.int 1)) (K0, R0, I1, L)) ∧ ∀ J I, TxM J tx sz → (∀ k, k < 16 → J 139 k = I0 139 k) → MLS h c wd nb mm o p J I → ∃ I1, MLS h c' wd' nb' mm' o' q J I1 ∧ I1 132 h = nI c' ∧ ∀ Q, m149W X d' L h c I Q ↔ Q (some (.int 1)) (K0, R0, I1, L))
theorem MFL.cnt {J I : Nat → Nat → Int32} {v : Int32} (g : MFL h J I) : MFL h J (updR I 132 h v) := fun a b h1 h2 h3 h4 h5 => by
  by_cases e : a = 132
  · subst e; rw [updR_j (fun z => h5 ⟨rfl, z⟩)]; exact g _ b h1 h2 h3 h4 h5
  · rw [updR_k e]; exact g a b h1 h2 h3 h4 h5
theorem MLS.cnt {c p : Nat} {wd nb mm : Nat → Nat} {o : List Nat} {J I : Nat → Nat → Int32} {v : Int32} (g : MLS h c wd nb mm o p J I) : MLS h c wd nb mm o p J (updR I 132 h v) := by
  obtain ⟨g1, ⟨g2, g3, g4⟩, g5⟩ := g
  refine ⟨g1.cnt, ⟨by rw [updR_k (by decide)]; exact g2, by rw [updR_k (by decide)]; exact g3, fun k hk => by rw [updR_k (by decide)]; exact g4 k hk⟩, fun j hj => ?_⟩
  rw [updR_k (by decide), updR_k (by decide), updR_k (by decide), updR_k (by decide)]
  exact g5 j hj
theorem MLS.at {c p q : Nat} {wd nb mm : Nat → Nat} {o : List Nat} {J I : Nat → Nat → Int32} (g : MLS h c wd nb mm o p J I) : MLS h c wd nb mm o q J (updR I 124 11 (nI q)) := by
  obtain ⟨g1, ⟨g2, g3, g4⟩, g5⟩ := g
  refine ⟨fun a b h1 h2 h3 h4 h5 => ?_, ⟨updR_same, by rw [updR_j (by decide)]; exact g3, fun k hk => by rw [updR_k (by decide)]; exact g4 k hk⟩, fun j hj => ?_⟩
  · by_cases e : a = 124
    · subst e; rw [updR_j (fun z => h1 ⟨rfl, Or.inl z⟩)]; exact g1 _ b h1 h2 h3 h4 h5
    · rw [updR_k e]; exact g1 a b h1 h2 h3 h4 h5
  · rw [updR_k (by decide), updR_k (by decide), updR_k (by decide), updR_k (by decide)]
    exact g5 j hj
theorem CLS.at {c p q : Nat} {wd nb mm : Nat → Nat} {o : List Nat} {J I : Nat → Nat → Int32} (hr2 : 82 ≤ r) (g : CLS r c wd nb mm o p J I) : CLS r c wd nb mm o q J (updR I 64 2 (nI q)) := by
  obtain ⟨g1, ⟨g2, g3, g4, g6⟩, g7, g8, g5⟩ := g
  refine ⟨g1.trans CFr.place, ⟨updR_same, by rw [updR_k (by omega)]; exact g3, fun k hk => by rw [updR_k (by omega)]; exact g4 k hk, by rw [updR_k (by omega)]; exact g6⟩, by rw [updR_k (by omega)]; exact g7, by rw [updR_k (by omega)]; exact g8, fun j hj hw => ?_⟩
  rw [updR_k (by omega), updR_k (by omega)]
  exact g5 j hj hw
theorem clauses_ok (hr : isInn r) (hr2 : 82 ≤ r) (hh : h < 6) (hS : TxS tx sz) (h100 : sz ≤ 100) : ∀ rem c p (wd nb mm : Nat → Nat) (o : List Nat), c + (rem + 1) = 10 → p ≤ sz → PF c wd nb mm o → o.length ≤ p → AllR X d d' L tx sz r h c p wd nb mm o := by
  intro rem
  induction rem with
  | zero => ?_
  | succ rem ih => ?_
  all_goals
    intro c p wd nb mm o hc hp hP ho
    have c10 : c < 10 := by omega
    have ctop : ∀ (I : Nat → Nat → Int32) Q, m41W X d L r c I Q ↔ m43W X d L r I (fun r1 w1 => wp X (d + 37) m41 22 [some (.ref 64), some (.ref r), some (.int (nI c))] (r1.toList ++ []) w1 Q) := by
      intro I Q
      unfold m41W
      rw [b41_11 hr, if_pos (show nI c < (10 : Int32) from nI_lt (b := 10) c10 (by decide))]
      exact Iff.rfl
    have mtop : ∀ (I : Nat → Nat → Int32) Q, m149W X d' L h c I Q ↔ m150W X d' L (10 * h + c) I (fun r1 w1 => wp X (d' + 9) m149 25 [some (.ref 124), some (.int (nI h)), some (.int (nI c))] (r1.toList ++ []) w1 Q) := by
      intro I Q
      unfold m149W
      rw [b149_15, show (10 : Int32) * nI h = nI (10 * h) from nI_mul 10 h, nI_add]
      exact Iff.rfl
    obtain ⟨q, q1, q2, ⟨f1, f2⟩ | ⟨w, n, ts, w3, n9, k1, k2, k3, k4, k5⟩⟩ := cl_ok (X := X) (d := d) (d' := d') (L := L) (ix := 10 * h + c) hr hr2 hh (by omega) hS h100 hp
    · refine ⟨q, q2, Or.inl ⟨fun J I hT g => ?_, fun J I hT h9 g => ?_⟩⟩
      · obtain ⟨I1, a1, a2, a3⟩ := f1 I o (cntA wd c) (g.1.tx hr2 hT) g.2.1 ho
        refine ⟨I1, g.1.trans a1, a2, fun Q => (ctop I Q).trans ((a3 _).trans ?_)⟩
        simp only [Option.toList, List.cons_append, List.nil_append]
        rw [b41_22 hr, if_pos rfl]
      · obtain ⟨I1, a1, a2, a3⟩ := f2 I o (g.1.tx hT) g.2.1 (fun k hk => (g.1 139 k (by omega) (by decide) (by omega) (by omega) (by omega)).trans (h9 k hk)) ho
        refine ⟨I1, g.1.trans (a1.mfl c10), a2, fun Q => (mtop I Q).trans ((a3 _).trans ?_)⟩
        simp only [Option.toList, List.cons_append, List.nil_append]
        rw [b149_25, if_pos rfl]
    · have hP2 := hP.step (n := n) w3 n9 k2 k3
      have ol : (o ++ ts).length ≤ q := by rw [List.length_append]; omega
      -- the clause is read
      have cst : ∀ J I, TxC J tx sz → CLS r c wd nb mm o p J I → ∃ I1, CLS r (c + 1) (upd1 wd c w) (upd1 nb c n) (upd1 mm c ts.length) (o ++ ts) q J I1 ∧ I1 64 1 = nI sz ∧ ∀ Q, m41W X d L r c I Q ↔ (if sg tx sz q = 59 then (if nI c = 9 then Q (some (.int (if nI q = nI sz then 1 else 0))) (K0, R0, I1, L) else m41W X d L r (c + 1) (updR I1 64 2 (nI (q + 1))) Q) else Q (some (.int (if nI q = nI sz then 1 else 0))) (K0, R0, I1, L)) := by
        intro J I hT g
        obtain ⟨I1, a1, a2⟩ := k4 I o (cntA wd c) (g.1.tx hr2 hT) g.2.1 ho (by have := @cntA_n wd c; omega)
        have g1 := g.step hP a1
        have hT1 := g1.1.tx hr2 hT
        refine ⟨I1, g1, hT1.2.1, fun Q => (ctop I Q).trans ((a2 _).trans ?_)⟩
        simp only [Option.toList, List.cons_append, List.nil_append]
        rw [b41_22 hr, if_neg (by decide), p44 hT1 g1.2.1.1 q2]
        simp only [Option.toList, List.cons_append, List.nil_append]
        rw [b41_31 hr, g1.2.1.1, hT1.2.1, nI_1, nI_1]
        exact Iff.rfl
      have mst : ∀ J I, TxM J tx sz → (∀ k, k < 16 → J 139 k = I0 139 k) → MLS h c wd nb mm o p J I → ∃ I1, MLS h (c + 1) (upd1 wd c w) (upd1 nb c n) (upd1 mm c ts.length) (o ++ ts) q J I1 ∧ I1 132 h = nI (c + 1) ∧ ∀ Q, m149W X d' L h c I Q ↔ (if nI q = nI sz then Q (some (.int 1)) (K0, R0, I1, L) else if nI (c + 1) = 10 then Q (some (.int 0)) (K0, R0, I1, L) else if sg tx sz q = 59 then m149W X d' L h (c + 1) (updR I1 124 11 (nI (q + 1))) Q else Q (some (.int 0)) (K0, R0, I1, L)) := by
        intro J I hT h9 g
        obtain ⟨I1, a1, a2⟩ := k5 I o (g.1.tx hT) g.2.1 (fun k hk => (g.1 139 k (by omega) (by decide) (by omega) (by omega) (by omega)).trans (h9 k hk)) ho
        have g1 := (g.step hP c10 a1)
        have g2 := g1.cnt (v := nI (c + 1))
        have hT1 := g2.1.tx hT
        refine ⟨_, g2, updR_same, fun Q => (mtop I Q).trans ((a2 _).trans ?_)⟩
        simp only [Option.toList, List.cons_append, List.nil_append]
        rw [b149_25, if_neg (by decide), and_iff_right (inA_nI hh (by decide)), g1.2.1.1, (g1.1.tx hT).2.1, nI_1, nI_clamp (by omega), p154 (d := d' + 7) hT1 g2.2.1.1 q2]
        by_cases z : sg tx sz q = 59
        · rw [if_pos z, if_pos z]
          simp only [Option.toList, List.cons_append, List.nil_append]
          rw [b149_65, if_neg (show ¬ (1 : Int32) = 0 by decide)]
          exact Iff.rfl
        · rw [if_neg z, if_neg z]
          simp only [Option.toList, List.cons_append, List.nil_append]
          rw [b149_65, if_pos rfl]
      by_cases e : q = sz
      · -- the end
        have ns : ¬ sg tx sz q = 59 := fun z => absurd (sg_lt z (by decide)) (by omega)
        refine ⟨q, q2, Or.inr ⟨c + 1, _, _, _, _, by omega, hP2, ol, fun J I hT g => ?_, fun J I hT h9 g => ?_⟩⟩
        · obtain ⟨I1, a1, a2, a3⟩ := cst J I hT g
          exact ⟨I1, a1, fun Q => (a3 Q).trans (by rw [if_neg ns, if_pos (by rw [e])])⟩
        · obtain ⟨I1, a1, a2, a3⟩ := mst J I hT h9 g
          exact ⟨I1, a1, a2, fun Q => (a3 Q).trans (by rw [if_pos (by rw [e])])⟩
      · have nq : ¬ nI q = nI sz := nI_ne (by omega) (by omega) e
        first
        | -- the last
          have c9 : c = 9 := by omega
          refine ⟨q, q2, Or.inl ⟨fun J I hT g => ?_, fun J I hT h9 g => ?_⟩⟩
          · obtain ⟨I1, a1, a2, a3⟩ := cst J I hT g
            refine ⟨I1, a1.1, a1.2.1.1, fun Q => (a3 Q).trans ?_⟩
            rw [if_neg nq, c9, if_pos (show nI 9 = 9 by decide)]
            split <;> exact Iff.rfl
          · obtain ⟨I1, a1, a2, a3⟩ := mst J I hT h9 g
            refine ⟨I1, a1.1, a1.2.1.1, fun Q => (a3 Q).trans ?_⟩
            rw [if_neg nq, c9, if_pos (show nI (9 + 1) = 10 by decide)]
        | have c9 : ¬ nI c = 9 := nI_ne (b := 9) (by omega) (by decide) (by omega)
          have c91 : ¬ nI (c + 1) = 10 := nI_ne (b := 10) (by omega) (by decide) (by omega)
          by_cases z : sg tx sz q = 59
          · have l := sg_lt z (by decide)
            obtain ⟨y, y1, ⟨f1, f2⟩ | ⟨c', wd', nb', mm', o', v1, v2, v3, v4, v5⟩⟩ := ih (c + 1) (q + 1) _ _ _ _ (by omega) l hP2 (by omega)
            · refine ⟨y, y1, Or.inl ⟨fun J I hT g => ?_, fun J I hT h9 g => ?_⟩⟩
              · obtain ⟨I1, a1, a2, a3⟩ := cst J I hT g
                obtain ⟨I2, b1, b2, b3⟩ := f1 J _ hT (a1.at hr2 (q := q + 1))
                exact ⟨I2, b1, b2, fun Q => ((a3 Q).trans (by rw [if_pos z, if_neg c9])).trans (b3 Q)⟩
              · obtain ⟨I1, a1, a2, a3⟩ := mst J I hT h9 g
                obtain ⟨I2, b1, b2, b3⟩ := f2 J _ hT h9 (a1.at (q := q + 1))
                exact ⟨I2, b1, b2, fun Q => ((a3 Q).trans (by rw [if_neg nq, if_neg c91, if_pos z])).trans (b3 Q)⟩
            · refine ⟨y, y1, Or.inr ⟨c', wd', nb', mm', o', v1, v2, v3, fun J I hT g => ?_, fun J I hT h9 g => ?_⟩⟩
              · obtain ⟨I1, a1, a2, a3⟩ := cst J I hT g
                obtain ⟨I2, b1, b3⟩ := v4 J _ hT (a1.at hr2 (q := q + 1))
                exact ⟨I2, b1, fun Q => ((a3 Q).trans (by rw [if_pos z, if_neg c9])).trans (b3 Q)⟩
              · obtain ⟨I1, a1, a2, a3⟩ := mst J I hT h9 g
                obtain ⟨I2, b1, b2, b3⟩ := v5 J _ hT h9 (a1.at (q := q + 1))
                exact ⟨I2, b1, b2, fun Q => ((a3 Q).trans (by rw [if_neg nq, if_neg c91, if_pos z])).trans (b3 Q)⟩
          · refine ⟨q, q2, Or.inl ⟨fun J I hT g => ?_, fun J I hT h9 g => ?_⟩⟩
            · obtain ⟨I1, a1, a2, a3⟩ := cst J I hT g
              exact ⟨I1, a1.1, a1.2.1.1, fun Q => (a3 Q).trans (by rw [if_neg z, if_neg nq])⟩
            · obtain ⟨I1, a1, a2, a3⟩ := mst J I hT h9 g
              exact ⟨I1, a1.1, a1.2.1.1, fun Q => (a3 Q).trans (by rw [if_neg nq, if_neg c91, if_neg z])⟩
end ALL
