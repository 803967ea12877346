/-! Rows with an or; one and a row. -/
section RD
variable {X : Nat × (Nat → Int32)} {d : Nat} {L : Nat → Nat → Int64} {tx : Nat → Nat} {sz r h ix : Nat}
/-- the same with an or -/
theorem eloop (hr : isInn r) (hr2 : 82 ≤ r) (hh : h < 6) (hS : TxS tx sz) (h100 : sz ≤ 100) {δ p : Nat} (hδ : δ ≤ 4) (hs : p ≤ sz) (one : p + 1 ≤ sz → BothR X d L tx sz r h ix δ (p + 1)) (rest : ∀ q, p < q → q ≤ sz → ELoopR X d L tx sz r h ix δ q) : ELoopR X d L tx sz r h ix δ p := by
  intro n38
  -- the head of the loop
  have top : ∀ e i Jc, TxC Jc tx sz → ∀ o I, CS Jc r p o I → i ≤ p → ∀ Q, P5 X L r δ (e + 1) i I Q ↔ (if nI i < 100 then (if sg tx sz p = 124 then wp X e m56 0 [some (.ref 64), some (.ref r), some (.int (nI δ)), none] [] (K0, R0, updR I 64 2 (nI (p + 1)), L) (fun r1 w1 => wp X (e + 1) m55 44 [some (.ref 64), some (.ref r), some (.int (nI δ)), some (.int (nI i))] (r1.toList ++ []) w1 Q) else Q (some (.int 1)) (K0, R0, I, L)) else Q (some (.int 1)) (K0, R0, I, L)) := by
    intro e i Jc hTc o I g hi Q
    unfold P5
    rw [b55_13 hr, p44 (g.tx hr2 hTc) g.2.1 hs]
    simp only [Option.toList, List.cons_append, List.nil_append]
    rw [b55_23 hr, g.2.1, nI_1]
    exact Iff.rfl
  by_cases c : sg tx sz p = 124
  · have l := sg_lt c (by decide)
    obtain ⟨q, q1, q2, ⟨f1, f2⟩ | ⟨ts, k1, k2, k5, k3, k4⟩⟩ := one l
    · -- no E stands behind it
      refine ⟨q, by omega, q2, Or.inl ⟨fun e i he hi Jc hTc o I g ho => ?_, fun Jm hTm o W I g hl hc hd => ?_⟩⟩
      · obtain ⟨e, rfl⟩ : ∃ e', e = e' + 1 := ⟨e - 1, by omega⟩
        obtain ⟨I1, o1, g1, g2⟩ := f1 e 0 (by omega) (Nat.zero_le _) Jc hTc o _ (g.place hr2 (q := p + 1)) (by omega)
        refine ⟨I1, o1, g1, fun Q => ?_⟩
        have g2 : ∀ Q, wp X e m56 0 [some (.ref 64), some (.ref r), some (.int (nI δ)), none] [] (K0, R0, updR I 64 2 (nI (p + 1)), L) Q ↔ _ := g2
        rw [top e i Jc hTc o I g hi, if_pos (show nI i < (100 : Int32) from nI_lt (b := 100) (by omega) (by decide)), if_pos c, g2]
        simp only [Option.toList, List.cons_append, List.nil_append]
        rw [b55_44 hr, if_pos rfl]
      · obtain ⟨I0, m1, m2⟩ := m0_more (X := X) (d := d) (L := L) (s := 124) hTm g l (by omega) c (Or.inr rfl) (hc.stop _)
        obtain ⟨I1, g1, g2⟩ := f2 Jm hTm o (124 :: W) I0 m1 (by rw [List.length_cons]; omega) (Or.inr ⟨124, W, rfl, Or.inr rfl⟩) (show nots (124 :: W) ≤ δ from Nat.zero_le _)
        exact ⟨I1, g1, fun Q => (m2 Q).trans (g2 Q)⟩
    · -- one does
      obtain ⟨q', r1, r2, ⟨f1, f2⟩ | ⟨us, n1, n2, n5, n3, n4⟩⟩ := rest q (by omega) q2 k5
      all_goals
        have cl : ∀ e i, 22 + 3 * (4 - δ) ≤ e → i ≤ p → ∀ Jc, TxC Jc tx sz → ∀ o I, CS Jc r p o I → o.length ≤ p → ∃ I2, CS Jc r q (o ++ ts ++ [2]) I2 ∧ ∀ Q, P5 X L r δ e i I Q ↔ P5 X L r δ e (i + 1) I2 Q := by
          intro e i he hi Jc hTc o I g ho
          obtain ⟨e, rfl⟩ : ∃ e', e = e' + 1 := ⟨e - 1, by omega⟩
          obtain ⟨I1, g1, g2⟩ := k3 e 0 (by omega) (Nat.zero_le _) Jc hTc o _ (g.place hr2 (q := p + 1)) (by omega)
          refine ⟨_, g1.push hr2 (t := 2), fun Q => ?_⟩
          have g2 : ∀ Q, wp X e m56 0 [some (.ref 64), some (.ref r), some (.int (nI δ)), none] [] (K0, R0, updR I 64 2 (nI (p + 1)), L) Q ↔ _ := g2
          have hlen : (o ++ ts).length < 100 := by rw [List.length_append]; omega
          rw [top e i Jc hTc o I g hi, if_pos (show nI i < (100 : Int32) from nI_lt (b := 100) (by omega) (by decide)), if_pos c, g2]
          simp only [Option.toList, List.cons_append, List.nil_append]
          rw [b55_44 hr, if_neg (by decide), p61 hr hlen g1.2.2.1]
          simp only [Option.toList, List.cons_append, List.nil_append]
          rw [b55_55 hr, nI_1]
          exact Iff.rfl
        have mo : ∀ Jm, TxM Jm tx sz → ∀ o W I, MS Jm h ix p o W δ I → o.length + W.length ≤ p → cC W → nots W ≤ δ → ∃ I2, MS Jm h ix q (o ++ ts ++ [2]) W δ I2 ∧ ∀ Q, Mw X d L ix 0 I Q ↔ Mw X d L ix 0 I2 Q := by
          intro Jm hTm o W I g hl hc hd
          obtain ⟨I0, m1, m2⟩ := m0_more (X := X) (d := d) (L := L) (s := 124) hTm g l (by omega) c (Or.inr rfl) (hc.stop _)
          obtain ⟨I1, g1, g2⟩ := k4 Jm hTm o (124 :: W) I0 m1 (by rw [List.length_cons]; omega) (Or.inr ⟨124, W, rfl, Or.inr rfl⟩) (show nots (124 :: W) ≤ δ from Nat.zero_le _)
          have g1 : MS Jm h ix q (o ++ ts ++ []) (124 :: W) (δ - 0) I1 := g1
          rw [List.append_nil] at g1
          obtain ⟨I2, j1, j2⟩ := m0_go (X := X) (d := d) (L := L) (t := 2) hh hTm g1 q2 (by rw [List.length_append]; omega) (Or.inr ⟨rfl, rfl⟩) (fun _ => k5)
          exact ⟨I2, j1, fun Q => ((m2 Q).trans (g2 Q)).trans (j2 Q)⟩
      · refine ⟨q', by omega, r2, Or.inl ⟨fun e i he hi Jc hTc o I g ho => ?_, fun Jm hTm o W I g hl hc hd => ?_⟩⟩
        · obtain ⟨I2, a1, a2⟩ := cl e i he hi Jc hTc o I g ho
          obtain ⟨I3, o3, b1, b2⟩ := f1 e (i + 1) he (by omega) Jc hTc _ I2 a1 (by rw [List.length_append, List.length_append]; simp only [List.length_cons, List.length_nil]; omega)
          exact ⟨I3, o3, b1, fun Q => (a2 Q).trans (b2 Q)⟩
        · obtain ⟨I2, a1, a2⟩ := mo Jm hTm o W I g hl hc hd
          obtain ⟨I3, b1, b2⟩ := f2 Jm hTm _ W I2 a1 (by rw [List.length_append, List.length_append]; simp only [List.length_cons, List.length_nil]; omega) hc hd
          exact ⟨I3, b1, fun Q => (a2 Q).trans (b2 Q)⟩
      · refine ⟨q', by omega, r2, Or.inr ⟨ts ++ [2] ++ us, by rw [List.length_append, List.length_append]; simp only [List.length_cons, List.length_nil]; omega, good_cons k2 n2 (Or.inr rfl), n5, fun e i he hi Jc hTc o I g ho => ?_, fun Jm hTm o W I g hl hc hd => ?_⟩⟩
        · obtain ⟨I2, a1, a2⟩ := cl e i he hi Jc hTc o I g ho
          obtain ⟨I3, b1, b2⟩ := n3 e (i + 1) he (by omega) Jc hTc _ I2 a1 (by rw [List.length_append, List.length_append]; simp only [List.length_cons, List.length_nil]; omega)
          exact ⟨I3, by rw [show o ++ (ts ++ [2] ++ us) = o ++ ts ++ [2] ++ us by simp only [List.append_assoc]]; exact b1, fun Q => (a2 Q).trans (b2 Q)⟩
        · obtain ⟨I2, a1, a2⟩ := mo Jm hTm o W I g hl hc hd
          obtain ⟨I3, b1, b2⟩ := n4 Jm hTm _ W I2 a1 (by rw [List.length_append, List.length_append]; simp only [List.length_cons, List.length_nil]; omega) hc hd
          exact ⟨I3, by rw [show o ++ (ts ++ [2] ++ us) = o ++ ts ++ [2] ++ us by simp only [List.append_assoc]]; exact b1, fun Q => (a2 Q).trans (b2 Q)⟩
  · refine ⟨p, Nat.le_refl _, hs, Or.inr ⟨[], by simp only [List.length_nil]; omega, good_nil, ⟨n38, c⟩, fun e i he hi Jc hTc o I g ho => ?_, fun Jm hTm o W I g hl hc hd => ?_⟩⟩
    · obtain ⟨e, rfl⟩ : ∃ e', e = e' + 1 := ⟨e - 1, by omega⟩
      refine ⟨I, by rw [List.append_nil]; exact g, fun Q => ?_⟩
      rw [top e i Jc hTc o I g hi, if_neg c]
      split <;> exact Iff.rfl
    · obtain ⟨z1, z2, -⟩ := hc.cB.no
      exact ⟨I, by rw [z1, z2]; show MS Jm h ix p (o ++ [] ++ []) W (δ - 0) I; rw [List.append_nil, List.append_nil]; exact g, fun Q => Iff.rfl⟩
/-- one, and a row of such behind it -/
theorem both_ok (hr : isInn r) (hr2 : 82 ≤ r) (h100 : sz ≤ 100) {δ p : Nat} (hδ : δ ≤ 4) (one : OneR X d L tx sz r h ix δ p) (rest : ∀ q, p < q → q ≤ sz → BLoopR X d L tx sz r h ix δ q) : BothR X d L tx sz r h ix δ p := by
  obtain ⟨q, q1, q2, ⟨f1, f2⟩ | ⟨ts, k1, k2, k5, k3, k4⟩⟩ := one
  · refine ⟨q, q1, q2, Or.inl ⟨fun e i he hi Jc hTc o I g ho => ?_, fun Jm hTm o W I g hl hc hd => f2 Jm hTm o W I g hl trivial hd⟩⟩
    obtain ⟨e, rfl⟩ : ∃ e', e = e' + 1 := ⟨e - 1, by omega⟩
    obtain ⟨I1, o1, g1, g2⟩ := f1 e 0 (by omega) (Nat.zero_le _) Jc hTc o I g ho
    refine ⟨I1, o1, g1, fun Q => ?_⟩
    have g2 : ∀ Q, wp X e m57 0 [some (.ref 64), some (.ref r), some (.int (nI δ)), none, none, none, none] [] (K0, R0, I, L) Q ↔ _ := g2
    unfold P2
    rw [b56_0 hr, g2]
    simp only [Option.toList, List.cons_append, List.nil_append]
    rw [b56_6 hr, if_pos rfl]
  · have cl : ∀ e, 21 + 3 * (4 - δ) ≤ e → ∀ Jc, TxC Jc tx sz → ∀ o I, CS Jc r p o I → o.length ≤ p → ∃ I2, CS Jc r q (o ++ ts) I2 ∧ ∀ Q, P2 X L r δ e 0 I Q ↔ P3 X L r δ e 0 I2 Q := by
      intro e he Jc hTc o I g ho
      obtain ⟨e, rfl⟩ : ∃ e', e = e' + 1 := ⟨e - 1, by omega⟩
      obtain ⟨I1, g1, g2⟩ := k3 e 0 (by omega) (Nat.zero_le _) Jc hTc o I g ho
      refine ⟨I1, g1, fun Q => ?_⟩
      have g2 : ∀ Q, wp X e m57 0 [some (.ref 64), some (.ref r), some (.int (nI δ)), none, none, none, none] [] (K0, R0, I, L) Q ↔ _ := g2
      unfold P2 P3
      rw [b56_0 hr, g2]
      simp only [Option.toList, List.cons_append, List.nil_append]
      rw [b56_6 hr, if_neg (by decide)]
      exact Iff.rfl
    have mo : ∀ Jm, TxM Jm tx sz → ∀ o W I, MS Jm h ix p o W δ I → o.length + W.length ≤ p → cB W → nots W ≤ δ → ∃ I2, MS Jm h ix q (o ++ ts) W δ I2 ∧ ∀ Q, Mw X d L ix 1 I Q ↔ Mw X d L ix 0 I2 Q := by
      intro Jm hTm o W I g hl hc hd
      obtain ⟨I1, g1, g2⟩ := k4 Jm hTm o W I g hl trivial hd
      obtain ⟨z1, z2, -⟩ := hc.no
      rw [z1, z2] at g1
      have g1 : MS Jm h ix q (o ++ ts ++ []) W (δ - 0) I1 := g1
      rw [List.append_nil] at g1
      exact ⟨I1, g1, g2⟩
    obtain ⟨q', r1, r2, ⟨f1, f2⟩ | ⟨us, n1, n2, n5, n3, n4⟩⟩ := rest q (by omega) q2
    · refine ⟨q', by omega, r2, Or.inl ⟨fun e i he hi Jc hTc o I g ho => ?_, fun Jm hTm o W I g hl hc hd => ?_⟩⟩
      · obtain ⟨I2, a1, a2⟩ := cl e he Jc hTc o I g ho
        obtain ⟨I3, o3, b1, b2⟩ := f1 e 0 he (Nat.zero_le _) Jc hTc _ I2 a1 (by rw [List.length_append]; omega)
        exact ⟨I3, o3, b1, fun Q => (a2 Q).trans (b2 Q)⟩
      · obtain ⟨I2, a1, a2⟩ := mo Jm hTm o W I g hl hc hd
        obtain ⟨I3, b1, b2⟩ := f2 Jm hTm _ W I2 a1 (by rw [List.length_append]; omega) hc hd
        exact ⟨I3, b1, fun Q => (a2 Q).trans (b2 Q)⟩
    · refine ⟨q', by omega, r2, Or.inr ⟨ts ++ us, by rw [List.length_append]; omega, ?_, n5, fun e i he hi Jc hTc o I g ho => ?_, fun Jm hTm o W I g hl hc hd => ?_⟩⟩
      · have := good_two k2 n2
        rw [show 9 - 2 * δ + 1 = 10 - 2 * δ by omega] at this
        exact this
      · obtain ⟨I2, a1, a2⟩ := cl e he Jc hTc o I g ho
        obtain ⟨I3, b1, b2⟩ := n3 e 0 he (Nat.zero_le _) Jc hTc _ I2 a1 (by rw [List.length_append]; omega)
        exact ⟨I3, by rw [← List.append_assoc]; exact b1, fun Q => (a2 Q).trans (b2 Q)⟩
      · obtain ⟨I2, a1, a2⟩ := mo Jm hTm o W I g hl hc hd
        obtain ⟨I3, b1, b2⟩ := n4 Jm hTm _ W I2 a1 (by rw [List.length_append]; omega) hc hd
        exact ⟨I3, by rw [← List.append_assoc]; exact b1, fun Q => (a2 Q).trans (b2 Q)⟩
/-- one, and a row of such behind it -/
theorem either_ok (hr : isInn r) (hr2 : 82 ≤ r) (h100 : sz ≤ 100) {δ p : Nat} (hδ : δ ≤ 4) (one : BothR X d L tx sz r h ix δ p) (rest : ∀ q, p < q → q ≤ sz → ELoopR X d L tx sz r h ix δ q) : EithR X d L tx sz r h ix δ p := by
  obtain ⟨q, q1, q2, ⟨f1, f2⟩ | ⟨ts, k1, k2, k5, k3, k4⟩⟩ := one
  · refine ⟨q, q1, q2, Or.inl ⟨fun e i he hi Jc hTc o I g ho => ?_, fun Jm hTm o W I g hl hc hd => f2 Jm hTm o W I g hl hc.cB hd⟩⟩
    obtain ⟨e, rfl⟩ : ∃ e', e = e' + 1 := ⟨e - 1, by omega⟩
    obtain ⟨I1, o1, g1, g2⟩ := f1 e 0 (by omega) (Nat.zero_le _) Jc hTc o I g ho
    refine ⟨I1, o1, g1, fun Q => ?_⟩
    have g2 : ∀ Q, wp X e m56 0 [some (.ref 64), some (.ref r), some (.int (nI δ)), none] [] (K0, R0, I, L) Q ↔ _ := g2
    unfold P4
    rw [b55_0 hr, g2]
    simp only [Option.toList, List.cons_append, List.nil_append]
    rw [b55_6 hr, if_pos rfl]
  · have cl : ∀ e, 22 + 3 * (4 - δ) ≤ e → ∀ Jc, TxC Jc tx sz → ∀ o I, CS Jc r p o I → o.length ≤ p → ∃ I2, CS Jc r q (o ++ ts) I2 ∧ ∀ Q, P4 X L r δ e 0 I Q ↔ P5 X L r δ e 0 I2 Q := by
      intro e he Jc hTc o I g ho
      obtain ⟨e, rfl⟩ : ∃ e', e = e' + 1 := ⟨e - 1, by omega⟩
      obtain ⟨I1, g1, g2⟩ := k3 e 0 (by omega) (Nat.zero_le _) Jc hTc o I g ho
      refine ⟨I1, g1, fun Q => ?_⟩
      have g2 : ∀ Q, wp X e m56 0 [some (.ref 64), some (.ref r), some (.int (nI δ)), none] [] (K0, R0, I, L) Q ↔ _ := g2
      unfold P4 P5
      rw [b55_0 hr, g2]
      simp only [Option.toList, List.cons_append, List.nil_append]
      rw [b55_6 hr, if_neg (by decide)]
      exact Iff.rfl
    have mo : ∀ Jm, TxM Jm tx sz → ∀ o W I, MS Jm h ix p o W δ I → o.length + W.length ≤ p → cC W → nots W ≤ δ → ∃ I2, MS Jm h ix q (o ++ ts) W δ I2 ∧ ∀ Q, Mw X d L ix 1 I Q ↔ Mw X d L ix 0 I2 Q := by
      intro Jm hTm o W I g hl hc hd
      obtain ⟨I1, g1, g2⟩ := k4 Jm hTm o W I g hl hc.cB hd
      obtain ⟨z1, z2, -⟩ := hc.cB.no
      rw [z1, z2] at g1
      have g1 : MS Jm h ix q (o ++ ts ++ []) W (δ - 0) I1 := g1
      rw [List.append_nil] at g1
      exact ⟨I1, g1, g2⟩
    obtain ⟨q', r1, r2, ⟨f1, f2⟩ | ⟨us, n1, n2, n5, n3, n4⟩⟩ := rest q (by omega) q2 k5
    · refine ⟨q', by omega, r2, Or.inl ⟨fun e i he hi Jc hTc o I g ho => ?_, fun Jm hTm o W I g hl hc hd => ?_⟩⟩
      · obtain ⟨I2, a1, a2⟩ := cl e he Jc hTc o I g ho
        obtain ⟨I3, o3, b1, b2⟩ := f1 e 0 he (Nat.zero_le _) Jc hTc _ I2 a1 (by rw [List.length_append]; omega)
        exact ⟨I3, o3, b1, fun Q => (a2 Q).trans (b2 Q)⟩
      · obtain ⟨I2, a1, a2⟩ := mo Jm hTm o W I g hl hc hd
        obtain ⟨I3, b1, b2⟩ := f2 Jm hTm _ W I2 a1 (by rw [List.length_append]; omega) hc hd
        exact ⟨I3, b1, fun Q => (a2 Q).trans (b2 Q)⟩
    · refine ⟨q', by omega, r2, Or.inr ⟨ts ++ us, by rw [List.length_append]; omega, ?_, n5, fun e i he hi Jc hTc o I g ho => ?_, fun Jm hTm o W I g hl hc hd => ?_⟩⟩
      · have := good_two k2 n2
        rw [show 10 - 2 * δ + 1 = 11 - 2 * δ by omega] at this
        exact this
      · obtain ⟨I2, a1, a2⟩ := cl e he Jc hTc o I g ho
        obtain ⟨I3, b1, b2⟩ := n3 e 0 he (Nat.zero_le _) Jc hTc _ I2 a1 (by rw [List.length_append]; omega)
        exact ⟨I3, by rw [← List.append_assoc]; exact b1, fun Q => (a2 Q).trans (b2 Q)⟩
      · obtain ⟨I2, a1, a2⟩ := mo Jm hTm o W I g hl hc hd
        obtain ⟨I3, b1, b2⟩ := n4 Jm hTm _ W I2 a1 (by rw [List.length_append]; omega) hc hd
        exact ⟨I3, by rw [← List.append_assoc]; exact b1, fun Q => (a2 Q).trans (b2 Q)⟩
end RD
