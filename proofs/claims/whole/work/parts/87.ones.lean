/-! One: a test, a not, or a bracket; and all together. -/
section RD
variable {X : Nat × (Nat → Int32)} {d : Nat} {L : Nat → Nat → Int64} {tx : Nat → Nat} {sz r h ix : Nat}
theorem one_ok (hr : isInn r) (hr2 : 82 ≤ r) (hh : h < 6) (hi : ix < 60) (hS : TxS tx sz) (h100 : sz ≤ 100) {δ p : Nat} (hδ : δ ≤ 4) (hs : p ≤ sz) (inner : δ < 4 → p + 1 ≤ sz → OneR X d L tx sz r h ix (δ + 1) (p + 1)) (brack : δ < 4 → p + 1 ≤ sz → EithR X d L tx sz r h ix (δ + 1) (p + 1)) : OneR X d L tx sz r h ix δ p := by
  have top : ∀ e Jc, TxC Jc tx sz → ∀ o I, CS Jc r p o I → ∀ Q, P1 X L r δ (e + 1) 0 I Q ↔ (if sg tx sz p = 33 then (if nI δ < (4 : Int32) then wp X (e + 1) m57 24 [some (.ref 64), some (.ref r), some (.int (nI δ)), some (.int (sg tx sz p)), none, none, none] [] (K0, R0, I, L) Q else Q (some (.int 0)) (K0, R0, I, L)) else (if sg tx sz p = 40 then (if nI δ < (4 : Int32) then wp X (e + 1) m57 24 [some (.ref 64), some (.ref r), some (.int (nI δ)), some (.int (sg tx sz p)), none, none, none] [] (K0, R0, I, L) Q else Q (some (.int 0)) (K0, R0, I, L)) else wp X (e + 1) m57 24 [some (.ref 64), some (.ref r), some (.int (nI δ)), some (.int (sg tx sz p)), none, none, none] [] (K0, R0, I, L) Q)) := by
    intro e Jc hTc o I g Q
    unfold P1
    rw [b57_0 hr, p44 (g.tx hr2 hTc) g.2.1 hs]
    simp only [Option.toList, List.cons_append, List.nil_append]
    rw [b57_4 hr]
  by_cases c : sg tx sz p = 33
  · have l := sg_lt c (by decide)
    have c33 : sg tx sz p = nI 33 := c
    by_cases d4 : δ < 4
    · have step : ∀ e Jc, TxC Jc tx sz → ∀ o I, CS Jc r p o I → ∀ Q, P1 X L r δ (e + 1) 0 I Q ↔ P1 X L r (δ + 1) e 0 (updR I 64 2 (nI (p + 1))) (fun r1 w1 => wp X (e + 1) m57 90 [none, some (.ref r), none, none, none, none, none] (r1.toList ++ []) w1 Q) := by
        intro e Jc hTc o I g Q
        rw [top e Jc hTc o I g, if_pos c, if_pos (show nI δ < (4 : Int32) from nI_lt (b := 4) d4 (by decide)), b57_24 hr, c, if_neg (by decide), if_pos rfl, g.2.1, nI_1, nI_1]
        exact Iff.rfl
      obtain ⟨q, q1, q2, ⟨f1, f2⟩ | ⟨ts, k1, k2, -, k3, k4⟩⟩ := inner d4 l
      · refine ⟨q, by omega, q2, Or.inl ⟨fun e i he hi Jc hTc o I g ho => ?_, fun Jm hTm o W I g hl hc hd => ?_⟩⟩
        · obtain ⟨e, rfl⟩ : ∃ e', e = e' + 1 := ⟨e - 1, by omega⟩
          obtain ⟨I1, o1, g1, g2⟩ := f1 e 0 (by omega) (Nat.zero_le _) Jc hTc o _ (g.place hr2 (q := p + 1)) (by omega)
          refine ⟨I1, o1, g1, fun Q => (step e Jc hTc o I g Q).trans ((g2 _).trans ?_)⟩
          simp only [Option.toList, List.cons_append, List.nil_append]
          rw [b57_90 hr, if_pos rfl]
        · obtain ⟨I0, m1, m2⟩ := m1_open (X := X) (d := d) (L := L) (s := 33) hTm g hs hl c33 (Or.inl rfl) d4
          obtain ⟨I1, g1, g2⟩ := f2 Jm hTm o (33 :: W) I0 m1 (by rw [List.length_cons]; omega) trivial (show nots W + 1 ≤ δ + 1 by omega)
          exact ⟨I1, g1, fun Q => (m2 Q).trans (g2 Q)⟩
      · refine ⟨q, by omega, q2, Or.inr ⟨ts ++ [0], by rw [List.length_append]; simp only [List.length_cons, List.length_nil]; omega, good_not k2 (by omega), trivial, fun e i he hi Jc hTc o I g ho => ?_, fun Jm hTm o W I g hl hc hd => ?_⟩⟩
        · obtain ⟨e, rfl⟩ : ∃ e', e = e' + 1 := ⟨e - 1, by omega⟩
          obtain ⟨I1, g1, g2⟩ := k3 e 0 (by omega) (Nat.zero_le _) Jc hTc o _ (g.place hr2 (q := p + 1)) (by omega)
          have hlen : (o ++ ts).length < 100 := by rw [List.length_append]; omega
          refine ⟨_, by rw [← List.append_assoc]; exact g1.push hr2 (t := 0), fun Q => (step e Jc hTc o I g Q).trans ((g2 _).trans ?_)⟩
          simp only [Option.toList, List.cons_append, List.nil_append]
          rw [b57_90 hr, if_neg (by decide), p61 hr hlen g1.2.2.1]
          simp only [Option.toList, List.cons_append, List.nil_append]
          rw [b57_100]
          exact Iff.rfl
        · obtain ⟨I0, m1, m2⟩ := m1_open (X := X) (d := d) (L := L) (s := 33) hTm g hs hl c33 (Or.inl rfl) d4
          obtain ⟨I1, g1, g2⟩ := k4 Jm hTm o (33 :: W) I0 m1 (by rw [List.length_cons]; omega) trivial (show nots W + 1 ≤ δ + 1 by omega)
          refine ⟨I1, ?_, fun Q => (m2 Q).trans (g2 Q)⟩
          have e1 : o ++ (ts ++ [0]) ++ List.replicate (nots W) 0 = o ++ ts ++ List.replicate (nots W + 1) 0 := by
            rw [List.replicate_succ]
            simp only [List.append_assoc, List.cons_append, List.nil_append]
          rw [e1, show δ - nots W = δ + 1 - (nots W + 1) by omega]
          exact g1
    · have e4 : δ = 4 := by omega
      subst e4
      refine ⟨p, Nat.le_refl _, hs, Or.inl ⟨fun e i he hi Jc hTc o I g ho => ?_, fun Jm hTm o W I g hl hc hd => ?_⟩⟩
      · obtain ⟨e, rfl⟩ : ∃ e', e = e' + 1 := ⟨e - 1, by omega⟩
        refine ⟨I, o, g, fun Q => (top e Jc hTc o I g Q).trans ?_⟩
        rw [if_pos c, if_neg (by decide)]
      · exact ⟨I, g.mf, fun Q => m1_full hTm g hs c33 (Or.inl rfl) Q⟩
  · by_cases c2 : sg tx sz p = 40
    · have l := sg_lt c2 (by decide)
      have c40 : sg tx sz p = nI 40 := c2
      by_cases d4 : δ < 4
      · have step : ∀ e Jc, TxC Jc tx sz → ∀ o I, CS Jc r p o I → ∀ Q, P1 X L r δ (e + 1) 0 I Q ↔ P4 X L r (δ + 1) e 0 (updR I 64 2 (nI (p + 1))) (fun r1 w1 => wp X (e + 1) m57 48 [some (.ref 64), none, none, none, none, none, none] (r1.toList ++ []) w1 Q) := by
          intro e Jc hTc o I g Q
          rw [top e Jc hTc o I g, if_neg c, if_pos c2, if_pos (show nI δ < (4 : Int32) from nI_lt (b := 4) d4 (by decide)), b57_24 hr, c2, if_pos rfl, g.2.1, nI_1, nI_1]
          exact Iff.rfl
        obtain ⟨q, q1, q2, ⟨f1, f2⟩ | ⟨ts, k1, k2, k5, k3, k4⟩⟩ := brack d4 l
        · refine ⟨q, by omega, q2, Or.inl ⟨fun e i he hi Jc hTc o I g ho => ?_, fun Jm hTm o W I g hl hc hd => ?_⟩⟩
          · obtain ⟨e, rfl⟩ : ∃ e', e = e' + 1 := ⟨e - 1, by omega⟩
            obtain ⟨I1, o1, g1, g2⟩ := f1 e 0 (by omega) (Nat.zero_le _) Jc hTc o _ (g.place hr2 (q := p + 1)) (by omega)
            refine ⟨I1, o1, g1, fun Q => (step e Jc hTc o I g Q).trans ((g2 _).trans ?_)⟩
            simp only [Option.toList, List.cons_append, List.nil_append]
            rw [b57_48, if_pos rfl]
          · obtain ⟨I0, m1, m2⟩ := m1_open (X := X) (d := d) (L := L) (s := 40) hTm g hs hl c40 (Or.inr rfl) d4
            obtain ⟨I1, g1, g2⟩ := f2 Jm hTm o (40 :: W) I0 m1 (by rw [List.length_cons]; omega) (Or.inr ⟨W, rfl⟩) (Nat.zero_le _)
            exact ⟨I1, g1, fun Q => (m2 Q).trans (g2 Q)⟩
        · -- the bracket's end
          have cl : ∀ e Jc, TxC Jc tx sz → ∀ o I, 20 + 3 * (4 - δ) ≤ e + 1 → CS Jc r p o I → o.length ≤ p → ∃ I1, CS Jc r q (o ++ ts) I1 ∧ ∀ Q, P1 X L r δ (e + 1) 0 I Q ↔ Q (some (.int (if bI (wrd (sg tx sz) (lsF [41]) 1 0 q).2 = 0 then 0 else 1))) (K0, R0, updR I1 64 2 (nI (wrd (sg tx sz) (lsF [41]) 1 0 q).1), L) := by
            intro e Jc hTc o I he g ho
            obtain ⟨I1, g1, g2⟩ := k3 e 0 (by omega) (Nat.zero_le _) Jc hTc o _ (g.place hr2 (q := p + 1)) (by omega)
            refine ⟨I1, g1, fun Q => (step e Jc hTc o I g Q).trans ((g2 _).trans ?_)⟩
            obtain ⟨e, rfl⟩ : ∃ e', e = e' + 4 := ⟨e - 4, by omega⟩
            simp only [Option.toList, List.cons_append, List.nil_append]
            rw [b57_48, if_neg (by decide), p46_0 sv7 (fun k hk => by
              have : k = 0 := by omega
              subst this
              decide) (g1.tx hr2 hTc) g1.2.1 q2]
            simp only [Option.toList, List.cons_append, List.nil_append]
            rw [b57_57]
          have mo : ∀ Jm, TxM Jm tx sz → ∀ o W I, MS Jm h ix p o W δ I → o.length + W.length ≤ p → ∃ I1, MS Jm h ix q (o ++ ts) (40 :: W) (δ + 1) I1 ∧ ∀ Q, Mw X d L ix 1 I Q ↔ Mw X d L ix 0 I1 Q := by
            intro Jm hTm o W I g hl
            obtain ⟨I0, m1, m2⟩ := m1_open (X := X) (d := d) (L := L) (s := 40) hTm g hs hl c40 (Or.inr rfl) d4
            obtain ⟨I1, g1, g2⟩ := k4 Jm hTm o (40 :: W) I0 m1 (by rw [List.length_cons]; omega) (Or.inr ⟨W, rfl⟩) (Nat.zero_le _)
            have g1 : MS Jm h ix q (o ++ ts ++ []) (40 :: W) (δ + 1 - 0) I1 := g1
            rw [List.append_nil] at g1
            exact ⟨I1, g1, fun Q => (m2 Q).trans (g2 Q)⟩
          by_cases z : sg tx sz q = 41
          · have lq := sg_lt z (by decide)
            have wz : wrd (sg tx sz) (lsF [41]) 1 0 q = (q + 1, true) := by
              unfold wrd
              rw [if_pos (show sg tx sz q = lsF [41] 0 from z)]
              rfl
            refine ⟨q + 1, by omega, lq, Or.inr ⟨ts, by omega, by rw [show 9 - 2 * δ = 11 - 2 * (δ + 1) by omega]; exact k2, trivial, fun e i he hi Jc hTc o I g ho => ?_, fun Jm hTm o W I g hl hc hd => ?_⟩⟩
            · obtain ⟨e, rfl⟩ : ∃ e', e = e' + 1 := ⟨e - 1, by omega⟩
              obtain ⟨I1, g1, g2⟩ := cl e Jc hTc o I (by omega) g ho
              rw [wz] at g2
              exact ⟨_, g1.place hr2, fun Q => (g2 Q).trans (by rw [if_neg (show ¬ bI (q + 1, true).2 = 0 from (by decide : ¬ bI true = 0))])⟩
            · obtain ⟨I1, g1, g2⟩ := mo Jm hTm o W I g hl
              obtain ⟨I2, b1, b2⟩ := m0_close (X := X) (d := d) (L := L) hh hTm g1 lq (by rw [List.length_append]; omega) ‹ix < 60› z hd
              exact ⟨I2, b1, fun Q => (g2 Q).trans (b2 Q)⟩
          · have wz : wrd (sg tx sz) (lsF [41]) 1 0 q = (q, false) := by
              unfold wrd
              rw [if_neg (show ¬ sg tx sz q = lsF [41] 0 from z)]
            refine ⟨q, by omega, q2, Or.inl ⟨fun e i he hi Jc hTc o I g ho => ?_, fun Jm hTm o W I g hl hc hd => ?_⟩⟩
            · obtain ⟨e, rfl⟩ : ∃ e', e = e' + 1 := ⟨e - 1, by omega⟩
              obtain ⟨I1, g1, g2⟩ := cl e Jc hTc o I (by omega) g ho
              rw [wz] at g2
              exact ⟨_, _, g1.place hr2, fun Q => (g2 Q).trans (by rw [if_pos (show bI (q, false).2 = 0 from (by decide : bI false = 0))])⟩
            · obtain ⟨I1, g1, g2⟩ := mo Jm hTm o W I g hl
              refine ⟨_, (g1.mark (v := nI (100 * h + (o ++ ts).length))).mf, fun Q => (g2 Q).trans ?_⟩
              rw [m0_last hTm g1 q2 (by rw [List.length_append, List.length_cons]; omega) ‹ix < 60› k5.1 k5.2 (Or.inl rfl), if_neg (show ¬ nI (40 :: W).length = 0 from nI_ne (b := 0) (by rw [List.length_cons]; omega) (by decide) (by rw [List.length_cons]; omega)), if_neg z]
      · have e4 : δ = 4 := by omega
        subst e4
        refine ⟨p, Nat.le_refl _, hs, Or.inl ⟨fun e i he hi Jc hTc o I g ho => ?_, fun Jm hTm o W I g hl hc hd => ?_⟩⟩
        · obtain ⟨e, rfl⟩ : ∃ e', e = e' + 1 := ⟨e - 1, by omega⟩
          refine ⟨I, o, g, fun Q => (top e Jc hTc o I g Q).trans ?_⟩
          rw [if_neg c, if_pos c2, if_neg (by decide)]
        · exact ⟨I, g.mf, fun Q => m1_full hTm g hs c40 (Or.inr rfl) Q⟩
    · -- a test
      obtain ⟨t1, t2, t3⟩ := tst_le hS hs
      have cl : ∀ e Jc, TxC Jc tx sz → ∀ o I, 20 + 3 * (4 - δ) ≤ e + 1 → CS Jc r p o I → o.length ≤ p → ∀ Q, P1 X L r δ (e + 1) 0 I Q ↔ (match (tst (sg tx sz) p).2 with
          | none => Q (some (.int 0)) (K0, R0, updR I 64 2 (nI (tst (sg tx sz) p).1), L)
          | some t => Q (some (.int 1)) (K0, R0, updR (updR (updR I 64 2 (nI (tst (sg tx sz) p).1)) (r + 3) o.length (cT t)) r 5 (nI (o.length + 1)), L)) := by
        intro e Jc hTc o I he g ho Q
        obtain ⟨e, rfl⟩ : ∃ e', e = e' + 5 := ⟨e - 5, by omega⟩
        rw [top (e + 5) Jc hTc o I g, if_neg c, if_neg c2]
        refine (p57t (d := e) hS c c2 hr hr2 (g.tx hr2 hTc) g.2.1 hs (fun _ => by omega) g.2.2.1 Q).trans ?_
        cases (tst (sg tx sz) p).2 with
        | none => exact Iff.rfl
        | some t => exact Iff.rfl
      cases ht : (tst (sg tx sz) p).2 with
      | none =>
        rw [ht] at cl
        refine ⟨(tst (sg tx sz) p).1, t1, t2, Or.inl ⟨fun e i he hi Jc hTc o I g ho => ?_, fun Jm hTm o W I g hl hc hd => ?_⟩⟩
        · obtain ⟨e, rfl⟩ : ∃ e', e = e' + 1 := ⟨e - 1, by omega⟩
          exact ⟨_, o, g.place hr2, fun Q => cl e Jc hTc o I (by omega) g ho Q⟩
        · obtain ⟨I1, k⟩ := m1_test (X := X) (d := d) (L := L) hS hh hTm g hs hd hl c c2
          rw [ht] at k
          exact ⟨I1, k.1.mf, k.2⟩
      | some t =>
        rw [ht] at cl
        obtain ⟨t4, t5, t6⟩ := t3 t ht
        refine ⟨(tst (sg tx sz) p).1, t1, t2, Or.inr ⟨[t], by simp only [List.length_cons, List.length_nil]; omega, good_test ⟨t4, t5⟩ (by omega), trivial, fun e i he hi Jc hTc o I g ho => ?_, fun Jm hTm o W I g hl hc hd => ?_⟩⟩
        · obtain ⟨e, rfl⟩ : ∃ e', e = e' + 1 := ⟨e - 1, by omega⟩
          exact ⟨_, (g.place hr2).push hr2, fun Q => cl e Jc hTc o I (by omega) g ho Q⟩
        · obtain ⟨I1, k⟩ := m1_test (X := X) (d := d) (L := L) hS hh hTm g hs hd hl c c2
          rw [ht] at k
          exact ⟨I1, k⟩
/-- an E at p, however deep -/
theorem all_ok (hr : isInn r) (hr2 : 82 ≤ r) (hh : h < 6) (hi : ix < 60) (hS : TxS tx sz) (h100 : sz ≤ 100) : ∀ n p, p + n = sz → ∀ δ, δ ≤ 4 → OneR X d L tx sz r h ix δ p ∧ BLoopR X d L tx sz r h ix δ p ∧ EithR X d L tx sz r h ix δ p ∧ BothR X d L tx sz r h ix δ p ∧ ELoopR X d L tx sz r h ix δ p := by
  intro n
  induction n using Nat.strongRecOn with
  | ind n ih =>
    intro p hp δ hδ
    have nx : ∀ q, p < q → q ≤ sz → ∀ δ, δ ≤ 4 → OneR X d L tx sz r h ix δ q ∧ BLoopR X d L tx sz r h ix δ q ∧ EithR X d L tx sz r h ix δ q ∧ BothR X d L tx sz r h ix δ q ∧ ELoopR X d L tx sz r h ix δ q := fun q h1 h2 => ih (sz - q) (by omega) q (by omega)
    have a := one_ok (d := d) (L := L) hr hr2 hh hi hS h100 hδ (by omega) (fun h1 h2 => (nx (p + 1) (by omega) h2 (δ + 1) (by omega)).1) (fun h1 h2 => (nx (p + 1) (by omega) h2 (δ + 1) (by omega)).2.2.1)
    have b := bloop (d := d) (L := L) hr hr2 hh hS h100 hδ (by omega) (fun h2 => (nx (p + 1) (by omega) h2 δ hδ).1) (fun q h1 h2 => (nx q h1 h2 δ hδ).2.1)
    have c := both_ok hr hr2 h100 hδ a (fun q h1 h2 => (nx q h1 h2 δ hδ).2.1)
    have e := eloop (d := d) (L := L) hr hr2 hh hS h100 hδ (by omega) (fun h2 => (nx (p + 1) (by omega) h2 δ hδ).2.2.2.1) (fun q h1 h2 => (nx q h1 h2 δ hδ).2.2.2.2)
    exact ⟨a, b, either_ok hr hr2 h100 hδ c (fun q h1 h2 => (nx q h1 h2 δ hδ).2.2.2.2), c, e⟩
end RD
