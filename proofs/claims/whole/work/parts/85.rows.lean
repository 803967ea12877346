/-! An E, read by both sides alike: what its tokens are. -/
def okB (t D B : Nat) : Prop := (t = 0 ∧ 1 ≤ D) ∨ ((t = 1 ∨ t = 2) ∧ 2 ≤ D) ∨ (3 ≤ t ∧ t < 1803 ∧ D < B)
def wk : List Nat → Nat → Nat → Prop
  | [], _, _ => True
  | t :: r, D, B => okB t D B ∧ wk r (dpN t D) B
def en : List Nat → Nat → Nat
  | [], D => D
  | t :: r, D => en r (dpN t D)
theorem en_app : ∀ (a b : List Nat) (D : Nat), en (a ++ b) D = en b (en a D) := by
  intro a
  induction a with
  | nil => intro b D; rfl
  | cons t r ih => intro b D; exact ih b (dpN t D)
theorem wk_app : ∀ (a b : List Nat) (D B : Nat), wk a D B → wk b (en a D) B → wk (a ++ b) D B := by
  intro a
  induction a with
  | nil => intro b D B _ h; exact h
  | cons t r ih => intro b D B h1 h2; exact ⟨h1.1, ih b (dpN t D) B h1.2 h2⟩
theorem wk_mono : ∀ (a : List Nat) (D B B' : Nat), B ≤ B' → wk a D B → wk a D B' := by
  intro a
  induction a with
  | nil => intro D B B' _ _; trivial
  | cons t r ih =>
    intro D B B' h g
    exact ⟨by have := g.1; unfold okB at this ⊢; omega, ih _ B B' h g.2⟩
def Good (b : Nat) (ts : List Nat) : Prop := ∀ D, wk ts D (D + b) ∧ en ts D = D + 1
def GoodL (b : Nat) (us : List Nat) : Prop := ∀ D, 1 ≤ D → wk us D (D + b) ∧ en us D = D
theorem good_test {t b : Nat} (h : 3 ≤ t ∧ t < 1803) (hb : 1 ≤ b) : Good b [t] := by
  intro D
  obtain ⟨n, rfl⟩ : ∃ n, t = n + 3 := ⟨t - 3, by omega⟩
  exact ⟨⟨by unfold okB; omega, trivial⟩, rfl⟩
theorem good_not {ts : List Nat} {b b' : Nat} (h : Good b ts) (hb : b ≤ b') : Good b' (ts ++ [0]) := by
  intro D
  obtain ⟨h1, h2⟩ := h D
  refine ⟨wk_app _ _ _ _ (wk_mono _ _ _ _ (by omega) h1) ?_, ?_⟩
  · rw [h2]; exact ⟨by unfold okB; omega, trivial⟩
  · rw [en_app, h2]; rfl
theorem good_cons {ts us : List Nat} {b t : Nat} (h : Good b ts) (g : GoodL b us) (ht : t = 1 ∨ t = 2) : GoodL b (ts ++ [t] ++ us) := by
  intro D hD
  obtain ⟨h1, h2⟩ := h D
  obtain ⟨g1, g2⟩ := g D hD
  have e : en [t] (D + 1) = D := by rcases ht with rfl | rfl <;> rfl
  refine ⟨wk_app _ _ _ _ (wk_app _ _ _ _ h1 ?_) ?_, ?_⟩
  · rw [h2]; exact ⟨by unfold okB; omega, trivial⟩
  · rw [en_app, h2, e]; exact g1
  · rw [en_app, en_app, h2, e]; exact g2
theorem good_nil {b : Nat} : GoodL b [] := fun _ _ => ⟨trivial, rfl⟩
theorem good_two {ts us : List Nat} {b : Nat} (h : Good b ts) (g : GoodL b us) : Good (b + 1) (ts ++ us) := by
  intro D
  obtain ⟨h1, h2⟩ := h D
  obtain ⟨g1, g2⟩ := g (D + 1) (by omega)
  refine ⟨wk_app _ _ _ _ (wk_mono _ _ _ _ (by omega) h1) ?_, ?_⟩
  · rw [h2]; exact wk_mono _ _ _ _ (by omega) g1
  · rw [en_app, h2]; exact g2
/-! What it is to be read alike. -/
def Mf (J : Nat → Nat → Int32) (h ix q : Nat) (I : Nat → Nat → Int32) : Prop := (∀ a b, ¬ (a = 124 ∧ (b = 11 ∨ b = 12 ∨ b = 21 ∨ b = 22 ∨ b = 23)) → a ≠ 138 → ¬ (a = 137 ∧ 100 * h ≤ b) → ¬ (a = 136 ∧ b = ix) → I a b = J a b) ∧ I 124 11 = nI q
theorem MS.mf {J I : Nat → Nat → Int32} {h ix p δ : Nat} {o W : List Nat} (g : MS J h ix p o W δ I) : Mf J h ix p I := ⟨g.1, g.2.1⟩
def ClO (L : Nat → Nat → Int64) (tx : Nat → Nat) (sz r p q : Nat) (ts : List Nat) (P : (Nat → Nat → Int32) → (Option Value → XW → Prop) → Prop) : Prop := ∀ J, TxC J tx sz → ∀ o I, CS J r p o I → o.length ≤ p → ∃ I1, CS J r q (o ++ ts) I1 ∧ ∀ Q, P I Q ↔ Q (some (.int 1)) (K0, R0, I1, L)
def ClF (L : Nat → Nat → Int64) (tx : Nat → Nat) (sz r p q : Nat) (P : (Nat → Nat → Int32) → (Option Value → XW → Prop) → Prop) : Prop := ∀ J, TxC J tx sz → ∀ o I, CS J r p o I → o.length ≤ p → ∃ I1 o1, CS J r q o1 I1 ∧ ∀ Q, P I Q ↔ Q (some (.int 0)) (K0, R0, I1, L)
def MoO (X : Nat × (Nat → Int32)) (d : Nat) (L : Nat → Nat → Int64) (tx : Nat → Nat) (sz h ix : Nat) (x : Int32) (p q δ : Nat) (ts : List Nat) (cd : List Nat → Prop) : Prop := ∀ J, TxM J tx sz → ∀ o W I, MS J h ix p o W δ I → o.length + W.length ≤ p → cd W → nots W ≤ δ → ∃ I1, MS J h ix q (o ++ ts ++ List.replicate (nots W) 0) (peel W) (δ - nots W) I1 ∧ ∀ Q, Mw X d L ix x I Q ↔ Mw X d L ix 0 I1 Q
def MoF (X : Nat × (Nat → Int32)) (d : Nat) (L : Nat → Nat → Int64) (tx : Nat → Nat) (sz h ix : Nat) (x : Int32) (p q δ : Nat) (cd : List Nat → Prop) : Prop := ∀ J, TxM J tx sz → ∀ o W I, MS J h ix p o W δ I → o.length + W.length ≤ p → cd W → nots W ≤ δ → ∃ I1, Mf J h ix q I1 ∧ ∀ Q, Mw X d L ix x I Q ↔ Q (some (.int 0)) (K0, R0, I1, L)
/-- what P reads from p on is what the reference's loop reads from p on -/
def Rd (X : Nat × (Nat → Int32)) (d : Nat) (L : Nat → Nat → Int64) (tx : Nat → Nat) (sz r h ix : Nat) (P : Nat → Nat → (Nat → Nat → Int32) → (Option Value → XW → Prop) → Prop) (e0 k : Nat) (x : Int32) (cd G : List Nat → Prop) (S : Int32 → Prop) (δ p : Nat) : Prop := ∃ q, p ≤ q ∧ q ≤ sz ∧ (((∀ e i, e0 ≤ e → i ≤ p → ClF L tx sz r p q (P e i)) ∧ MoF X d L tx sz h ix x p q δ cd) ∨ ∃ ts, ts.length + p + k ≤ q ∧ G ts ∧ S (sg tx sz q) ∧ (∀ e i, e0 ≤ e → i ≤ p → ClO L tx sz r p q ts (P e i)) ∧ MoO X d L tx sz h ix x p q δ ts cd)
def cB (W : List Nat) : Prop := W = [] ∨ ∃ s r, W = s :: r ∧ (s = 40 ∨ s = 124)
def cC (W : List Nat) : Prop := W = [] ∨ ∃ r, W = 40 :: r
theorem cB.no {W : List Nat} (h : cB W) : nots W = 0 ∧ peel W = W ∧ hlt W 38 := by
  rcases h with rfl | ⟨s, r, rfl, hs⟩
  · exact ⟨rfl, rfl, trivial⟩
  · have : s ≠ 33 := by omega
    refine ⟨by unfold nots; rw [if_neg this], by unfold peel; rw [if_neg this], ?_⟩
    rcases hs with rfl | rfl
    · exact Or.inl rfl
    · exact Or.inr (Or.inr ⟨rfl, rfl⟩)
theorem cC.cB {W : List Nat} (h : cC W) : cB W := by
  rcases h with rfl | ⟨r, rfl⟩
  · exact Or.inl rfl
  · exact Or.inr ⟨40, r, rfl, Or.inl rfl⟩
theorem cC.stop {W : List Nat} (h : cC W) (x : Int32) : hlt W x := by
  rcases h with rfl | ⟨r, rfl⟩
  · trivial
  · exact Or.inl rfl
def P1 (X : Nat × (Nat → Int32)) (L : Nat → Nat → Int64) (r δ e : Nat) (_ : Nat) (I : Nat → Nat → Int32) (Q : Option Value → XW → Prop) : Prop := wp X e m57 0 [some (.ref 64), some (.ref r), some (.int (nI δ)), none, none, none, none] [] (K0, R0, I, L) Q
def P2 (X : Nat × (Nat → Int32)) (L : Nat → Nat → Int64) (r δ e : Nat) (_ : Nat) (I : Nat → Nat → Int32) (Q : Option Value → XW → Prop) : Prop := wp X e m56 0 [some (.ref 64), some (.ref r), some (.int (nI δ)), none] [] (K0, R0, I, L) Q
def P3 (X : Nat × (Nat → Int32)) (L : Nat → Nat → Int64) (r δ e : Nat) (i : Nat) (I : Nat → Nat → Int32) (Q : Option Value → XW → Prop) : Prop := wp X e m56 13 [some (.ref 64), some (.ref r), some (.int (nI δ)), some (.int (nI i))] [] (K0, R0, I, L) Q
def P4 (X : Nat × (Nat → Int32)) (L : Nat → Nat → Int64) (r δ e : Nat) (_ : Nat) (I : Nat → Nat → Int32) (Q : Option Value → XW → Prop) : Prop := wp X e m55 0 [some (.ref 64), some (.ref r), some (.int (nI δ)), none] [] (K0, R0, I, L) Q
def P5 (X : Nat × (Nat → Int32)) (L : Nat → Nat → Int64) (r δ e : Nat) (i : Nat) (I : Nat → Nat → Int32) (Q : Option Value → XW → Prop) : Prop := wp X e m55 13 [some (.ref 64), some (.ref r), some (.int (nI δ)), some (.int (nI i))] [] (K0, R0, I, L) Q
section RD
variable {X : Nat × (Nat → Int32)} {d : Nat} {L : Nat → Nat → Int64} {tx : Nat → Nat} {sz r h ix : Nat}
def OneR (X : Nat × (Nat → Int32)) (d : Nat) (L : Nat → Nat → Int64) (tx : Nat → Nat) (sz r h ix : Nat) (δ p : Nat) : Prop := Rd X d L tx sz r h ix (P1 X L r δ) (20 + 3 * (4 - δ)) 1 1 (fun _ => True) (Good (9 - 2 * δ)) (fun _ => True) δ p
def BothR (X : Nat × (Nat → Int32)) (d : Nat) (L : Nat → Nat → Int64) (tx : Nat → Nat) (sz r h ix : Nat) (δ p : Nat) : Prop := Rd X d L tx sz r h ix (P2 X L r δ) (21 + 3 * (4 - δ)) 1 1 cB (Good (10 - 2 * δ)) (fun s => ¬ s = 38) δ p
def BLoopR (X : Nat × (Nat → Int32)) (d : Nat) (L : Nat → Nat → Int64) (tx : Nat → Nat) (sz r h ix : Nat) (δ p : Nat) : Prop := Rd X d L tx sz r h ix (P3 X L r δ) (21 + 3 * (4 - δ)) 0 0 cB (GoodL (9 - 2 * δ)) (fun s => ¬ s = 38) δ p
def EithR (X : Nat × (Nat → Int32)) (d : Nat) (L : Nat → Nat → Int64) (tx : Nat → Nat) (sz r h ix : Nat) (δ p : Nat) : Prop := Rd X d L tx sz r h ix (P4 X L r δ) (22 + 3 * (4 - δ)) 1 1 cC (Good (11 - 2 * δ)) (fun s => ¬ s = 38 ∧ ¬ s = 124) δ p
def ELoopR (X : Nat × (Nat → Int32)) (d : Nat) (L : Nat → Nat → Int64) (tx : Nat → Nat) (sz r h ix : Nat) (δ p : Nat) : Prop := ¬ sg tx sz p = 38 → Rd X d L tx sz r h ix (P5 X L r δ) (22 + 3 * (4 - δ)) 0 0 cC (GoodL (10 - 2 * δ)) (fun s => ¬ s = 38 ∧ ¬ s = 124) δ p
/-- a sign, and one more E behind it, in a row of such -/
theorem bloop (hr : isInn r) (hr2 : 82 ≤ r) (hh : h < 6) (hS : TxS tx sz) (h100 : sz ≤ 100) {δ p : Nat} (hδ : δ ≤ 4) (hs : p ≤ sz) (one : p + 1 ≤ sz → OneR X d L tx sz r h ix δ (p + 1)) (rest : ∀ q, p < q → q ≤ sz → BLoopR X d L tx sz r h ix δ q) : BLoopR X d L tx sz r h ix δ p := by
  -- the head of the loop
  have top : ∀ e i Jc, TxC Jc tx sz → ∀ o I, CS Jc r p o I → i ≤ p → ∀ Q, P3 X L r δ (e + 1) i I Q ↔ (if nI i < 100 then (if sg tx sz p = 38 then wp X e m57 0 [some (.ref 64), some (.ref r), some (.int (nI δ)), none, none, none, none] [] (K0, R0, updR I 64 2 (nI (p + 1)), L) (fun r1 w1 => wp X (e + 1) m56 44 [some (.ref 64), some (.ref r), some (.int (nI δ)), some (.int (nI i))] (r1.toList ++ []) w1 Q) else Q (some (.int 1)) (K0, R0, I, L)) else Q (some (.int 1)) (K0, R0, I, L)) := by
    intro e i Jc hTc o I g hi Q
    unfold P3
    rw [b56_13 hr, p44 (g.tx hr2 hTc) g.2.1 hs]
    simp only [Option.toList, List.cons_append, List.nil_append]
    rw [b56_23 hr, g.2.1, nI_1]
    exact Iff.rfl
  by_cases c : sg tx sz p = 38
  · have l := sg_lt c (by decide)
    obtain ⟨q, q1, q2, ⟨f1, f2⟩ | ⟨ts, k1, k2, -, k3, k4⟩⟩ := one l
    · -- no E stands behind it
      refine ⟨q, by omega, q2, Or.inl ⟨fun e i he hi Jc hTc o I g ho => ?_, fun Jm hTm o W I g hl hc hd => ?_⟩⟩
      · obtain ⟨e, rfl⟩ : ∃ e', e = e' + 1 := ⟨e - 1, by omega⟩
        obtain ⟨I1, o1, g1, g2⟩ := f1 e 0 (by omega) (Nat.zero_le _) Jc hTc o _ (g.place hr2 (q := p + 1)) (by omega)
        refine ⟨I1, o1, g1, fun Q => ?_⟩
        have g2 : ∀ Q, wp X e m57 0 [some (.ref 64), some (.ref r), some (.int (nI δ)), none, none, none, none] [] (K0, R0, updR I 64 2 (nI (p + 1)), L) Q ↔ _ := g2
        rw [top e i Jc hTc o I g hi, if_pos (show nI i < (100 : Int32) from nI_lt (b := 100) (by omega) (by decide)), if_pos c, g2]
        simp only [Option.toList, List.cons_append, List.nil_append]
        rw [b56_44 hr, if_pos rfl]
      · obtain ⟨I0, m1, m2⟩ := m0_more (X := X) (d := d) (L := L) (s := 38) hTm g l (by omega) c (Or.inl rfl) hc.no.2.2
        obtain ⟨I1, g1, g2⟩ := f2 Jm hTm o (38 :: W) I0 m1 (by rw [List.length_cons]; omega) trivial (show nots (38 :: W) ≤ δ from Nat.zero_le _)
        exact ⟨I1, g1, fun Q => (m2 Q).trans (g2 Q)⟩
    · -- one does
      obtain ⟨q', r1, r2, ⟨f1, f2⟩ | ⟨us, n1, n2, n5, n3, n4⟩⟩ := rest q (by omega) q2
      all_goals
        have cl : ∀ e i, 21 + 3 * (4 - δ) ≤ e → i ≤ p → ∀ Jc, TxC Jc tx sz → ∀ o I, CS Jc r p o I → o.length ≤ p → ∃ I2, CS Jc r q (o ++ ts ++ [1]) I2 ∧ ∀ Q, P3 X L r δ e i I Q ↔ P3 X L r δ e (i + 1) I2 Q := by
          intro e i he hi Jc hTc o I g ho
          obtain ⟨e, rfl⟩ : ∃ e', e = e' + 1 := ⟨e - 1, by omega⟩
          obtain ⟨I1, g1, g2⟩ := k3 e 0 (by omega) (Nat.zero_le _) Jc hTc o _ (g.place hr2 (q := p + 1)) (by omega)
          refine ⟨_, g1.push hr2 (t := 1), fun Q => ?_⟩
          have g2 : ∀ Q, wp X e m57 0 [some (.ref 64), some (.ref r), some (.int (nI δ)), none, none, none, none] [] (K0, R0, updR I 64 2 (nI (p + 1)), L) Q ↔ _ := g2
          have hlen : (o ++ ts).length < 100 := by rw [List.length_append]; omega
          rw [top e i Jc hTc o I g hi, if_pos (show nI i < (100 : Int32) from nI_lt (b := 100) (by omega) (by decide)), if_pos c, g2]
          simp only [Option.toList, List.cons_append, List.nil_append]
          rw [b56_44 hr, if_neg (by decide), p61 hr hlen g1.2.2.1]
          simp only [Option.toList, List.cons_append, List.nil_append]
          rw [b56_55 hr, nI_1]
          exact Iff.rfl
        have mo : ∀ Jm, TxM Jm tx sz → ∀ o W I, MS Jm h ix p o W δ I → o.length + W.length ≤ p → cB W → nots W ≤ δ → ∃ I2, MS Jm h ix q (o ++ ts ++ [1]) W δ I2 ∧ ∀ Q, Mw X d L ix 0 I Q ↔ Mw X d L ix 0 I2 Q := by
          intro Jm hTm o W I g hl hc hd
          obtain ⟨I0, m1, m2⟩ := m0_more (X := X) (d := d) (L := L) (s := 38) hTm g l (by omega) c (Or.inl rfl) hc.no.2.2
          obtain ⟨I1, g1, g2⟩ := k4 Jm hTm o (38 :: W) I0 m1 (by rw [List.length_cons]; omega) trivial (show nots (38 :: W) ≤ δ from Nat.zero_le _)
          have g1 : MS Jm h ix q (o ++ ts ++ []) (38 :: W) (δ - 0) I1 := g1
          rw [List.append_nil] at g1
          obtain ⟨I2, j1, j2⟩ := m0_go (X := X) (d := d) (L := L) (t := 1) hh hTm g1 q2 (by rw [List.length_append]; omega) (Or.inl ⟨rfl, rfl⟩) (fun z => absurd z (by decide))
          exact ⟨I2, j1, fun Q => ((m2 Q).trans (g2 Q)).trans (j2 Q)⟩
      · refine ⟨q', by omega, r2, Or.inl ⟨fun e i he hi Jc hTc o I g ho => ?_, fun Jm hTm o W I g hl hc hd => ?_⟩⟩
        · obtain ⟨I2, a1, a2⟩ := cl e i he hi Jc hTc o I g ho
          obtain ⟨I3, o3, b1, b2⟩ := f1 e (i + 1) he (by omega) Jc hTc _ I2 a1 (by rw [List.length_append, List.length_append]; simp only [List.length_cons, List.length_nil]; omega)
          exact ⟨I3, o3, b1, fun Q => (a2 Q).trans (b2 Q)⟩
        · obtain ⟨I2, a1, a2⟩ := mo Jm hTm o W I g hl hc hd
          obtain ⟨I3, b1, b2⟩ := f2 Jm hTm _ W I2 a1 (by rw [List.length_append, List.length_append]; simp only [List.length_cons, List.length_nil]; omega) hc hd
          exact ⟨I3, b1, fun Q => (a2 Q).trans (b2 Q)⟩
      · refine ⟨q', by omega, r2, Or.inr ⟨ts ++ [1] ++ us, by rw [List.length_append, List.length_append]; simp only [List.length_cons, List.length_nil]; omega, good_cons k2 n2 (Or.inl rfl), n5, fun e i he hi Jc hTc o I g ho => ?_, fun Jm hTm o W I g hl hc hd => ?_⟩⟩
        · obtain ⟨I2, a1, a2⟩ := cl e i he hi Jc hTc o I g ho
          obtain ⟨I3, b1, b2⟩ := n3 e (i + 1) he (by omega) Jc hTc _ I2 a1 (by rw [List.length_append, List.length_append]; simp only [List.length_cons, List.length_nil]; omega)
          exact ⟨I3, by rw [show o ++ (ts ++ [1] ++ us) = o ++ ts ++ [1] ++ us by simp only [List.append_assoc]]; exact b1, fun Q => (a2 Q).trans (b2 Q)⟩
        · obtain ⟨I2, a1, a2⟩ := mo Jm hTm o W I g hl hc hd
          obtain ⟨I3, b1, b2⟩ := n4 Jm hTm _ W I2 a1 (by rw [List.length_append, List.length_append]; simp only [List.length_cons, List.length_nil]; omega) hc hd
          exact ⟨I3, by rw [show o ++ (ts ++ [1] ++ us) = o ++ ts ++ [1] ++ us by simp only [List.append_assoc]]; exact b1, fun Q => (a2 Q).trans (b2 Q)⟩
  · refine ⟨p, Nat.le_refl _, hs, Or.inr ⟨[], by simp only [List.length_nil]; omega, good_nil, c, fun e i he hi Jc hTc o I g ho => ?_, fun Jm hTm o W I g hl hc hd => ?_⟩⟩
    · obtain ⟨e, rfl⟩ : ∃ e', e = e' + 1 := ⟨e - 1, by omega⟩
      refine ⟨I, by rw [List.append_nil]; exact g, fun Q => ?_⟩
      rw [top e i Jc hTc o I g hi, if_neg c]
      split <;> exact Iff.rfl
    · obtain ⟨z1, z2, -⟩ := hc.no
      exact ⟨I, by rw [z1, z2]; show MS Jm h ix p (o ++ [] ++ []) W (δ - 0) I; rw [List.append_nil, List.append_nil]; exact g, fun Q => Iff.rfl⟩
end RD
