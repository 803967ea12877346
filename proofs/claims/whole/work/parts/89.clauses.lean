/-! A clause, whole, by both sides. -/
def CFr (r : Nat) (I I1 : Nat → Nat → Int32) : Prop := ∀ a b, ¬ (a = 64 ∧ b = 2) → a ≠ r → a ≠ r + 1 → a ≠ r + 2 → a ≠ r + 3 → I1 a b = I a b
def CP (r p m : Nat) (o : List Nat) (I : Nat → Nat → Int32) : Prop := I 64 2 = nI p ∧ I r 5 = nI o.length ∧ (∀ k, k < o.length → I (r + 3) k = cT (o.getD k 0)) ∧ I r 2 = nI m
def ClA (r m : Nat) (o : List Nat) (w n : Nat) (ts : List Nat) (q : Nat) (I I1 : Nat → Nat → Int32) : Prop := CFr r I I1 ∧ CP r q (if w < 2 then m + 1 else m) (o ++ ts) I1 ∧ I1 r 0 = (if w = 2 then nI n else I r 0) ∧ I1 r 1 = (if w = 3 then nI n else I r 1) ∧ ∀ j, I1 (r + 1) j = (if w < 2 ∧ j = m then amI w n else I (r + 1) j) ∧ I1 (r + 2) j = (if w < 2 ∧ j = m then nI (o ++ ts).length else I (r + 2) j)
def MFr (h ix : Nat) (I I1 : Nat → Nat → Int32) : Prop := ∀ a b, ¬ (a = 124 ∧ (b = 11 ∨ b = 12 ∨ b = 21 ∨ b = 22 ∨ b = 23)) → a ≠ 138 → ¬ (a = 137 ∧ 100 * h ≤ b) → ¬ ((a = 133 ∨ a = 134 ∨ a = 135 ∨ a = 136) ∧ b = ix) → I1 a b = I a b
def MP (h p : Nat) (o : List Nat) (I : Nat → Nat → Int32) : Prop := I 124 11 = nI p ∧ I 124 21 = nI (100 * h + o.length) ∧ ∀ k, k < o.length → I 137 (100 * h + k) = mT (o.getD k 0)
def MlA (h ix : Nat) (o : List Nat) (w n : Nat) (ts : List Nat) (q : Nat) (I I1 : Nat → Nat → Int32) : Prop := MFr h ix I I1 ∧ MP h q (o ++ ts) I1 ∧ I1 133 ix = nI w ∧ I1 134 ix = nI n ∧ (w < 2 → I1 135 ix = nI (100 * h + o.length) ∧ I1 136 ix = nI (100 * h + (o ++ ts).length))
theorem MFr.trans {h ix : Nat} {I J K : Nat → Nat → Int32} (a : MFr h ix I J) (b : MFr h ix J K) : MFr h ix I K := fun x y h1 h2 h3 h4 => (b x y h1 h2 h3 h4).trans (a x y h1 h2 h3 h4)
theorem CFr.trans {r : Nat} {I J K : Nat → Nat → Int32} (a : CFr r I J) (b : CFr r J K) : CFr r I K := fun x y h1 h2 h3 h4 h5 => (b x y h1 h2 h3 h4 h5).trans (a x y h1 h2 h3 h4 h5)
theorem MFr.fld {h ix b : Nat} {v : Int32} {I : Nat → Nat → Int32} (hb : b = 11 ∨ b = 12 ∨ b = 21 ∨ b = 22 ∨ b = 23) : MFr h ix I (updR I 124 b v) := fun x y h1 _ _ _ => by
  by_cases c : x = 124
  · subst c; rw [updR_j (fun q => h1 ⟨rfl, by omega⟩)]
  · rw [updR_k c]
theorem MFr.row {h ix a : Nat} {v : Int32} {I : Nat → Nat → Int32} (ha : a = 133 ∨ a = 134 ∨ a = 135 ∨ a = 136) : MFr h ix I (updR I a ix v) := fun x y _ _ _ h4 => by
  by_cases c : x = a
  · subst c; rw [updR_j (fun q => h4 ⟨ha, q⟩)]
  · rw [updR_k c]
theorem CFr.place {r : Nat} {v : Int32} {I : Nat → Nat → Int32} : CFr r I (updR I 64 2 v) := fun x y h1 _ _ _ _ => by
  by_cases c : x = 64
  · subst c; rw [updR_j (fun q => h1 ⟨rfl, q⟩)]
  · rw [updR_k c]
theorem CFr.one {r a b : Nat} {v : Int32} {I : Nat → Nat → Int32} (ha : a = r ∨ a = r + 1 ∨ a = r + 2 ∨ a = r + 3) : CFr r I (updR I a b v) := fun x y _ h2 h3 h4 h5 => by
  rw [updR_k (by omega)]
theorem CS.fr {J I : Nat → Nat → Int32} {r q : Nat} {o : List Nat} (g : CS J r q o I) : CFr r J I := fun a b h1 h2 _ _ h5 => g.1 a b h1 (fun z => h2 z.1) h5
theorem Mf.fr {J I : Nat → Nat → Int32} {h ix q : Nat} (g : Mf J h ix q I) : MFr h ix J I := fun a b h1 h2 h3 h4 => g.1 a b h1 h2 h3 (fun z => h4 ⟨Or.inr (Or.inr (Or.inr z.1)), z.2⟩)
theorem clA_word {r p m q w n : Nat} {o : List Nat} {I : Nat → Nat → Int32} (hr2 : 82 ≤ r) (g : CP r p m o I) (hw : w = 2 ∨ w = 3) : ClA r m o w n [] q I (updR (updR I 64 2 (nI q)) r (w - 2) (nI n)) := by
  obtain ⟨-, g2, g3, g4⟩ := g
  have nw : ¬ w < 2 := by omega
  refine ⟨CFr.place.trans (CFr.one (Or.inl rfl)), ⟨by rw [updR_k (by omega), updR_same], ?_, fun k hk => ?_, ?_⟩, ?_, ?_, fun j => ⟨?_, ?_⟩⟩
  · rw [updR_j (by omega), updR_k (by omega), List.append_nil]; exact g2
  · rw [List.append_nil] at hk ⊢
    rw [updR_k (by omega), updR_k (by omega)]; exact g3 k hk
  · rw [updR_j (by omega), updR_k (by omega), if_neg nw]; exact g4
  · rcases hw with rfl | rfl
    · rw [if_pos rfl, updR_same]
    · rw [if_neg (by decide), updR_j (by decide), updR_k (by omega)]
  · rcases hw with rfl | rfl
    · rw [if_neg (by decide), updR_j (by decide), updR_k (by omega)]
    · rw [if_pos rfl, updR_same]
  · rw [if_neg (fun z => nw z.1), updR_k (by omega), updR_k (by omega)]
  · rw [if_neg (fun z => nw z.1), updR_k (by omega), updR_k (by omega)]
theorem clA_change {r p m q q' w n : Nat} {o ts : List Nat} {I I1 : Nat → Nat → Int32} (hr2 : 82 ≤ r) (g : CP r p m o I) (hw : w < 2) (k : CS (updR I 64 2 (nI q')) r q (o ++ ts) I1) : ClA r m o w n ts q I (updR (updR (updR I1 (r + 1) m (amI w n)) (r + 2) m (nI (o ++ ts).length)) r 2 (nI (m + 1))) := by
  obtain ⟨-, g2, g3, g4⟩ := g
  obtain ⟨k1, k2, k3, k4⟩ := id k
  have bs : ∀ a b, ¬ (a = 64 ∧ b = 2) → ¬ (a = r ∧ b = 5) → a ≠ r + 3 → I1 a b = I a b := fun a b h1 h2 h3 => by
    rw [k1 a b h1 h2 h3]
    by_cases c : a = 64
    · subst c; rw [updR_j (fun z => h1 ⟨rfl, z⟩)]
    · rw [updR_k c]
  refine ⟨CFr.place.trans (k.fr.trans (((CFr.one (Or.inr (Or.inl rfl))).trans (CFr.one (Or.inr (Or.inr (Or.inl rfl))))).trans (CFr.one (Or.inl rfl)))), ⟨?_, ?_, fun i hi => ?_, ?_⟩, ?_, ?_, fun j => ⟨?_, ?_⟩⟩
  · rw [updR_k (by omega), updR_k (by omega), updR_k (by omega)]; exact k2
  · rw [updR_j (by omega), updR_k (by omega), updR_k (by omega)]; exact k3
  · rw [updR_k (by omega), updR_k (by omega), updR_k (by omega)]; exact k4 i hi
  · rw [updR_same, if_pos hw]
  · rw [if_neg (by omega), updR_j (by omega), updR_k (by omega), updR_k (by omega)]; exact bs r 0 (by omega) (by omega) (by omega)
  · rw [if_neg (by omega), updR_j (by omega), updR_k (by omega), updR_k (by omega)]; exact bs r 1 (by omega) (by omega) (by omega)
  · rw [updR_k (by omega), updR_k (by omega)]
    by_cases c : j = m
    · subst c; rw [if_pos ⟨hw, rfl⟩, updR_same]
    · rw [if_neg (fun z => c z.2), updR_j c]; exact bs _ j (by omega) (by omega) (by omega)
  · rw [updR_k (by omega)]
    by_cases c : j = m
    · subst c; rw [if_pos ⟨hw, rfl⟩, updR_same]
    · rw [if_neg (fun z => c z.2), updR_j c, updR_k (by omega)]; exact bs _ j (by omega) (by omega) (by omega)
section CLS
variable {X : Nat × (Nat → Int32)} {d d' : Nat} {L : Nat → Nat → Int64} {tx : Nat → Nat} {sz r h ix : Nat}
def m43W (X : Nat × (Nat → Int32)) (d : Nat) (L : Nat → Nat → Int64) (r : Nat) (I : Nat → Nat → Int32) (Q : Option Value → XW → Prop) : Prop := wp X (d + 36) m43 0 [some (.ref 64), some (.ref r), none, none] [] (K0, R0, I, L) Q
def m150W (X : Nat × (Nat → Int32)) (d : Nat) (L : Nat → Nat → Int64) (ix : Nat) (I : Nat → Nat → Int32) (Q : Option Value → XW → Prop) : Prop := wp X (d + 8) m150 0 [some (.ref 124), some (.int (nI ix))] [] (K0, R0, I, L) Q
def ClR (X : Nat × (Nat → Int32)) (d d' : Nat) (L : Nat → Nat → Int64) (tx : Nat → Nat) (sz r h ix p : Nat) : Prop := ∃ q, p ≤ q ∧ q ≤ sz ∧ (((∀ I o m, TxC I tx sz → CP r p m o I → o.length ≤ p → ∃ I1, CFr r I I1 ∧ I1 64 2 = nI q ∧ ∀ Q, m43W X d L r I Q ↔ Q (some (.int 0)) (K0, R0, I1, L)) ∧ ∀ I o, TxM I tx sz → MP h p o I → (∀ k, k < 16 → I 139 k = I0 139 k) → o.length ≤ p → ∃ I1, MFr h ix I I1 ∧ I1 124 11 = nI q ∧ ∀ Q, m150W X d' L ix I Q ↔ Q (some (.int 0)) (K0, R0, I1, L)) ∨ ∃ w n ts, w ≤ 3 ∧ n ≤ 99 ∧ ts.length + p + 1 ≤ q ∧ (w < 2 → Good 11 ts) ∧ (2 ≤ w → ts = []) ∧ (∀ I o m, TxC I tx sz → CP r p m o I → o.length ≤ p → m < 10 → ∃ I1, ClA r m o w n ts q I I1 ∧ ∀ Q, m43W X d L r I Q ↔ Q (some (.int 1)) (K0, R0, I1, L)) ∧ ∀ I o, TxM I tx sz → MP h p o I → (∀ k, k < 16 → I 139 k = I0 139 k) → o.length ≤ p → ∃ I1, MlA h ix o w n ts q I I1 ∧ ∀ Q, m150W X d' L ix I Q ↔ Q (some (.int 1)) (K0, R0, I1, L))
theorem p62 {r m n : Nat} {I : Nat → Nat → Int32} {x : Int32} {Q : Option Value → XW → Prop} (hr : isInn r) (e : I r 2 = nI m) (hm : m < 10) (e5 : I r 5 = nI n) : wp X d m62 0 [some (.ref r), some (.int x)] [] (K0, R0, I, L) Q ↔ Q none (K0, R0, updR (updR (updR I (r + 1) m x) (r + 2) m (nI n)) r 2 (nI (m + 1)), L) := by
  have ii := inA_nI hm (show 10 < 2 ^ 31 by decide)
  have l10 : nI m < (10 : Int32) := nI_lt (b := 10) hm (by decide)
  rw [b62_0 hr, e, if_neg (nI_pos (by omega)), if_pos l10, if_pos l10, and_iff_right ii, and_iff_right ii, nI_clamp (by omega), e5, nI_1]
theorem cl_ok (hr : isInn r) (hr2 : 82 ≤ r) (hh : h < 6) (hi : ix < 60) (hS : TxS tx sz) (h100 : sz ≤ 100) {p : Nat} (hs : p ≤ sz) : ClR X d d' L tx sz r h ix p := by
  have le := wr2_le (tx := tx) (sz := sz) (p := p) (fun k hk => wds_ne _ (wM_le (sg tx sz p)) k hk) hs
  have w4 := wM_le (sg tx sz p)
  have frs := (wCM (s := sg tx sz) (p := p)).2
  have hc := fun I (hT : TxC I tx sz) (hp : I 64 2 = nI p) => c43 (X := X) (d := d) (L := L) hS hr hT hp hs
  have hm := fun I (hT : TxM I tx sz) (hp : I 124 11 = nI p) (h9 : ∀ k, k < 16 → I 139 k = I0 139 k) => c150 (X := X) (d := d') (L := L) hS hi hT hp hs h9
  generalize wM (sg tx sz p) = w at le w4 frs hc hm
  generalize wr2 (sg tx sz) (wds w) p = y at le frs hc hm
  obtain ⟨q0, b⟩ := y
  cases b
  · refine ⟨q0, le.1, le.2.1, Or.inl ⟨fun I o m hT g ho => ⟨_, CFr.place, updR_same, fun Q => (hc I hT g.1 Q).trans ?_⟩, fun I o hT g h9 ho => ⟨updR (updR I 133 ix (nI w)) 124 11 (nI q0), (MFr.row (Or.inl rfl)).trans (MFr.fld (Or.inl rfl)), updR_same, fun Q => (hm I hT g.1 h9 Q).trans ?_⟩⟩⟩
    · rw [if_neg Bool.false_ne_true]
    · rw [if_neg Bool.false_ne_true]
  · have e5 : q0 = p + 5 := le.2.2 rfl
    have fr := (frs rfl).2
    obtain ⟨l0, l1, -⟩ := le
    have l1 : q0 ≤ sz := l1
    obtain ⟨n0, n1, n2⟩ := nmb_le hS l1
    have hc := fun I hT hp Q => (hc I hT hp Q).trans (iff_of_eq (if_pos rfl))
    have hm := fun I hT hp h9 Q => (hm I hT hp h9 Q).trans (iff_of_eq (if_pos rfl))
    have hc : ∀ I, TxC I tx sz → I 64 2 = nI p → ∀ Q, m43W X d L r I Q ↔ wp X (d + 36) m43 31 [some (.ref 64), some (.ref r), some (.int (sg tx sz p)), none] [.int (opI (nmb (sg tx sz) q0).2)] (K0, R0, updR I 64 2 (nI (nmb (sg tx sz) q0).1), L) Q := hc
    cases h3 : (nmb (sg tx sz) q0).2 with
    | none =>
      rw [h3] at hc
      refine ⟨(nmb (sg tx sz) q0).1, by omega, n1, Or.inl ⟨fun I o m hT g ho => ⟨_, CFr.place, updR_same, fun Q => (hc I hT g.1 Q).trans ?_⟩, fun I o hT g h9 ho => ⟨updR (updR I 133 ix (nI w)) 124 11 (nI (nmb (sg tx sz) q0).1), (MFr.row (Or.inl rfl)).trans (MFr.fld (Or.inl rfl)), updR_same, fun Q => (hm I hT g.1 h9 Q).trans ?_⟩⟩⟩
      · rw [b43_31 hr, if_pos (show opI none < 0 by decide)]
      · simp only [h3]
    | some n =>
      rw [h3] at hc
      obtain ⟨n3, n4⟩ := n2 n h3
      have hm : ∀ I, TxM I tx sz → I 124 11 = nI p → (∀ k, k < 16 → I 139 k = I0 139 k) → ∀ Q, m150W X d' L ix I Q ↔ wp X (d' + 8) m150 12 [some (.ref 124), some (.int (nI ix))] [.int 1] (K0, R0, updR (updR (updR (updR I 133 ix (nI w)) 124 11 (nI q0)) 124 12 (nI n)) 124 11 (nI (nmb (sg tx sz) q0).1), L) Q := fun I hT hp h9 Q => (hm I hT hp h9 Q).trans (by simp only [h3])
      generalize (nmb (sg tx sz) q0).1 = q1 at n0 n1 n4 hc hm
      have fM : ∀ I, MFr h ix I (updR (updR (updR (updR (updR I 133 ix (nI w)) 124 11 (nI q0)) 124 12 (nI n)) 124 11 (nI q1)) 134 ix (nI n)) := fun I => ((((MFr.row (Or.inl rfl)).trans (MFr.fld (Or.inl rfl))).trans (MFr.fld (Or.inr (Or.inl rfl)))).trans (MFr.fld (Or.inl rfl))).trans (MFr.row (Or.inr (Or.inl rfl)))
      have stM : ∀ I, TxM I tx sz → I 124 11 = nI p → (∀ k, k < 16 → I 139 k = I0 139 k) → ∃ I2, MFr h ix I I2 ∧ I2 133 ix = nI w ∧ I2 134 ix = nI n ∧ I2 124 11 = nI q1 ∧ I2 124 21 = I 124 21 ∧ (∀ k, I2 137 k = I 137 k) ∧ ∀ Q, m150W X d' L ix I Q ↔ (if nI w < 2 then wp X (d' + 7) m154 0 [some (.ref 124), some (.int 32)] [] (K0, R0, I2, L) (fun r1 w1 => wp X (d' + 8) m150 43 [some (.ref 124), some (.int (nI ix))] (r1.toList ++ []) w1 Q) else Q (some (.int 1)) (K0, R0, I2, L)) := by
        intro I hT hp h9
        refine ⟨_, fM I, ?_, updR_same, ?_, ?_, fun k => ?_, fun Q => (hm I hT hp h9 Q).trans ?_⟩
        · rw [updR_k (by decide), updR_k (by decide), updR_k (by decide), updR_k (by decide), updR_same]
        · rw [updR_k (by decide), updR_same]
        · rw [updR_k (by decide), updR_j (by decide), updR_j (by decide), updR_j (by decide), updR_k (by decide)]
        · rw [updR_k (by decide), updR_k (by decide), updR_k (by decide), updR_k (by decide), updR_k (by decide)]
        · have ii := inA_nI hi (show 60 < 2 ^ 31 by decide)
          have e12 : updR (updR (updR (updR I 133 ix (nI w)) 124 11 (nI q0)) 124 12 (nI n)) 124 11 (nI q1) 124 12 = nI n := by rw [updR_j (by decide), updR_same]
          have e33 : updR (updR (updR (updR I 133 ix (nI w)) 124 11 (nI q0)) 124 12 (nI n)) 124 11 (nI q1) 133 ix = nI w := by rw [updR_k (by decide), updR_k (by decide), updR_k (by decide), updR_same]
          rw [b150_12, if_neg (by decide), and_iff_right ii, and_iff_right ii, nI_clamp (by omega), e12, e33]
          try exact Iff.rfl
      by_cases w2 : w < 2
      · -- a change
        have x114 : ¬ sg tx sz p = 114 := by rw [fr]; have : w = 0 ∨ w = 1 := by omega
                                             rcases this with rfl | rfl <;> decide
        have x102 : ¬ sg tx sz p = 102 := by rw [fr]; have : w = 0 ∨ w = 1 := by omega
                                             rcases this with rfl | rfl <;> decide
        have nw : nI w < 2 := nI_lt (b := 2) w2 (by decide)
        have hc2 : ∀ I, TxC I tx sz → I 64 2 = nI p → ∀ Q, m43W X d L r I Q ↔ wp X (d + 36) m43 70 [some (.ref 64), some (.ref r), some (.int (sg tx sz p)), some (.int (nI n))] [.int (bI (wrd (sg tx sz) (lsF [32]) 1 0 q1).2)] (K0, R0, updR I 64 2 (nI (wrd (sg tx sz) (lsF [32]) 1 0 q1).1), L) Q := by
          intro I hT hp Q
          rw [hc I hT hp, b43_31 hr, if_neg (show ¬ opI (some n) < 0 from nI_pos (by omega)), if_neg x114, if_neg x102, p46_0 (d := d + 31) sv4 sp1 hT.at updR_same n1, updR_two]
          exact Iff.rfl
        by_cases z : sg tx sz q1 = 32
        · have l2 := sg_lt z (by decide)
          have wz : wrd (sg tx sz) (lsF [32]) 1 0 q1 = (q1 + 1, true) := by
            unfold wrd
            rw [if_pos (show sg tx sz q1 = lsF [32] 0 from z)]
            rfl
          rw [wz] at hc2
          have hc3 : ∀ I, TxC I tx sz → I 64 2 = nI p → ∀ Q, m43W X d L r I Q ↔ P4 X L r 0 (d + 35) 0 (updR I 64 2 (nI (q1 + 1))) (fun r1 w1 => wp X (d + 36) m43 79 [none, some (.ref r), some (.int (sg tx sz p)), some (.int (nI n))] (r1.toList ++ []) w1 Q) := by
            intro I hT hp Q
            rw [hc2 I hT hp, b43_70 hr, if_neg (show ¬ bI (q1 + 1, true).2 = 0 from (by decide : ¬ bI true = 0))]
            exact Iff.rfl
          have csb : ∀ I o m, CP r p m o I → CS (updR I 64 2 (nI (q1 + 1))) r (q1 + 1) o (updR I 64 2 (nI (q1 + 1))) := fun I o m g => ⟨fun _ _ _ _ _ => rfl, updR_same, by rw [updR_k (by omega)]; exact g.2.1, fun k hk => by rw [updR_k (by omega)]; exact g.2.2.1 k hk⟩
          have hm3 : ∀ I o, TxM I tx sz → MP h p o I → (∀ k, k < 16 → I 139 k = I0 139 k) → ∃ I4, MFr h ix I I4 ∧ TxM I4 tx sz ∧ I4 133 ix = nI w ∧ I4 134 ix = nI n ∧ I4 135 ix = nI (100 * h + o.length) ∧ MS I4 h ix (q1 + 1) o [] 0 I4 ∧ ∀ Q, m150W X d' L ix I Q ↔ Mw X d' L ix 1 I4 (fun r1 w1 => wp X (d' + 8) m150 51 [none, none] (r1.toList ++ []) w1 Q) := by
            intro I o hT g h9
            obtain ⟨I2, a1, a2, a3, a4, a5, a6, a7⟩ := stM I hT g.1 h9
            have hT2 : TxM I2 tx sz := hT.cg (a1 124 10 (by decide) (by decide) (by omega) (by omega)) (by funext k; exact a1 131 k (by omega) (by decide) (by omega) (by omega))
            have e21 : updR I2 124 11 (nI (q1 + 1)) 124 21 = nI (100 * h + o.length) := by rw [updR_j (by decide), a5]; exact g.2.1
            have f4 : MFr h ix I (updR (updR (updR (updR I2 124 11 (nI (q1 + 1))) 124 22 0) 124 23 0) 135 ix (nI (100 * h + o.length))) := (((a1.trans (MFr.fld (Or.inl rfl))).trans (MFr.fld (Or.inr (Or.inr (Or.inr (Or.inl rfl)))))).trans (MFr.fld (Or.inr (Or.inr (Or.inr (Or.inr rfl)))))).trans (MFr.row (Or.inr (Or.inr (Or.inl rfl))))
            refine ⟨_, f4, hT.cg (f4 124 10 (by decide) (by decide) (by omega) (by omega)) (by funext k; exact f4 131 k (by omega) (by decide) (by omega) (by omega)), ?_, ?_, updR_same, ⟨fun _ _ _ _ _ _ => rfl, ?_, ?_, fun k hk => ?_, ?_, trivial, ?_⟩, fun Q => (a7 Q).trans ?_⟩
            · rw [updR_k (by decide), updR_k (by decide), updR_k (by decide), updR_k (by decide)]; exact a2
            · rw [updR_k (by decide), updR_k (by decide), updR_k (by decide), updR_k (by decide)]; exact a3
            · rw [updR_k (by decide), updR_j (by decide), updR_j (by decide), updR_same]
            · rw [updR_k (by decide), updR_j (by decide), updR_j (by decide)]; exact e21
            · rw [updR_k (by decide), updR_k (by decide), updR_k (by decide), updR_k (by decide), a6]; exact g.2.2 k hk
            · rw [updR_k (by decide), updR_j (by decide), updR_same]; rfl
            · rw [updR_k (by decide), updR_same]; rfl
            · rw [if_pos nw, p154 (d := d' + 6) hT2 a4 n1, if_pos z]
              simp only [Option.toList, List.cons_append, List.nil_append]
              rw [b150_43, if_neg (by decide), b157_0, and_iff_right (inA_nI hi (by decide)), nI_clamp (by omega), e21]
              exact Iff.rfl
          obtain ⟨q, u1, u2, ⟨f1, f2⟩ | ⟨ts, k1, k2, k5, k3, k4⟩⟩ := (all_ok (X := X) (d := d') (L := L) hr hr2 hh hi hS h100 (sz - (q1 + 1)) (q1 + 1) (by omega) 0 (by omega)).2.2.1
          · refine ⟨q, by omega, u2, Or.inl ⟨fun I o m hT g ho => ?_, fun I o hT g h9 ho => ?_⟩⟩
            · obtain ⟨I1, o1, a1, a2⟩ := f1 (d + 35) 0 (by omega) (Nat.zero_le _) _ hT.at o _ (csb I o m g) (by omega)
              refine ⟨I1, CFr.place.trans a1.fr, a1.2.1, fun Q => (hc3 I hT g.1 Q).trans ((a2 _).trans ?_)⟩
              simp only [Option.toList, List.cons_append, List.nil_append]
              rw [b43_79 hr, if_pos rfl]
            · obtain ⟨I4, a1, a2, a3, a4, a5, a6, a7⟩ := hm3 I o hT g h9
              obtain ⟨I1, j1, j2⟩ := f2 I4 a2 o [] I4 a6 (by simp only [List.length_nil]; omega) (Or.inl rfl) (Nat.zero_le _)
              refine ⟨I1, a1.trans j1.fr, j1.2, fun Q => (a7 Q).trans ((j2 _).trans ?_)⟩
              simp only [Option.toList, List.cons_append, List.nil_append]
              rw [b150_51, if_pos rfl]
          · refine ⟨q, by omega, u2, Or.inr ⟨w, n, ts, by omega, n3, by omega, fun _ => k2, fun z => absurd w2 (by omega), fun I o m hT g ho h10 => ?_, fun I o hT g h9 ho => ?_⟩⟩
            · obtain ⟨I1, a1, a2⟩ := k3 (d + 35) 0 (by omega) (Nat.zero_le _) _ hT.at o _ (csb I o m g) (by omega)
              refine ⟨_, clA_change (w := w) (n := n) hr2 g w2 a1, fun Q => (hc3 I hT g.1 Q).trans ((a2 _).trans ?_)⟩
              have e2 : I1 r 2 = nI m := by rw [a1.1 r 2 (by omega) (by omega) (by omega), updR_k (by omega)]; exact g.2.2.2
              simp only [Option.toList, List.cons_append, List.nil_append]
              rw [b43_79 hr, if_neg (by decide), fr]
              have : w = 0 ∨ w = 1 := by omega
              rcases this with rfl | rfl
              · rw [if_pos (by decide), p62 hr e2 h10 a1.2.2.1]
                simp only [Option.toList, List.cons_append, List.nil_append]
                rw [b43_100]
                exact Iff.rfl
              · rw [if_neg (by decide), p62 hr e2 h10 a1.2.2.1]
                simp only [Option.toList, List.cons_append, List.nil_append]
                rw [b43_100]
                exact Iff.rfl
            · obtain ⟨I4, a1, a2, a3, a4, a5, a6, a7⟩ := hm3 I o hT g h9
              obtain ⟨I1, j1, j2⟩ := k4 I4 a2 o [] I4 a6 (by simp only [List.length_nil]; omega) (Or.inl rfl) (Nat.zero_le _)
              have j1 : MS I4 h ix q (o ++ ts ++ []) [] 0 I1 := j1
              rw [List.append_nil] at j1
              have fj := j1.mf.fr
              refine ⟨updR I1 136 ix (nI (100 * h + (o ++ ts).length)), ⟨(a1.trans fj).trans (MFr.row (Or.inr (Or.inr (Or.inr rfl)))), ⟨?_, ?_, fun k hk => ?_⟩, ?_, ?_, fun _ => ⟨?_, updR_same⟩⟩, fun Q => (a7 Q).trans ((j2 _).trans ?_)⟩
              · rw [updR_k (by decide)]; exact j1.2.1
              · rw [updR_k (by decide)]; exact j1.2.2.1
              · rw [updR_k (by decide)]; exact j1.2.2.2.1 k hk
              · rw [updR_k (by decide), j1.1 133 ix (by omega) (by decide) (by omega) (by omega)]; exact a3
              · rw [updR_k (by decide), j1.1 134 ix (by omega) (by decide) (by omega) (by omega)]; exact a4
              · rw [updR_k (by decide), j1.1 135 ix (by omega) (by decide) (by omega) (by omega)]; exact a5
              · rw [m0_last (a2) j1 u2 (by rw [List.length_append]; simp only [List.length_nil]; omega) hi k5.1 k5.2 trivial, if_pos (show nI ([] : List Nat).length = 0 by decide)]
                simp only [Option.toList, List.cons_append, List.nil_append]
                rw [b150_51, if_neg (by decide)]
        · have wz : wrd (sg tx sz) (lsF [32]) 1 0 q1 = (q1, false) := by
            unfold wrd
            rw [if_neg (show ¬ sg tx sz q1 = lsF [32] 0 from z)]
          rw [wz] at hc2
          refine ⟨q1, by omega, n1, Or.inl ⟨fun I o m hT g ho => ⟨_, CFr.place, updR_same, fun Q => (hc2 I hT g.1 Q).trans ?_⟩, fun I o hT g h9 ho => ?_⟩⟩
          · rw [b43_70 hr, if_pos (show bI (q1, false).2 = 0 from (by decide : bI false = 0))]
          · obtain ⟨I2, a1, a2, a3, a4, a5, a6, a7⟩ := stM I hT g.1 h9
            refine ⟨I2, a1, a4, fun Q => (a7 Q).trans ?_⟩
            rw [if_pos nw, p154 (d := d' + 6) (hT.cg (a1 124 10 (by decide) (by decide) (by omega) (by omega)) (by funext k; exact a1 131 k (by omega) (by decide) (by omega) (by omega))) a4 n1, if_neg z]
            simp only [Option.toList, List.cons_append, List.nil_append]
            rw [b150_43, if_pos rfl]
      · -- rise, fall
        have nw : ¬ nI w < 2 := nI_nlt (b := 2) (by omega) (by omega)
        refine ⟨q1, by omega, n1, Or.inr ⟨w, n, [], by omega, n3, by simp only [List.length_nil]; omega, fun q => absurd q w2, fun _ => rfl, fun I o m hT g ho h10 => ?_, fun I o hT g h9 ho => ?_⟩⟩
        · refine ⟨_, clA_word hr2 g (by omega), fun Q => (hc I hT g.1 Q).trans ?_⟩
          rw [b43_31 hr, if_neg (show ¬ opI (some n) < 0 from nI_pos (by omega)), fr]
          have : w = 2 ∨ w = 3 := by omega
          rcases this with rfl | rfl
          · rw [if_pos (by decide)]
            exact Iff.rfl
          · rw [if_neg (by decide), if_pos (by decide)]
            exact Iff.rfl
        · obtain ⟨I2, a1, a2, a3, a4, a5, a6, a7⟩ := stM I hT g.1 h9
          refine ⟨I2, ⟨a1, ⟨a4, ?_, fun k hk => ?_⟩, a2, a3, fun q => absurd q w2⟩, fun Q => (a7 Q).trans ?_⟩
          · rw [a5, List.append_nil]; exact g.2.1
          · rw [List.append_nil] at hk ⊢
            rw [a6]; exact g.2.2 k hk
          · rw [if_neg nw]
end CLS
