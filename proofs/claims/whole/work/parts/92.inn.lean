/-! inn. -/
def FI (c : Nat) (I J : Nat → Nat → Int32) : Prop := ∀ a b, ¬ (a = 64 ∧ (b = 1 ∨ b = 2)) → ¬ (82 + 5 * c ≤ a ∧ a ≤ 82 + 5 * c + 3) → ¬ (a = 124 ∧ (b = 8 ∨ b = 9 ∨ b = 10 ∨ b = 11 ∨ b = 12 ∨ b = 21 ∨ b = 22 ∨ b = 23)) → a ≠ 138 → ¬ (a = 137 ∧ 100 * c ≤ b) → ¬ ((a = 133 ∨ a = 134 ∨ a = 135 ∨ a = 136) ∧ 10 * c ≤ b ∧ b < 10 * c + 10) → ¬ (a = 132 ∧ b = c) → ¬ (a = 1 ∧ b = 3) → ¬ (a = 0 ∧ b = 6) → J a b = I a b
theorem InnM_fr {I J : Nat → Nat → Int32} {i c n : Nat} {wd nb mm T : Nat → Nat} (g : InnM I i n wd nb mm T) (hi : i < c) (hc : c < 6) (f : FI c I J) : InnM J i n wd nb mm T := by
  obtain ⟨g1, g2, g3, g4, g5, g6⟩ := g
  have fr : ∀ a b, 132 ≤ a → a ≤ 137 → ¬ (a = 137 ∧ 100 * c ≤ b) → ¬ (a < 137 ∧ 10 * c ≤ b) → ¬ (a = 132 ∧ b = c) → J a b = I a b := fun a b h1 h2 h3 h4 h5 => f a b (by omega) (by omega) (by omega) (by omega) h3 (by omega) h5 (by omega) (by omega)
  refine ⟨g1, g2, ?_, g4, fun j hj => ?_, fun j hj hw => ?_⟩
  · rw [f 132 i (by omega) (by omega) (by omega) (by omega) (by omega) (by omega) (by omega) (by omega) (by omega)]; exact g3
  · rw [fr 133 _ (by omega) (by omega) (by omega) (by omega) (by omega), fr 134 _ (by omega) (by omega) (by omega) (by omega) (by omega)]
    exact g5 j hj
  · obtain ⟨k1, k2, k3, k4⟩ := g6 j hj hw
    rw [fr 135 _ (by omega) (by omega) (by omega) (by omega) (by omega), fr 136 _ (by omega) (by omega) (by omega) (by omega) (by omega)]
    refine ⟨k1, k2, k3, fun k hk => ?_⟩
    have a := @loA_le mm n (n - (j + 1)) (j + 1) (by omega)
    have b : loA mm (j + 1) = loA mm j + mm j := rfl
    rw [fr 137 _ (by omega) (by omega) (by omega) (by omega) (by omega)]
    exact k4 k hk
theorem inn_inv {I J : Nat → Nat → Int32} {L : Nat → Nat → Int64} {n q n' q' c c' : Nat} (hN : NowI I n q) (hK : KeptI I n' q') (h41 : HeldI I 41 c) (hIm : ImgI I) (hIn : InnsI I c) (hA : ActsI I) (hTp : TapesI I L) (hMi : MiscI I) (hc : c < 6) (f : FI c I J) (e1 : J 64 1 = 0) (e2 : J 124 10 = 0) (e13 : J 1 3 = J 124 9) (h9 : HeldI J 9 c') (e6 : J 0 6 = nI c') (e8 : J 124 8 = nI c') (c1 : c ≤ c') (c2 : c' ≤ 6) (new : ∀ i, c ≤ i → i < c' → InnB J i) : Inv J L := by
  have rr : ∀ k, k ≠ 64 → ¬ (82 + 5 * c ≤ k ∧ k ≤ 82 + 5 * c + 3) → k ≠ 124 → ¬ (132 ≤ k ∧ k ≤ 138) → k ≠ 1 → k ≠ 0 → J k = I k := fun k h1 h2 h3 h4 h5 h6 => by
    funext b
    exact f k b (by omega) h2 (by omega) (by omega) (by omega) (by omega) (by omega) (by omega) (by omega)
  have ff : ∀ b, ¬ (b = 8 ∨ b = 9 ∨ b = 10 ∨ b = 11 ∨ b = 12 ∨ b = 21 ∨ b = 22 ∨ b = 23) → J 124 b = I 124 b := fun b hb => f 124 b (by omega) (by omega) (by omega) (by omega) (by omega) (by omega) (by omega) (by omega) (by omega)
  have f1 : ∀ b, b ≠ 3 → J 1 b = I 1 b := fun b hb => f 1 b (by omega) (by omega) (by omega) (by omega) (by omega) (by omega) (by omega) (by omega) (by omega)
  obtain ⟨⟨a1, a2, a3, a4, a5, a6, -⟩, b2, b3, b4, b5, b6, b7⟩ := hN
  obtain ⟨i1, i2, i3, i4⟩ := hIn
  refine ⟨n, q, n', q', c', ⟨⟨a1, a2, (f1 1 (by decide)).trans a3, (ff 0 (by decide)).trans a4, (f1 2 (by decide)).trans a5, (ff 1 (by decide)).trans a6, e13⟩, b2.cong a1 (fun k hk => by rw [rr k (by omega) (by omega) (by omega) (by omega) (by omega) (by omega)]), b3.cong (fun k hk => rr k (by omega) (by omega) (by omega) (by omega) (by omega) (by omega)), b4.cong (fun k hk => rr k (by omega) (by omega) (by omega) (by omega) (by omega) (by omega)), b5.cong (fun k hk => rr k (by omega) (by omega) (by omega) (by omega) (by omega) (by omega)) (ff _ (by decide)), b6.cong (fun k hk => rr k (by omega) (by omega) (by omega) (by omega) (by omega) (by omega)) (ff _ (by decide)), b7.cong (fun k hk => rr k (by omega) (by omega) (by omega) (by omega) (by omega) (by omega)) (ff _ (by decide))⟩, hK.cong (fun k hk => rr k (by omega) (by omega) (by omega) (by omega) (by omega) (by omega)) (fun b hb => ff b (by omega)), h9, ?_, hIm.cong (f 0 3 (by omega) (by omega) (by omega) (by omega) (by omega) (by omega) (by omega) (by omega) (by omega)) (ff 40 (by decide)), ⟨c2, e6, e8, fun i hi => ?_⟩, ⟨0, Nat.zero_le _, e1, e2, fun k hk => absurd hk (Nat.not_lt_zero _)⟩, hA.cong (by rw [rr 79 (by omega) (by omega) (by omega) (by omega) (by omega) (by omega)]) (rr 80 (by omega) (by omega) (by omega) (by omega) (by omega) (by omega)) (ff 59 (by decide)) (rr 162 (by omega) (by omega) (by omega) (by omega) (by omega) (by omega)), hTp.cong (fun k hk => rr k (by omega) (by omega) (by omega) (by omega) (by omega) (by omega)), hMi.cong (ff 26 (by decide)) (rr 139 (by omega) (by omega) (by omega) (by omega) (by omega) (by omega)) (rr 67 (by omega) (by omega) (by omega) (by omega) (by omega) (by omega))⟩
  · rcases h41 with z | ⟨j, hj, z⟩
    · exact Or.inl ((ff 41 (by decide)).trans z)
    · exact Or.inr ⟨j, by omega, (ff 41 (by decide)).trans z⟩
  · by_cases z : i < c
    · obtain ⟨m, wd, nb, mm, T, g1, g2, g3, g4, g5⟩ := i4 i z
      exact ⟨m, wd, nb, mm, T, g1.cg (fun k hk => rr k (by omega) (by omega) (by omega) (by omega) (by omega) (by omega)), InnM_fr g2 z hc f, by rw [rr _ (by omega) (by omega) (by omega) (by omega) (by omega) (by omega)]; exact g3, by rw [rr _ (by omega) (by omega) (by omega) (by omega) (by omega) (by omega)]; exact g4, g5⟩
    · exact new i (by omega) hi
section CALLS
variable {X : Nat × (Nat → Int32)} {d : Nat}
theorem ok_inn : Ok X d m40 m148 [some (.ref 0), none, none] [some (.ref 124), none] := by
  intro I L hI
  obtain ⟨n, q, n', q', c, hN, hK, h9, h41, hIm, hIn, ⟨s, s1, s2, s3, s4⟩, hA, hTp, hMi⟩ := id hI
  obtain ⟨i1, i2, i3, i4⟩ := id hIn
  by_cases c6 : c = 6
  · subst c6
    refine ⟨.int (-4), I, L, I, L, hI, fun Q => ?_, fun Q => ?_⟩
    · rw [b40_0, i2, if_neg (by decide)]
    · rw [b148_0, i3, if_pos (by decide)]
  have c5 : c < 6 := by omega
  obtain ⟨tx, htx⟩ : ∃ tx : Nat → Nat, ∀ k, k < s → I 131 k = nI (tx k) ∧ tx k ≤ 127 := ⟨fun k => (I 131 k).toNatClampNeg, fun k hk => by
    obtain ⟨-, z, z1, z2⟩ := s4 k hk
    show I 131 k = nI (I 131 k).toNatClampNeg ∧ (I 131 k).toNatClampNeg ≤ 127
    rw [z2, nI_clamp (by omega)]
    exact ⟨rfl, z1⟩⟩
  have hS : TxS tx s := fun k hk => (htx k hk).2
  have hTc : TxC I tx s := ⟨s1, s2, fun k hk => (s4 k hk).1.trans (htx k hk).1⟩
  have hTm : TxM I tx s := ⟨s1, s3, fun k hk => (htx k hk).1⟩
  have hr : isInn (82 + 5 * c) := (inns_ok c c5).2
  have hP0 : PF 0 (fun _ => 0) (fun _ => 0) (fun _ => 0) [] := ⟨rfl, fun j hj => absurd hj (Nat.not_lt_zero _), fun _ => Nat.zero_le _⟩
  have main := clauses_ok (X := X) (d := d + 62) (d' := d + 90) (L := L) hr (by omega) c5 hS s1 9 0 0 _ _ _ _ rfl (Nat.zero_le _) hP0 (Nat.zero_le _)
  generalize er : 82 + 5 * c = r at hr main
  have hcls : CLS r 0 (fun _ => 0) (fun _ => 0) (fun _ => 0) [] 0 I (updR (updR (updR (updR (updR I 64 2 0) r 0 2) r 1 1) r 2 0) r 5 0) := by
    refine ⟨((((CFr.place).trans (CFr.one (Or.inl rfl))).trans (CFr.one (Or.inl rfl))).trans (CFr.one (Or.inl rfl))).trans (CFr.one (Or.inl rfl)), ⟨?_, updR_same, fun k hk => absurd hk (Nat.not_lt_zero _), ?_⟩, ?_, ?_, fun j hj => absurd hj (Nat.not_lt_zero _)⟩
    · rw [updR_k (by omega), updR_k (by omega), updR_k (by omega), updR_k (by omega), updR_same]; rfl
    · rw [updR_j (by decide), updR_same]; rfl
    · rw [updR_j (by decide), updR_j (by decide), updR_j (by decide), updR_same]; rfl
    · rw [updR_j (by decide), updR_j (by decide), updR_same]; rfl
  have ctop : ∀ Q : Option Value → XW → Prop, wp X (d + 100) m40 0 [some (.ref 0), none, none] [] (K0, R0, I, L) Q ↔ m41W X (d + 62) L r 0 (updR (updR (updR (updR (updR I 64 2 0) r 0 2) r 1 1) r 2 0) r 5 0) (fun r1 w1 => wp X (d + 100) m40 40 [some (.ref 0), none, none] (r1.toList ++ []) w1 Q) := by
    intro Q
    rw [b40_0, i2, if_pos (show nI c < (6 : Int32) from nI_lt (b := 6) c5 (by decide)), and_iff_right (inA_nI c5 (by decide)), nI_clamp (by omega), er, b41_0 hr, b42_0 hr]
    simp only [Option.toList, List.cons_append, List.nil_append]
    rw [b41_9 hr]
    exact Iff.rfl
  have mtop : ∀ (J : Nat → Nat → Int32), J 124 8 = nI c → ∀ Q : Option Value → XW → Prop, wp X (d + 100) m148 0 [some (.ref 124), none] [] (K0, R0, J, L) Q ↔ m149W X (d + 90) L c 0 (updR (updR J 124 11 0) 124 21 (nI (100 * c))) (fun r1 w1 => wp X (d + 100) m148 20 [some (.ref 124), none] (r1.toList ++ []) w1 Q) := by
    intro J e Q
    rw [b148_0, e, if_neg (show ¬ nI c = (6 : Int32) from nI_ne (b := 6) (by omega) (by decide) c6), b149_0, show (100 : Int32) * nI c = nI (100 * c) from nI_mul 100 c]
    exact Iff.rfl
  have hmls : ∀ J : Nat → Nat → Int32, MLS c 0 (fun _ => 0) (fun _ => 0) (fun _ => 0) [] 0 J (updR (updR J 124 11 0) 124 21 (nI (100 * c))) := by
    intro J
    refine ⟨fun a b g1 g2 g3 g4 g5 => ?_, ⟨?_, updR_same, fun k hk => absurd hk (Nat.not_lt_zero _)⟩, fun j hj => absurd hj (Nat.not_lt_zero _)⟩
    · by_cases z : a = 124
      · subst z; rw [updR_j (fun z => g1 ⟨rfl, by omega⟩), updR_j (fun z => g1 ⟨rfl, by omega⟩)]
      · rw [updR_k z, updR_k z]
    · rw [updR_j (by decide), updR_same]; rfl
  obtain ⟨y, y1, ⟨f1, f2⟩ | ⟨k, wd, nb, mm, o, v1, v2, v3, v4, v5⟩⟩ := main
  · -- no inn
    obtain ⟨I1, a1, a2, a3⟩ := f1 I _ hTc hcls
    have fe : ∀ a b, a ≠ 64 → ¬ (r ≤ a ∧ a ≤ r + 3) → updR I1 64 1 0 a b = I a b := fun a b h1 h2 => by
      rw [updR_k h1]; exact a1 a b (by omega) (by omega) (by omega) (by omega) (by omega)
    have hT2 : TxM (updR I1 64 1 0) tx s := hTm.cg (fe 124 10 (by omega) (by omega)) (by funext b; exact fe 131 b (by omega) (by omega))
    obtain ⟨I2, b1, b2, b3⟩ := f2 (updR I1 64 1 0) _ hT2 (fun k hk => (fe 139 k (by omega) (by omega)).trans (hMi.2.1 k hk)) (hmls _)
    have fm : ∀ a b, ¬ (a = 124 ∧ (b = 10 ∨ b = 11 ∨ b = 12 ∨ b = 21 ∨ b = 22 ∨ b = 23)) → a ≠ 138 → ¬ (a = 137 ∧ 100 * c ≤ b) → ¬ ((a = 133 ∨ a = 134 ∨ a = 135 ∨ a = 136) ∧ 10 * c ≤ b ∧ b < 10 * c + 10) → ¬ (a = 132 ∧ b = c) → updR I2 124 10 0 a b = updR I1 64 1 0 a b := fun a b h1 h2 h3 h4 h5 => by
      by_cases z : a = 124
      · subst z; rw [updR_j (fun z => h1 ⟨rfl, by omega⟩)]; exact b1 _ b (by omega) h2 h3 h4 h5
      · rw [updR_k z]; exact b1 a b (by omega) h2 h3 h4 h5
    refine ⟨.int (-10 - nI y), updR I1 64 1 0, L, updR I2 124 10 0, L, ?_, fun Q => ?_, fun Q => ?_⟩
    · have f : FI c I (updR I2 124 10 0) := by
        intro a b g1 g2 g3 g4 g5 g6 g7 g8 g9
        rw [fm a b (by omega) g4 g5 g6 g7]
        by_cases z : a = 64
        · subst z
          rw [updR_j (by omega)]
          exact a1 64 b (by omega) (by omega) (by omega) (by omega) (by omega)
        · exact fe a b z (by omega)
      have g9 : updR I2 124 10 0 124 9 = I 124 9 := (fm 124 9 (by omega) (by omega) (by omega) (by omega) (by omega)).trans (fe 124 9 (by omega) (by omega))
      refine inn_inv (c' := c) hN hK h41 hIm hIn hA hTp hMi c5 f ?_ updR_same ?_ (h9.cong g9) ?_ ?_ (Nat.le_refl _) i1 (fun i h1 h2 => absurd h2 (by omega))
      · rw [fm 64 1 (by omega) (by omega) (by omega) (by omega) (by omega), updR_same]
      · rw [g9, fm 1 3 (by omega) (by omega) (by omega) (by omega) (by omega), fe 1 3 (by omega) (by omega)]
        exact hN.1.2.2.2.2.2.2
      · rw [fm 0 6 (by omega) (by omega) (by omega) (by omega) (by omega), fe 0 6 (by omega) (by omega)]
        exact i2
      · rw [fm 124 8 (by omega) (by omega) (by omega) (by omega) (by omega), fe 124 8 (by omega) (by omega)]
        exact i3
    · refine (ctop Q).trans ((a3 _).trans ?_)
      simp only [Option.toList, List.cons_append, List.nil_append]
      rw [b40_40, if_pos rfl, a2]
    · refine (mtop _ ((fe 124 8 (by omega) (by omega)).trans i3) Q).trans ((b3 _).trans ?_)
      simp only [Option.toList, List.cons_append, List.nil_append]
      rw [b148_20, if_pos rfl, b2]
  · -- an inn
    obtain ⟨I1, a1, a3⟩ := v4 I _ hTc hcls
    have e06 : I1 0 6 = nI c := (a1.1 0 6 (by omega) (by omega) (by omega) (by omega) (by omega)).trans i2
    obtain ⟨Ie, hIe⟩ : ∃ Ie, Ie = updR (updR (updR I1 64 1 0) 1 3 (nI c)) 0 6 (nI (c + 1)) := ⟨_, rfl⟩
    have fe : ∀ a b, a ≠ 64 → ¬ (a = 1 ∧ b = 3) → ¬ (a = 0 ∧ b = 6) → Ie a b = I1 a b := fun a b h1 h2 h3 => by
      rw [hIe]
      by_cases z : a = 0
      · subst z; rw [updR_j (fun z => h3 ⟨rfl, z⟩), updR_k (by omega), updR_k (by omega)]
      · rw [updR_k z]
        by_cases z : a = 1
        · subst z; rw [updR_j (fun z => h2 ⟨rfl, z⟩), updR_k (by omega)]
        · rw [updR_k z, updR_k h1]
    have fa : ∀ a b, a ≠ 64 → ¬ (r ≤ a ∧ a ≤ r + 3) → ¬ (a = 1 ∧ b = 3) → ¬ (a = 0 ∧ b = 6) → Ie a b = I a b := fun a b h1 h2 h3 h4 => (fe a b h1 h3 h4).trans (a1.1 a b (by omega) (by omega) (by omega) (by omega) (by omega))
    have hT2 : TxM Ie tx s := hTm.cg (fa 124 10 (by omega) (by omega) (by omega) (by omega)) (by funext b; exact fa 131 b (by omega) (by omega) (by omega) (by omega))
    obtain ⟨I2, b1, b2, b3⟩ := v5 Ie _ hT2 (fun k hk => (fa 139 k (by omega) (by omega) (by omega) (by omega)).trans (hMi.2.1 k hk)) (hmls _)
    obtain ⟨Im, hImd⟩ : ∃ Im, Im = updR (updR (updR I2 124 10 0) 124 9 (nI c)) 124 8 (nI (c + 1)) := ⟨_, rfl⟩
    have fm2 : ∀ a b, ¬ (a = 124 ∧ (b = 8 ∨ b = 9 ∨ b = 10)) → Im a b = I2 a b := fun a b h1 => by
      rw [hImd]
      by_cases z : a = 124
      · subst z; rw [updR_j (fun z => h1 ⟨rfl, by omega⟩), updR_j (fun z => h1 ⟨rfl, by omega⟩), updR_j (fun z => h1 ⟨rfl, by omega⟩)]
      · rw [updR_k z, updR_k z, updR_k z]
    have fm : ∀ a b, ¬ (a = 124 ∧ (b = 8 ∨ b = 9 ∨ b = 10 ∨ b = 11 ∨ b = 12 ∨ b = 21 ∨ b = 22 ∨ b = 23)) → a ≠ 138 → ¬ (a = 137 ∧ 100 * c ≤ b) → ¬ ((a = 133 ∨ a = 134 ∨ a = 135 ∨ a = 136) ∧ 10 * c ≤ b ∧ b < 10 * c + 10) → ¬ (a = 132 ∧ b = c) → Im a b = Ie a b := fun a b h1 h2 h3 h4 h5 => (fm2 a b (by omega)).trans (b1.1 a b (by omega) h2 h3 h4 h5)
    have e13 : Im 1 3 = nI c := by rw [fm 1 3 (by omega) (by omega) (by omega) (by omega) (by omega), hIe, updR_k (by decide), updR_same]
    have e9 : Im 124 9 = nI c := by rw [hImd, updR_j (by decide), updR_same]
    refine ⟨.int (nI c), Ie, L, Im, L, ?_, fun Q => ?_, fun Q => ?_⟩
    · have f : FI c I Im := by
        intro a b g1 g2 g3 g4 g5 g6 g7 g8 g9
        rw [fm a b g3 g4 g5 g6 g7]
        by_cases z : a = 64
        · subst z
          rw [hIe, updR_k (by decide), updR_k (by decide), updR_j (by omega)]
          exact a1.1 64 b (by omega) (by omega) (by omega) (by omega) (by omega)
        · exact fa a b z (by omega) g8 g9
      refine inn_inv (c' := c + 1) hN hK h41 hIm hIn hA hTp hMi c5 f ?_ ?_ (e13.trans e9.symm) (Or.inr ⟨c, by omega, e9⟩) ?_ ?_ (by omega) (by omega) (fun i h1 h2 => ?_)
      · rw [fm 64 1 (by omega) (by omega) (by omega) (by omega) (by omega), hIe, updR_k (by decide), updR_k (by decide), updR_same]
      · rw [hImd, updR_j (by decide), updR_j (by decide), updR_same]
      · rw [fm 0 6 (by omega) (by omega) (by omega) (by omega) (by omega), hIe, updR_same]
      · rw [hImd, updR_same]
      · have ec : i = c := by omega
        subst ec
        obtain ⟨p1, p2, p3⟩ := id v2
        obtain ⟨-, ⟨-, -, g4, g5⟩, g6, g7, g8⟩ := a1
        obtain ⟨-, ⟨-, -, m4⟩, m5⟩ := b1
        have fr : ∀ a b, r ≤ a → a ≤ r + 3 → Im a b = I1 a b := fun a b h1 h2 => (fm a b (by omega) (by omega) (by omega) (by omega) (by omega)).trans (fe a b (by omega) (by omega) (by omega))
        have lo100 : loA mm k ≤ 100 := by rw [← p1]; omega
        refine ⟨k, wd, nb, mm, fun j => o.getD j 0, ?_, ⟨c5, v1, (fm2 132 i (by omega)).trans b2, lo100, fun j hj => ?_, fun j hj hw => ?_⟩, ?_, ?_, p3⟩
        · rw [er]
          refine ⟨v1, (fr r 2 (by omega) (by omega)).trans g5, fun j hj hw => ?_, fun j hj hw => (p2 j hj).2.2 hw, lo100, fun t ht => (fr (r + 3) t (by omega) (by omega)).trans (g4 t (by omega))⟩
          rw [fr (r + 1) _ (by omega) (by omega), fr (r + 2) _ (by omega) (by omega)]
          exact ⟨(g8 j hj hw).1, (g8 j hj hw).2, (p2 j hj).2.1 hw⟩
        · rw [fm2 133 _ (by omega), fm2 134 _ (by omega)]
          exact ⟨(m5 j hj).1, (p2 j hj).1, (m5 j hj).2.1⟩
        · rw [fm2 135 _ (by omega), fm2 136 _ (by omega)]
          obtain ⟨m6, m7⟩ := (m5 j hj).2.2 hw
          refine ⟨m6, m7, (p2 j hj).2.1 hw, fun t ht => ?_⟩
          have a := @loA_le mm k (k - (j + 1)) (j + 1) (by omega)
          have b : loA mm (j + 1) = loA mm j + mm j := rfl
          rw [fm2 137 _ (by omega), Nat.add_assoc]
          exact m4 _ (by omega)
        · rw [er, fr r 0 (by omega) (by omega)]; exact g6
        · rw [er, fr r 1 (by omega) (by omega)]; exact g7
    · refine (ctop Q).trans ((a3 _).trans ?_)
      simp only [Option.toList, List.cons_append, List.nil_append]
      rw [b40_40, if_neg (by decide), e06, nI_1, ← hIe]
    · refine (mtop _ ((fa 124 8 (by omega) (by omega) (by omega) (by omega)).trans i3) Q).trans ((b3 _).trans ?_)
      have e8 : I2 124 8 = nI c := (b1.1 124 8 (by omega) (by omega) (by omega) (by omega) (by omega)).trans ((fa 124 8 (by omega) (by omega) (by omega) (by omega)).trans i3)
      simp only [Option.toList, List.cons_append, List.nil_append]
      rw [b148_20, if_neg (by decide), e8, nI_1, ← hImd]
end CALLS
