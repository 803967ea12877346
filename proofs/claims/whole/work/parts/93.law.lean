/-! The law: one call after another, both sides, one answer each time. -/
theorem rtn_int {ty : FieldType} (ht : ty = .int ∨ ty = .boolean) {e : XE} {st : List Value} {r : Option Value} (h : rtn (some ty) e st = some r) : ∃ x, r = some (.int x) := by
  obtain ⟨pc0, i, n0, a, b0, c0, pp, t⟩ := e
  unfold rtn at h
  dsimp only at h
  rcases ht with rfl | rfl
  all_goals
    split at h
    all_goals first
      | (cases h; done)
      | (rename_i hq; cases hq; done)
      | (cases h; exact ⟨_, rfl⟩)
      | (split at h
         · cases h; exact ⟨_, rfl⟩
         · cases h)
theorem rtn_long {e : XE} {st : List Value} {r : Option Value} (h : rtn (some .long) e st = some r) : ∃ x, r = some (.long x) := by
  obtain ⟨pc0, i, n0, a, b0, c0, pp, t⟩ := e
  unfold rtn at h
  dsimp only at h
  split at h
  all_goals first
    | (cases h; done)
    | (rename_i hq; cases hq; done)
    | (cases h; exact ⟨_, rfl⟩)
    | (rename_i hq
       cases hq
       split at h
       · rename_i hf; exact Bool.noConfusion (show false = true from hf)
       · cases h)
theorem exec_ret {X : Nat × (Nat → Int32)} {P : Option Value → Prop} {mi : MI} (hP : ∀ e st r, rtn (mR mi) e st = some r → P r) : ∀ {n d : Nat} {pc : Nat} {ls : XL} {st : List Value} {w : XW} {r : Option Value} {w' : XW}, exec X n d mi pc ls st w = some (r, w') → P r := by
  intro n
  induction n with
  | zero => intro d pc ls st w r w' h; cases h
  | succ n ih =>
    intro d pc ls st w r w' h
    unfold exec at h
    split at h
    · cases h
    · split at h
      · split at h
        · rename_i hr
          cases h
          exact hP _ _ _ hr
        · cases h
      · split at h
        · split at h
          · split at h
            · split at h
              · exact ih h
              · cases h
            · cases h
          · cases h
        · cases h
      · split at h
        · exact ih h
        · cases h
section LAW
variable {X : Nat × (Nat → Int32)}
theorem ok_kind {d : Nat} {mc mm : MI} {lc lm : XL} {I I1 : Nat → Nat → Int32} {L L1 : Nat → Nat → Int64} {r : Value} {P : Option Value → Prop} (hP : ∀ e st r, rtn (mR mc) e st = some r → P r) (h : ∀ Q : Option Value → XW → Prop, wp X (d + 100) mc 0 lc [] (K0, R0, I, L) Q ↔ Q (some r) (K0, R0, I1, L1)) : P (some r) := by
  obtain ⟨n, r1, w1, h1, h2⟩ := (h (fun z _ => z = some r)).mpr rfl
  rw [← h2]
  exact exec_ret hP h1
def LW (X : Nat × (Nat → Int32)) (x : Int32) (I : Nat → Nat → Int32) (L : Nat → Nat → Int64) (Q : Option Value → XW → Prop) : Prop := wp X (899 + 100 + 1) mLaw 18 [some (.ref 1000050), some (.ref 0), some (.ref 124), some (.int x)] [] (K0, R0, I, L) Q
theorem law_i {mc mm : MI} {lc lm : XL} {pA pB : Nat} {x : Int32} {ty : FieldType} (hok : Ok X 899 mc mm lc lm) (hty : ty = .int ∨ ty = .boolean) (hR : mR mc = some ty) (hRm : ∃ t2, (t2 = .int ∨ t2 = .boolean) ∧ mR mm = some t2) (hB : ∀ s0 I L (Q : Option Value → XW → Prop), wp X (899 + 100 + 1) mLaw pA [some (.ref 1000050), some (.ref 0), some (.ref 124), some (.int x)] [.int s0] (K0, R0, I, L) Q ↔ wp X (899 + 100) mm 0 lm [] (K0, R0, I, L) (fun r w1 => wp X (899 + 100 + 1) mLaw pB [some (.ref 1000050), some (.ref 0), some (.ref 124), some (.int x)] (r.toList ++ [.int s0]) w1 Q)) (hC : ∀ s0 s1 I L (Q : Option Value → XW → Prop), wp X (899 + 100 + 1) mLaw pB [some (.ref 1000050), some (.ref 0), some (.ref 124), some (.int x)] [.int s1, .int s0] (K0, R0, I, L) Q ↔ (if s0 = s1 then LW X (x + 6) I L Q else Q (some (.int 0)) (K0, R0, I, L))) {I : Nat → Nat → Int32} {L : Nat → Nat → Int64} (hI : Inv I L) : ∃ I2 L2, Inv I2 L2 ∧ ∀ Q : Option Value → XW → Prop, wp X (899 + 100) mc 0 lc [] (K0, R0, I, L) (fun r w1 => wp X (899 + 100 + 1) mLaw pA [some (.ref 1000050), some (.ref 0), some (.ref 124), some (.int x)] (r.toList ++ []) w1 Q) ↔ LW X (x + 6) I2 L2 Q := by
  obtain ⟨r, I1, L1, I2, L2, h1, h2, h3⟩ := hok I L hI
  obtain ⟨v, hv⟩ := ok_kind (P := fun z => ∃ x, z = some (.int x)) (mm := mm) (lm := lm) (fun e st r h => by rw [hR] at h; exact rtn_int hty h) h2
  cases hv
  refine ⟨I2, L2, h1, fun Q => ?_⟩
  rw [h2]
  simp only [Option.toList, List.cons_append, List.nil_append]
  rw [hB, h3]
  simp only [Option.toList, List.cons_append, List.nil_append]
  rw [hC, if_pos rfl]
theorem law_l {mc mm : MI} {lc lm : XL} {pA pB : Nat} {x : Int32} (hok : Ok X 899 mc mm lc lm) (hR : mR mc = some .long) (hB : ∀ s0 I L (Q : Option Value → XW → Prop), wp X (899 + 100 + 1) mLaw pA [some (.ref 1000050), some (.ref 0), some (.ref 124), some (.int x)] [.long s0] (K0, R0, I, L) Q ↔ wp X (899 + 100) mm 0 lm [] (K0, R0, I, L) (fun r w1 => wp X (899 + 100 + 1) mLaw pB [some (.ref 1000050), some (.ref 0), some (.ref 124), some (.int x)] (r.toList ++ [.long s0]) w1 Q)) (hC : ∀ s0 s1 I L (Q : Option Value → XW → Prop), wp X (899 + 100 + 1) mLaw pB [some (.ref 1000050), some (.ref 0), some (.ref 124), some (.int x)] [.long s1, .long s0] (K0, R0, I, L) Q ↔ (if lg_cmp s0 s1 = 0 then LW X (x + 6) I L Q else Q (some (.int 0)) (K0, R0, I, L))) {I : Nat → Nat → Int32} {L : Nat → Nat → Int64} (hI : Inv I L) : ∃ I2 L2, Inv I2 L2 ∧ ∀ Q : Option Value → XW → Prop, wp X (899 + 100) mc 0 lc [] (K0, R0, I, L) (fun r w1 => wp X (899 + 100 + 1) mLaw pA [some (.ref 1000050), some (.ref 0), some (.ref 124), some (.int x)] (r.toList ++ []) w1 Q) ↔ LW X (x + 6) I2 L2 Q := by
  obtain ⟨r, I1, L1, I2, L2, h1, h2, h3⟩ := hok I L hI
  obtain ⟨v, hv⟩ := ok_kind (P := fun z => ∃ x, z = some (.long x)) (mm := mm) (lm := lm) (fun e st r h => by rw [hR] at h; exact rtn_long h) h2
  cases hv
  have e0 : lg_cmp v v = 0 := by
    unfold lg_cmp
    rw [if_neg (Int64.lt_irrefl : ¬ v < v), if_pos rfl]
  refine ⟨I2, L2, h1, fun Q => ?_⟩
  rw [h2]
  simp only [Option.toList, List.cons_append, List.nil_append]
  rw [hB, h3]
  simp only [Option.toList, List.cons_append, List.nil_append]
  rw [hC, if_pos e0]
theorem law_step {n i : Nat} {f : Nat → Int32} (hX : cInts X 1000050 = some (n, f)) (hn : n ≤ 3072) (hi : i + 6 ≤ n) {I : Nat → Nat → Int32} {L : Nat → Nat → Int64} (hI : Inv I L) : ∃ I2 L2, Inv I2 L2 ∧ ∀ Q : Option Value → XW → Prop, LW X (nI i) I L Q ↔ LW X (nI i + 6) I2 L2 Q := by
  have i0 : inA (nI i) n = true := inA_nI (by omega) (by omega)
  have i1 : inA (nI i + 1) n = true := by rw [show nI i + 1 = nI (i + 1) from nI_add i 1]; exact inA_nI (by omega) (by omega)
  have i2 : inA (nI i + 2) n = true := by rw [show nI i + 2 = nI (i + 2) from nI_add i 2]; exact inA_nI (by omega) (by omega)
  have i3 : inA (nI i + 3) n = true := by rw [show nI i + 3 = nI (i + 3) from nI_add i 3]; exact inA_nI (by omega) (by omega)
  have i4 : inA (nI i + 4) n = true := by rw [show nI i + 4 = nI (i + 4) from nI_add i 4]; exact inA_nI (by omega) (by omega)
  have i5 : inA (nI i + 5) n = true := by rw [show nI i + 5 = nI (i + 5) from nI_add i 5]; exact inA_nI (by omega) (by omega)
  have end0 : ¬ (Int32.ofNat n) - 6 < nI i := by
    rw [show (Int32.ofNat n) - 6 = nI (n - 6) from nI_sub (b := 6) (by omega)]
    exact nI_nlt (by omega) (by omega)
  have t0 := fun Q : Option Value → XW → Prop => ((blaw_18 (d := 899 + 100) (I := I) (L := L) (Q := Q) (x3 := nI i) hX).trans (iff_of_eq (if_neg end0))).trans (and_iff_right i0)
  by_cases c0 : f (Int32.toNatClampNeg (nI i)) &&& (63 : Int32) = 0
  · obtain ⟨I2, L2, h1, h2⟩ := law_i (pA := 211) (pB := 230) (x := nI i) ok_cup (by decide) (rfl : mR m10 = some _) ⟨_, (by decide), (rfl : mR m141 = some _)⟩ (fun s0 I L Q => by rw [blaw_211 hX, and_iff_right i1, and_iff_right i2, and_iff_right i3]) (fun s0 s1 I L Q => blaw_230) hI
    refine ⟨I2, L2, h1, fun Q => (t0 Q).trans ((iff_of_eq (if_pos c0)).trans ?_)⟩
    rw [and_iff_right i1, and_iff_right i2, and_iff_right i3]
    exact h2 Q
  have t1 := fun Q : Option Value → XW → Prop => (t0 Q).trans (iff_of_eq (if_neg c0))
  by_cases c1 : f (Int32.toNatClampNeg (nI i)) &&& (63 : Int32) = 1
  · obtain ⟨I2, L2, h1, h2⟩ := law_i (pA := 249) (pB := 263) (x := nI i) ok_of (by decide) (rfl : mR m16 = some _) ⟨_, (by decide), (rfl : mR m163 = some _)⟩ (fun s0 I L Q => by rw [blaw_249 hX, and_iff_right i1, and_iff_right i2]) (fun s0 s1 I L Q => blaw_263) hI
    refine ⟨I2, L2, h1, fun Q => (t1 Q).trans ((iff_of_eq (if_pos c1)).trans ?_)⟩
    rw [and_iff_right i1, and_iff_right i2]
    exact h2 Q
  have t2 := fun Q : Option Value → XW → Prop => (t1 Q).trans (iff_of_eq (if_neg c1))
  by_cases c2 : f (Int32.toNatClampNeg (nI i)) &&& (63 : Int32) = 2
  · obtain ⟨I2, L2, h1, h2⟩ := law_i (pA := 287) (pB := 306) (x := nI i) ok_set (by decide) (rfl : mR m35 = some _) ⟨_, (by decide), (rfl : mR m144 = some _)⟩ (fun s0 I L Q => by rw [blaw_287 hX, and_iff_right i1, and_iff_right i2, and_iff_right i3]) (fun s0 s1 I L Q => blaw_306) hI
    refine ⟨I2, L2, h1, fun Q => (t2 Q).trans ((iff_of_eq (if_pos c2)).trans ?_)⟩
    rw [and_iff_right i1, and_iff_right i2, and_iff_right i3]
    exact h2 Q
  have t3 := fun Q : Option Value → XW → Prop => (t2 Q).trans (iff_of_eq (if_neg c2))
  by_cases c3 : f (Int32.toNatClampNeg (nI i)) &&& (63 : Int32) = 3
  · obtain ⟨I2, L2, h1, h2⟩ := law_i (pA := 330) (pB := 349) (x := nI i) ok_line (by decide) (rfl : mR m36 = some _) ⟨_, (by decide), (rfl : mR m146 = some _)⟩ (fun s0 I L Q => by rw [blaw_330 hX, and_iff_right i1, and_iff_right i2, and_iff_right i3]) (fun s0 s1 I L Q => blaw_349) hI
    refine ⟨I2, L2, h1, fun Q => (t3 Q).trans ((iff_of_eq (if_pos c3)).trans ?_)⟩
    rw [and_iff_right i1, and_iff_right i2, and_iff_right i3]
    exact h2 Q
  have t4 := fun Q : Option Value → XW → Prop => (t3 Q).trans (iff_of_eq (if_neg c3))
  by_cases c4 : f (Int32.toNatClampNeg (nI i)) &&& (63 : Int32) = 4
  · obtain ⟨I2, L2, h1, h2⟩ := law_i (pA := 363) (pB := 372) (x := nI i) ok_feed (by decide) (rfl : mR m38 = some _) ⟨_, (by decide), (rfl : mR m147 = some _)⟩ (fun s0 I L Q => by rw [blaw_363 hX, and_iff_right i1]) (fun s0 s1 I L Q => blaw_372) hI
    refine ⟨I2, L2, h1, fun Q => (t4 Q).trans ((iff_of_eq (if_pos c4)).trans ?_)⟩
    rw [and_iff_right i1]
    exact h2 Q
  have t5 := fun Q : Option Value → XW → Prop => (t4 Q).trans (iff_of_eq (if_neg c4))
  by_cases c5 : f (Int32.toNatClampNeg (nI i)) &&& (63 : Int32) = 5
  · obtain ⟨I2, L2, h1, h2⟩ := law_i (pA := 381) (pB := 385) (x := nI i) ok_inn (by decide) (rfl : mR m40 = some _) ⟨_, (by decide), (rfl : mR m148 = some _)⟩ (fun s0 I L Q => blaw_381) (fun s0 s1 I L Q => blaw_385) hI
    refine ⟨I2, L2, h1, fun Q => (t5 Q).trans ((iff_of_eq (if_pos c5)).trans ?_)⟩
    exact h2 Q
  have t6 := fun Q : Option Value → XW → Prop => (t5 Q).trans (iff_of_eq (if_neg c5))
  by_cases c6 : f (Int32.toNatClampNeg (nI i)) &&& (63 : Int32) = 6
  · obtain ⟨I2, L2, h1, h2⟩ := law_i (pA := 399) (pB := 408) (x := nI i) ok_told (by decide) (rfl : mR m63 = some _) ⟨_, (by decide), (rfl : mR m196 = some _)⟩ (fun s0 I L Q => by rw [blaw_399 hX, and_iff_right i1]) (fun s0 s1 I L Q => blaw_408) hI
    refine ⟨I2, L2, h1, fun Q => (t6 Q).trans ((iff_of_eq (if_pos c6)).trans ?_)⟩
    rw [and_iff_right i1]
    exact h2 Q
  have t7 := fun Q : Option Value → XW → Prop => (t6 Q).trans (iff_of_eq (if_neg c6))
  by_cases c7 : f (Int32.toNatClampNeg (nI i)) &&& (63 : Int32) = 7
  · obtain ⟨I2, L2, h1, h2⟩ := law_i (pA := 427) (pB := 441) (x := nI i) ok_say (by decide) (rfl : mR m71 = some _) ⟨_, (by decide), (rfl : mR m178 = some _)⟩ (fun s0 I L Q => by rw [blaw_427 hX, and_iff_right i1, and_iff_right i2]) (fun s0 s1 I L Q => blaw_441) hI
    refine ⟨I2, L2, h1, fun Q => (t7 Q).trans ((iff_of_eq (if_pos c7)).trans ?_)⟩
    rw [and_iff_right i1, and_iff_right i2]
    exact h2 Q
  have t8 := fun Q : Option Value → XW → Prop => (t7 Q).trans (iff_of_eq (if_neg c7))
  by_cases c8 : f (Int32.toNatClampNeg (nI i)) &&& (63 : Int32) = 8
  · obtain ⟨I2, L2, h1, h2⟩ := law_i (pA := 455) (pB := 464) (x := nI i) ok_pass (by decide) (rfl : mR m74 = some _) ⟨_, (by decide), (rfl : mR m184 = some _)⟩ (fun s0 I L Q => by rw [blaw_455 hX, and_iff_right i1]) (fun s0 s1 I L Q => blaw_464) hI
    refine ⟨I2, L2, h1, fun Q => (t8 Q).trans ((iff_of_eq (if_pos c8)).trans ?_)⟩
    rw [and_iff_right i1]
    exact h2 Q
  have t9 := fun Q : Option Value → XW → Prop => (t8 Q).trans (iff_of_eq (if_neg c8))
  by_cases c9 : f (Int32.toNatClampNeg (nI i)) &&& (63 : Int32) = 9
  · obtain ⟨I2, L2, h1, h2⟩ := law_i (pA := 488) (pB := 507) (x := nI i) ok_after (by decide) (rfl : mR m76 = some _) ⟨_, (by decide), (rfl : mR m186 = some _)⟩ (fun s0 I L Q => by rw [blaw_488 hX, and_iff_right i1, and_iff_right i2, and_iff_right i3]) (fun s0 s1 I L Q => blaw_507) hI
    refine ⟨I2, L2, h1, fun Q => (t9 Q).trans ((iff_of_eq (if_pos c9)).trans ?_)⟩
    rw [and_iff_right i1, and_iff_right i2, and_iff_right i3]
    exact h2 Q
  have t10 := fun Q : Option Value → XW → Prop => (t9 Q).trans (iff_of_eq (if_neg c9))
  by_cases c10 : f (Int32.toNatClampNeg (nI i)) &&& (63 : Int32) = 10
  · obtain ⟨I2, L2, h1, h2⟩ := law_i (pA := 531) (pB := 550) (x := nI i) ok_comes (by decide) (rfl : mR m79 = some _) ⟨_, (by decide), (rfl : mR m190 = some _)⟩ (fun s0 I L Q => by rw [blaw_531 hX, and_iff_right i1, and_iff_right i2, and_iff_right i3]) (fun s0 s1 I L Q => blaw_550) hI
    refine ⟨I2, L2, h1, fun Q => (t10 Q).trans ((iff_of_eq (if_pos c10)).trans ?_)⟩
    rw [and_iff_right i1, and_iff_right i2, and_iff_right i3]
    exact h2 Q
  have t11 := fun Q : Option Value → XW → Prop => (t10 Q).trans (iff_of_eq (if_neg c10))
  by_cases c11 : f (Int32.toNatClampNeg (nI i)) &&& (63 : Int32) = 11
  · obtain ⟨I2, L2, h1, h2⟩ := law_i (pA := 574) (pB := 593) (x := nI i) ok_near (by decide) (rfl : mR m86 = some _) ⟨_, (by decide), (rfl : mR m193 = some _)⟩ (fun s0 I L Q => by rw [blaw_574 hX, and_iff_right i1, and_iff_right i2, and_iff_right i3]) (fun s0 s1 I L Q => blaw_593) hI
    refine ⟨I2, L2, h1, fun Q => (t11 Q).trans ((iff_of_eq (if_pos c11)).trans ?_)⟩
    rw [and_iff_right i1, and_iff_right i2, and_iff_right i3]
    exact h2 Q
  have t12 := fun Q : Option Value → XW → Prop => (t11 Q).trans (iff_of_eq (if_neg c11))
  by_cases c12 : f (Int32.toNatClampNeg (nI i)) &&& (63 : Int32) = 12
  · obtain ⟨I2, L2, h1, h2⟩ := law_i (pA := 607) (pB := 616) (x := nI i) ok_fullest (by decide) (rfl : mR m89 = some _) ⟨_, (by decide), (rfl : mR m194 = some _)⟩ (fun s0 I L Q => by rw [blaw_607 hX, and_iff_right i1]) (fun s0 s1 I L Q => blaw_616) hI
    refine ⟨I2, L2, h1, fun Q => (t12 Q).trans ((iff_of_eq (if_pos c12)).trans ?_)⟩
    rw [and_iff_right i1]
    exact h2 Q
  have t13 := fun Q : Option Value → XW → Prop => (t12 Q).trans (iff_of_eq (if_neg c12))
  by_cases c13 : f (Int32.toNatClampNeg (nI i)) &&& (63 : Int32) = 13
  · obtain ⟨I2, L2, h1, h2⟩ := law_i (pA := 635) (pB := 649) (x := nI i) ok_firstNo (by decide) (rfl : mR m91 = some _) ⟨_, (by decide), (rfl : mR m195 = some _)⟩ (fun s0 I L Q => by rw [blaw_635 hX, and_iff_right i1, and_iff_right i2]) (fun s0 s1 I L Q => blaw_649) hI
    refine ⟨I2, L2, h1, fun Q => (t13 Q).trans ((iff_of_eq (if_pos c13)).trans ?_)⟩
    rw [and_iff_right i1, and_iff_right i2]
    exact h2 Q
  have t14 := fun Q : Option Value → XW → Prop => (t13 Q).trans (iff_of_eq (if_neg c13))
  by_cases c14 : f (Int32.toNatClampNeg (nI i)) &&& (63 : Int32) = 14
  · obtain ⟨I2, L2, h1, h2⟩ := law_i (pA := 663) (pB := 672) (x := nI i) ok_show (by decide) (rfl : mR m92 = some _) ⟨_, (by decide), (rfl : mR m202 = some _)⟩ (fun s0 I L Q => by rw [blaw_663 hX, and_iff_right i1]) (fun s0 s1 I L Q => blaw_672) hI
    refine ⟨I2, L2, h1, fun Q => (t14 Q).trans ((iff_of_eq (if_pos c14)).trans ?_)⟩
    rw [and_iff_right i1]
    exact h2 Q
  have t15 := fun Q : Option Value → XW → Prop => (t14 Q).trans (iff_of_eq (if_neg c14))
  by_cases c15 : f (Int32.toNatClampNeg (nI i)) &&& (63 : Int32) = 15
  · obtain ⟨I2, L2, h1, h2⟩ := law_i (pA := 686) (pB := 695) (x := nI i) ok_next (by decide) (rfl : mR m94 = some _) ⟨_, (by decide), (rfl : mR m203 = some _)⟩ (fun s0 I L Q => by rw [blaw_686 hX, and_iff_right i1]) (fun s0 s1 I L Q => blaw_695) hI
    refine ⟨I2, L2, h1, fun Q => (t15 Q).trans ((iff_of_eq (if_pos c15)).trans ?_)⟩
    rw [and_iff_right i1]
    exact h2 Q
  have t16 := fun Q : Option Value → XW → Prop => (t15 Q).trans (iff_of_eq (if_neg c15))
  by_cases c16 : f (Int32.toNatClampNeg (nI i)) &&& (63 : Int32) = 16
  · obtain ⟨I2, L2, h1, h2⟩ := law_i (pA := 714) (pB := 728) (x := nI i) ok_see (by decide) (rfl : mR m95 = some _) ⟨_, (by decide), (rfl : mR m204 = some _)⟩ (fun s0 I L Q => by rw [blaw_714 hX, and_iff_right i1, and_iff_right i2]) (fun s0 s1 I L Q => blaw_728) hI
    refine ⟨I2, L2, h1, fun Q => (t16 Q).trans ((iff_of_eq (if_pos c16)).trans ?_)⟩
    rw [and_iff_right i1, and_iff_right i2]
    exact h2 Q
  have t17 := fun Q : Option Value → XW → Prop => (t16 Q).trans (iff_of_eq (if_neg c16))
  by_cases c17 : f (Int32.toNatClampNeg (nI i)) &&& (63 : Int32) = 17
  · obtain ⟨I2, L2, h1, h2⟩ := law_i (pA := 747) (pB := 761) (x := nI i) ok_moods (by decide) (rfl : mR m97 = some _) ⟨_, (by decide), (rfl : mR m205 = some _)⟩ (fun s0 I L Q => by rw [blaw_747 hX, and_iff_right i1, and_iff_right i2]) (fun s0 s1 I L Q => blaw_761) hI
    refine ⟨I2, L2, h1, fun Q => (t17 Q).trans ((iff_of_eq (if_pos c17)).trans ?_)⟩
    rw [and_iff_right i1, and_iff_right i2]
    exact h2 Q
  have t18 := fun Q : Option Value → XW → Prop => (t17 Q).trans (iff_of_eq (if_neg c17))
  by_cases c18 : f (Int32.toNatClampNeg (nI i)) &&& (63 : Int32) = 18
  · obtain ⟨I2, L2, h1, h2⟩ := law_i (pA := 780) (pB := 794) (x := nI i) ok_can (by decide) (rfl : mR m102 = some _) ⟨_, (by decide), (rfl : mR m207 = some _)⟩ (fun s0 I L Q => by rw [blaw_780 hX, and_iff_right i1, and_iff_right i2]) (fun s0 s1 I L Q => blaw_794) hI
    refine ⟨I2, L2, h1, fun Q => (t18 Q).trans ((iff_of_eq (if_pos c18)).trans ?_)⟩
    rw [and_iff_right i1, and_iff_right i2]
    exact h2 Q
  have t19 := fun Q : Option Value → XW → Prop => (t18 Q).trans (iff_of_eq (if_neg c18))
  by_cases c19 : f (Int32.toNatClampNeg (nI i)) &&& (63 : Int32) = 19
  · obtain ⟨I2, L2, h1, h2⟩ := law_l (pA := 818) (pB := 837) (x := nI i) ok_odds rfl (fun s0 I L Q => by rw [blaw_818 hX, and_iff_right i1, and_iff_right i2, and_iff_right i3]) (fun s0 s1 I L Q => blaw_837) hI
    refine ⟨I2, L2, h1, fun Q => (t19 Q).trans ((iff_of_eq (if_pos c19)).trans ?_)⟩
    rw [and_iff_right i1, and_iff_right i2, and_iff_right i3]
    exact h2 Q
  have t20 := fun Q : Option Value → XW → Prop => (t19 Q).trans (iff_of_eq (if_neg c19))
  by_cases c20 : f (Int32.toNatClampNeg (nI i)) &&& (63 : Int32) = 20
  · obtain ⟨I2, L2, h1, h2⟩ := law_l (pA := 852) (pB := 861) (x := nI i) ok_mean rfl (fun s0 I L Q => by rw [blaw_852 hX, and_iff_right i1]) (fun s0 s1 I L Q => blaw_861) hI
    refine ⟨I2, L2, h1, fun Q => (t20 Q).trans ((iff_of_eq (if_pos c20)).trans ?_)⟩
    rw [and_iff_right i1]
    exact h2 Q
  have t21 := fun Q : Option Value → XW → Prop => (t20 Q).trans (iff_of_eq (if_neg c20))
  by_cases c21 : f (Int32.toNatClampNeg (nI i)) &&& (63 : Int32) = 21
  · obtain ⟨I2, L2, h1, h2⟩ := law_i (pA := 881) (pB := 895) (x := nI i) ok_evening (by decide) (rfl : mR m108 = some _) ⟨_, (by decide), (rfl : mR m212 = some _)⟩ (fun s0 I L Q => by rw [blaw_881 hX, and_iff_right i1, and_iff_right i2]) (fun s0 s1 I L Q => blaw_895) hI
    refine ⟨I2, L2, h1, fun Q => (t21 Q).trans ((iff_of_eq (if_pos c21)).trans ?_)⟩
    rw [and_iff_right i1, and_iff_right i2]
    exact h2 Q
  have t22 := fun Q : Option Value → XW → Prop => (t21 Q).trans (iff_of_eq (if_neg c21))
  by_cases c22 : f (Int32.toNatClampNeg (nI i)) &&& (63 : Int32) = 22
  · obtain ⟨I2, L2, h1, h2⟩ := law_i (pA := 909) (pB := 918) (x := nI i) ok_ends (by decide) (rfl : mR m109 = some _) ⟨_, (by decide), (rfl : mR m213 = some _)⟩ (fun s0 I L Q => by rw [blaw_909 hX, and_iff_right i1]) (fun s0 s1 I L Q => blaw_918) hI
    refine ⟨I2, L2, h1, fun Q => (t22 Q).trans ((iff_of_eq (if_pos c22)).trans ?_)⟩
    rw [and_iff_right i1]
    exact h2 Q
  have t23 := fun Q : Option Value → XW → Prop => (t22 Q).trans (iff_of_eq (if_neg c22))
  by_cases c23 : f (Int32.toNatClampNeg (nI i)) &&& (63 : Int32) = 23
  · obtain ⟨I2, L2, h1, h2⟩ := law_i (pA := 937) (pB := 951) (x := nI i) ok_book (by decide) (rfl : mR m112 = some _) ⟨_, (by decide), (rfl : mR m214 = some _)⟩ (fun s0 I L Q => by rw [blaw_937 hX, and_iff_right i1, and_iff_right i2]) (fun s0 s1 I L Q => blaw_951) hI
    refine ⟨I2, L2, h1, fun Q => (t23 Q).trans ((iff_of_eq (if_pos c23)).trans ?_)⟩
    rw [and_iff_right i1, and_iff_right i2]
    exact h2 Q
  have t24 := fun Q : Option Value → XW → Prop => (t23 Q).trans (iff_of_eq (if_neg c23))
  by_cases c24 : f (Int32.toNatClampNeg (nI i)) &&& (63 : Int32) = 24
  · obtain ⟨I2, L2, h1, h2⟩ := law_i (pA := 960) (pB := 964) (x := nI i) ok_looked (by decide) (rfl : mR m113 = some _) ⟨_, (by decide), (rfl : mR m215 = some _)⟩ (fun s0 I L Q => blaw_960) (fun s0 s1 I L Q => blaw_964) hI
    refine ⟨I2, L2, h1, fun Q => (t24 Q).trans ((iff_of_eq (if_pos c24)).trans ?_)⟩
    exact h2 Q
  have t25 := fun Q : Option Value → XW → Prop => (t24 Q).trans (iff_of_eq (if_neg c24))
  by_cases c25 : f (Int32.toNatClampNeg (nI i)) &&& (63 : Int32) = 25
  · obtain ⟨I2, L2, h1, h2⟩ := law_i (pA := 983) (pB := 997) (x := nI i) ok_judge (by decide) (rfl : mR m114 = some _) ⟨_, (by decide), (rfl : mR m216 = some _)⟩ (fun s0 I L Q => by rw [blaw_983 hX, and_iff_right i1, and_iff_right i2]) (fun s0 s1 I L Q => blaw_997) hI
    refine ⟨I2, L2, h1, fun Q => (t25 Q).trans ((iff_of_eq (if_pos c25)).trans ?_)⟩
    rw [and_iff_right i1, and_iff_right i2]
    exact h2 Q
  have t26 := fun Q : Option Value → XW → Prop => (t25 Q).trans (iff_of_eq (if_neg c25))
  by_cases c26 : f (Int32.toNatClampNeg (nI i)) &&& (63 : Int32) = 26
  · obtain ⟨I2, L2, h1, h2⟩ := law_i (pA := 1006) (pB := 1010) (x := nI i) ok_image (by decide) (rfl : mR m119 = some _) ⟨_, (by decide), (rfl : mR m218 = some _)⟩ (fun s0 I L Q => blaw_1006) (fun s0 s1 I L Q => blaw_1010) hI
    refine ⟨I2, L2, h1, fun Q => (t26 Q).trans ((iff_of_eq (if_pos c26)).trans ?_)⟩
    exact h2 Q
  have t27 := fun Q : Option Value → XW → Prop => (t26 Q).trans (iff_of_eq (if_neg c26))
  by_cases c27 : f (Int32.toNatClampNeg (nI i)) &&& (63 : Int32) = 27
  · obtain ⟨I2, L2, h1, h2⟩ := law_i (pA := 1019) (pB := 1023) (x := nI i) ok_undo (by decide) (rfl : mR m120 = some _) ⟨_, (by decide), (rfl : mR m219 = some _)⟩ (fun s0 I L Q => blaw_1019) (fun s0 s1 I L Q => blaw_1023) hI
    refine ⟨I2, L2, h1, fun Q => (t27 Q).trans ((iff_of_eq (if_pos c27)).trans ?_)⟩
    exact h2 Q
  have t28 := fun Q : Option Value → XW → Prop => (t27 Q).trans (iff_of_eq (if_neg c27))
  by_cases c28 : f (Int32.toNatClampNeg (nI i)) &&& (63 : Int32) = 28
  · obtain ⟨I2, L2, h1, h2⟩ := law_i (pA := 1047) (pB := 1066) (x := nI i) ok_act (by decide) (rfl : mR m121 = some _) ⟨_, (by decide), (rfl : mR m220 = some _)⟩ (fun s0 I L Q => by rw [blaw_1047 hX, and_iff_right i1, and_iff_right i2, and_iff_right i3]) (fun s0 s1 I L Q => blaw_1066) hI
    refine ⟨I2, L2, h1, fun Q => (t28 Q).trans ((iff_of_eq (if_pos c28)).trans ?_)⟩
    rw [and_iff_right i1, and_iff_right i2, and_iff_right i3]
    exact h2 Q
  have t29 := fun Q : Option Value → XW → Prop => (t28 Q).trans (iff_of_eq (if_neg c28))
  by_cases c29 : f (Int32.toNatClampNeg (nI i)) &&& (63 : Int32) = 29
  · obtain ⟨I2, L2, h1, h2⟩ := law_i (pA := 1080) (pB := 1089) (x := nI i) ok_trace (by decide) (rfl : mR m127 = some _) ⟨_, (by decide), (rfl : mR m229 = some _)⟩ (fun s0 I L Q => by rw [blaw_1080 hX, and_iff_right i1]) (fun s0 s1 I L Q => blaw_1089) hI
    refine ⟨I2, L2, h1, fun Q => (t29 Q).trans ((iff_of_eq (if_pos c29)).trans ?_)⟩
    rw [and_iff_right i1]
    exact h2 Q
  have t30 := fun Q : Option Value → XW → Prop => (t29 Q).trans (iff_of_eq (if_neg c29))
  by_cases c30 : f (Int32.toNatClampNeg (nI i)) &&& (63 : Int32) = 30
  · obtain ⟨I2, L2, h1, h2⟩ := law_i (pA := 1108) (pB := 1122) (x := nI i) ok_taken (by decide) (rfl : mR m129 = some _) ⟨_, (by decide), (rfl : mR m230 = some _)⟩ (fun s0 I L Q => by rw [blaw_1108 hX, and_iff_right i1, and_iff_right i2]) (fun s0 s1 I L Q => blaw_1122) hI
    refine ⟨I2, L2, h1, fun Q => (t30 Q).trans ((iff_of_eq (if_pos c30)).trans ?_)⟩
    rw [and_iff_right i1, and_iff_right i2]
    exact h2 Q
  have t31 := fun Q : Option Value → XW → Prop => (t30 Q).trans (iff_of_eq (if_neg c30))
  by_cases c31 : f (Int32.toNatClampNeg (nI i)) &&& (63 : Int32) = 31
  · obtain ⟨I2, L2, h1, h2⟩ := law_i (pA := 1136) (pB := 1145) (x := nI i) ok_count (by decide) (rfl : mR m131 = some _) ⟨_, (by decide), (rfl : mR m231 = some _)⟩ (fun s0 I L Q => by rw [blaw_1136 hX, and_iff_right i1]) (fun s0 s1 I L Q => blaw_1145) hI
    refine ⟨I2, L2, h1, fun Q => (t31 Q).trans ((iff_of_eq (if_pos c31)).trans ?_)⟩
    rw [and_iff_right i1]
    exact h2 Q
  have t32 := fun Q : Option Value → XW → Prop => (t31 Q).trans (iff_of_eq (if_neg c31))
  by_cases c32 : f (Int32.toNatClampNeg (nI i)) &&& (63 : Int32) = 32
  · obtain ⟨I2, L2, h1, h2⟩ := law_i (pA := 1169) (pB := 1188) (x := nI i) ok_tape (by decide) (rfl : mR m132 = some _) ⟨_, (by decide), (rfl : mR m232 = some _)⟩ (fun s0 I L Q => by rw [blaw_1169 hX, and_iff_right i1, and_iff_right i2, and_iff_right i3]) (fun s0 s1 I L Q => blaw_1188) hI
    refine ⟨I2, L2, h1, fun Q => (t32 Q).trans ((iff_of_eq (if_pos c32)).trans ?_)⟩
    rw [and_iff_right i1, and_iff_right i2, and_iff_right i3]
    exact h2 Q
  have t33 := fun Q : Option Value → XW → Prop => (t32 Q).trans (iff_of_eq (if_neg c32))
  by_cases c33 : f (Int32.toNatClampNeg (nI i)) &&& (63 : Int32) = 33
  · obtain ⟨I2, L2, h1, h2⟩ := law_i (pA := 1227) (pB := 1261) (x := nI i) ok_item (by decide) (rfl : mR m135 = some _) ⟨_, (by decide), (rfl : mR m233 = some _)⟩ (fun s0 I L Q => by rw [blaw_1227 hX, and_iff_right i1, and_iff_right i2, and_iff_right i3, and_iff_right i4]) (fun s0 s1 I L Q => blaw_1261) hI
    refine ⟨I2, L2, h1, fun Q => (t33 Q).trans ((iff_of_eq (if_pos c33)).trans ?_)⟩
    rw [and_iff_right i1, and_iff_right i2, and_iff_right i3, and_iff_right i4]
    exact h2 Q
  have t34 := fun Q : Option Value → XW → Prop => (t33 Q).trans (iff_of_eq (if_neg c33))
  by_cases c34 : f (Int32.toNatClampNeg (nI i)) &&& (63 : Int32) = 34
  · obtain ⟨I2, L2, h1, h2⟩ := law_l (pA := 1280) (pB := 1294) (x := nI i) ok_read rfl (fun s0 I L Q => by rw [blaw_1280 hX, and_iff_right i1, and_iff_right i2]) (fun s0 s1 I L Q => blaw_1294) hI
    refine ⟨I2, L2, h1, fun Q => (t34 Q).trans ((iff_of_eq (if_pos c34)).trans ?_)⟩
    rw [and_iff_right i1, and_iff_right i2]
    exact h2 Q
  have t35 := fun Q : Option Value → XW → Prop => (t34 Q).trans (iff_of_eq (if_neg c34))
  by_cases c35 : f (Int32.toNatClampNeg (nI i)) &&& (63 : Int32) = 35
  · obtain ⟨I2, L2, h1, h2⟩ := law_i (pA := 1329) (pB := 1358) (x := nI i) ok_shift (by decide) (rfl : mR m139 = some _) ⟨_, (by decide), (rfl : mR m236 = some _)⟩ (fun s0 I L Q => by rw [blaw_1329 hX, and_iff_right i1, and_iff_right i2, and_iff_right i3, and_iff_right i4, and_iff_right i5]) (fun s0 s1 I L Q => blaw_1358) hI
    refine ⟨I2, L2, h1, fun Q => (t35 Q).trans ((iff_of_eq (if_pos c35)).trans ?_)⟩
    rw [and_iff_right i1, and_iff_right i2, and_iff_right i3, and_iff_right i4, and_iff_right i5]
    exact h2 Q
  have t36 := fun Q : Option Value → XW → Prop => (t35 Q).trans (iff_of_eq (if_neg c35))
  exact ⟨I, L, hI, t36⟩
theorem law_runs {n : Nat} {f : Nat → Int32} (hX : cInts X 1000050 = some (n, f)) (hn : n ≤ 3072) : ∀ m i (I : Nat → Nat → Int32) (L : Nat → Nat → Int64), i + m = n → (i = 0 ∨ 6 ≤ i) → Inv I L → LW X (nI i) I L (fun r w => r = some (.int 1) ∧ w.1 = K0) := by
  intro m
  induction m using Nat.strongRecOn with
  | ind m ih =>
    intro i I L hm h6 hI
    by_cases c : i + 6 ≤ n
    · obtain ⟨I2, L2, h1, h2⟩ := law_step hX hn c hI
      refine (h2 _).mpr ?_
      rw [show nI i + 6 = nI (i + 6) from nI_add i 6]
      exact ih (m - 6) (by omega) (i + 6) I2 L2 (by omega) (Or.inr (by omega)) h1
    · have e : (Int32.ofNat n) - 6 < nI i := by
        by_cases c6 : 6 ≤ n
        · rw [show (Int32.ofNat n) - 6 = nI (n - 6) from nI_sub (b := 6) c6]
          exact nI_lt (by omega) (by omega)
        · have i0 : i = 0 := by omega
          subst i0
          have : ∀ n, n < 6 → (Int32.ofNat n) - 6 < nI 0 := by decide
          exact this n (by omega)
      unfold LW
      rw [blaw_18 hX, if_pos e]
      exact ⟨rfl, rfl⟩
end LAW
