/-! A step of the small machine is a step of the real one: values, locals. -/
section SNV
variable {X : Nat × (Nat → Int32)} {cst : Nat → Value} {base : Nat} {D : va_G} {mi : MI} {p : Program} {l : Launch} {e : Env} {R : Room} {s : State} {m : MethodId} {args : Array Value} {below : List Frame} {meth : Method} {c : Code} {Q : State → Prop}
variable {w w' : XW} {ls ls' : XL} {st st' : List Value} {H : Heap} {locs : List Loc} {lsA : Array Slot} {stA : List Value} {ws : va_W} {tys : List (ClassId × FieldType)} {cells slots pc pc' : Nat}
set_option maxHeartbeats 4000000 in
theorem sV (F : Fx X cst base mi p s m args meth c) {en : XE} (he : cdx (mC mi) pc = some en) (hst : stpV en pc ls st w = some (pc', ls', st', w')) (r : FR cst base D mi s w ls st H locs lsA stA ws tys)
    (kk : ∀ (lsA' : Array Slot) (stA' : List Value), FR cst base D mi s w' ls' st' H locs lsA' stA' ws tys → W p l e R s m args below meth c H locs cells slots Q (F0 m pc' lsA' stA')) : W p l e R s m args below meth c H locs cells slots Q (F0 m pc lsA stA) := by
  obtain ⟨h0, hd, hl⟩ := F.at he
  obtain ⟨hx, hb, -, -, hown, hts, -⟩ := id F
  obtain ⟨pc0, i, n, a, b, c0, pp, t⟩ := en
  dsimp only at h0 hd
  subst h0
  unfold stpV at hst
  dsimp only at hst
  split at hst
  all_goals try (cases hst; done)
  · obtain ⟨rfl, rfl, rfl, rfl⟩ := xs_inj hst
    simp only [lnkOk, beq_iff_eq] at hl
    subst hl
    exact lv_iconst hx hb hd rfl (kk _ _ (r.push rfl))
  · obtain ⟨rfl, rfl, rfl, rfl⟩ := xs_inj hst
    simp only [lnkOk, beq_iff_eq] at hl
    subst hl
    exact lv_bipush hx hb hd rfl (kk _ _ (r.push rfl))
  · obtain ⟨rfl, rfl, rfl, rfl⟩ := xs_inj hst
    simp only [lnkOk, beq_iff_eq] at hl
    subst hl
    exact lv_sipush hx hb hd rfl (kk _ _ (r.push rfl))
  · obtain ⟨rfl, rfl, rfl, rfl⟩ := xs_inj hst
    simp only [lnkOk, beq_iff_eq] at hl
    subst hl
    exact lv_lconst hx hb hd rfl (kk _ _ (r.push rfl))
  · split at hst
    · rename_i ix z y tl
      obtain ⟨rfl, rfl, rfl, rfl⟩ := xs_inj hst
      cases tl with
      | cons q tl => simp [lnkOk] at hl
      | nil =>
        simp only [lnkOk, Bool.and_eq_true, beq_iff_eq] at hl
        obtain ⟨rfl, hw⟩ := hl
        exact lv_ldcw hx hb hown (hts _ (wu hw rfl)) hd (kk _ _ (r.push rfl))
    · cases hst
  · split at hst
    · rename_i ix z y tl
      obtain ⟨rfl, rfl, rfl, rfl⟩ := xs_inj hst
      cases tl with
      | cons q tl => simp [lnkOk] at hl
      | nil =>
        simp only [lnkOk, Bool.and_eq_true, beq_iff_eq] at hl
        obtain ⟨rfl, hw⟩ := hl
        exact lv_ldc2 hx hb hown (hts _ (wu hw rfl)) hd (kk _ _ (r.push rfl))
    · cases hst
  · obtain ⟨rfl, rfl, rfl, rfl⟩ := xs_inj hst
    simp only [lnkOk, beq_iff_eq] at hl
    subst hl
    exact lv_null hx hb hd (kk _ _ (r.push rfl))
  · split at hst
    · rename_i hc
      obtain ⟨rfl, rfl, rfl, rfl⟩ := xs_inj hst
      simp only [lnkOk, beq_iff_eq] at hl
      subst hl
      obtain ⟨v, sA, rfl, hv, r1⟩ := r.pop
      exact lv_dup hx hb hd (by rw [hv.cat]; exact hc) (kk _ _ (r.push hv))
    · cases hst
  · split at hst
    · rename_i hc
      obtain ⟨rfl, rfl, rfl, rfl⟩ := xs_inj hst
      simp only [lnkOk, beq_iff_eq] at hl
      subst hl
      obtain ⟨v, sA, rfl, hv, r1⟩ := r.pop
      exact lv_pop hx hb hd (by rw [hv.cat]; exact hc) (kk _ _ r1)
    · cases hst
  · obtain ⟨rfl, rfl, rfl, rfl⟩ := xs_inj hst
    simp only [lnkOk, beq_iff_eq] at hl
    subst hl
    obtain ⟨sA0, rfl, r0⟩ := r.int
    obtain ⟨sA1, rfl, r1⟩ := r0.int
    exact lv_iadd hx hb hd (kk _ _ (r1.push rfl))
  · obtain ⟨rfl, rfl, rfl, rfl⟩ := xs_inj hst
    simp only [lnkOk, beq_iff_eq] at hl
    subst hl
    obtain ⟨sA0, rfl, r0⟩ := r.int
    obtain ⟨sA1, rfl, r1⟩ := r0.int
    exact lv_isub hx hb hd (kk _ _ (r1.push rfl))
  · obtain ⟨rfl, rfl, rfl, rfl⟩ := xs_inj hst
    simp only [lnkOk, beq_iff_eq] at hl
    subst hl
    obtain ⟨sA0, rfl, r0⟩ := r.int
    obtain ⟨sA1, rfl, r1⟩ := r0.int
    exact lv_imul hx hb hd (kk _ _ (r1.push rfl))
  · split at hst
    · cases hst
    · rename_i hc
      obtain ⟨rfl, rfl, rfl, rfl⟩ := xs_inj hst
      simp only [lnkOk, beq_iff_eq] at hl
      subst hl
      obtain ⟨sA0, rfl, r0⟩ := r.int
      obtain ⟨sA1, rfl, r1⟩ := r0.int
      exact lv_idiv hx hb hd hc (kk _ _ (r1.push rfl))
  · split at hst
    · cases hst
    · rename_i hc
      obtain ⟨rfl, rfl, rfl, rfl⟩ := xs_inj hst
      simp only [lnkOk, beq_iff_eq] at hl
      subst hl
      obtain ⟨sA0, rfl, r0⟩ := r.int
      obtain ⟨sA1, rfl, r1⟩ := r0.int
      exact lv_irem hx hb hd hc (kk _ _ (r1.push rfl))
  · obtain ⟨rfl, rfl, rfl, rfl⟩ := xs_inj hst
    simp only [lnkOk, beq_iff_eq] at hl
    subst hl
    obtain ⟨sA0, rfl, r0⟩ := r.int
    obtain ⟨sA1, rfl, r1⟩ := r0.int
    exact lv_iand hx hb hd (kk _ _ (r1.push rfl))
  · obtain ⟨rfl, rfl, rfl, rfl⟩ := xs_inj hst
    simp only [lnkOk, beq_iff_eq] at hl
    subst hl
    obtain ⟨sA0, rfl, r0⟩ := r.int
    obtain ⟨sA1, rfl, r1⟩ := r0.int
    exact lv_ior hx hb hd (kk _ _ (r1.push rfl))
  · obtain ⟨rfl, rfl, rfl, rfl⟩ := xs_inj hst
    simp only [lnkOk, beq_iff_eq] at hl
    subst hl
    obtain ⟨sA0, rfl, r0⟩ := r.int
    obtain ⟨sA1, rfl, r1⟩ := r0.int
    exact lv_ixor hx hb hd (kk _ _ (r1.push rfl))
  · obtain ⟨rfl, rfl, rfl, rfl⟩ := xs_inj hst
    simp only [lnkOk, beq_iff_eq] at hl
    subst hl
    obtain ⟨sA0, rfl, r0⟩ := r.int
    exact lv_ineg hx hb hd (kk _ _ (r0.push rfl))
  · obtain ⟨rfl, rfl, rfl, rfl⟩ := xs_inj hst
    simp only [lnkOk, beq_iff_eq] at hl
    subst hl
    obtain ⟨sA0, rfl, r0⟩ := r.int
    obtain ⟨sA1, rfl, r1⟩ := r0.int
    exact lv_ishl hx hb hd (kk _ _ (r1.push rfl))
  · obtain ⟨rfl, rfl, rfl, rfl⟩ := xs_inj hst
    simp only [lnkOk, beq_iff_eq] at hl
    subst hl
    obtain ⟨sA0, rfl, r0⟩ := r.int
    obtain ⟨sA1, rfl, r1⟩ := r0.int
    exact lv_ishr hx hb hd (kk _ _ (r1.push rfl))
  · obtain ⟨rfl, rfl, rfl, rfl⟩ := xs_inj hst
    simp only [lnkOk, beq_iff_eq] at hl
    subst hl
    obtain ⟨sA0, rfl, r0⟩ := r.int
    obtain ⟨sA1, rfl, r1⟩ := r0.int
    exact lv_iushr hx hb hd rfl (kk _ _ (r1.push rfl))
  · obtain ⟨rfl, rfl, rfl, rfl⟩ := xs_inj hst
    simp only [lnkOk, beq_iff_eq] at hl
    subst hl
    obtain ⟨sA0, rfl, r0⟩ := r.int
    exact lv_i2l hx hb hd rfl (kk _ _ (r0.push rfl))
  · obtain ⟨rfl, rfl, rfl, rfl⟩ := xs_inj hst
    simp only [lnkOk, beq_iff_eq] at hl
    subst hl
    obtain ⟨sA0, rfl, r0⟩ := r.long
    exact lv_l2i hx hb hd rfl (kk _ _ (r0.push rfl))
  · obtain ⟨rfl, rfl, rfl, rfl⟩ := xs_inj hst
    simp only [lnkOk, beq_iff_eq] at hl
    subst hl
    obtain ⟨sA0, rfl, r0⟩ := r.int
    exact lv_i2b hx hb hd rfl (kk _ _ (r0.push rfl))
  · obtain ⟨rfl, rfl, rfl, rfl⟩ := xs_inj hst
    simp only [lnkOk, beq_iff_eq] at hl
    subst hl
    obtain ⟨sA0, rfl, r0⟩ := r.int
    exact lv_i2s hx hb hd rfl (kk _ _ (r0.push rfl))
  · obtain ⟨rfl, rfl, rfl, rfl⟩ := xs_inj hst
    simp only [lnkOk, beq_iff_eq] at hl
    subst hl
    obtain ⟨sA0, rfl, r0⟩ := r.int
    exact lv_i2c hx hb hd rfl (kk _ _ (r0.push rfl))
  · obtain ⟨rfl, rfl, rfl, rfl⟩ := xs_inj hst
    simp only [lnkOk, beq_iff_eq] at hl
    subst hl
    obtain ⟨sA0, rfl, r0⟩ := r.long
    obtain ⟨sA1, rfl, r1⟩ := r0.long
    exact W.lcmp hx hb hd (kk _ _ (r1.push rfl))
  · obtain ⟨rfl, rfl, rfl, rfl⟩ := xs_inj hst
    simp only [lnkOk, beq_iff_eq] at hl
    subst hl
    obtain ⟨sA0, rfl, r0⟩ := r.int
    obtain ⟨sA1, rfl, r1⟩ := r0.long
    exact lv_lshl hx hb hd rfl (kk _ _ (r1.push rfl))
  · obtain ⟨rfl, rfl, rfl, rfl⟩ := xs_inj hst
    simp only [lnkOk, beq_iff_eq] at hl
    subst hl
    obtain ⟨sA0, rfl, r0⟩ := r.long
    obtain ⟨sA1, rfl, r1⟩ := r0.long
    exact lv_land hx hb hd (kk _ _ (r1.push rfl))
  · obtain ⟨rfl, rfl, rfl, rfl⟩ := xs_inj hst
    simp only [lnkOk, beq_iff_eq] at hl
    subst hl
    obtain ⟨sA0, rfl, r0⟩ := r.long
    obtain ⟨sA1, rfl, r1⟩ := r0.long
    exact lv_lor hx hb hd (kk _ _ (r1.push rfl))
set_option maxHeartbeats 4000000 in
theorem sL (F : Fx X cst base mi p s m args meth c) {en : XE} (he : cdx (mC mi) pc = some en) (hst : stpL en pc ls st w = some (pc', ls', st', w')) (r : FR cst base D mi s w ls st H locs lsA stA ws tys)
    (kk : ∀ (lsA' : Array Slot) (stA' : List Value), FR cst base D mi s w' ls' st' H locs lsA' stA' ws tys → W p l e R s m args below meth c H locs cells slots Q (F0 m pc' lsA' stA')) : W p l e R s m args below meth c H locs cells slots Q (F0 m pc lsA stA) := by
  obtain ⟨h0, hd, hl⟩ := F.at he
  obtain ⟨hx, hb, -, -, hown, hts, -⟩ := id F
  obtain ⟨pc0, i, n, a, b, c0, pp, t⟩ := en
  dsimp only at h0 hd
  subst h0
  unfold stpL at hst
  dsimp only at hst
  split at hst
  all_goals try (cases hst; done)
  · split at hst
    · rename_i hg
      obtain ⟨rfl, rfl, rfl, rfl⟩ := xs_inj hst
      simp only [lnkOk, Bool.and_eq_true, beq_iff_eq] at hl
      obtain ⟨rfl, ha⟩ := hl
      obtain ⟨v, hv, hr⟩ := r.2.2.1.get hg
      cases (show v = _ from hr)
      exact lv_iload_n hx hb hd ha hv (kk _ _ (r.push rfl))
    · cases hst
  · split at hst
    · rename_i hg
      obtain ⟨rfl, rfl, rfl, rfl⟩ := xs_inj hst
      simp only [lnkOk, Bool.and_eq_true, beq_iff_eq] at hl
      obtain ⟨rfl, ha⟩ := hl
      obtain ⟨v, hv, hr⟩ := r.2.2.1.get hg
      cases (show v = _ from hr)
      subst ha
      exact lv_iload hx hb hd hv (kk _ _ (r.push rfl))
    · cases hst
  · split at hst
    · rename_i hg
      obtain ⟨rfl, rfl, rfl, rfl⟩ := xs_inj hst
      simp only [lnkOk, Bool.and_eq_true, beq_iff_eq] at hl
      obtain ⟨rfl, ha⟩ := hl
      obtain ⟨v, hv, hr⟩ := r.2.2.1.get hg
      cases (show v = _ from hr)
      exact lv_lload_n hx hb hd ha hv (kk _ _ (r.push rfl))
    · cases hst
  · split at hst
    · rename_i hg
      obtain ⟨rfl, rfl, rfl, rfl⟩ := xs_inj hst
      simp only [lnkOk, Bool.and_eq_true, beq_iff_eq] at hl
      obtain ⟨rfl, ha⟩ := hl
      obtain ⟨v, hv, hr⟩ := r.2.2.1.get hg
      have hq : v = .null ∨ ∃ a, v = .ref a := by
        rcases id hr with ⟨a1, e1, -, h⟩ | ⟨-, -, h⟩
        · exact Or.inr ⟨a1, h⟩
        · exact h
      rcases hq with rfl | ⟨a1, rfl⟩
      · exact lv_aload_nN hx hb hd ha hv (kk _ _ (r.push hr))
      · exact lv_aload_n hx hb hd ha hv (kk _ _ (r.push hr))
    · rename_i hg
      obtain ⟨rfl, rfl, rfl, rfl⟩ := xs_inj hst
      simp only [lnkOk, Bool.and_eq_true, beq_iff_eq] at hl
      obtain ⟨rfl, ha⟩ := hl
      obtain ⟨v, hv, hr⟩ := r.2.2.1.get hg
      cases (show v = _ from hr)
      exact lv_aload_nN hx hb hd ha hv (kk _ _ (r.push hr))
    · cases hst
  · split at hst
    · rename_i hg
      obtain ⟨rfl, rfl, rfl, rfl⟩ := xs_inj hst
      simp only [lnkOk, Bool.and_eq_true, beq_iff_eq] at hl
      obtain ⟨rfl, ha⟩ := hl
      subst ha
      obtain ⟨v, hv, hr⟩ := r.2.2.1.get hg
      have hq : v = .null ∨ ∃ a, v = .ref a := by
        rcases id hr with ⟨a1, e1, -, h⟩ | ⟨-, -, h⟩
        · exact Or.inr ⟨a1, h⟩
        · exact h
      rcases hq with rfl | ⟨a1, rfl⟩
      · exact lv_aloadN hx hb hd hv (kk _ _ (r.push hr))
      · exact lv_aload hx hb hd hv (kk _ _ (r.push hr))
    · rename_i hg
      obtain ⟨rfl, rfl, rfl, rfl⟩ := xs_inj hst
      simp only [lnkOk, Bool.and_eq_true, beq_iff_eq] at hl
      obtain ⟨rfl, ha⟩ := hl
      subst ha
      obtain ⟨v, hv, hr⟩ := r.2.2.1.get hg
      cases (show v = _ from hr)
      exact lv_aloadN hx hb hd hv (kk _ _ (r.push hr))
    · cases hst
  · split at hst
    · rename_i hlt
      obtain ⟨rfl, rfl, rfl, rfl⟩ := xs_inj hst
      simp only [lnkOk, Bool.and_eq_true, beq_iff_eq] at hl
      obtain ⟨rfl, ha⟩ := hl
      obtain ⟨sA, rfl, r1⟩ := r.int
      obtain ⟨lm, hlm, hrel⟩ := r1.2.2.1
      exact lv_istore_n hx hb hd ha hlm hlt rfl (fun lsA1 hl1 => kk lsA1 _ ⟨r1.1, r1.2.1, Lr.set1 hrel hlt rfl hl1, r1.2.2.2.1, by unfold lset1; rw [List.length_set, lclr_len]; exact r.2.2.2.2⟩)
    · cases hst
  · split at hst
    · rename_i hlt
      obtain ⟨rfl, rfl, rfl, rfl⟩ := xs_inj hst
      simp only [lnkOk, Bool.and_eq_true, beq_iff_eq] at hl
      obtain ⟨rfl, ha⟩ := hl
      subst ha
      obtain ⟨sA, rfl, r1⟩ := r.int
      obtain ⟨lm, hlm, hrel⟩ := r1.2.2.1
      exact lv_istore hx hb hd hlm hlt rfl (fun lsA1 hl1 => kk lsA1 _ ⟨r1.1, r1.2.1, Lr.set1 hrel hlt rfl hl1, r1.2.2.2.1, by unfold lset1; rw [List.length_set, lclr_len]; exact r.2.2.2.2⟩)
    · cases hst
  · split at hst
    · rename_i hlt
      obtain ⟨rfl, rfl, rfl, rfl⟩ := xs_inj hst
      simp only [lnkOk, Bool.and_eq_true, beq_iff_eq] at hl
      obtain ⟨rfl, ha⟩ := hl
      obtain ⟨sA, rfl, r1⟩ := r.long
      obtain ⟨lm, hlm, hrel⟩ := r1.2.2.1
      exact lv_lstore_n hx hb hd ha hlm hlt rfl (fun lsA1 hl1 => kk lsA1 _ ⟨r1.1, r1.2.1, Lr.set2 hrel hlt rfl hl1, r1.2.2.2.1, by unfold lset2; rw [List.length_set, List.length_set, lclr_len]; exact r.2.2.2.2⟩)
    · cases hst
  · split at hst
    · rename_i hlt
      obtain ⟨rfl, rfl, rfl, rfl⟩ := xs_inj hst
      simp only [lnkOk, Bool.and_eq_true, beq_iff_eq] at hl
      obtain ⟨rfl, ha⟩ := hl
      obtain ⟨v, sA, rfl, hr, r1⟩ := r.pop
      obtain ⟨lm, hlm, hrel⟩ := r1.2.2.1
      have hq : v = .null ∨ ∃ a, v = .ref a := by
        rcases id hr with ⟨a1, e1, -, h⟩ | ⟨-, -, h⟩
        · exact Or.inr ⟨a1, h⟩
        · exact h
      rcases hq with rfl | ⟨a1, rfl⟩
      · exact lv_astore_nN hx hb hd ha hlm hlt rfl (fun lsA1 hl1 => kk lsA1 _ ⟨r1.1, r1.2.1, Lr.set1 hrel hlt hr hl1, r1.2.2.2.1, by unfold lset1; rw [List.length_set, lclr_len]; exact r.2.2.2.2⟩)
      · exact lv_astore_n hx hb hd ha hlm hlt rfl (fun lsA1 hl1 => kk lsA1 _ ⟨r1.1, r1.2.1, Lr.set1 hrel hlt hr hl1, r1.2.2.2.1, by unfold lset1; rw [List.length_set, lclr_len]; exact r.2.2.2.2⟩)
    · cases hst
  · split at hst
    · rename_i hlt
      obtain ⟨rfl, rfl, rfl, rfl⟩ := xs_inj hst
      simp only [lnkOk, Bool.and_eq_true, beq_iff_eq] at hl
      obtain ⟨rfl, ha⟩ := hl
      obtain ⟨sA, rfl, r1⟩ := r.null
      obtain ⟨lm, hlm, hrel⟩ := r1.2.2.1
      exact lv_astore_nN hx hb hd ha hlm hlt rfl (fun lsA1 hl1 => kk lsA1 _ ⟨r1.1, r1.2.1, Lr.set1 hrel hlt rfl hl1, r1.2.2.2.1, by unfold lset1; rw [List.length_set, lclr_len]; exact r.2.2.2.2⟩)
    · cases hst
  · split at hst
    · rename_i hlt
      obtain ⟨rfl, rfl, rfl, rfl⟩ := xs_inj hst
      simp only [lnkOk, Bool.and_eq_true, beq_iff_eq] at hl
      obtain ⟨rfl, ha⟩ := hl
      subst ha
      obtain ⟨v, sA, rfl, hr, r1⟩ := r.pop
      obtain ⟨lm, hlm, hrel⟩ := r1.2.2.1
      have hq : v = .null ∨ ∃ a, v = .ref a := by
        rcases id hr with ⟨a1, e1, -, h⟩ | ⟨-, -, h⟩
        · exact Or.inr ⟨a1, h⟩
        · exact h
      rcases hq with rfl | ⟨a1, rfl⟩
      · exact lv_astoreN hx hb hd hlm hlt rfl (fun lsA1 hl1 => kk lsA1 _ ⟨r1.1, r1.2.1, Lr.set1 hrel hlt hr hl1, r1.2.2.2.1, by unfold lset1; rw [List.length_set, lclr_len]; exact r.2.2.2.2⟩)
      · exact lv_astore hx hb hd hlm hlt rfl (fun lsA1 hl1 => kk lsA1 _ ⟨r1.1, r1.2.1, Lr.set1 hrel hlt hr hl1, r1.2.2.2.1, by unfold lset1; rw [List.length_set, lclr_len]; exact r.2.2.2.2⟩)
    · cases hst
  · split at hst
    · rename_i hlt
      obtain ⟨rfl, rfl, rfl, rfl⟩ := xs_inj hst
      simp only [lnkOk, Bool.and_eq_true, beq_iff_eq] at hl
      obtain ⟨rfl, ha⟩ := hl
      subst ha
      obtain ⟨sA, rfl, r1⟩ := r.null
      obtain ⟨lm, hlm, hrel⟩ := r1.2.2.1
      exact lv_astoreN hx hb hd hlm hlt rfl (fun lsA1 hl1 => kk lsA1 _ ⟨r1.1, r1.2.1, Lr.set1 hrel hlt rfl hl1, r1.2.2.2.1, by unfold lset1; rw [List.length_set, lclr_len]; exact r.2.2.2.2⟩)
    · cases hst
  · split at hst
    · rename_i hlt
      split at hst
      · rename_i hg
        obtain ⟨rfl, rfl, rfl, rfl⟩ := xs_inj hst
        simp only [lnkOk, Bool.and_eq_true, beq_iff_eq] at hl
        obtain ⟨rfl, rfl⟩ := hl
        obtain ⟨lm, hlm, hrel⟩ := r.2.2.1
        unfold lget at hg
        split at hg
        · rename_i hg1
          cases hg
          obtain ⟨u, hm, hr⟩ := hrel _ _ hg1
          cases (show u = _ from hr)
          obtain ⟨k, hk⟩ := List.getElem?_of_mem hm
          exact lv_iinc hx hb hd hlm hk rfl hlt rfl (fun lsA1 hl1 => kk lsA1 _ ⟨r.1, r.2.1, Lr.set1 hrel hlt rfl hl1, r.2.2.2.1, by unfold lset1; rw [List.length_set, lclr_len]; exact r.2.2.2.2⟩)
        · cases hg
      · cases hst
    · cases hst
end SNV
