/-! The two constructors, run by the kernel; behind them the law stands at its loop, over the layout. -/
theorem ci_X {X : Nat × (Nat → Int32)} {f : Nat → Int32} {k : Nat} (hk : k ≠ 1000050) : cInts X k = cInts (0, f) k := by simp only [cInts, if_neg hk]
theorem ci_0 {f : Nat → Int32} : cInts (0, f) 1000050 = none := rfl
theorem cb_0 : cByts 1000050 = none := by decide
theorem stpH_X {X : Nat × (Nat → Int32)} {f : Nat → Int32} {e : XE} {pc : Nat} {ls : XL} {st : List Value} {w : XW} {r : XS} (h : stpH (0, f) e pc ls st w = some r) : stpH X e pc ls st w = some r := by
  obtain ⟨pc0, i, n, a, b, c0, pp, t⟩ := e
  obtain ⟨K, R, I, L⟩ := w
  unfold stpH at h ⊢
  dsimp only at h ⊢
  split at h
  all_goals first
    | (cases h; done)
    | exact h
    | (rename_i i1 k st1
       by_cases hk : k = 1000050
       · subst hk
         rw [ci_0] at h
         split at h <;> rename_i hq <;> first | (cases h; done) | exact h | (rw [hq]; exact h)
       · rw [ci_X (f := f) hk]
         exact h)
    | (rename_i k st1
       by_cases hk : k = 1000050
       · subst hk
         rw [ci_0, cb_0] at h
         split at h <;> rename_i hq <;> first | (cases h; done) | exact h | (rw [hq]; exact h)
       · rw [ci_X (f := f) hk]
         exact h)
theorem stp_X {X : Nat × (Nat → Int32)} {f : Nat → Int32} {e : XE} {pc : Nat} {ls : XL} {st : List Value} {w : XW} {r : XS} (h : stp (0, f) e pc ls st w = some r) : stp X e pc ls st w = some r := by
  unfold stp at h ⊢
  split at h
  · exact h
  · exact h
  · exact h
  · exact stpH_X h
  · exact h
  · cases h
theorem exec_X {X : Nat × (Nat → Int32)} {f : Nat → Int32} : ∀ {n d : Nat} {mi : MI} {pc : Nat} {ls : XL} {st : List Value} {w : XW} {x : Option Value × XW}, exec (0, f) n d mi pc ls st w = some x → exec X n d mi pc ls st w = some x := by
  intro n
  induction n with
  | zero => intro d mi pc ls st w x h; cases h
  | succ n ih =>
    intro d mi pc ls st w x h
    unfold exec at h ⊢
    split at h
    · cases h
    · split at h
      · exact h
      · split at h
        · rename_i a vs rest d1 hcl
          split at h
          · rename_i mj hmj
            split at h
            · rename_i hle
              split at h
              · rename_i r w1 h1
                first | rw [if_pos hle, ih h1] | rw [ih h1]
                exact ih h
              · cases h
            · cases h
          · cases h
        · cases h
      · split at h
        · rename_i h1
          rw [stp_X h1]
          exact ih h
        · cases h
/-- references lie in cells that hold references, and nowhere else -/
def rCell (K : XK) (k j : Nat) : Prop := (∃ ci, K[k]? = some (.inr ci) ∧ j < clN ci) ∨ ∃ C m, K[k]? = some (.inl (.object C, m)) ∧ j < m
def Cl (w : XW) : Prop := ∀ k j q, w.2.1 k j = some q → rCell w.1 k j
section CL
variable {X : Nat × (Nat → Int32)} {e : XE} {pc pc' : Nat} {ls ls' : XL} {st st' : List Value} {w w' : XW} {K : XK} {R : Nat → Nat → Option Nat} {I : Nat → Nat → Int32} {L : Nat → Nat → Int64}
theorem Cl.upd {k j : Nat} {v : Option Nat} (hc : Cl (K, R, I, L)) (hr : rCell K k j) : Cl (K, updR R k j v, I, L) := by
  intro k1 j1 q hq
  have hq1 : updR R k j v k1 j1 = some q := hq
  unfold updR at hq1
  split at hq1
  · rename_i g
    show rCell K k1 j1
    rw [g.1, g.2]
    exact hr
  · exact hc k1 j1 q hq1
theorem Cl.new {kd : (FieldType × Nat) ⊕ Nat} (hc : Cl (K, R, I, L)) : Cl (xnew K R I L kd) := by
  intro k1 j1 q hq
  have hq1 : clrR R K.length none k1 j1 = some q := hq
  unfold clrR at hq1
  split at hq1
  · cases hq1
  · have up : ∀ x, K[k1]? = some x → (K ++ [kd])[k1]? = some x := fun x hx => by
      obtain ⟨g, _⟩ := List.getElem?_eq_some_iff.mp hx
      rw [List.getElem?_append_left g]
      exact hx
    rcases hc k1 j1 q hq1 with ⟨ci, g1, g2⟩ | ⟨C, m, g1, g2⟩
    · exact Or.inl ⟨ci, up _ g1, g2⟩
    · exact Or.inr ⟨C, m, up _ g1, g2⟩
theorem stpH_c (h : stpH X e pc ls st w = some (pc', ls', st', w')) (hc : Cl w) : Cl w' := by
  obtain ⟨pc0, i, n, a, b, c0, pp, t⟩ := e
  obtain ⟨K, R, I, L⟩ := w
  unfold stpH at h
  dsimp only at h
  (repeat' split at h) <;> first
    | (cases h; done)
    | (rw [← (xs_inj h).2.2.2]; exact hc)
    | (rename_i hk hcd
       rw [← (xs_inj h).2.2.2]
       exact hc.upd (Or.inl ⟨_, hk, by rw [hcd.1]; exact hcd.2.1⟩))
    | (rename_i hk hk1 hcd
       rw [← (xs_inj h).2.2.2]
       exact hc.upd (Or.inr ⟨_, _, hk, inA_lt hcd.1⟩))
theorem stpN_c (h : stpN e pc ls st w = some (pc', ls', st', w')) (hc : Cl w) : Cl w' := by
  obtain ⟨pc0, i, n, a, b, c0, pp, t⟩ := e
  obtain ⟨K, R, I, L⟩ := w
  unfold stpN at h
  dsimp only at h
  (repeat' split at h) <;> first
    | (cases h; done)
    | (rw [← (xs_inj h).2.2.2]; exact hc)
    | (rw [← (xs_inj h).2.2.2]; exact hc.new)
theorem stp_c (h : stp X e pc ls st w = some (pc', ls', st', w')) (hc : Cl w) : Cl w' := by
  unfold stp at h
  split at h
  · rw [stpJ_w h]; exact hc
  · rw [stpV_w h]; exact hc
  · rw [stpL_w h]; exact hc
  · exact stpH_c h hc
  · exact stpN_c h hc
  · cases h
end CL
theorem exec_c {X : Nat × (Nat → Int32)} : ∀ {n d : Nat} {mi : MI} {pc : Nat} {ls : XL} {st : List Value} {w : XW} {r : Option Value} {w' : XW}, exec X n d mi pc ls st w = some (r, w') → Cl w → Cl w' := by
  intro n
  induction n with
  | zero => intro d mi pc ls st w r w' h; cases h
  | succ n ih =>
    intro d mi pc ls st w r w' h hc
    unfold exec at h
    split at h
    · cases h
    · split at h
      · split at h
        · cases h; exact hc
        · cases h
      · split at h
        · split at h
          · split at h
            · split at h
              · rename_i h1
                exact ih h (ih h1 hc)
              · cases h
            · cases h
          · cases h
        · cases h
      · split at h
        · rename_i h1
          exact ih h (stp_c h1 hc)
        · cases h
def w9 : XW := xnew [] (fun _ _ => none) (fun _ _ => 0) (fun _ _ => 0) (.inr 9)
def made : Option (XW × XW) := match exec (0, fun _ => 0) 3000 999 m0 0 (entX 2 [.ref 0]) [] w9 with
  | some (none, w1) => match exec (0, fun _ => 0) 3000 999 m140 0 (entX 1 [.ref 124]) [] (xnew w1.1 w1.2.1 w1.2.2.1 w1.2.2.2 (.inr 10)) with
    | some (none, w2) => some (w1, w2)
    | _ => none
  | _ => none
def szK (k : Nat) : Nat := match K0[k]? with
  | some (.inl (_, m)) => m
  | some (.inr ci) => clN ci
  | none => 0
def madeOk : Bool := match made with
  | some (w1, w2) => decide (w1.1.length = 124) && decide (w2.1 = K0) && (List.range 167).all (fun k => (List.range (szK k)).all (fun j => decide (w2.2.1 k j = R0 k j) && decide (w2.2.2.1 k j = I0 k j) && decide (w2.2.2.2 k j = 0)))
  | none => false
theorem made_ok : madeOk = true := by decide +kernel
theorem rCell_sz {k j : Nat} (h : rCell K0 k j) : k < 167 ∧ j < szK k := by
  rcases h with ⟨ci, g1, g2⟩ | ⟨C, m, g1, g2⟩
  · obtain ⟨g, _⟩ := List.getElem?_eq_some_iff.mp g1
    rw [K0_len] at g
    exact ⟨g, by unfold szK; rw [g1]; exact g2⟩
  · obtain ⟨g, _⟩ := List.getElem?_eq_some_iff.mp g1
    rw [K0_len] at g
    exact ⟨g, by unfold szK; rw [g1]; exact g2⟩
theorem lookup_in {l : List (Nat × Nat)} {j q : Nat} (h : l.lookup j = some q) : (j, q) ∈ l := by
  induction l with
  | nil => cases h
  | cons p l ih =>
    obtain ⟨a, b⟩ := p
    rw [List.lookup_cons] at h
    split at h
    · rename_i g
      have e : j = a := by simpa using g
      cases h
      rw [e]
      exact List.mem_cons_self
    · exact List.mem_cons_of_mem _ (ih h)
theorem refT_ok : (refT.length ≤ 167) ∧ (List.range 167).all (fun k => match refT[k]? with
  | some l => l.all (fun p => decide (p.1 < szK k))
  | none => true) = true := by decide +kernel
theorem R0_sz {k j q : Nat} (h : R0 k j = some q) : k < 167 ∧ j < szK k := by
  unfold R0 at h
  split at h
  · rename_i l hl
    obtain ⟨g, _⟩ := List.getElem?_eq_some_iff.mp hl
    have hk : k < 167 := by have := refT_ok.1; omega
    have a := List.all_eq_true.mp refT_ok.2 k (List.mem_range.mpr hk)
    rw [hl] at a
    have b := List.all_eq_true.mp a _ (lookup_in h)
    exact ⟨hk, of_decide_eq_true b⟩
  · cases h
theorem made_w : ∃ w1 I L, exec (0, fun _ => 0) 3000 999 m0 0 (entX 2 [.ref 0]) [] w9 = some (none, w1) ∧ w1.1.length = 124 ∧ exec (0, fun _ => 0) 3000 999 m140 0 (entX 1 [.ref 124]) [] (xnew w1.1 w1.2.1 w1.2.2.1 w1.2.2.2 (.inr 10)) = some (none, (K0, R0, I, L)) ∧ ∀ k j, k < 167 → j < szK k → I k j = I0 k j ∧ L k j = 0 := by
  have h := made_ok
  unfold madeOk made at h
  split at h
  · rename_i w1 w2 h1
    split at h1
    · rename_i w1' e1
      split at h1
      · rename_i w2' e2
        cases h1
        obtain ⟨K2, R2, I2, L2⟩ := w2
        simp only [Bool.and_eq_true, decide_eq_true_eq] at h
        obtain ⟨⟨ha, hb⟩, hd⟩ := h
        have c0 : Cl w9 := by
          intro k j q hq
          have hq1 : clrR (fun _ _ => (none : Option Nat)) 0 none k j = some q := hq
          unfold clrR at hq1
          split at hq1 <;> cases hq1
        have c2 : Cl (K2, R2, I2, L2) := exec_c e2 (Cl.new (exec_c e1 c0))
        have hK : K2 = K0 := hb
        subst hK
        have hat : ∀ k j, k < 167 → j < szK k → (R2 k j = R0 k j ∧ I2 k j = I0 k j) ∧ L2 k j = 0 := by
          intro k j hk hj
          have a := List.all_eq_true.mp (List.all_eq_true.mp hd k (List.mem_range.mpr hk)) j (List.mem_range.mpr hj)
          simpa only [Bool.and_eq_true, decide_eq_true_eq] using a
        have hR : R2 = R0 := by
          funext k j
          cases g : R2 k j with
          | some q =>
            obtain ⟨hk, hj⟩ := rCell_sz (c2 k j q g)
            rw [← (hat k j hk hj).1.1, g]
          | none => cases g0 : R0 k j with
            | none => rfl
            | some q =>
              obtain ⟨hk, hj⟩ := R0_sz g0
              rw [← (hat k j hk hj).1.1, g] at g0
              cases g0
        subst hR
        exact ⟨w1, I2, L2, e1, ha, e2, fun k j hk hj => ⟨(hat k j hk hj).1.2, (hat k j hk hj).2⟩⟩
      · cases h1
    · cases h1
  · cases h
/-- the law at its loop -/
theorem law_start : ∃ I L, (∀ k j, k < 167 → j < szK k → I k j = I0 k j ∧ L k j = 0) ∧ ∀ (X : Nat × (Nat → Int32)) (Q : Option Value → XW → Prop), wp X 1000 mLaw 18 [some (.ref 1000050), some (.ref 0), some (.ref 124), some (.int 0)] [] (K0, R0, I, L) Q → wp X 1000 mLaw 0 (entX 4 [.ref 1000050]) [] w00 Q := by
  obtain ⟨w1, I, L, e1, hlen, e2, hat⟩ := made_w
  obtain ⟨K1, R1, I1, L1⟩ := w1
  refine ⟨I, L, hat, fun X Q h => ?_⟩
  have hlen : K1.length = 124 := hlen
  refine (wp_stp (e := (0, .new 7, 3, 9, 0, 0, 1020, [])) (pc' := 3) (ls' := [some (.ref 1000050), none, none, none]) (st' := [.ref 0]) (w' := w9) rfl (Nat.le_of_ble_eq_true rfl) rfl).mpr ?_
  refine (wp_stp (e := (3, .dup, 1, 0, 0, 0, 0, [])) (pc' := 4) (ls' := [some (.ref 1000050), none, none, none]) (st' := [.ref 0, .ref 0]) (w' := w9) rfl (Nat.le_of_ble_eq_true rfl) rfl).mpr ?_
  refine (wp_call (d := 999) (e := (4, .invokespecial 9, 3, 0, 0, 2, 1022, [])) (a := 0) (vs := [.ref 0]) (rest := [.ref 0]) (mj := m0) rfl rfl rfl rfl (Nat.le_of_ble_eq_true rfl)).mpr ?_
  refine ⟨3000, none, (K1, R1, I1, L1), exec_X e1, ?_⟩
  refine (wp_stp (e := (7, .astore_n 1, 1, 1, 0, 0, 0, [])) (pc' := 8) (ls' := [some (.ref 1000050), some (.ref 0), none, none]) (st' := []) (w' := (K1, R1, I1, L1)) rfl (Nat.le_of_ble_eq_true rfl) rfl).mpr ?_
  refine (wp_stp (e := (8, .new 10, 3, 10, 0, 0, 4120, [])) (pc' := 11) (ls' := [some (.ref 1000050), some (.ref 0), none, none]) (st' := [.ref 124]) (w' := xnew K1 R1 I1 L1 (.inr 10)) rfl (Nat.le_of_ble_eq_true rfl) (by
    simp only [stp, grp, stpN, hlen]
    rfl)).mpr ?_
  refine (wp_stp (e := (11, .dup, 1, 0, 0, 0, 0, [])) (pc' := 12) (ls' := [some (.ref 1000050), some (.ref 0), none, none]) (st' := [.ref 124, .ref 124]) (w' := xnew K1 R1 I1 L1 (.inr 10)) rfl (Nat.le_of_ble_eq_true rfl) rfl).mpr ?_
  refine (wp_call (d := 999) (e := (12, .invokespecial 12, 3, 140, 0, 2, 4122, [])) (a := 140) (vs := [.ref 124]) (rest := [.ref 124]) (mj := m140) rfl rfl (by
    have hl2 : (xnew K1 R1 I1 L1 (.inr 10)).1.length = 125 := by
      show (K1 ++ [_]).length = 125
      rw [List.length_append, hlen]
      rfl
    simp only [cll, hl2]
    rfl) rfl (Nat.le_of_ble_eq_true rfl)).mpr ?_
  refine ⟨3000, none, (K0, R0, I, L), exec_X e2, ?_⟩
  refine (wp_stp (e := (15, .astore_n 2, 1, 2, 0, 0, 0, [])) (pc' := 16) (ls' := [some (.ref 1000050), some (.ref 0), some (.ref 124), none]) (st' := []) (w' := (K0, R0, I, L)) rfl (Nat.le_of_ble_eq_true rfl) rfl).mpr ?_
  refine (wp_stp (e := (16, .iconst 0, 1, 0, 0, 0, 0, [])) (pc' := 17) (ls' := [some (.ref 1000050), some (.ref 0), some (.ref 124), none]) (st' := [.int 0]) (w' := (K0, R0, I, L)) rfl (Nat.le_of_ble_eq_true rfl) rfl).mpr ?_
  refine (wp_stp (e := (17, .istore_n 3, 1, 3, 0, 0, 0, [])) (pc' := 18) (ls' := [some (.ref 1000050), some (.ref 0), some (.ref 124), some (.int 0)]) (st' := []) (w' := (K0, R0, I, L)) rfl (Nat.le_of_ble_eq_true rfl) rfl).mpr h
theorem w00_K {X : Nat × (Nat → Int32)} {Q : Option Value → XW → Prop} (h : wp X 1000 mLaw 0 (entX 4 [.ref 1000050]) [] w00 (fun r w => r = some (.int 1) ∧ w.1 = K0)) : ∃ n w', exec X n 1000 mLaw 0 (entX 4 [.ref 1000050]) [] w00 = some (some (.int 1), w') ∧ w'.1.length ≤ 600000 ∧ sw w'.1 ≤ 7302250 := by
  obtain ⟨n, r, w', h1, rfl, h3⟩ := h
  exact ⟨n, w', h1, by rw [h3, K0_len]; decide, by rw [h3]; decide +kernel⟩
