/-! Runs of the small machine as statements that a program can rewrite. -/
theorem exec_up {X : Nat × (Nat → Int32)} : ∀ {n d : Nat} {mi : MI} {pc : Nat} {ls : XL} {st : List Value} {w : XW} {x : Option Value × XW}, exec X n d mi pc ls st w = some x → ∀ {n' d' : Nat}, n ≤ n' → d ≤ d' → exec X n' d' mi pc ls st w = some x := by
  intro n
  induction n with
  | zero => intro d mi pc ls st w x h; cases h
  | succ n ih =>
    intro d mi pc ls st w x h n' d' hn hd
    obtain ⟨n', rfl⟩ : ∃ k, n' = k + 1 := ⟨n' - 1, by omega⟩
    have hn : n ≤ n' := by omega
    unfold exec at h ⊢
    split at h
    · cases h
    · split at h
      · exact h
      · split at h
        · rename_i a vs rest d1 hcl
          obtain ⟨d', rfl⟩ : ∃ k, d' = k + 1 := ⟨d' - 1, by omega⟩
          split at h
          · rename_i mj hmj
            rw [hcl]
            dsimp only
            rw [hmj]
            dsimp only
            split at h
            · rename_i hle
              rw [if_pos hle]
              split at h
              · rename_i r w1 h1
                rw [ih h1 hn (by omega)]
                exact ih h hn hd
              · cases h
            · cases h
          · cases h
        · cases h
      · split at h
        · rename_i h1
          exact ih h hn hd
        · cases h
def wp (X : Nat × (Nat → Int32)) (d : Nat) (mi : MI) (pc : Nat) (ls : XL) (st : List Value) (w : XW) (Q : Option Value → XW → Prop) : Prop := ∃ n r w', exec X n d mi pc ls st w = some (r, w') ∧ Q r w'
section WP
variable {X : Nat × (Nat → Int32)} {d : Nat} {mi : MI} {pc pc' : Nat} {ls ls' : XL} {st st' : List Value} {w w' : XW} {Q : Option Value → XW → Prop}
theorem wp_stp {e : XE} (he : cdx (mC mi) pc = some e) (hg : grp e < 5) (hs : stp X e pc ls st w = some (pc', ls', st', w')) : wp X d mi pc ls st w Q ↔ wp X d mi pc' ls' st' w' Q := by
  have key : ∀ n, exec X (n + 1) d mi pc ls st w = exec X n d mi pc' ls' st' w' := by
    intro n
    rw [exec, he]
    dsimp only
    split
    · omega
    · omega
    · rw [hs]
  refine ⟨fun ⟨n, r, w1, h, hq⟩ => ?_, fun ⟨n, r, w1, h, hq⟩ => ⟨n + 1, r, w1, (key n).trans h, hq⟩⟩
  cases n with
  | zero => cases h
  | succ n => exact ⟨n, r, w1, (key n).symm.trans h, hq⟩
theorem wp_ret {e : XE} {r : Option Value} (he : cdx (mC mi) pc = some e) (hg : grp e = 5) (hs : rtn (mR mi) e st = some r) : wp X d mi pc ls st w Q ↔ Q r w := by
  have key : ∀ n, exec X (n + 1) d mi pc ls st w = some (r, w) := by
    intro n
    rw [exec, he]
    dsimp only
    rw [hg, hs]
    rfl
  refine ⟨fun ⟨n, r1, w1, h, hq⟩ => ?_, fun hq => ⟨1, r, w, key 0, hq⟩⟩
  cases n with
  | zero => cases h
  | succ n =>
    rw [key n] at h
    cases h
    exact hq
theorem wp_call {e : XE} {a : Nat} {vs rest : List Value} {mj : MI} (he : cdx (mC mi) pc = some e) (hg : grp e = 6) (hc : cll e st w.1 = some (a, vs, rest)) (hm : mtab[a]? = some mj) (hl : (entL vs).length ≤ mL mj) : wp X (d + 1) mi pc ls st w Q ↔ wp X d mj 0 (entX (mL mj) vs) [] w (fun r w1 => wp X (d + 1) mi (pc + 3) ls (r.toList ++ rest) w1 Q) := by
  have key : ∀ n, exec X (n + 1) (d + 1) mi pc ls st w = (match exec X n d mj 0 (entX (mL mj) vs) [] w with
      | some (r, w1) => exec X n (d + 1) mi (pc + 3) ls (r.toList ++ rest) w1
      | none => none) := by
    intro n
    rw [exec, he]
    dsimp only
    rw [hg, hc]
    dsimp only
    rw [hm]
    dsimp only
    rw [if_pos hl]
    rfl
  refine ⟨fun ⟨n, r, w1, h, hq⟩ => ?_, fun ⟨n1, r, w1, h1, n2, r2, w2, h2, hq⟩ => ?_⟩
  · cases n with
    | zero => cases h
    | succ n =>
      rw [key n] at h
      split at h
      · rename_i r2 w2 h2
        exact ⟨n, r2, w2, h2, n, r, w1, h, hq⟩
      · cases h
  · refine ⟨n1 + n2 + 1, r2, w2, ?_, hq⟩
    rw [key, exec_up h1 (by omega) (Nat.le_refl _)]
    exact exec_up h2 (by omega) (Nat.le_refl _)
/-- what a run answers is one thing: a statement for one is a rewriting rule for all -/
theorem wp_iff {r : Option Value} (h : wp X d mi pc ls st w (fun r1 w1 => r1 = r ∧ w1 = w')) : wp X d mi pc ls st w Q ↔ Q r w' := by
  obtain ⟨n, r1, w1, h1, rfl, rfl⟩ := h
  refine ⟨fun ⟨m, r2, w2, h2, hq⟩ => ?_, fun hq => ⟨n, r1, w1, h1, hq⟩⟩
  have a := exec_up h1 (Nat.le_max_left n m) (Nat.le_refl d)
  have b := exec_up h2 (Nat.le_max_right n m) (Nat.le_refl d)
  rw [a] at b
  cases b
  exact hq
theorem wp_mono {Q' : Option Value → XW → Prop} (h : wp X d mi pc ls st w Q) (k : ∀ r w1, Q r w1 → Q' r w1) : wp X d mi pc ls st w Q' := by
  obtain ⟨n, r, w1, h1, hq⟩ := h
  exact ⟨n, r, w1, h1, k r w1 hq⟩
theorem wp_up {d' : Nat} (h : wp X d mi pc ls st w Q) (hd : d ≤ d') : wp X d' mi pc ls st w Q := by
  obtain ⟨n, r, w1, h1, hq⟩ := h
  exact ⟨n, r, w1, exec_up h1 (Nat.le_refl n) hd, hq⟩
theorem ite_iff {c A B A' B' : Prop} [Decidable c] (h1 : A ↔ A') (h2 : B ↔ B') : (if c then A else B) ↔ (if c then A' else B') := by
  split
  · exact h1
  · exact h2
theorem wp_if {c : Prop} [Decidable c] {a b : Nat} : wp X d mi (if c then a else b) ls st w Q ↔ (if c then wp X d mi a ls st w Q else wp X d mi b ls st w Q) := by
  split <;> exact Iff.rfl
end WP
/-! Locals that are not read again may be forgotten. -/
def sucs (e : XE) : List Nat := match e with
  | (pc, i, n, a, _, c, _, t) => match i with
    | .goto _ => [a]
    | .ifCond _ _ => [a, pc + 3]
    | .if_icmp _ _ => [a, pc + 3]
    | .ifnull _ => [a, pc + 3]
    | .ifnonnull _ => [a, pc + 3]
    | .tableswitch _ _ _ _ => a :: t.map (fun q => q.2)
    | .lookupswitch _ _ => a :: t.map (fun q => q.2)
    | .ireturn => []
    | .lreturn => []
    | .areturn => []
    | .return_ => []
    | .invokevirtual _ => [pc + 3]
    | .invokespecial _ => [pc + 3, pc + n]
    | .invokestatic _ => [pc + 3, pc + n]
    | _ => [pc + n]
/-- the slot that is read, the slot that is written -/
def rdL (e : XE) : Option Nat := match e with
  | (_, i, _, a, _) => match i with
    | .iload_n _ => some a
    | .iload _ => some a
    | .lload_n _ => some a
    | .aload_n _ => some a
    | .aload _ => some a
    | .iinc _ _ => some a
    | _ => none
def wrL (e : XE) : Option Nat := match e with
  | (_, i, _, a, _) => match i with
    | .istore_n _ => some a
    | .istore _ => some a
    | .lstore_n _ => some a
    | .astore_n _ => some a
    | .astore _ => some a
    | .iinc _ _ => some a
    | _ => none
def lvAt (lv : List (Nat × List Nat)) (pc : Nat) : List Nat := match lv with
  | [] => []
  | q :: lv => if q.1 = pc then q.2 else lvAt lv pc
def lvOk (cd : List XE) (lv : List (Nat × List Nat)) : Bool := cd.all (fun e => (sucs e).all (fun q => (lvAt lv q).all (fun j => decide (wrL e = some j) || (lvAt lv e.1).contains j)) && (match rdL e with
  | some a => (lvAt lv e.1).contains a
  | none => true))
def agL (l : List Nat) (a b : XL) : Prop := a.length = b.length ∧ ∀ j ∈ l, a[j]? = b[j]?
theorem swT_in {t : List (Int × Nat)} {d : Nat} {x : Int} : swT t d x ∈ d :: t.map (fun q => q.2) := by
  induction t with
  | nil => exact List.mem_cons_self
  | cons q t ih =>
    unfold swT
    split
    · exact List.mem_cons_of_mem _ (List.mem_map.mpr ⟨q, List.mem_cons_self, rfl⟩)
    · rcases List.mem_cons.mp ih with h | h
      · rw [h]; exact List.mem_cons_self
      · exact List.mem_cons_of_mem _ (List.mem_cons_of_mem _ h)
theorem ite_in {c : Prop} [Decidable c] {a b : Nat} : (if c then a else b) ∈ [a, b] := by
  split <;> simp
theorem ite_in' {c : Prop} [Decidable c] {a b : Nat} : (if c then b else a) ∈ [a, b] := by
  split <;> simp
section LIVE
variable {X : Nat × (Nat → Int32)} {e : XE} {pc pc' : Nat} {ls ls' ls2 : XL} {st st' : List Value} {w w' : XW}
set_option maxHeartbeats 4000000 in
theorem stpJ_l (h : stpJ e pc ls st w = some (pc', ls', st', w')) (hp : e.1 = pc) : ls' = ls ∧ pc' ∈ sucs e ∧ stpJ e pc ls2 st w = some (pc', ls2, st', w') := by
  obtain ⟨pc0, i, n, a, b, c0, pp, t⟩ := e
  dsimp only at hp
  subst hp
  unfold stpJ at h
  dsimp only at h
  split at h
  all_goals try (cases h; done)
  all_goals first
    | (obtain ⟨rfl, rfl, rfl, rfl⟩ := xs_inj h; exact ⟨rfl, List.mem_cons_self, rfl⟩)
    | (obtain ⟨rfl, rfl, rfl, rfl⟩ := xs_inj h; exact ⟨rfl, ite_in, rfl⟩)
    | (obtain ⟨rfl, rfl, rfl, rfl⟩ := xs_inj h; exact ⟨rfl, ite_in', rfl⟩)
    | (obtain ⟨rfl, rfl, rfl, rfl⟩ := xs_inj h; exact ⟨rfl, List.mem_cons_of_mem _ List.mem_cons_self, rfl⟩)
    | (obtain ⟨rfl, rfl, rfl, rfl⟩ := xs_inj h; exact ⟨rfl, swT_in, rfl⟩)
    | (split at h
       · rename_i hk
         obtain ⟨rfl, rfl, rfl, rfl⟩ := xs_inj h
         exact ⟨rfl, by first | exact List.mem_cons_self | exact List.mem_cons_of_mem _ List.mem_cons_self, by simp only [stpJ, hk, if_true]⟩
       · cases h)
theorem sucs_n {pc0 n a b c0 pp : Nat} {i : Instr} {t : List (Int × Nat)} (hg : grp (pc0, i, n, a, b, c0, pp, t) ≠ 0) (hg2 : grp (pc0, i, n, a, b, c0, pp, t) ≠ 5) (hg3 : grp (pc0, i, n, a, b, c0, pp, t) ≠ 6) : pc0 + n ∈ sucs (pc0, i, n, a, b, c0, pp, t) := by
  unfold sucs
  dsimp only
  split <;> first | exact List.mem_cons_self | exact List.mem_cons_of_mem _ List.mem_cons_self | exact absurd rfl hg | exact absurd rfl hg2 | exact absurd rfl hg3
set_option maxHeartbeats 4000000 in
theorem stpV_l (h : stpV e pc ls st w = some (pc', ls', st', w')) : ls' = ls ∧ pc' = pc + e.2.2.1 ∧ stpV e pc ls2 st w = some (pc', ls2, st', w') := by
  obtain ⟨pc0, i, n, a, b, c0, pp, t⟩ := e
  unfold stpV at h
  dsimp only at h
  (repeat' split at h) <;> first
    | (cases h; done)
    | (obtain ⟨rfl, rfl, rfl, rfl⟩ := xs_inj h; exact ⟨rfl, rfl, rfl⟩)
    | (obtain ⟨rfl, rfl, rfl, rfl⟩ := xs_inj h; refine ⟨rfl, rfl, ?_⟩; simp only [stpV, *, if_true, if_false])
set_option maxHeartbeats 4000000 in
theorem stpH_l (h : stpH X e pc ls st w = some (pc', ls', st', w')) : ls' = ls ∧ pc' = pc + e.2.2.1 ∧ stpH X e pc ls2 st w = some (pc', ls2, st', w') := by
  obtain ⟨pc0, i, n, a, b, c0, pp, t⟩ := e
  obtain ⟨K, R, I, L⟩ := w
  unfold stpH at h
  dsimp only at h
  (repeat' split at h) <;> first
    | (cases h; done)
    | (obtain ⟨rfl, rfl, rfl, rfl⟩ := xs_inj h; exact ⟨rfl, rfl, rfl⟩)
    | (obtain ⟨rfl, rfl, rfl, rfl⟩ := xs_inj h; refine ⟨rfl, rfl, ?_⟩; simp only [stpH, *, if_true, if_false, and_self])
set_option maxHeartbeats 4000000 in
theorem stpN_l (h : stpN e pc ls st w = some (pc', ls', st', w')) : ls' = ls ∧ pc' = pc + e.2.2.1 ∧ stpN e pc ls2 st w = some (pc', ls2, st', w') := by
  obtain ⟨pc0, i, n, a, b, c0, pp, t⟩ := e
  obtain ⟨K, R, I, L⟩ := w
  unfold stpN at h
  dsimp only at h
  (repeat' split at h) <;> first
    | (cases h; done)
    | (obtain ⟨rfl, rfl, rfl, rfl⟩ := xs_inj h; refine ⟨rfl, rfl, ?_⟩; simp only [stpN, *, if_true, if_false, and_self, not_false_eq_true]; done)
    | (rename_i hk0 hk1 hc z1; obtain ⟨g1, g2, g3, g4, g5, g6, g7, g8⟩ := hc; subst g3; obtain ⟨rfl, rfl, rfl, rfl⟩ := xs_inj h; refine ⟨rfl, rfl, ?_⟩; simp only [stpN, hk0, hk1, g1, g2, g4, g5, g6, g7, g8, and_self, not_false_eq_true, if_true])
    | (rename_i hk1 z1 hk0 hc; obtain ⟨g1, g2, g3, g4, g5, g6, g7, g8⟩ := hc; subst g3; obtain ⟨rfl, rfl, rfl, rfl⟩ := xs_inj h; refine ⟨rfl, rfl, ?_⟩; simp only [stpN, hk0, hk1, g1, g2, g4, g5, g6, g7, g8, and_self, not_false_eq_true, if_true])
theorem lget_eq {l1 l2 : XL} {a : Nat} (h : l1[a]? = l2[a]?) : lget l1 a = lget l2 a := by
  unfold lget
  rw [h]
theorem lclr_eq {l1 l2 : XL} {a j : Nat} (hl : l1.length = l2.length) (h : l1[j]? = l2[j]?) : (lclr l1 a)[j]? = (lclr l2 a)[j]? ∧ (lclr l1 a).length = (lclr l2 a).length := by
  refine ⟨?_, by rw [lclr_len, lclr_len, hl]⟩
  cases a with
  | zero => exact h
  | succ i =>
    by_cases hj : j = i
    · subst hj
      simp only [lclr]
      rw [h]
      split <;> first | exact h | (rw [List.getElem?_set, List.getElem?_set, hl, h])
    · have e : ∀ (z y : XL), z = y ∨ z = y.set i none → z[j]? = y[j]? := by
        intro z y hz
        rcases hz with rfl | rfl
        · rfl
        · exact List.getElem?_set_ne (fun q => hj q.symm)
      have g : ∀ y : XL, lclr y (i + 1) = y ∨ lclr y (i + 1) = y.set i none := by
        intro y
        simp only [lclr]
        split
        · exact Or.inr rfl
        · exact Or.inr rfl
        · exact Or.inl rfl
      rw [e _ _ (g l1), e _ _ (g l2), h]
theorem lset1_eq {l1 l2 : XL} {a j : Nat} {v : Value} (hl : l1.length = l2.length) (h : j = a ∨ l1[j]? = l2[j]?) : (lset1 l1 a v)[j]? = (lset1 l2 a v)[j]? := by
  unfold lset1
  rw [List.getElem?_set, List.getElem?_set, lclr_len, lclr_len, hl]
  by_cases hj : a = j
  · rw [if_pos hj, if_pos hj]
  · rw [if_neg hj, if_neg hj]
    rcases h with h | h
    · exact absurd h.symm hj
    · exact (lclr_eq hl h).1
theorem lset1_len {l : XL} {a : Nat} {v : Value} : (lset1 l a v).length = l.length := by
  unfold lset1
  rw [List.length_set, lclr_len]
theorem lset2_eq {l1 l2 : XL} {a j : Nat} {v : Value} (hl : l1.length = l2.length) (h : j = a ∨ l1[j]? = l2[j]?) : (lset2 l1 a v)[j]? = (lset2 l2 a v)[j]? := by
  have e := lset1_eq (v := v) hl h
  show ((lset1 l1 a v).set (a + 1) none)[j]? = ((lset1 l2 a v).set (a + 1) none)[j]?
  rw [List.getElem?_set, List.getElem?_set, lset1_len, lset1_len, hl, e]
theorem lset2_len {l : XL} {a : Nat} {v : Value} : (lset2 l a v).length = l.length := by
  unfold lset2
  rw [List.length_set, List.length_set, lclr_len]
set_option maxHeartbeats 4000000 in
theorem stpL_l {S T : List Nat} (h : stpL e pc ls st w = some (pc', ls', st', w')) (ha : agL S ls ls2) (hr : ∀ a, rdL e = some a → a ∈ S) (hT : ∀ j ∈ T, wrL e = some j ∨ j ∈ S) : pc' = pc + e.2.2.1 ∧ ∃ ls3, stpL e pc ls2 st w = some (pc', ls3, st', w') ∧ agL T ls' ls3 := by
  obtain ⟨pc0, i, n, a, b, c0, pp, t⟩ := e
  have hT0 : wrL (pc0, i, n, a, b, c0, pp, t) = none → agL T ls ls2 := fun hw => ⟨ha.1, fun j hj => by
    rcases hT j hj with h1 | h1
    · rw [hw] at h1; cases h1
    · exact ha.2 j h1⟩
  have hg : rdL (pc0, i, n, a, b, c0, pp, t) = some a → lget ls2 a = lget ls a := fun h1 => lget_eq (ha.2 a (hr a h1)).symm
  have h1 : ∀ v : Value, wrL (pc0, i, n, a, b, c0, pp, t) = some a → agL T (lset1 ls a v) (lset1 ls2 a v) := fun v hw => ⟨by rw [lset1_len, lset1_len, ha.1], fun j hj => lset1_eq ha.1 (by
    rcases hT j hj with h2 | h2
    · rw [hw] at h2; cases h2; exact Or.inl rfl
    · exact Or.inr (ha.2 j h2))⟩
  have h2 : ∀ v : Value, wrL (pc0, i, n, a, b, c0, pp, t) = some a → agL T (lset2 ls a v) (lset2 ls2 a v) := fun v hw => ⟨by rw [lset2_len, lset2_len, ha.1], fun j hj => lset2_eq ha.1 (by
    rcases hT j hj with h3 | h3
    · rw [hw] at h3; cases h3; exact Or.inl rfl
    · exact Or.inr (ha.2 j h3))⟩
  have hlen := ha.1
  unfold stpL at h
  dsimp only at h
  (repeat' split at h) <;> first
    | (cases h; done)
    | (rename_i hq
       obtain ⟨rfl, rfl, rfl, rfl⟩ := xs_inj h
       refine ⟨rfl, ls2, ?_, hT0 rfl⟩
       simp only [stpL, hg rfl, hq])
    | (rename_i hq
       obtain ⟨rfl, rfl, rfl, rfl⟩ := xs_inj h
       rw [hlen] at hq
       exact ⟨rfl, _, by simp only [stpL, hq, if_true], h1 _ rfl⟩)
    | (rename_i hq
       obtain ⟨rfl, rfl, rfl, rfl⟩ := xs_inj h
       rw [hlen] at hq
       exact ⟨rfl, _, by simp only [stpL, hq, if_true], h2 _ rfl⟩)
    | (rename_i hq z1 z2 hq2
       obtain ⟨rfl, rfl, rfl, rfl⟩ := xs_inj h
       rw [hlen] at hq
       exact ⟨rfl, _, by simp only [stpL, hq, if_true, hg rfl, hq2], h1 _ rfl⟩)
theorem agL_sub {S T : List Nat} (h : agL S ls ls2) (hs : ∀ j ∈ T, j ∈ S) : agL T ls ls2 := ⟨h.1, fun j hj => h.2 j (hs j hj)⟩
theorem wrL_none (h : grp e ≠ 2) : wrL e = none := by
  obtain ⟨pc0, i, n, a, b, c0, pp, t⟩ := e
  unfold wrL
  dsimp only
  split <;> first | rfl | exact absurd rfl h
theorem stp_live {lv : List (Nat × List Nat)} (hp : e.1 = pc) (h5 : grp e ≠ 5) (h6 : grp e ≠ 6) (h : stp X e pc ls st w = some (pc', ls', st', w')) (ha : agL (lvAt lv pc) ls ls2) (hr : ∀ a, rdL e = some a → a ∈ lvAt lv pc) (hT : ∀ q ∈ sucs e, ∀ j ∈ lvAt lv q, wrL e = some j ∨ j ∈ lvAt lv pc) : ∃ ls3, stp X e pc ls2 st w = some (pc', ls3, st', w') ∧ agL (lvAt lv pc') ls' ls3 := by
  have go : grp e ≠ 2 → pc' ∈ sucs e → agL (lvAt lv pc') ls ls2 := fun h2 hin => agL_sub ha (fun j hj => by
    rcases hT pc' hin j hj with h1 | h1
    · rw [wrL_none h2] at h1; cases h1
    · exact h1)
  have hsn : grp e ≠ 0 → pc' = pc + e.2.2.1 → pc' ∈ sucs e := fun h0 hq => by
    obtain ⟨pc0, i, n, a, b, c0, pp, t⟩ := e
    rw [hq, ← hp]
    exact sucs_n h0 h5 h6
  unfold stp at h ⊢
  split at h
  · rename_i hg
    obtain ⟨rfl, q2, q3⟩ := stpJ_l (ls2 := ls2) h hp
    exact ⟨ls2, q3, go (by rw [hg]; decide) q2⟩
  · rename_i hg
    obtain ⟨rfl, q2, q3⟩ := stpV_l (ls2 := ls2) h
    exact ⟨ls2, q3, go (by rw [hg]; decide) (hsn (by rw [hg]; decide) q2)⟩
  · rename_i hg
    have q2 : pc' = pc + e.2.2.1 := (stpL_l (T := []) h ha hr (fun j hj => by cases hj)).1
    have q3 := hsn (by rw [hg]; decide) q2
    exact (stpL_l h ha hr (hT pc' q3)).2
  · rename_i hg
    obtain ⟨rfl, q2, q3⟩ := stpH_l (ls2 := ls2) h
    exact ⟨ls2, q3, go (by rw [hg]; decide) (hsn (by rw [hg]; decide) q2)⟩
  · rename_i hg
    obtain ⟨rfl, q2, q3⟩ := stpN_l (ls2 := ls2) h
    exact ⟨ls2, q3, go (by rw [hg]; decide) (hsn (by rw [hg]; decide) q2)⟩
  · cases h
theorem exec_live {mi : MI} {lv : List (Nat × List Nat)} (hok : lvOk (mC mi) lv = true) : ∀ {n d pc : Nat} {ls ls2 : XL} {st : List Value} {w : XW} {x : Option Value × XW}, agL (lvAt lv pc) ls ls2 → exec X n d mi pc ls st w = some x → exec X n d mi pc ls2 st w = some x := by
  intro n
  induction n with
  | zero => intro d pc ls ls2 st w x _ h; cases h
  | succ n ih =>
    intro d pc ls ls2 st w x ha h
    unfold exec at h ⊢
    split at h
    · cases h
    · rename_i e he
      obtain ⟨hp, hin⟩ := cdx_mem he
      have hk := List.all_eq_true.mp hok e hin
      rw [Bool.and_eq_true] at hk
      have hT : ∀ q ∈ sucs e, ∀ j ∈ lvAt lv q, wrL e = some j ∨ j ∈ lvAt lv pc := by
        intro q hq j hj
        have h1 := List.all_eq_true.mp (List.all_eq_true.mp hk.1 q hq) j hj
        rw [hp] at h1
        simpa using h1
      have hr : ∀ a, rdL e = some a → a ∈ lvAt lv pc := by
        intro a hq
        have h1 := hk.2
        rw [hq, hp] at h1
        simpa using h1
      split at h
      · exact h
      · rename_i hg
        have h3 : pc + 3 ∈ sucs e := by
          obtain ⟨pc0, i, n0, a, b, c0, pp, t⟩ := e
          dsimp only at hp
          subst hp
          unfold grp at hg
          dsimp only at hg
          split at hg <;> first | (cases hg; done) | exact List.mem_cons_self
        have hw : wrL e = none := wrL_none (by rw [hg]; decide)
        split at h
        · split at h
          · rename_i mj hmj
            split at h
            · rename_i hle
              rw [if_pos hle]
              split at h
              · rename_i r w1 h1
                exact ih (agL_sub ha (fun j hj => by
                  rcases hT _ h3 j hj with q | q
                  · rw [hw] at q; cases q
                  · exact q)) h
              · cases h
            · cases h
          · cases h
        · cases h
      · rename_i h5 h6
        split at h
        · rename_i pc' ls' st' w' hst
          obtain ⟨ls3, q1, q2⟩ := stp_live hp h5 h6 hst ha hr hT
          rw [q1]
          exact ih q2 h
        · cases h
def mskF (l : List Nat) : Nat → XL → XL
  | _, [] => []
  | i, v :: t => (if l.contains i then v else none) :: mskF l (i + 1) t
theorem mskF_len {l : List Nat} : ∀ {i : Nat} {ls : XL}, (mskF l i ls).length = ls.length
  | _, [] => rfl
  | i, v :: t => by simp only [mskF, List.length_cons, mskF_len]
theorem mskF_at {l : List Nat} : ∀ {i j : Nat} {ls : XL}, i + j ∈ l → (mskF l i ls)[j]? = ls[j]?
  | _, _, [], _ => rfl
  | i, 0, v :: t, h => by
    have h1 : l.contains i = true := by simpa using h
    simp only [mskF, h1, if_true]
    rfl
  | i, j + 1, v :: t, h => by
    simp only [mskF, List.getElem?_cons_succ]
    exact mskF_at (by rw [show i + 1 + j = i + (j + 1) by omega]; exact h)
theorem wp_msk {mi : MI} {d : Nat} {Q : Option Value → XW → Prop} {lv : List (Nat × List Nat)} (hok : lvOk (mC mi) lv = true) (hl : mskF (lvAt lv pc) 0 ls = ls') : wp X d mi pc ls st w Q ↔ wp X d mi pc ls' st w Q := by
  subst hl
  have h1 : agL (lvAt lv pc) ls (mskF (lvAt lv pc) 0 ls) := ⟨mskF_len.symm, fun j hj => (mskF_at (by rw [Nat.zero_add]; exact hj)).symm⟩
  have h2 : agL (lvAt lv pc) (mskF (lvAt lv pc) 0 ls) ls := ⟨mskF_len, fun j hj => mskF_at (by rw [Nat.zero_add]; exact hj)⟩
  exact ⟨fun ⟨n, r, w1, h, q⟩ => ⟨n, r, w1, exec_live hok h1 h, q⟩, fun ⟨n, r, w1, h, q⟩ => ⟨n, r, w1, exec_live hok h2 h, q⟩⟩
end LIVE
