/-! A test of an E, and what either side writes of it. -/
def CS (J : Nat → Nat → Int32) (r p : Nat) (o : List Nat) (I : Nat → Nat → Int32) : Prop := (∀ a b, ¬ (a = 64 ∧ b = 2) → ¬ (a = r ∧ b = 5) → a ≠ r + 3 → I a b = J a b) ∧ I 64 2 = nI p ∧ I r 5 = nI o.length ∧ ∀ k, k < o.length → I (r + 3) k = cT (o.getD k 0)
theorem CS.tx {J I : Nat → Nat → Int32} {r p sz : Nat} {o : List Nat} {tx : Nat → Nat} (h : CS J r p o I) (hr : 82 ≤ r) (hT : TxC J tx sz) : TxC I tx sz := by
  obtain ⟨h1, h2, h3⟩ := hT
  exact ⟨h1, by rw [h.1 64 1 (by decide) (by omega) (by omega)]; exact h2, fun k hk => by rw [h.1 65 k (by omega) (by omega) (by omega)]; exact h3 k hk⟩
theorem CS.place {J I : Nat → Nat → Int32} {r p q : Nat} {o : List Nat} (h : CS J r p o I) (hr : 82 ≤ r) : CS J r q o (updR I 64 2 (nI q)) := by
  obtain ⟨h1, h2, h3, h4⟩ := h
  refine ⟨fun a b g1 g2 g3 => ?_, updR_same, by rw [updR_k (by omega)]; exact h3, fun k hk => by rw [updR_k (by omega)]; exact h4 k hk⟩
  by_cases c : a = 64
  · subst c; rw [updR_j (fun q => g1 ⟨rfl, q⟩)]; exact h1 _ b g1 g2 g3
  · rw [updR_k c]; exact h1 a b g1 g2 g3
theorem getD_app {o : List Nat} {t k : Nat} : (o ++ [t]).getD k 0 = if k < o.length then o.getD k 0 else if k = o.length then t else 0 := by
  by_cases c : k < o.length
  · rw [if_pos c]
    simp only [List.getD_eq_getElem?_getD, List.getElem?_append_left c]
  · rw [if_neg c]
    by_cases e : k = o.length
    · subst e; rw [if_pos rfl]
      simp only [List.getD_eq_getElem?_getD, List.getElem?_concat_length, Option.getD_some]
    · rw [if_neg e]
      simp only [List.getD_eq_getElem?_getD]
      rw [List.getElem?_eq_none (by rw [List.length_append]; simp only [List.length_cons, List.length_nil]; omega)]
      rfl
theorem len_app {o : List Nat} {t : Nat} : (o ++ [t]).length = o.length + 1 := by rw [List.length_append]; rfl
theorem CS.push {J I : Nat → Nat → Int32} {r p t : Nat} {o : List Nat} (h : CS J r p o I) (hr : 82 ≤ r) : CS J r p (o ++ [t]) (updR (updR I (r + 3) o.length (cT t)) r 5 (nI (o.length + 1))) := by
  obtain ⟨h1, h2, h3, h4⟩ := h
  refine ⟨fun a b g1 g2 g3 => ?_, ?_, ?_, fun k hk => ?_⟩
  · by_cases c : a = r
    · subst c; rw [updR_j (fun q => g2 ⟨rfl, q⟩), updR_k (by omega)]; exact h1 _ b g1 g2 g3
    · rw [updR_k c, updR_k g3]; exact h1 a b g1 g2 g3
  · rw [updR_k (by omega), updR_k (by omega)]; exact h2
  · rw [updR_same, len_app]
  · rw [len_app] at hk
    rw [updR_k (by omega), getD_app]
    by_cases c : k < o.length
    · rw [updR_j (by omega), if_pos c]; exact h4 k c
    · have e : k = o.length := by omega
      subst e
      rw [updR_same, if_neg c, if_pos rfl]
def Stk (I : Nat → Nat → Int32) : List Nat → Prop
  | [] => True
  | x :: r => I 138 r.length = nI x ∧ x ≤ 127 ∧ Stk I r
theorem Stk.cg {I K : Nat → Nat → Int32} : ∀ {W : List Nat}, Stk I W → (∀ k, k < W.length → K 138 k = I 138 k) → Stk K W := by
  intro W
  induction W with
  | nil => intro _ _; trivial
  | cons x r ih =>
    intro h e
    simp only [List.length_cons] at e
    exact ⟨(e _ (by omega)).trans h.1, h.2.1, ih h.2.2 (fun k hk => e k (by omega))⟩
def MS (J : Nat → Nat → Int32) (h ix p : Nat) (o W : List Nat) (δ : Nat) (I : Nat → Nat → Int32) : Prop := (∀ a b, ¬ (a = 124 ∧ (b = 11 ∨ b = 12 ∨ b = 21 ∨ b = 22 ∨ b = 23)) → a ≠ 138 → ¬ (a = 137 ∧ 100 * h ≤ b) → ¬ (a = 136 ∧ b = ix) → I a b = J a b) ∧ I 124 11 = nI p ∧ I 124 21 = nI (100 * h + o.length) ∧ (∀ k, k < o.length → I 137 (100 * h + k) = mT (o.getD k 0)) ∧ I 124 22 = nI W.length ∧ Stk I W ∧ I 124 23 = nI δ
section MS
variable {J I : Nat → Nat → Int32} {h ix p q δ : Nat} {o W : List Nat}
theorem MS.tx {sz : Nat} {tx : Nat → Nat} (g : MS J h ix p o W δ I) (hT : TxM J tx sz) : TxM I tx sz := by
  obtain ⟨h1, h2, h3⟩ := hT
  exact ⟨h1, by rw [g.1 124 10 (by decide) (by decide) (by omega) (by omega)]; exact h2, fun k hk => by rw [g.1 131 k (by omega) (by decide) (by omega) (by omega)]; exact h3 k hk⟩
/-- a field is written -/
theorem MS.fld {b : Nat} {v : Int32} {p' δ' : Nat} (g : MS J h ix p o W δ I) (hb : b = 11 ∨ b = 12 ∨ b = 23) (e1 : updR I 124 b v 124 11 = nI p') (e2 : updR I 124 b v 124 23 = nI δ') : MS J h ix p' o W δ' (updR I 124 b v) := by
  obtain ⟨h1, h2, h3, h4, h5, h6, h7⟩ := g
  refine ⟨fun a c g1 g2 g3 g4 => ?_, e1, by rw [updR_j (by omega)]; exact h3, fun k hk => by rw [updR_k (by decide)]; exact h4 k hk, by rw [updR_j (by omega)]; exact h5, h6.cg (fun k hk => by rw [updR_k (by decide)]), e2⟩
  by_cases e : a = 124
  · subst e
    by_cases f : c = b
    · exact absurd ⟨rfl, by omega⟩ g1
    · rw [updR_j f]; exact h1 _ c g1 g2 g3 g4
  · rw [updR_k e]; exact h1 a c g1 g2 g3 g4
theorem MS.at (g : MS J h ix p o W δ I) : MS J h ix q o W δ (updR I 124 11 (nI q)) := g.fld (by decide) updR_same (by rw [updR_j (by decide)]; exact g.2.2.2.2.2.2)
theorem MS.dig {v : Int32} (g : MS J h ix p o W δ I) : MS J h ix p o W δ (updR I 124 12 v) := g.fld (by decide) (by rw [updR_j (by decide)]; exact g.2.1) (by rw [updR_j (by decide)]; exact g.2.2.2.2.2.2)
theorem MS.deep {δ' : Nat} (g : MS J h ix p o W δ I) : MS J h ix p o W δ' (updR I 124 23 (nI δ')) := g.fld (by decide) (by rw [updR_j (by decide)]; exact g.2.1) updR_same
theorem MS.pop {x : Nat} (g : MS J h ix p o (x :: W) δ I) : MS J h ix p o W δ (updR I 124 22 (nI W.length)) := by
  obtain ⟨h1, h2, h3, h4, h5, h6, h7⟩ := g
  refine ⟨fun a c g1 g2 g3 g4 => ?_, by rw [updR_j (by decide)]; exact h2, by rw [updR_j (by decide)]; exact h3, fun k hk => by rw [updR_k (by decide)]; exact h4 k hk, updR_same, h6.2.2.cg (fun k hk => by rw [updR_k (by decide)]), by rw [updR_j (by decide)]; exact h7⟩
  by_cases e : a = 124
  · subst e
    by_cases f : c = 22
    · exact absurd ⟨rfl, by omega⟩ g1
    · rw [updR_j f]; exact h1 _ c g1 g2 g3 g4
  · rw [updR_k e]; exact h1 a c g1 g2 g3 g4
theorem MS.push {x : Nat} (g : MS J h ix p o W δ I) (hx : x ≤ 127) : MS J h ix p o (x :: W) δ (updR (updR I 138 W.length (nI x)) 124 22 (nI (W.length + 1))) := by
  obtain ⟨h1, h2, h3, h4, h5, h6, h7⟩ := g
  refine ⟨fun a c g1 g2 g3 g4 => ?_, by rw [updR_j (by decide), updR_k (by decide)]; exact h2, by rw [updR_j (by decide), updR_k (by decide)]; exact h3, fun k hk => by rw [updR_k (by decide), updR_k (by decide)]; exact h4 k hk, updR_same, ⟨by rw [updR_k (by decide), updR_same], hx, h6.cg (fun k hk => by rw [updR_k (by decide), updR_j (by omega)])⟩, by rw [updR_j (by decide), updR_k (by decide)]; exact h7⟩
  by_cases e : a = 124
  · subst e
    by_cases f : c = 22
    · exact absurd ⟨rfl, by omega⟩ g1
    · rw [updR_j f, updR_k (by decide)]; exact h1 _ c g1 g2 g3 g4
  · rw [updR_k e, updR_k g2]; exact h1 a c g1 g2 g3 g4
theorem MS.emit {t : Nat} (g : MS J h ix p o W δ I) : MS J h ix p (o ++ [t]) W δ (updR (updR I 137 (100 * h + o.length) (mT t)) 124 21 (nI (100 * h + o.length + 1))) := by
  obtain ⟨h1, h2, h3, h4, h5, h6, h7⟩ := g
  refine ⟨fun a c g1 g2 g3 g4 => ?_, by rw [updR_j (by decide), updR_k (by decide)]; exact h2, by rw [updR_same, len_app]; rfl, fun k hk => ?_, by rw [updR_j (by decide), updR_k (by decide)]; exact h5, h6.cg (fun k hk => by rw [updR_k (by decide), updR_k (by decide)]), by rw [updR_j (by decide), updR_k (by decide)]; exact h7⟩
  · by_cases e : a = 124
    · subst e
      by_cases f : c = 21
      · exact absurd ⟨rfl, by omega⟩ g1
      · rw [updR_j f, updR_k (by decide)]; exact h1 _ c g1 g2 g3 g4
    · rw [updR_k e]
      by_cases f : a = 137
      · subst f
        rw [updR_j (fun q => g3 ⟨rfl, by omega⟩)]; exact h1 _ c g1 g2 g3 g4
      · rw [updR_k f]; exact h1 a c g1 g2 g3 g4
  · rw [len_app] at hk
    rw [updR_k (by decide), getD_app]
    by_cases c : k < o.length
    · rw [updR_j (by omega), if_pos c]; exact h4 k c
    · have e : k = o.length := by omega
      subst e
      rw [updR_same, if_neg c, if_pos rfl]
end MS
/-- what stands open as a not, on top -/
def peel : List Nat → List Nat
  | [] => []
  | x :: r => if x = 33 then peel r else x :: r
def nots : List Nat → Nat
  | [] => 0
  | x :: r => if x = 33 then nots r + 1 else 0
theorem peel_len : ∀ W : List Nat, (peel W).length + nots W = W.length := by
  intro W
  induction W with
  | nil => rfl
  | cons x r ih =>
    unfold peel nots
    by_cases c : x = 33
    · rw [if_pos c, if_pos c, List.length_cons]; omega
    · rw [if_neg c, if_neg c]; rfl
section E1
variable {X : Nat × (Nat → Int32)} {d : Nat} {L : Nat → Nat → Int64} {J : Nat → Nat → Int32} {h ix : Nat}
theorem p160 {I : Nat → Nat → Int32} {Q : Option Value → XW → Prop} {n : Nat} {x : Int32} (hn : n < 600) (e : I 124 21 = nI n) : wp X d m160 0 [some (.ref 124), some (.int x)] [] (K0, R0, I, L) Q ↔ Q none (K0, R0, updR (updR I 137 n x) 124 21 (nI (n + 1)), L) := by
  rw [b160_0, e, and_iff_right (inA_nI hn (by decide)), nI_clamp (by omega), nI_1]
theorem p161 {p : Nat} (hh : h < 6) : ∀ (W : List Nat) (o : List Nat) (δ : Nat) (I : Nat → Nat → Int32), MS J h ix p o W δ I → nots W ≤ δ → o.length + W.length ≤ 100 → ∃ I1, MS J h ix p (o ++ List.replicate (nots W) 0) (peel W) (δ - nots W) I1 ∧ ∀ Q : Option Value → XW → Prop, wp X (d + 1) m161 0 [some (.ref 124)] [] (K0, R0, I, L) Q ↔ Q none (K0, R0, I1, L) := by
  intro W
  induction W with
  | nil =>
    intro o δ I g _ _
    refine ⟨I, ?_, fun Q => ?_⟩
    · show MS J h ix p (o ++ []) [] (δ - 0) I
      rw [List.append_nil]
      exact g
    · rw [b161_0, g.2.2.2.2.1, if_neg (show ¬ (0 : Int32) < nI ([] : List Nat).length by decide)]
  | cons x r ih =>
    intro o δ I g hd hl
    obtain ⟨-, g2, g3, g4, g5, g6, g7⟩ := id g
    simp only [List.length_cons] at hl
    have e22 : I 124 22 - 1 = nI r.length := by rw [g5]; exact nI_pred _
    have top : 0 < I 124 22 := by rw [g5]; exact nI_lt (a := 0) (by simp only [List.length_cons]; omega) (by simp only [List.length_cons]; omega)
    by_cases c : x = 33
    · subst c
      have e0 : nots (33 :: r) = nots r + 1 := rfl
      have e1 : peel (33 :: r) = peel r := rfl
      rw [e0] at hd
      have f := ((g.emit (t := 0)).pop).deep (δ' := δ - 1)
      obtain ⟨I1, k1, k2⟩ := ih (o ++ [0]) (δ - 1) _ f (by omega) (by rw [len_app]; omega)
      refine ⟨I1, ?_, fun Q => ?_⟩
      · rw [e0, e1, List.replicate_succ, show δ - (nots r + 1) = δ - 1 - nots r by omega, show o ++ 0 :: List.replicate (nots r) 0 = o ++ [0] ++ List.replicate (nots r) 0 by rw [List.append_assoc]; rfl]
        exact k1
      · have e6 : I 138 r.length = 33 := g6.1
        rw [b161_0, if_pos top, e22, and_iff_right (inA_nI (by omega) (by decide)), nI_clamp (by omega), e6, if_pos rfl, p160 (show 100 * h + o.length < 600 by omega) g3]
        simp only [Option.toList, List.cons_append, List.nil_append]
        have e7 : ∀ v w : Int32, ∀ b, b ≠ 21 → updR (updR I 137 (100 * h + o.length) v) 124 21 w 124 b = I 124 b := fun v w b hb => by rw [updR_j hb, updR_k (by decide)]
        rw [b161_29, e7 _ _ 22 (by decide), e7 _ _ 23 (by decide), e22, g7, show nI δ - 1 = nI (δ - 1) from nI_sub (b := 1) (show 1 ≤ δ by omega)]
        exact k2 Q
    · have e0 : nots (x :: r) = 0 := by unfold nots; rw [if_neg c]
      have e1 : peel (x :: r) = x :: r := by unfold peel; rw [if_neg c]
      refine ⟨I, ?_, fun Q => ?_⟩
      · rw [e0, e1]
        show MS J h ix p (o ++ []) (x :: r) (δ - 0) I
        rw [List.append_nil]
        exact g
      · have e6 : I 138 r.length = nI x := g6.1
        rw [b161_0, if_pos top, e22, and_iff_right (inA_nI (by omega) (by decide)), nI_clamp (by omega), e6, if_neg (show ¬ nI x = (33 : Int32) from fun q => c ((nI_eq (b := 33) (by have := g6.2.1; omega) (by decide)).mp q))]
theorem p61 {r n : Nat} {I : Nat → Nat → Int32} {Q : Option Value → XW → Prop} {x : Int32} (hr : isInn r) (hn : n < 100) (e : I r 5 = nI n) : wp X d m61 0 [some (.ref r), some (.int x)] [] (K0, R0, I, L) Q ↔ Q none (K0, R0, updR (updR I (r + 3) n x) r 5 (nI (n + 1)), L) := by
  rw [b61_0 hr, e, if_neg (nI_pos (by omega)), if_pos (show nI n < (100 : Int32) from nI_lt (b := 100) (by omega) (by decide)), and_iff_right (inA_nI hn (by decide)), nI_clamp (by omega), nI_1]
end E1
def ltL : Nat → Int32 := lsF [99, 119, 107, 118, 108, 110]
def btL : Nat → Int32 := lsF [60, 61, 62]
/-- a test, at p -/
def tst (s : Nat → Int32) (p : Nat) : Nat × Option Nat := match oneOf (s p) ltL 6 0 with
  | none => (p, none)
  | some l => match oneOf (s (p + 1)) btL 3 0 with
    | none => (p + 1, none)
    | some b => ((nmb s (p + 2)).1, (nmb s (p + 2)).2.map (fun n => (l * 3 + b) * 100 + n + 3))
theorem lt1 {tx : Nat → Nat} {sz : Nat} (hS : TxS tx sz) (p : Nat) : (if sg tx sz p = 99 then (0 : Int32) else (if sg tx sz p = 107 then 2 else (if sg tx sz p = 108 then 4 else (if sg tx sz p = 110 then 5 else (if sg tx sz p = 118 then 3 else (if sg tx sz p = 119 then 1 else (-1))))))) = opI (oneOf (sg tx sz p) ltL 6 0) ∧ (∀ l, l < 7 → oneOf (sg tx sz p) ltL 6 0 = some l → l < 6) := sg_all (fun x => (if x = 99 then (0 : Int32) else (if x = 107 then 2 else (if x = 108 then 4 else (if x = 110 then 5 else (if x = 118 then 3 else (if x = 119 then 1 else (-1))))))) = opI (oneOf x ltL 6 0) ∧ (∀ l, l < 7 → oneOf x ltL 6 0 = some l → l < 6)) (by decide +kernel) hS p
theorem bt1 {tx : Nat → Nat} {sz : Nat} (hS : TxS tx sz) (p : Nat) : (if sg tx sz p < 60 then (0 : Int32) else if 62 < sg tx sz p then 0 else 1) = bI (oneOf (sg tx sz p) btL 3 0).isSome ∧ (∀ b, b < 4 → oneOf (sg tx sz p) btL 3 0 = some b → sg tx sz p - 60 = nI b) := sg_all (fun x => (if x < 60 then (0 : Int32) else if 62 < x then 0 else 1) = bI (oneOf x btL 3 0).isSome ∧ (∀ b, b < 4 → oneOf x btL 3 0 = some b → x - 60 = nI b)) (by decide +kernel) hS p
theorem oneOf_lt {x : Int32} {cs : Nat → Int32} : ∀ n i k, oneOf x cs n i = some k → i ≤ k ∧ k < i + n ∧ x = cs k := by
  intro n
  induction n with
  | zero => intro i k h; cases h
  | succ n ih =>
    intro i k h
    unfold oneOf at h
    by_cases c : x = cs i
    · rw [if_pos c] at h
      simp only [Option.some.injEq] at h
      subst h
      exact ⟨Nat.le_refl _, by omega, c⟩
    · rw [if_neg c] at h
      have := ih (i + 1) k h
      exact ⟨by omega, by omega, this.2.2⟩
theorem lt_in {tx : Nat → Nat} {sz p k : Nat} (h : oneOf (sg tx sz p) ltL 6 0 = some k) : k < 6 ∧ p < sz := by
  obtain ⟨-, h1, h2⟩ := oneOf_lt 6 0 k h
  have : ∀ k, k < 6 → ltL k ≠ -1 := by decide
  exact ⟨by omega, sg_lt h2 (this k (by omega))⟩
theorem bt_in {tx : Nat → Nat} {sz p k : Nat} (h : oneOf (sg tx sz p) btL 3 0 = some k) : k < 3 ∧ p < sz := by
  obtain ⟨-, h1, h2⟩ := oneOf_lt 3 0 k h
  have : ∀ k, k < 3 → btL k ≠ -1 := by decide
  exact ⟨by omega, sg_lt h2 (this k (by omega))⟩
theorem mT_tok {l b n : Nat} (hb : b < 3) (hn : n ≤ 99) : mT ((l * 3 + b) * 100 + n + 3) = nI (1000 * l + 100 * b + n) := by
  show nI (1000 * (((l * 3 + b) * 100 + n) / 300) + 100 * (((l * 3 + b) * 100 + n) / 100 % 3) + ((l * 3 + b) * 100 + n) % 100) = _
  rw [show ((l * 3 + b) * 100 + n) / 300 = l by omega, show ((l * 3 + b) * 100 + n) / 100 % 3 = b by omega, show ((l * 3 + b) * 100 + n) % 100 = n by omega]
theorem tst_le {tx : Nat → Nat} {sz p : Nat} (hS : TxS tx sz) (hp : p ≤ sz) : p ≤ (tst (sg tx sz) p).1 ∧ (tst (sg tx sz) p).1 ≤ sz ∧ ∀ t, (tst (sg tx sz) p).2 = some t → 3 ≤ t ∧ t < 1803 ∧ p + 3 ≤ (tst (sg tx sz) p).1 := by
  unfold tst
  cases h1 : oneOf (sg tx sz p) ltL 6 0 with
  | none => exact ⟨Nat.le_refl _, hp, fun t h => by cases h⟩
  | some l =>
    obtain ⟨a1, a2⟩ := lt_in h1
    simp only []
    cases h2 : oneOf (sg tx sz (p + 1)) btL 3 0 with
    | none => exact ⟨Nat.le_succ _, a2, fun t h => by cases h⟩
    | some b =>
      obtain ⟨b1, b2⟩ := bt_in h2
      simp only []
      obtain ⟨c1, c2, c3⟩ := nmb_le hS (p := p + 2) (by omega)
      refine ⟨by omega, c2, fun t h => ?_⟩
      cases h3 : (nmb (sg tx sz) (p + 2)).2 with
      | none => rw [h3] at h; cases h
      | some n =>
        rw [h3] at h
        have h : some ((l * 3 + b) * 100 + n + 3) = some t := h
        simp only [Option.some.injEq] at h
        obtain ⟨c4, c5⟩ := c3 n h3
        exact ⟨by omega, by omega, by omega⟩
section E2
variable {X : Nat × (Nat → Int32)} {d : Nat} {L : Nat → Nat → Int64} {J : Nat → Nat → Int32} {tx : Nat → Nat} {sz : Nat}
theorem p57t (hS : TxS tx sz) {I : Nat → Nat → Int32} {r p n : Nat} {x2 x3 : Int32} (c33 : ¬ x3 = 33) (c40 : ¬ x3 = 40) (hr : isInn r) (hr2 : 82 ≤ r) (hT : TxC I tx sz) (hp : I 64 2 = nI p) (hs : p ≤ sz) (hn : p + 3 ≤ 100 → n < 100) (e : I r 5 = nI n) (Q : Option Value → XW → Prop) : wp X (d + 6) m57 24 [some (.ref 64), some (.ref r), some (.int x2), some (.int x3), none, none, none] [] (K0, R0, I, L) Q ↔ match (tst (sg tx sz) p).2 with
    | none => Q (some (.int 0)) (K0, R0, updR I 64 2 (nI (tst (sg tx sz) p).1), L)
    | some t => Q (some (.int 1)) (K0, R0, updR (updR (updR I 64 2 (nI (tst (sg tx sz) p).1)) (r + 3) n (cT t)) r 5 (nI (n + 1)), L) := by
  rw [b57_24 hr, if_neg c40, if_neg c33, b59_0 str_ok5]
  refine (p59 (i := 0) sv5 hT hp hs 6 rfl).trans ?_
  unfold tst
  show (match oneOf (sg tx sz p) ltL 6 0 with
    | none => _
    | some k => _) ↔ _
  cases h1 : oneOf (sg tx sz p) ltL 6 0 with
  | none =>
    simp only [Option.toList, List.cons_append, List.nil_append]
    rw [b57_108 hr, if_pos (by decide), b57_125 hr, if_pos (by decide), b57_140 hr, if_pos (by decide), updR_set hp]
  | some l =>
    obtain ⟨a1, a2⟩ := lt_in h1
    simp only [Option.toList, List.cons_append, List.nil_append]
    rw [b57_108 hr, if_neg (nI_pos (by omega)), b59_0 str_ok6]
    refine (p59 (i := 0) sv6 hT.at updR_same (by omega) 3 rfl).trans ?_
    show (match oneOf (sg tx sz (p + 1)) btL 3 0 with
      | none => _
      | some k => _) ↔ _
    cases h2 : oneOf (sg tx sz (p + 1)) btL 3 0 with
    | none =>
      simp only [Option.toList, List.cons_append, List.nil_append]
      rw [b57_125 hr, if_pos (by decide), b57_140 hr, if_pos (by decide)]
    | some b =>
      obtain ⟨b1, b2⟩ := bt_in h2
      simp only [Option.toList, List.cons_append, List.nil_append]
      rw [b57_125 hr, if_neg (nI_pos (by omega)), updR_two, p54 hS hT.at updR_same (by omega), updR_two]
      simp only [Option.toList, List.cons_append, List.nil_append]
      rw [b57_140 hr]
      obtain ⟨c1, c2, c3⟩ := nmb_le hS (p := p + 2) (by omega)
      cases h3 : (nmb (sg tx sz) (p + 2)).2 with
      | none =>
        rw [if_pos (show opI none < 0 by decide)]
        exact Iff.rfl
      | some k =>
        obtain ⟨c4, c5⟩ := c3 k h3
        rw [if_neg (show ¬ opI (some k) < 0 from nI_pos (by omega)), b60_0 hr, show (nI l * 3 + nI b) * 100 + opI (some k) = cT ((l * 3 + b) * 100 + k + 3) by
          show (nI l * nI 3 + nI b) * nI 100 + nI k = nI ((l * 3 + b) * 100 + k)
          rw [nI_mul, nI_add, nI_mul, nI_add], p61 hr (hn (by have := hT.1; omega)) (by rw [updR_k (by omega)]; exact e)]
        simp only [Option.toList, List.cons_append, List.nil_append]
        rw [b60_14]
        simp only [Option.toList, List.cons_append, List.nil_append]
        rw [b57_159]
        exact Iff.rfl
theorem p158 (hS : TxS tx sz) {h ix p δ : Nat} (hh : h < 6) {I : Nat → Nat → Int32} {o W : List Nat} (hT : TxM J tx sz) (g : MS J h ix p o W δ I) (hs : p ≤ sz) (hd : nots W ≤ δ) (hl : o.length + W.length ≤ p) : ∃ I1, (match (tst (sg tx sz) p).2 with
    | none => MS J h ix (tst (sg tx sz) p).1 o W δ I1 ∧ ∀ Q : Option Value → XW → Prop, wp X (d + 6) m158 0 [some (.ref 124), none, none] [] (K0, R0, I, L) Q ↔ Q (some (.int 0)) (K0, R0, I1, L)
    | some t => MS J h ix (tst (sg tx sz) p).1 (o ++ [t] ++ List.replicate (nots W) 0) (peel W) (δ - nots W) I1 ∧ ∀ Q : Option Value → XW → Prop, wp X (d + 6) m158 0 [some (.ref 124), none, none] [] (K0, R0, I, L) Q ↔ Q (some (.int 1)) (K0, R0, I1, L)) := by
  have h100 := hT.1
  have hp := g.2.1
  have top : ∀ Q : Option Value → XW → Prop, wp X (d + 6) m158 0 [some (.ref 124), none, none] [] (K0, R0, I, L) Q ↔ (if opI (oneOf (sg tx sz p) ltL 6 0) < 0 then Q (some (.int 0)) (K0, R0, I, L) else wp X (d + 5) m152 0 [some (.ref 124)] [] (K0, R0, updR I 124 11 (nI (p + 1)), L) (fun r w1 => wp X (d + 6) m158 29 [some (.ref 124), some (.int (opI (oneOf (sg tx sz p) ltL 6 0))), none] (r.toList ++ []) w1 Q)) := by
    intro Q
    rw [b158_0, p152 (g.tx hT) hp hs]
    simp only [Option.toList, List.cons_append, List.nil_append]
    rw [b158_5, b159_0, (lt1 hS p).1]
    simp only [Option.toList, List.cons_append, List.nil_append]
    rw [b158_8, hp, nI_1]
    exact Iff.rfl
  unfold tst
  cases h1 : oneOf (sg tx sz p) ltL 6 0 with
  | none =>
    rw [h1] at top
    exact ⟨I, g, fun Q => (top Q).trans (by rw [if_pos (show opI none < 0 by decide)])⟩
  | some l =>
    obtain ⟨a1, a2⟩ := lt_in h1
    rw [h1] at top
    have top2 : ∀ Q : Option Value → XW → Prop, wp X (d + 6) m158 0 [some (.ref 124), none, none] [] (K0, R0, I, L) Q ↔ (if bI (oneOf (sg tx sz (p + 1)) btL 3 0).isSome = 0 then Q (some (.int 0)) (K0, R0, updR I 124 11 (nI (p + 1)), L) else wp X (d + 5) m155 0 [some (.ref 124), none] [] (K0, R0, updR I 124 11 (nI (p + 2)), L) (fun r w1 => wp X (d + 6) m158 58 [some (.ref 124), some (.int (nI l)), some (.int (sg tx sz (p + 1)))] (r.toList ++ []) w1 Q)) := by
      intro Q
      rw [top Q, if_neg (show ¬ opI (some l) < 0 from nI_pos (by omega)), p152 (g.at.tx hT) updR_same (by omega)]
      simp only [Option.toList, List.cons_append, List.nil_append]
      rw [b158_29, b142_0, (bt1 hS (p + 1)).1]
      simp only [Option.toList, List.cons_append, List.nil_append]
      rw [b158_39, updR_same, nI_1, updR_two]
      exact Iff.rfl
    simp only []
    cases h2 : oneOf (sg tx sz (p + 1)) btL 3 0 with
    | none =>
      rw [h2] at top2
      exact ⟨_, g.at, fun Q => (top2 Q).trans (by rw [if_pos (show bI (none : Option Nat).isSome = 0 by decide)])⟩
    | some b =>
      obtain ⟨b1, b2⟩ := bt_in h2
      have e60 := (bt1 hS (p + 1)).2 b (by omega) h2
      rw [h2] at top2
      obtain ⟨c1, c2, c3⟩ := nmb_le hS (p := p + 2) (by omega)
      have top3 := fun Q : Option Value → XW → Prop => ((top2 Q).trans (iff_of_eq (if_neg (show ¬ bI (some b).isSome = 0 from (by decide : ¬ bI true = 0))))).trans (p155 (d := d + 2) hS (g.at.tx hT) updR_same (by omega))
      simp only []
      cases h3 : (nmb (sg tx sz) (p + 2)).2 with
      | none =>
        rw [h3] at top3
        have q2 : (nmb (sg tx sz) (p + 2)).1 = p + 2 := by
          unfold nmb at h3 ⊢
          split
          · rename_i z
            rw [if_pos z] at h3
            split at h3 <;> cases h3
          · rfl
        refine ⟨updR I 124 11 (nI (p + 2)), ?_, fun Q => (top3 Q).trans ?_⟩
        · rw [q2]; exact g.at
        · simp only [Option.toList, List.cons_append, List.nil_append]
          rw [b158_58, if_pos rfl]
      | some k =>
        obtain ⟨c4, c5⟩ := c3 k h3
        rw [h3] at top3
        have g1 : MS J h ix (nmb (sg tx sz) (p + 2)).1 o W δ (updR (updR (updR I 124 11 (nI (p + 2))) 124 12 (nI k)) 124 11 (nI (nmb (sg tx sz) (p + 2)).1)) := ((g.at (q := p + 2)).dig (v := nI k)).at
        have e12 : updR (updR (updR I 124 11 (nI (p + 2))) 124 12 (nI k)) 124 11 (nI (nmb (sg tx sz) (p + 2)).1) 124 12 = nI k := by rw [updR_j (by decide), updR_same]
        have h600 : 100 * h + o.length < 600 := by omega
        obtain ⟨I1, k1, k2⟩ := p161 (X := X) (d := d + 4) (L := L) hh W (o ++ [(l * 3 + b) * 100 + k + 3]) δ _ (g1.emit (t := (l * 3 + b) * 100 + k + 3)) hd (by rw [len_app]; omega)
        refine ⟨I1, k1, fun Q => (top3 Q).trans ?_⟩
        simp only [Option.toList, List.cons_append, List.nil_append]
        rw [b158_58, if_neg (by decide), e12, e60, show (1000 : Int32) * nI l + 100 * nI b + nI k = mT ((l * 3 + b) * 100 + k + 3) by
          rw [mT_tok b1 c4]
          show nI 1000 * nI l + nI 100 * nI b + nI k = _
          rw [nI_mul, nI_mul, nI_add, nI_add], p160 h600 g1.2.2.1]
        simp only [Option.toList, List.cons_append, List.nil_append]
        rw [b158_85, k2]
        simp only [Option.toList, List.cons_append, List.nil_append]
        rw [b158_89]
end E2
