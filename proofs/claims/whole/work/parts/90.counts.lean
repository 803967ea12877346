/-! The clauses of an inn, one after another. -/
def CLS (r c : Nat) (wd nb mm : Nat → Nat) (o : List Nat) (p : Nat) (J I : Nat → Nat → Int32) : Prop := CFr r J I ∧ CP r p (cntA wd c) o I ∧ I r 0 = nI (laN wd nb 2 c 2) ∧ I r 1 = nI (laN wd nb 3 c 1) ∧ ∀ j, j < c → wd j < 2 → I (r + 1) (cntA wd j) = amI (wd j) (nb j) ∧ I (r + 2) (cntA wd j) = nI (loA mm (j + 1))
def MFL (h : Nat) (I I1 : Nat → Nat → Int32) : Prop := ∀ a b, ¬ (a = 124 ∧ (b = 11 ∨ b = 12 ∨ b = 21 ∨ b = 22 ∨ b = 23)) → a ≠ 138 → ¬ (a = 137 ∧ 100 * h ≤ b) → ¬ ((a = 133 ∨ a = 134 ∨ a = 135 ∨ a = 136) ∧ 10 * h ≤ b ∧ b < 10 * h + 10) → ¬ (a = 132 ∧ b = h) → I1 a b = I a b
def MLS (h c : Nat) (wd nb mm : Nat → Nat) (o : List Nat) (p : Nat) (J I : Nat → Nat → Int32) : Prop := MFL h J I ∧ MP h p o I ∧ ∀ j, j < c → I 133 (10 * h + j) = nI (wd j) ∧ I 134 (10 * h + j) = nI (nb j) ∧ (wd j < 2 → I 135 (10 * h + j) = nI (100 * h + loA mm j) ∧ I 136 (10 * h + j) = nI (100 * h + loA mm j + mm j))
def PF (c : Nat) (wd nb mm : Nat → Nat) (o : List Nat) : Prop := o.length = loA mm c ∧ (∀ j, j < c → wd j ≤ 3 ∧ (wd j < 2 → okE (fun k => o.getD k 0) (loA mm j) (mm j)) ∧ (2 ≤ wd j → mm j = 0)) ∧ ∀ j, nb j ≤ 99
theorem MFr.mfl {h c : Nat} {I I1 : Nat → Nat → Int32} (g : MFr h (10 * h + c) I I1) (hc : c < 10) : MFL h I I1 := fun a b h1 h2 h3 h4 h5 => g a b h1 h2 h3 (fun z => h4 ⟨z.1, by omega, by omega⟩)
theorem MFL.trans {h : Nat} {I J K : Nat → Nat → Int32} (a : MFL h I J) (b : MFL h J K) : MFL h I K := fun x y h1 h2 h3 h4 h5 => (b x y h1 h2 h3 h4 h5).trans (a x y h1 h2 h3 h4 h5)
theorem MFL.tx {h : Nat} {I J : Nat → Nat → Int32} {tx : Nat → Nat} {sz : Nat} (g : MFL h I J) (hT : TxM I tx sz) : TxM J tx sz := hT.cg (g 124 10 (by decide) (by decide) (by omega) (by omega) (by omega)) (by funext k; exact g 131 k (by omega) (by decide) (by omega) (by omega) (by omega))
theorem CFr.tx {r : Nat} {I J : Nat → Nat → Int32} {tx : Nat → Nat} {sz : Nat} (g : CFr r I J) (hr : 82 ≤ r) (hT : TxC I tx sz) : TxC J tx sz := by
  obtain ⟨h1, h2, h3⟩ := hT
  exact ⟨h1, by rw [g 64 1 (by decide) (by omega) (by omega) (by omega) (by omega)]; exact h2, fun k hk => by rw [g 65 k (by omega) (by omega) (by omega) (by omega) (by omega)]; exact h3 k hk⟩
theorem wk_at : ∀ (ts : List Nat) (D B k : Nat), wk ts D B → k < ts.length → okB (ts.getD k 0) (en (ts.take k) D) B := by
  intro ts
  induction ts with
  | nil => intro D B k _ hk; exact absurd hk (Nat.not_lt_zero _)
  | cons t r ih =>
    intro D B k h hk
    cases k with
    | zero => exact h.1
    | succ k => exact ih (dpN t D) B k h.2 (by simp only [List.length_cons] at hk; omega)
theorem okE_cg {T T' : Nat → Nat} {lo m : Nat} (h : okE T lo m) (e : ∀ k, k < m → T' (lo + k) = T (lo + k)) : okE T' lo m := by
  have dp : ∀ k, k ≤ m → dpA T' lo k = dpA T lo k := fun k hk => itr_congr k (fun j hj d => by rw [e j (by omega)]) 0
  exact ⟨fun k hk => by rw [e k hk, dp k (by omega)]; exact h.1 k hk, by rw [dp m (Nat.le_refl _)]; exact h.2⟩
theorem getD_left {o ts : List Nat} {k : Nat} (h : k < o.length) : (o ++ ts).getD k 0 = o.getD k 0 := by
  simp only [List.getD_eq_getElem?_getD, List.getElem?_append_left h]
theorem getD_right {o ts : List Nat} {k : Nat} : (o ++ ts).getD (o.length + k) 0 = ts.getD k 0 := by
  simp only [List.getD_eq_getElem?_getD]
  rw [List.getElem?_append_right (by omega), show o.length + k - o.length = k by omega]
theorem okE_good {o ts : List Nat} (h : Good 11 ts) : okE (fun k => (o ++ ts).getD k 0) o.length ts.length := by
  obtain ⟨h1, h2⟩ := h 0
  have dp : ∀ k, k ≤ ts.length → dpA (fun k => (o ++ ts).getD k 0) o.length k = en (ts.take k) 0 := by
    intro k
    induction k with
    | zero => intro _; rfl
    | succ k ih =>
      intro hk
      have e : ts.take (k + 1) = ts.take k ++ [ts.getD k 0] := by
        rw [List.take_succ]
        simp only [List.getD_eq_getElem?_getD]
        rw [List.getElem?_eq_getElem (by omega)]
        rfl
      show dpN ((o ++ ts).getD (o.length + k) 0) (dpA (fun k => (o ++ ts).getD k 0) o.length k) = _
      rw [ih (by omega), e, en_app, getD_right]
      rfl
  refine ⟨fun k hk => ?_, ?_⟩
  · rw [dp k (by omega)]
    show okN ((o ++ ts).getD (o.length + k) 0) _
    rw [getD_right]
    have := wk_at ts 0 (0 + 11) k h1 hk
    generalize ts.getD k 0 = t at this ⊢
    generalize en (ts.take k) 0 = D at this ⊢
    unfold okB at this
    match t, this with
    | 0, this => show 1 ≤ D; omega
    | 1, this => show 2 ≤ D; omega
    | 2, this => show 2 ≤ D; omega
    | t + 3, this => exact ⟨by omega, by omega⟩
  · rw [dp _ (Nat.le_refl _), List.take_length]
    exact h2
def upd1 (f : Nat → Nat) (i v : Nat) (j : Nat) : Nat := if j = i then v else f j
theorem upd1_lt {f : Nat → Nat} {i v j : Nat} (h : j < i) : upd1 f i v j = f j := by unfold upd1; rw [if_neg (by omega)]
theorem upd1_at {f : Nat → Nat} {i v : Nat} : upd1 f i v i = v := by unfold upd1; rw [if_pos rfl]
theorem lo_cg {mm : Nat → Nat} {i v : Nat} : ∀ c, c ≤ i → loA (upd1 mm i v) c = loA mm c := fun c hc => itr_congr c (fun j hj s => by rw [upd1_lt (by omega)]) 0
theorem cn_cg {wd : Nat → Nat} {i v : Nat} : ∀ c, c ≤ i → cntA (upd1 wd i v) c = cntA wd c := fun c hc => itr_congr c (fun j hj s => by rw [upd1_lt (by omega)]) 0
theorem la_cg {wd nb : Nat → Nat} {i v u k df : Nat} : laN (upd1 wd i v) (upd1 nb i u) k i df = laN wd nb k i df := itr_congr i (fun j hj s => by rw [upd1_lt (by omega), upd1_lt (by omega)]) df
section STEP
variable {r h c p q w n : Nat} {wd nb mm : Nat → Nat} {o ts : List Nat} {J I I1 : Nat → Nat → Int32}
theorem PF.step (g : PF c wd nb mm o) (hw : w ≤ 3) (hn : n ≤ 99) (g1 : w < 2 → Good 11 ts) (g2 : 2 ≤ w → ts = []) : PF (c + 1) (upd1 wd c w) (upd1 nb c n) (upd1 mm c ts.length) (o ++ ts) := by
  obtain ⟨h1, h2, h3⟩ := g
  have el : loA (upd1 mm c ts.length) (c + 1) = loA mm c + ts.length := by
    show loA (upd1 mm c ts.length) c + upd1 mm c ts.length c = _
    rw [lo_cg c (Nat.le_refl _), upd1_at]
  refine ⟨by rw [List.length_append, el, h1], fun j hj => ?_, fun j => ?_⟩
  · by_cases e : j = c
    · subst e
      rw [upd1_at, upd1_at, lo_cg j (Nat.le_refl _), ← h1]
      exact ⟨hw, fun z => okE_good (g1 z), fun z => by rw [g2 z]; rfl⟩
    · rw [upd1_lt (show j < c by omega), upd1_lt (show j < c by omega), lo_cg j (by omega)]
      obtain ⟨k1, k2, k3⟩ := h2 j (by omega)
      refine ⟨k1, fun z => okE_cg (k2 z) (fun k hk => getD_left ?_), k3⟩
      have a := @loA_le mm c (c - (j + 1)) (j + 1) (by omega)
      have b : loA mm (j + 1) = loA mm j + mm j := rfl
      omega
  · unfold upd1
    split
    · exact hn
    · exact h3 j
theorem CLS.step (g : CLS r c wd nb mm o p J I) (f : PF c wd nb mm o) (k : ClA r (cntA wd c) o w n ts q I I1) : CLS r (c + 1) (upd1 wd c w) (upd1 nb c n) (upd1 mm c ts.length) (o ++ ts) q J I1 := by
  obtain ⟨g1, g2, g3, g4, g5⟩ := g
  obtain ⟨k1, k2, k3, k4, k5⟩ := k
  have el : loA (upd1 mm c ts.length) (c + 1) = loA mm c + ts.length := by
    show loA (upd1 mm c ts.length) c + upd1 mm c ts.length c = _
    rw [lo_cg c (Nat.le_refl _), upd1_at]
  have ec : cntA (upd1 wd c w) (c + 1) = if w < 2 then cntA wd c + 1 else cntA wd c := by
    show (if upd1 wd c w c < 2 then cntA (upd1 wd c w) c + 1 else cntA (upd1 wd c w) c) = _
    rw [cn_cg c (Nat.le_refl _), upd1_at]
  have ea : ∀ k df, laN (upd1 wd c w) (upd1 nb c n) k (c + 1) df = if w = k then n else laN wd nb k c df := fun k df => by
    show (if upd1 wd c w c = k then upd1 nb c n c else laN (upd1 wd c w) (upd1 nb c n) k c df) = _
    rw [la_cg, upd1_at, upd1_at]
  refine ⟨g1.trans k1, by rw [ec]; exact k2, ?_, ?_, fun j hj hw => ?_⟩
  · rw [k3, ea, g3]; split <;> rfl
  · rw [k4, ea, g4]; split <;> rfl
  · obtain ⟨k6, k7⟩ := k5 (cntA (upd1 wd c w) j)
    by_cases e : j = c
    · subst e
      rw [upd1_at] at hw ⊢
      rw [cn_cg j (Nat.le_refl _)] at k6 k7 ⊢
      rw [k6, k7, upd1_at, el, if_pos ⟨hw, rfl⟩, if_pos ⟨hw, rfl⟩, List.length_append, f.1]
      exact ⟨rfl, rfl⟩
    · have jc : j < c := by omega
      rw [upd1_lt jc] at hw ⊢
      rw [cn_cg j (by omega)] at k6 k7 ⊢
      rw [upd1_lt jc, lo_cg (j + 1) (by omega)]
      have a := @cntA_le wd c (c - (j + 1)) (j + 1) (by omega)
      have b : cntA wd (j + 1) = if wd j < 2 then cntA wd j + 1 else cntA wd j := rfl
      rw [if_pos hw] at b
      have ne : ¬ (w < 2 ∧ cntA wd j = cntA wd c) := fun z => by omega
      rw [k6, k7, if_neg ne, if_neg ne]
      exact g5 j jc hw
theorem MLS.step (g : MLS h c wd nb mm o p J I) (f : PF c wd nb mm o) (hc : c < 10) (k : MlA h (10 * h + c) o w n ts q I I1) : MLS h (c + 1) (upd1 wd c w) (upd1 nb c n) (upd1 mm c ts.length) (o ++ ts) q J I1 := by
  obtain ⟨g1, g2, g3⟩ := g
  obtain ⟨k1, k2, k3, k4, k5⟩ := k
  refine ⟨g1.trans (k1.mfl hc), k2, fun j hj => ?_⟩
  by_cases e : j = c
  · subst e
    rw [upd1_at, upd1_at, upd1_at, lo_cg j (Nat.le_refl _), ← f.1]
    refine ⟨k3, k4, fun z => ⟨(k5 z).1, ?_⟩⟩
    rw [(k5 z).2, List.length_append, Nat.add_assoc]
  · have jc : j < c := by omega
    rw [upd1_lt jc, upd1_lt jc, upd1_lt jc, lo_cg j (by omega)]
    have fr : ∀ a, a = 133 ∨ a = 134 ∨ a = 135 ∨ a = 136 → I1 a (10 * h + j) = I a (10 * h + j) := fun a ha => k1 a _ (by omega) (by omega) (by omega) (fun z => by omega)
    rw [fr 133 (by decide), fr 134 (by decide), fr 135 (by decide), fr 136 (by decide)]
    exact g3 j jc
end STEP
