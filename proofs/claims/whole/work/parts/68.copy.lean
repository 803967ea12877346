/-! Rows copied in a loop; the image, and back to it: the reference. -/
def shF (c : Nat → Bool) (f : Nat → Nat) (k : Nat) (J : Nat → Nat → Int32) : Nat → Nat → Int32 := fun a j => if j = k ∧ c a = true then J (f a) k else J a j
theorem sh_row {c : Nat → Bool} {f : Nat → Nat} {J : Nat → Nat → Int32} {n a : Nat} (h : c a = false) : itr (shF c f) n J a = J a := by
  induction n with
  | zero => rfl
  | succ n ih =>
    show (shF c f n (itr (shF c f) n J)) a = J a
    rw [← ih]
    funext j
    unfold shF
    rw [if_neg (fun q => by rw [h] at q; exact absurd q.2 (by decide))]
theorem sh_in {c : Nat → Bool} {f : Nat → Nat} {J : Nat → Nat → Int32} {n a b j : Nat} (h : c a = true) (hj : j < n) (hb : f a = b) (h2 : c b = false) : itr (shF c f) n J a j = J b j := by
  induction n with
  | zero => exact absurd hj (Nat.not_lt_zero _)
  | succ n ih =>
    have e : itr (shF c f) (n + 1) J = shF c f n (itr (shF c f) n J) := rfl
    rw [e]
    by_cases q : j = n
    · subst q
      show (if j = j ∧ c a = true then itr (shF c f) j J (f a) j else itr (shF c f) j J a j) = J b j
      rw [if_pos ⟨rfl, h⟩, hb, sh_row h2]
    · show (if j = n ∧ c a = true then itr (shF c f) n J (f a) n else itr (shF c f) n J a j) = J b j
      rw [if_neg (fun z => q z.1)]
      exact ih (by omega)
def im_c1 (a : Nat) : Bool := decide ((150 ≤ a ∧ a ≤ 154) ∨ a = 156 ∨ a = 157)
def im_c2 (a : Nat) : Bool := decide (a = 155)
def im_c3 (a : Nat) : Bool := decide (a = 158 ∨ a = 159)
def im_c4 (a : Nat) : Bool := decide (a = 160 ∨ a = 161)
def im_f1 (a : Nat) : Nat := if a = 156 then 144 else if a = 157 then 145 else a + 125 - 150
def im_f2 (_ : Nat) : Nat := 130
def im_f3 (a : Nat) : Nat := a + 144 - 156
theorem im_e1 (k : Nat) (J : Nat → Nat → Int32) : updR (updR (updR (updR (updR (updR (updR J 150 k (J 125 k)) 151 k (J 126 k)) 152 k (J 127 k)) 153 k (J 128 k)) 154 k (J 129 k)) 156 k (J 144 k)) 157 k (J 145 k) = shF im_c1 im_f1 k J := by
  funext a j
  by_cases hj : j = k
  · subst hj
    by_cases h150 : a = 150
    · subst h150
      rw [updR_k (by decide), updR_k (by decide), updR_k (by decide), updR_k (by decide), updR_k (by decide), updR_k (by decide), updR_same]
      unfold shF
      exact (if_pos ⟨rfl, by decide⟩).symm
    by_cases h151 : a = 151
    · subst h151
      rw [updR_k (by decide), updR_k (by decide), updR_k (by decide), updR_k (by decide), updR_k (by decide), updR_same]
      unfold shF
      exact (if_pos ⟨rfl, by decide⟩).symm
    by_cases h152 : a = 152
    · subst h152
      rw [updR_k (by decide), updR_k (by decide), updR_k (by decide), updR_k (by decide), updR_same]
      unfold shF
      exact (if_pos ⟨rfl, by decide⟩).symm
    by_cases h153 : a = 153
    · subst h153
      rw [updR_k (by decide), updR_k (by decide), updR_k (by decide), updR_same]
      unfold shF
      exact (if_pos ⟨rfl, by decide⟩).symm
    by_cases h154 : a = 154
    · subst h154
      rw [updR_k (by decide), updR_k (by decide), updR_same]
      unfold shF
      exact (if_pos ⟨rfl, by decide⟩).symm
    by_cases h156 : a = 156
    · subst h156
      rw [updR_k (by decide), updR_same]
      unfold shF
      exact (if_pos ⟨rfl, by decide⟩).symm
    by_cases h157 : a = 157
    · subst h157
      rw [updR_same]
      unfold shF
      exact (if_pos ⟨rfl, by decide⟩).symm
    rw [updR_k h157, updR_k h156, updR_k h154, updR_k h153, updR_k h152, updR_k h151, updR_k h150]
    unfold shF
    exact (if_neg (fun q => by have := of_decide_eq_true q.2; omega)).symm
  · rw [updR_j hj, updR_j hj, updR_j hj, updR_j hj, updR_j hj, updR_j hj, updR_j hj]
    unfold shF
    exact (if_neg (fun q => hj q.1)).symm
theorem im_e2 (k : Nat) (J : Nat → Nat → Int32) : updR J 155 k (J 130 k) = shF im_c2 im_f2 k J := by
  funext a j
  by_cases hj : j = k
  · subst hj
    by_cases h155 : a = 155
    · subst h155
      rw [updR_same]
      unfold shF
      exact (if_pos ⟨rfl, by decide⟩).symm
    rw [updR_k h155]
    unfold shF
    exact (if_neg (fun q => by have := of_decide_eq_true q.2; omega)).symm
  · rw [updR_j hj]
    unfold shF
    exact (if_neg (fun q => hj q.1)).symm
theorem im_e3 (k : Nat) (J : Nat → Nat → Int32) : updR (updR J 158 k (J 146 k)) 159 k (J 147 k) = shF im_c3 im_f3 k J := by
  funext a j
  by_cases hj : j = k
  · subst hj
    by_cases h158 : a = 158
    · subst h158
      rw [updR_k (by decide), updR_same]
      unfold shF
      exact (if_pos ⟨rfl, by decide⟩).symm
    by_cases h159 : a = 159
    · subst h159
      rw [updR_same]
      unfold shF
      exact (if_pos ⟨rfl, by decide⟩).symm
    rw [updR_k h159, updR_k h158]
    unfold shF
    exact (if_neg (fun q => by have := of_decide_eq_true q.2; omega)).symm
  · rw [updR_j hj, updR_j hj]
    unfold shF
    exact (if_neg (fun q => hj q.1)).symm
theorem im_e4 (k : Nat) (J : Nat → Nat → Int32) : updR (updR J 160 k (J 148 k)) 161 k (J 149 k) = shF im_c4 im_f3 k J := by
  funext a j
  by_cases hj : j = k
  · subst hj
    by_cases h160 : a = 160
    · subst h160
      rw [updR_k (by decide), updR_same]
      unfold shF
      exact (if_pos ⟨rfl, by decide⟩).symm
    by_cases h161 : a = 161
    · subst h161
      rw [updR_same]
      unfold shF
      exact (if_pos ⟨rfl, by decide⟩).symm
    rw [updR_k h161, updR_k h160]
    unfold shF
    exact (if_neg (fun q => by have := of_decide_eq_true q.2; omega)).symm
  · rw [updR_j hj, updR_j hj]
    unfold shF
    exact (if_neg (fun q => hj q.1)).symm
theorem im_l1 {X : Nat × (Nat → Int32)} {d : Nat} {I : Nat → Nat → Int32} {L : Nat → Nat → Int64} {Q : Option Value → XW → Prop} : wp X d m218 55 [some (.ref 124), some (.int 0)] [] (K0, R0, I, L) Q ↔ wp X d m218 152 [some (.ref 124), some (.int 0)] [] (K0, R0, itr (shF im_c1 im_f1) 5 I, L) Q := by
  refine (for_iff (P := fun k (M : Nat → Nat → Int32) => wp X d m218 55 [some (.ref 124), some (.int (nI k))] [] (K0, R0, M, L) Q) (F := shF im_c1 im_f1) 5 (fun k M hk => ?_) I).trans ?_
  · have ix : inA (nI k) 5 = true := inA_nI hk (by decide)
    rw [b218_55, if_pos (show nI k < (5 : Int32) from nI_lt (b := 5) hk (by decide)), nI_clamp (by omega), nI_1]
    simp only [ix, true_and]
    rw [im_e1]
  · rw [b218_55, if_neg (show ¬ nI 5 < (5 : Int32) by decide)]
theorem im_l2 {X : Nat × (Nat → Int32)} {d : Nat} {I : Nat → Nat → Int32} {L : Nat → Nat → Int64} {Q : Option Value → XW → Prop} : wp X d m218 152 [some (.ref 124), some (.int 0)] [] (K0, R0, I, L) Q ↔ wp X d m218 178 [some (.ref 124), some (.int 0)] [] (K0, R0, itr (shF im_c2 im_f2) 20 I, L) Q := by
  refine (for_iff (P := fun k (M : Nat → Nat → Int32) => wp X d m218 152 [some (.ref 124), some (.int (nI k))] [] (K0, R0, M, L) Q) (F := shF im_c2 im_f2) 20 (fun k M hk => ?_) I).trans ?_
  · have ix : inA (nI k) 20 = true := inA_nI hk (by decide)
    rw [b218_152, if_pos (show nI k < (20 : Int32) from nI_lt (b := 20) hk (by decide)), nI_clamp (by omega), nI_1]
    simp only [ix, true_and]
    rw [im_e2]
  · rw [b218_152, if_neg (show ¬ nI 20 < (20 : Int32) by decide)]
theorem im_l3 {X : Nat × (Nat → Int32)} {d : Nat} {I : Nat → Nat → Int32} {L : Nat → Nat → Int64} {Q : Option Value → XW → Prop} : wp X d m218 178 [some (.ref 124), some (.int 0)] [] (K0, R0, I, L) Q ↔ wp X d m218 216 [some (.ref 124), some (.int 0)] [] (K0, R0, itr (shF im_c3 im_f3) 10 I, L) Q := by
  refine (for_iff (P := fun k (M : Nat → Nat → Int32) => wp X d m218 178 [some (.ref 124), some (.int (nI k))] [] (K0, R0, M, L) Q) (F := shF im_c3 im_f3) 10 (fun k M hk => ?_) I).trans ?_
  · have ix : inA (nI k) 10 = true := inA_nI hk (by decide)
    rw [b218_178, if_pos (show nI k < (10 : Int32) from nI_lt (b := 10) hk (by decide)), nI_clamp (by omega), nI_1]
    simp only [ix, true_and]
    rw [im_e3]
  · rw [b218_178, if_neg (show ¬ nI 10 < (10 : Int32) by decide)]
theorem im_l4 {X : Nat × (Nat → Int32)} {d : Nat} {I : Nat → Nat → Int32} {L : Nat → Nat → Int64} {Q : Option Value → XW → Prop} : wp X d m218 216 [some (.ref 124), some (.int 0)] [] (K0, R0, I, L) Q ↔ Q (some (.int (I 124 0))) (K0, R0, itr (shF im_c4 im_f3) 8 I, L) := by
  refine (for_iff (P := fun k (M : Nat → Nat → Int32) => wp X d m218 216 [some (.ref 124), some (.int (nI k))] [] (K0, R0, M, L) Q) (F := shF im_c4 im_f3) 8 (fun k M hk => ?_) I).trans ?_
  · have ix : inA (nI k) 8 = true := inA_nI hk (by decide)
    rw [b218_216, if_pos (show nI k < (8 : Int32) from nI_lt (b := 8) hk (by decide)), nI_clamp (by omega), nI_1]
    simp only [ix, true_and]
    rw [im_e4]
  · rw [b218_216, if_neg (show ¬ nI 8 < (8 : Int32) by decide), sh_row (by decide)]
theorem im_all {X : Nat × (Nat → Int32)} {d : Nat} {I : Nat → Nat → Int32} {L : Nat → Nat → Int64} : ∃ M, (∀ a, a ≠ 124 → ¬(150 ≤ a ∧ a ≤ 155) → ¬(156 ≤ a ∧ a ≤ 161) → M a = I a) ∧ (∀ j, ¬(40 ≤ j ∧ j ≤ 46) → M 124 j = I 124 j) ∧ (M 124 40 = 1 ∧ M 124 41 = I 124 9 ∧ M 124 42 = I 124 0 ∧ M 124 43 = I 124 1 ∧ M 124 44 = I 124 31 ∧ M 124 45 = I 124 34 ∧ M 124 46 = I 124 35) ∧ (∀ x j, x < 5 → j < 5 → M (150 + x) j = I (125 + x) j) ∧ (∀ j, j < 20 → M 155 j = I 130 j) ∧ (∀ x j, x < 2 → j < 5 → M (156 + x) j = I (144 + x) j) ∧ (∀ x j, x < 2 → j < 10 → M (158 + x) j = I (146 + x) j) ∧ (∀ x j, x < 2 → j < 8 → M (160 + x) j = I (148 + x) j) ∧ ∀ Q : Option Value → XW → Prop, wp X d m218 0 [some (.ref 124), none] [] (K0, R0, I, L) Q ↔ Q (some (.int (M 124 0))) (K0, R0, M, L) := by
  have z : ∀ a, a ≠ 124 → (updR (updR (updR (updR (updR (updR (updR I 124 40 1) 124 41 (I 124 9)) 124 42 (I 124 0)) 124 43 (I 124 1)) 124 44 (I 124 31)) 124 45 (I 124 34)) 124 46 (I 124 35)) a = I a := fun a ha => by rw [updR_row a ha, updR_row a ha, updR_row a ha, updR_row a ha, updR_row a ha, updR_row a ha, updR_row a ha]
  have z4 : ∀ j, ¬(40 ≤ j ∧ j ≤ 46) → (updR (updR (updR (updR (updR (updR (updR I 124 40 1) 124 41 (I 124 9)) 124 42 (I 124 0)) 124 43 (I 124 1)) 124 44 (I 124 31)) 124 45 (I 124 34)) 124 46 (I 124 35)) 124 j = I 124 j := fun j hj => by rw [updR_j (by omega), updR_j (by omega), updR_j (by omega), updR_j (by omega), updR_j (by omega), updR_j (by omega), updR_j (by omega)]
  have y40 : (updR (updR (updR (updR (updR (updR (updR I 124 40 1) 124 41 (I 124 9)) 124 42 (I 124 0)) 124 43 (I 124 1)) 124 44 (I 124 31)) 124 45 (I 124 34)) 124 46 (I 124 35)) 124 40 = 1 := by rw [updR_j (by decide), updR_j (by decide), updR_j (by decide), updR_j (by decide), updR_j (by decide), updR_j (by decide), updR_same]
  have y41 : (updR (updR (updR (updR (updR (updR (updR I 124 40 1) 124 41 (I 124 9)) 124 42 (I 124 0)) 124 43 (I 124 1)) 124 44 (I 124 31)) 124 45 (I 124 34)) 124 46 (I 124 35)) 124 41 = I 124 9 := by rw [updR_j (by decide), updR_j (by decide), updR_j (by decide), updR_j (by decide), updR_j (by decide), updR_same]
  have y42 : (updR (updR (updR (updR (updR (updR (updR I 124 40 1) 124 41 (I 124 9)) 124 42 (I 124 0)) 124 43 (I 124 1)) 124 44 (I 124 31)) 124 45 (I 124 34)) 124 46 (I 124 35)) 124 42 = I 124 0 := by rw [updR_j (by decide), updR_j (by decide), updR_j (by decide), updR_j (by decide), updR_same]
  have y43 : (updR (updR (updR (updR (updR (updR (updR I 124 40 1) 124 41 (I 124 9)) 124 42 (I 124 0)) 124 43 (I 124 1)) 124 44 (I 124 31)) 124 45 (I 124 34)) 124 46 (I 124 35)) 124 43 = I 124 1 := by rw [updR_j (by decide), updR_j (by decide), updR_j (by decide), updR_same]
  have y44 : (updR (updR (updR (updR (updR (updR (updR I 124 40 1) 124 41 (I 124 9)) 124 42 (I 124 0)) 124 43 (I 124 1)) 124 44 (I 124 31)) 124 45 (I 124 34)) 124 46 (I 124 35)) 124 44 = I 124 31 := by rw [updR_j (by decide), updR_j (by decide), updR_same]
  have y45 : (updR (updR (updR (updR (updR (updR (updR I 124 40 1) 124 41 (I 124 9)) 124 42 (I 124 0)) 124 43 (I 124 1)) 124 44 (I 124 31)) 124 45 (I 124 34)) 124 46 (I 124 35)) 124 45 = I 124 34 := by rw [updR_j (by decide), updR_same]
  have y46 : (updR (updR (updR (updR (updR (updR (updR I 124 40 1) 124 41 (I 124 9)) 124 42 (I 124 0)) 124 43 (I 124 1)) 124 44 (I 124 31)) 124 45 (I 124 34)) 124 46 (I 124 35)) 124 46 = I 124 35 := by rw [updR_same]
  have k218 : ∀ Q : Option Value → XW → Prop, wp X d m218 0 [some (.ref 124), none] [] (K0, R0, I, L) Q ↔ wp X d m218 55 [some (.ref 124), some (.int 0)] [] (K0, R0, updR (updR (updR (updR (updR (updR (updR I 124 40 1) 124 41 (I 124 9)) 124 42 (I 124 0)) 124 43 (I 124 1)) 124 44 (I 124 31)) 124 45 (I 124 34)) 124 46 (I 124 35), L) Q := fun Q => by rw [b218_0]
  generalize updR (updR (updR (updR (updR (updR (updR I 124 40 1) 124 41 (I 124 9)) 124 42 (I 124 0)) 124 43 (I 124 1)) 124 44 (I 124 31)) 124 45 (I 124 34)) 124 46 (I 124 35) = A at z z4 y40 y41 y42 y43 y44 y45 y46 k218
  have r4 : itr (shF im_c4 im_f3) 8 (itr (shF im_c3 im_f3) 10 (itr (shF im_c2 im_f2) 20 (itr (shF im_c1 im_f1) 5 A))) 124 = A 124 := by rw [sh_row (by decide), sh_row (by decide), sh_row (by decide), sh_row (by decide)]
  refine ⟨itr (shF im_c4 im_f3) 8 (itr (shF im_c3 im_f3) 10 (itr (shF im_c2 im_f2) 20 (itr (shF im_c1 im_f1) 5 A))), fun a a0 a1 a2 => ?_, fun j hj => by rw [r4]; exact z4 j hj, ⟨by rw [r4]; exact y40, by rw [r4]; exact y41, by rw [r4]; exact y42, by rw [r4]; exact y43, by rw [r4]; exact y44, by rw [r4]; exact y45, by rw [r4]; exact y46⟩, fun x j hx hj => ?_, fun j hj => ?_, fun x j hx hj => ?_, fun x j hx hj => ?_, fun x j hx hj => ?_, fun Q => ?_⟩
  · rw [sh_row (show im_c4 a = false from decide_eq_false (by omega)), sh_row (show im_c3 a = false from decide_eq_false (by omega)), sh_row (show im_c2 a = false from decide_eq_false (by omega)), sh_row (show im_c1 a = false from decide_eq_false (by omega))]; exact z a a0
  · rw [sh_row (show im_c4 (150 + x) = false from decide_eq_false (by omega)), sh_row (show im_c3 (150 + x) = false from decide_eq_false (by omega)), sh_row (show im_c2 (150 + x) = false from decide_eq_false (by omega)), sh_in (f := im_f1) (n := 5) (show im_c1 (150 + x) = true from decide_eq_true (by omega)) hj (show im_f1 (150 + x) = 125 + x by unfold im_f1; rw [if_neg (by omega), if_neg (by omega)]; omega) (show im_c1 (125 + x) = false from decide_eq_false (by omega))]
    exact congrFun (z (125 + x) (by omega)) j
  · rw [sh_row (show im_c4 (155) = false from decide_eq_false (by omega)), sh_row (show im_c3 (155) = false from decide_eq_false (by omega)), sh_in (f := im_f2) (n := 20) (show im_c2 (155) = true from decide_eq_true (by omega)) hj (show im_f2 155 = 130 from rfl) (show im_c2 (130) = false from decide_eq_false (by omega)), sh_row (show im_c1 (130) = false from decide_eq_false (by omega))]
    exact congrFun (z 130 (by omega)) j
  · rw [sh_row (show im_c4 (156 + x) = false from decide_eq_false (by omega)), sh_row (show im_c3 (156 + x) = false from decide_eq_false (by omega)), sh_row (show im_c2 (156 + x) = false from decide_eq_false (by omega)), sh_in (f := im_f1) (n := 5) (show im_c1 (156 + x) = true from decide_eq_true (by omega)) hj (show im_f1 (156 + x) = 144 + x by unfold im_f1; (repeat' split) <;> omega) (show im_c1 (144 + x) = false from decide_eq_false (by omega))]
    exact congrFun (z (144 + x) (by omega)) j
  · rw [sh_row (show im_c4 (158 + x) = false from decide_eq_false (by omega)), sh_in (f := im_f3) (n := 10) (show im_c3 (158 + x) = true from decide_eq_true (by omega)) hj (show im_f3 (158 + x) = 146 + x by unfold im_f3; omega) (show im_c3 (146 + x) = false from decide_eq_false (by omega)), sh_row (show im_c2 (146 + x) = false from decide_eq_false (by omega)), sh_row (show im_c1 (146 + x) = false from decide_eq_false (by omega))]
    exact congrFun (z (146 + x) (by omega)) j
  · rw [sh_in (f := im_f3) (n := 8) (show im_c4 (160 + x) = true from decide_eq_true (by omega)) hj (show im_f3 (160 + x) = 148 + x by unfold im_f3; omega) (show im_c4 (148 + x) = false from decide_eq_false (by omega)), sh_row (show im_c3 (148 + x) = false from decide_eq_false (by omega)), sh_row (show im_c2 (148 + x) = false from decide_eq_false (by omega)), sh_row (show im_c1 (148 + x) = false from decide_eq_false (by omega))]
    exact congrFun (z (148 + x) (by omega)) j
  · rw [k218, im_l1, im_l2, im_l3, im_l4, r4, sh_row (by decide), sh_row (by decide), sh_row (by decide)]
def un_c1 (a : Nat) : Bool := decide ((125 ≤ a ∧ a ≤ 129) ∨ a = 144 ∨ a = 145)
def un_c2 (a : Nat) : Bool := decide (a = 130)
def un_c3 (a : Nat) : Bool := decide (a = 146 ∨ a = 147)
def un_c4 (a : Nat) : Bool := decide (a = 148 ∨ a = 149)
def un_f1 (a : Nat) : Nat := if a = 144 then 156 else if a = 145 then 157 else a + 150 - 125
def un_f2 (_ : Nat) : Nat := 155
def un_f3 (a : Nat) : Nat := a + 156 - 144
theorem un_e1 (k : Nat) (J : Nat → Nat → Int32) : updR (updR (updR (updR (updR (updR (updR J 125 k (J 150 k)) 126 k (J 151 k)) 127 k (J 152 k)) 128 k (J 153 k)) 129 k (J 154 k)) 144 k (J 156 k)) 145 k (J 157 k) = shF un_c1 un_f1 k J := by
  funext a j
  by_cases hj : j = k
  · subst hj
    by_cases h125 : a = 125
    · subst h125
      rw [updR_k (by decide), updR_k (by decide), updR_k (by decide), updR_k (by decide), updR_k (by decide), updR_k (by decide), updR_same]
      unfold shF
      exact (if_pos ⟨rfl, by decide⟩).symm
    by_cases h126 : a = 126
    · subst h126
      rw [updR_k (by decide), updR_k (by decide), updR_k (by decide), updR_k (by decide), updR_k (by decide), updR_same]
      unfold shF
      exact (if_pos ⟨rfl, by decide⟩).symm
    by_cases h127 : a = 127
    · subst h127
      rw [updR_k (by decide), updR_k (by decide), updR_k (by decide), updR_k (by decide), updR_same]
      unfold shF
      exact (if_pos ⟨rfl, by decide⟩).symm
    by_cases h128 : a = 128
    · subst h128
      rw [updR_k (by decide), updR_k (by decide), updR_k (by decide), updR_same]
      unfold shF
      exact (if_pos ⟨rfl, by decide⟩).symm
    by_cases h129 : a = 129
    · subst h129
      rw [updR_k (by decide), updR_k (by decide), updR_same]
      unfold shF
      exact (if_pos ⟨rfl, by decide⟩).symm
    by_cases h144 : a = 144
    · subst h144
      rw [updR_k (by decide), updR_same]
      unfold shF
      exact (if_pos ⟨rfl, by decide⟩).symm
    by_cases h145 : a = 145
    · subst h145
      rw [updR_same]
      unfold shF
      exact (if_pos ⟨rfl, by decide⟩).symm
    rw [updR_k h145, updR_k h144, updR_k h129, updR_k h128, updR_k h127, updR_k h126, updR_k h125]
    unfold shF
    exact (if_neg (fun q => by have := of_decide_eq_true q.2; omega)).symm
  · rw [updR_j hj, updR_j hj, updR_j hj, updR_j hj, updR_j hj, updR_j hj, updR_j hj]
    unfold shF
    exact (if_neg (fun q => hj q.1)).symm
theorem un_e2 (k : Nat) (J : Nat → Nat → Int32) : updR J 130 k (J 155 k) = shF un_c2 un_f2 k J := by
  funext a j
  by_cases hj : j = k
  · subst hj
    by_cases h130 : a = 130
    · subst h130
      rw [updR_same]
      unfold shF
      exact (if_pos ⟨rfl, by decide⟩).symm
    rw [updR_k h130]
    unfold shF
    exact (if_neg (fun q => by have := of_decide_eq_true q.2; omega)).symm
  · rw [updR_j hj]
    unfold shF
    exact (if_neg (fun q => hj q.1)).symm
theorem un_e3 (k : Nat) (J : Nat → Nat → Int32) : updR (updR J 146 k (J 158 k)) 147 k (J 159 k) = shF un_c3 un_f3 k J := by
  funext a j
  by_cases hj : j = k
  · subst hj
    by_cases h146 : a = 146
    · subst h146
      rw [updR_k (by decide), updR_same]
      unfold shF
      exact (if_pos ⟨rfl, by decide⟩).symm
    by_cases h147 : a = 147
    · subst h147
      rw [updR_same]
      unfold shF
      exact (if_pos ⟨rfl, by decide⟩).symm
    rw [updR_k h147, updR_k h146]
    unfold shF
    exact (if_neg (fun q => by have := of_decide_eq_true q.2; omega)).symm
  · rw [updR_j hj, updR_j hj]
    unfold shF
    exact (if_neg (fun q => hj q.1)).symm
theorem un_e4 (k : Nat) (J : Nat → Nat → Int32) : updR (updR J 148 k (J 160 k)) 149 k (J 161 k) = shF un_c4 un_f3 k J := by
  funext a j
  by_cases hj : j = k
  · subst hj
    by_cases h148 : a = 148
    · subst h148
      rw [updR_k (by decide), updR_same]
      unfold shF
      exact (if_pos ⟨rfl, by decide⟩).symm
    by_cases h149 : a = 149
    · subst h149
      rw [updR_same]
      unfold shF
      exact (if_pos ⟨rfl, by decide⟩).symm
    rw [updR_k h149, updR_k h148]
    unfold shF
    exact (if_neg (fun q => by have := of_decide_eq_true q.2; omega)).symm
  · rw [updR_j hj, updR_j hj]
    unfold shF
    exact (if_neg (fun q => hj q.1)).symm
theorem un_l1 {X : Nat × (Nat → Int32)} {d : Nat} {I : Nat → Nat → Int32} {L : Nat → Nat → Int64} {Q : Option Value → XW → Prop} : wp X d m219 60 [some (.ref 124), some (.int 0)] [] (K0, R0, I, L) Q ↔ wp X d m219 157 [some (.ref 124), some (.int 0)] [] (K0, R0, itr (shF un_c1 un_f1) 5 I, L) Q := by
  refine (for_iff (P := fun k (M : Nat → Nat → Int32) => wp X d m219 60 [some (.ref 124), some (.int (nI k))] [] (K0, R0, M, L) Q) (F := shF un_c1 un_f1) 5 (fun k M hk => ?_) I).trans ?_
  · have ix : inA (nI k) 5 = true := inA_nI hk (by decide)
    rw [b219_60, if_pos (show nI k < (5 : Int32) from nI_lt (b := 5) hk (by decide)), nI_clamp (by omega), nI_1]
    simp only [ix, true_and]
    rw [un_e1]
  · rw [b219_60, if_neg (show ¬ nI 5 < (5 : Int32) by decide)]
theorem un_l2 {X : Nat × (Nat → Int32)} {d : Nat} {I : Nat → Nat → Int32} {L : Nat → Nat → Int64} {Q : Option Value → XW → Prop} : wp X d m219 157 [some (.ref 124), some (.int 0)] [] (K0, R0, I, L) Q ↔ wp X d m219 183 [some (.ref 124), some (.int 0)] [] (K0, R0, itr (shF un_c2 un_f2) 20 I, L) Q := by
  refine (for_iff (P := fun k (M : Nat → Nat → Int32) => wp X d m219 157 [some (.ref 124), some (.int (nI k))] [] (K0, R0, M, L) Q) (F := shF un_c2 un_f2) 20 (fun k M hk => ?_) I).trans ?_
  · have ix : inA (nI k) 20 = true := inA_nI hk (by decide)
    rw [b219_157, if_pos (show nI k < (20 : Int32) from nI_lt (b := 20) hk (by decide)), nI_clamp (by omega), nI_1]
    simp only [ix, true_and]
    rw [un_e2]
  · rw [b219_157, if_neg (show ¬ nI 20 < (20 : Int32) by decide)]
theorem un_l3 {X : Nat × (Nat → Int32)} {d : Nat} {I : Nat → Nat → Int32} {L : Nat → Nat → Int64} {Q : Option Value → XW → Prop} : wp X d m219 183 [some (.ref 124), some (.int 0)] [] (K0, R0, I, L) Q ↔ wp X d m219 221 [some (.ref 124), some (.int 0)] [] (K0, R0, itr (shF un_c3 un_f3) 10 I, L) Q := by
  refine (for_iff (P := fun k (M : Nat → Nat → Int32) => wp X d m219 183 [some (.ref 124), some (.int (nI k))] [] (K0, R0, M, L) Q) (F := shF un_c3 un_f3) 10 (fun k M hk => ?_) I).trans ?_
  · have ix : inA (nI k) 10 = true := inA_nI hk (by decide)
    rw [b219_183, if_pos (show nI k < (10 : Int32) from nI_lt (b := 10) hk (by decide)), nI_clamp (by omega), nI_1]
    simp only [ix, true_and]
    rw [un_e3]
  · rw [b219_183, if_neg (show ¬ nI 10 < (10 : Int32) by decide)]
theorem un_l4 {X : Nat × (Nat → Int32)} {d : Nat} {I : Nat → Nat → Int32} {L : Nat → Nat → Int64} {Q : Option Value → XW → Prop} : wp X d m219 221 [some (.ref 124), some (.int 0)] [] (K0, R0, I, L) Q ↔ Q (some (.int (I 124 0))) (K0, R0, itr (shF un_c4 un_f3) 8 I, L) := by
  refine (for_iff (P := fun k (M : Nat → Nat → Int32) => wp X d m219 221 [some (.ref 124), some (.int (nI k))] [] (K0, R0, M, L) Q) (F := shF un_c4 un_f3) 8 (fun k M hk => ?_) I).trans ?_
  · have ix : inA (nI k) 8 = true := inA_nI hk (by decide)
    rw [b219_221, if_pos (show nI k < (8 : Int32) from nI_lt (b := 8) hk (by decide)), nI_clamp (by omega), nI_1]
    simp only [ix, true_and]
    rw [un_e4]
  · rw [b219_221, if_neg (show ¬ nI 8 < (8 : Int32) by decide), sh_row (by decide)]
theorem un_all {X : Nat × (Nat → Int32)} {d : Nat} {I : Nat → Nat → Int32} {L : Nat → Nat → Int64} (h40 : ¬ I 124 40 = 0) : ∃ M, (∀ a, a ≠ 124 → ¬(125 ≤ a ∧ a ≤ 130) → ¬(144 ≤ a ∧ a ≤ 149) → M a = I a) ∧ (∀ j, ¬(j = 9 ∨ j = 0 ∨ j = 1 ∨ j = 31 ∨ j = 34 ∨ j = 35) → M 124 j = I 124 j) ∧ (M 124 9 = I 124 41 ∧ M 124 0 = I 124 42 ∧ M 124 1 = I 124 43 ∧ M 124 31 = I 124 44 ∧ M 124 34 = I 124 45 ∧ M 124 35 = I 124 46) ∧ (∀ x j, x < 5 → j < 5 → M (125 + x) j = I (150 + x) j) ∧ (∀ j, j < 20 → M 130 j = I 155 j) ∧ (∀ x j, x < 2 → j < 5 → M (144 + x) j = I (156 + x) j) ∧ (∀ x j, x < 2 → j < 10 → M (146 + x) j = I (158 + x) j) ∧ (∀ x j, x < 2 → j < 8 → M (148 + x) j = I (160 + x) j) ∧ ∀ Q : Option Value → XW → Prop, wp X d m219 0 [some (.ref 124), none] [] (K0, R0, I, L) Q ↔ Q (some (.int (M 124 0))) (K0, R0, M, L) := by
  have z : ∀ a, a ≠ 124 → (updR (updR (updR (updR (updR (updR I 124 9 (I 124 41)) 124 0 (I 124 42)) 124 1 (I 124 43)) 124 31 (I 124 44)) 124 34 (I 124 45)) 124 35 (I 124 46)) a = I a := fun a ha => by rw [updR_row a ha, updR_row a ha, updR_row a ha, updR_row a ha, updR_row a ha, updR_row a ha]
  have z4 : ∀ j, ¬(j = 9 ∨ j = 0 ∨ j = 1 ∨ j = 31 ∨ j = 34 ∨ j = 35) → (updR (updR (updR (updR (updR (updR I 124 9 (I 124 41)) 124 0 (I 124 42)) 124 1 (I 124 43)) 124 31 (I 124 44)) 124 34 (I 124 45)) 124 35 (I 124 46)) 124 j = I 124 j := fun j hj => by rw [updR_j (by omega), updR_j (by omega), updR_j (by omega), updR_j (by omega), updR_j (by omega), updR_j (by omega)]
  have y9 : (updR (updR (updR (updR (updR (updR I 124 9 (I 124 41)) 124 0 (I 124 42)) 124 1 (I 124 43)) 124 31 (I 124 44)) 124 34 (I 124 45)) 124 35 (I 124 46)) 124 9 = I 124 41 := by rw [updR_j (by decide), updR_j (by decide), updR_j (by decide), updR_j (by decide), updR_j (by decide), updR_same]
  have y0 : (updR (updR (updR (updR (updR (updR I 124 9 (I 124 41)) 124 0 (I 124 42)) 124 1 (I 124 43)) 124 31 (I 124 44)) 124 34 (I 124 45)) 124 35 (I 124 46)) 124 0 = I 124 42 := by rw [updR_j (by decide), updR_j (by decide), updR_j (by decide), updR_j (by decide), updR_same]
  have y1 : (updR (updR (updR (updR (updR (updR I 124 9 (I 124 41)) 124 0 (I 124 42)) 124 1 (I 124 43)) 124 31 (I 124 44)) 124 34 (I 124 45)) 124 35 (I 124 46)) 124 1 = I 124 43 := by rw [updR_j (by decide), updR_j (by decide), updR_j (by decide), updR_same]
  have y31 : (updR (updR (updR (updR (updR (updR I 124 9 (I 124 41)) 124 0 (I 124 42)) 124 1 (I 124 43)) 124 31 (I 124 44)) 124 34 (I 124 45)) 124 35 (I 124 46)) 124 31 = I 124 44 := by rw [updR_j (by decide), updR_j (by decide), updR_same]
  have y34 : (updR (updR (updR (updR (updR (updR I 124 9 (I 124 41)) 124 0 (I 124 42)) 124 1 (I 124 43)) 124 31 (I 124 44)) 124 34 (I 124 45)) 124 35 (I 124 46)) 124 34 = I 124 45 := by rw [updR_j (by decide), updR_same]
  have y35 : (updR (updR (updR (updR (updR (updR I 124 9 (I 124 41)) 124 0 (I 124 42)) 124 1 (I 124 43)) 124 31 (I 124 44)) 124 34 (I 124 45)) 124 35 (I 124 46)) 124 35 = I 124 46 := by rw [updR_same]
  have k219 : ∀ Q : Option Value → XW → Prop, wp X d m219 0 [some (.ref 124), none] [] (K0, R0, I, L) Q ↔ wp X d m219 60 [some (.ref 124), some (.int 0)] [] (K0, R0, updR (updR (updR (updR (updR (updR I 124 9 (I 124 41)) 124 0 (I 124 42)) 124 1 (I 124 43)) 124 31 (I 124 44)) 124 34 (I 124 45)) 124 35 (I 124 46), L) Q := fun Q => by rw [b219_0, if_neg h40]
  generalize updR (updR (updR (updR (updR (updR I 124 9 (I 124 41)) 124 0 (I 124 42)) 124 1 (I 124 43)) 124 31 (I 124 44)) 124 34 (I 124 45)) 124 35 (I 124 46) = A at z z4 y9 y0 y1 y31 y34 y35 k219
  have r4 : itr (shF un_c4 un_f3) 8 (itr (shF un_c3 un_f3) 10 (itr (shF un_c2 un_f2) 20 (itr (shF un_c1 un_f1) 5 A))) 124 = A 124 := by rw [sh_row (by decide), sh_row (by decide), sh_row (by decide), sh_row (by decide)]
  refine ⟨itr (shF un_c4 un_f3) 8 (itr (shF un_c3 un_f3) 10 (itr (shF un_c2 un_f2) 20 (itr (shF un_c1 un_f1) 5 A))), fun a a0 a1 a2 => ?_, fun j hj => by rw [r4]; exact z4 j hj, ⟨by rw [r4]; exact y9, by rw [r4]; exact y0, by rw [r4]; exact y1, by rw [r4]; exact y31, by rw [r4]; exact y34, by rw [r4]; exact y35⟩, fun x j hx hj => ?_, fun j hj => ?_, fun x j hx hj => ?_, fun x j hx hj => ?_, fun x j hx hj => ?_, fun Q => ?_⟩
  · rw [sh_row (show un_c4 a = false from decide_eq_false (by omega)), sh_row (show un_c3 a = false from decide_eq_false (by omega)), sh_row (show un_c2 a = false from decide_eq_false (by omega)), sh_row (show un_c1 a = false from decide_eq_false (by omega))]; exact z a a0
  · rw [sh_row (show un_c4 (125 + x) = false from decide_eq_false (by omega)), sh_row (show un_c3 (125 + x) = false from decide_eq_false (by omega)), sh_row (show un_c2 (125 + x) = false from decide_eq_false (by omega)), sh_in (f := un_f1) (n := 5) (show un_c1 (125 + x) = true from decide_eq_true (by omega)) hj (show un_f1 (125 + x) = 150 + x by unfold un_f1; rw [if_neg (by omega), if_neg (by omega)]; omega) (show un_c1 (150 + x) = false from decide_eq_false (by omega))]
    exact congrFun (z (150 + x) (by omega)) j
  · rw [sh_row (show un_c4 (130) = false from decide_eq_false (by omega)), sh_row (show un_c3 (130) = false from decide_eq_false (by omega)), sh_in (f := un_f2) (n := 20) (show un_c2 (130) = true from decide_eq_true (by omega)) hj (show un_f2 130 = 155 from rfl) (show un_c2 (155) = false from decide_eq_false (by omega)), sh_row (show un_c1 (155) = false from decide_eq_false (by omega))]
    exact congrFun (z 155 (by omega)) j
  · rw [sh_row (show un_c4 (144 + x) = false from decide_eq_false (by omega)), sh_row (show un_c3 (144 + x) = false from decide_eq_false (by omega)), sh_row (show un_c2 (144 + x) = false from decide_eq_false (by omega)), sh_in (f := un_f1) (n := 5) (show un_c1 (144 + x) = true from decide_eq_true (by omega)) hj (show un_f1 (144 + x) = 156 + x by unfold un_f1; (repeat' split) <;> omega) (show un_c1 (156 + x) = false from decide_eq_false (by omega))]
    exact congrFun (z (156 + x) (by omega)) j
  · rw [sh_row (show un_c4 (146 + x) = false from decide_eq_false (by omega)), sh_in (f := un_f3) (n := 10) (show un_c3 (146 + x) = true from decide_eq_true (by omega)) hj (show un_f3 (146 + x) = 158 + x by unfold un_f3; omega) (show un_c3 (158 + x) = false from decide_eq_false (by omega)), sh_row (show un_c2 (158 + x) = false from decide_eq_false (by omega)), sh_row (show un_c1 (158 + x) = false from decide_eq_false (by omega))]
    exact congrFun (z (158 + x) (by omega)) j
  · rw [sh_in (f := un_f3) (n := 8) (show un_c4 (148 + x) = true from decide_eq_true (by omega)) hj (show un_f3 (148 + x) = 160 + x by unfold un_f3; omega) (show un_c4 (160 + x) = false from decide_eq_false (by omega)), sh_row (show un_c3 (160 + x) = false from decide_eq_false (by omega)), sh_row (show un_c2 (160 + x) = false from decide_eq_false (by omega)), sh_row (show un_c1 (160 + x) = false from decide_eq_false (by omega))]
    exact congrFun (z (160 + x) (by omega)) j
  · rw [k219, un_l1, un_l2, un_l3, un_l4, r4, sh_row (by decide), sh_row (by decide), sh_row (by decide)]
