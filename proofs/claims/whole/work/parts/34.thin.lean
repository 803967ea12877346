/-! Thin, by plain numbers; then what any saying does, both ways alike. -/
theorem itr_congr {σ : Type} {F G : Nat → σ → σ} : ∀ N, (∀ k, k < N → ∀ t, F k t = G k t) → ∀ s, itr F N s = itr G N s := by
  intro N
  induction N with
  | zero => intro _ s; rfl
  | succ N ih =>
    intro h s
    show F N (itr F N s) = G N (itr G N s)
    rw [ih (fun k hk => h k (by omega)) s, h N (by omega)]
theorem nI_mul (a b : Nat) : nI a * nI b = nI (a * b) := (Int32.ofNat_mul a b).symm
theorem nI_sub {a b : Nat} (h : b ≤ a) : nI a - nI b = nI (a - b) := by
  obtain ⟨c, rfl⟩ : ∃ c, a = c + b := ⟨a - b, by omega⟩
  rw [← nI_add, Int32.add_sub_cancel, Nat.add_sub_cancel]
theorem nI_div {a b : Nat} (ha : a < 2 ^ 31) (hb : b < 2 ^ 31) : nI a / nI b = nI (a / b) := by
  have h : a / b < 2 ^ 31 := Nat.lt_of_le_of_lt (Nat.div_le_self a b) ha
  apply Int32.toInt_inj.mp
  rw [Int32.toInt_div_of_ne_left _ _ (fun e => by
    have := nI_toInt ha
    rw [e] at this
    have h2 : Int32.minValue.toInt = -2147483648 := by decide
    omega), nI_toInt ha, nI_toInt hb, nI_toInt h]
  exact (Int.ofNat_tdiv a b).symm
theorem nI_rem {a b : Nat} (ha : a < 2 ^ 31) (hb : b < 2 ^ 31) : nI a - nI a / nI b * nI b = nI (a % b) := by
  rw [nI_div ha hb, nI_mul, nI_sub (Nat.div_mul_le_self a b)]
  congr 1
  have := Nat.div_add_mod a b
  rw [Nat.mul_comm] at this
  omega
theorem remN {a b : Nat} (ha : a < 2 ^ 31) (hb : b < 2 ^ 31) : remI (nI a) (nI b) = nI (a % b) := nI_rem ha hb
theorem sh_l : ∀ k, k < 32 → ((nI k &&& 31).toBitVec.smod 32).toNat = k := by decide +kernel
theorem hasN {x k : Nat} (hx : x ≤ 4095) (hk : k < 32) : hasI (nI x) (nI k) = nI (x / 2 ^ k % 2) := by
  unfold hasI
  rw [pk_shrN (by omega) _ k (sh_l k hk), pk_andN (Nat.lt_of_le_of_lt (Nat.div_le_self _ _) (by omega)) 1 (by decide)]
  rcases Nat.mod_two_eq_zero_or_one (x / 2 ^ k) with h | h
  · rw [show (2 : Nat) ^ 1 = 2 from rfl, h]; rfl
  · rw [show (2 : Nat) ^ 1 = 2 from rfl, h]; rfl
def besN (x k : Nat) : Nat := 0 + (if 0 < k % 4 then x / 2 ^ (k - 1) % 2 else 0) + (if k % 4 < 3 then x / 2 ^ (k + 1) % 2 else 0) + (if 3 < k then x / 2 ^ (k - 4) % 2 else 0) + (if k < 8 then x / 2 ^ (k + 4) % 2 else 0)
theorem hasN1 {x k : Nat} (hx : x ≤ 4095) (hk : k < 32) : (if hasI (nI x) (nI k) = 0 then (0 : Int32) else 1) = nI (x / 2 ^ k % 2) := by
  rw [hasN hx hk]
  rcases Nat.mod_two_eq_zero_or_one (x / 2 ^ k) with h | h
  · rw [h]; rfl
  · rw [h]; rfl
theorem besideN {x k : Nat} (hx : x ≤ 4095) (hk : k < 12) : besideM (nI x) (nI k) = nI (besN x k) := by
  have e : remI (nI k) 4 = nI (k % 4) := remN (b := 4) (by omega) (by decide)
  have h1 : (if (0 : Int32) < nI (k % 4) then (if hasI (nI x) (nI k - 1) = 0 then (0 : Int32) else 1) else 0) = nI (if 0 < k % 4 then x / 2 ^ (k - 1) % 2 else 0) := by
    by_cases c : 0 < k % 4
    · rw [if_pos c, if_pos (show (0 : Int32) < nI (k % 4) from (nI_ltI (a := 0) (by decide) (by omega)).mpr c), show nI k - 1 = nI (k - 1) from nI_sub (b := 1) (by omega), hasN1 hx (by omega)]
    · rw [if_neg c, if_neg (show ¬ (0 : Int32) < nI (k % 4) from fun q => c ((nI_ltI (a := 0) (by decide) (by omega)).mp q))]; rfl
  have h2 : (if nI (k % 4) < (3 : Int32) then (if hasI (nI x) (nI k + 1) = 0 then (0 : Int32) else 1) else 0) = nI (if k % 4 < 3 then x / 2 ^ (k + 1) % 2 else 0) := by
    by_cases c : k % 4 < 3
    · rw [if_pos c, if_pos (show nI (k % 4) < (3 : Int32) from (nI_ltI (b := 3) (by omega) (by decide)).mpr c), nI_1, hasN1 hx (by omega)]
    · rw [if_neg c, if_neg (show ¬ nI (k % 4) < (3 : Int32) from fun q => c ((nI_ltI (b := 3) (by omega) (by decide)).mp q))]; rfl
  have h3 : (if (3 : Int32) < nI k then (if hasI (nI x) (nI k - 4) = 0 then (0 : Int32) else 1) else 0) = nI (if 3 < k then x / 2 ^ (k - 4) % 2 else 0) := by
    by_cases c : 3 < k
    · rw [if_pos c, if_pos (show (3 : Int32) < nI k from (nI_ltI (a := 3) (by decide) (by omega)).mpr c), show nI k - 4 = nI (k - 4) from nI_sub (b := 4) (by omega), hasN1 hx (by omega)]
    · rw [if_neg c, if_neg (show ¬ (3 : Int32) < nI k from fun q => c ((nI_ltI (a := 3) (by decide) (by omega)).mp q))]; rfl
  have h4 : (if nI k < (8 : Int32) then (if hasI (nI x) (nI k + 4) = 0 then (0 : Int32) else 1) else 0) = nI (if k < 8 then x / 2 ^ (k + 4) % 2 else 0) := by
    by_cases c : k < 8
    · rw [if_pos c, if_pos (show nI k < (8 : Int32) from (nI_ltI (b := 8) (by omega) (by decide)).mpr c), show nI k + 4 = nI (k + 4) from nI_add k 4, hasN1 hx (by omega)]
    · rw [if_neg c, if_neg (show ¬ nI k < (8 : Int32) from fun q => c ((nI_ltI (b := 8) (by omega) (by decide)).mp q))]; rfl
  unfold besideM besN
  dsimp only
  rw [e, h1, h2, h3, h4, show (0 : Int32) = nI 0 from rfl, nI_add, nI_add, nI_add, nI_add]
theorem besN_le {x k : Nat} : besN x k ≤ 4 := by
  unfold besN
  have a := Nat.mod_lt (x / 2 ^ (k - 1)) (show 2 > 0 by decide)
  have b := Nat.mod_lt (x / 2 ^ (k + 1)) (show 2 > 0 by decide)
  have c := Nat.mod_lt (x / 2 ^ (k - 4)) (show 2 > 0 by decide)
  have d := Nat.mod_lt (x / 2 ^ (k + 4)) (show 2 > 0 by decide)
  (repeat' split) <;> omega
def thinG0 (x k : Nat) (t : Int32) : Int32 := if x / 2 ^ k % 2 = 0 then t ||| (0 : Int32) else if 0 < besN x k then t ||| ((1 : Int32) <<< (nI k &&& 31)) else t ||| (0 : Int32)
def thinG1 (x k : Nat) (t : Int32) : Int32 := if x / 2 ^ k % 2 = 0 then (if 1 < besN x k then t ||| ((1 : Int32) <<< (nI k &&& 31)) else t ||| (0 : Int32)) else t ||| ((1 : Int32) <<< (nI k &&& 31))
theorem hasN0 {x k : Nat} (hx : x ≤ 4095) (hk : k < 32) : (hasI (nI x) (nI k) = 0) ↔ x / 2 ^ k % 2 = 0 := by
  rw [hasN hx hk]
  rcases Nat.mod_two_eq_zero_or_one (x / 2 ^ k) with h | h
  · rw [h]; decide
  · rw [h]; decide
theorem thin0 {x : Nat} (hx : x ≤ 4095) : thinM (nI x) 0 = itr (thinG0 x) 12 0 := by
  refine itr_congr 12 (fun k hk t => ?_) 0
  have h0 := hasN0 hx (show k < 32 by omega)
  have h1 : (0 : Int32) < besideM (nI x) (nI k) ↔ 0 < besN x k := by
    rw [besideN hx hk]
    exact nI_ltI (a := 0) (by decide) (by have := @besN_le x k; omega)
  unfold thinF thinG0
  dsimp only
  rw [if_pos rfl]
  by_cases c : x / 2 ^ k % 2 = 0
  · rw [if_pos c, if_pos (h0.mpr c), if_pos rfl]
  · rw [if_neg c, if_neg (fun q => c (h0.mp q))]
    by_cases c2 : 0 < besN x k
    · rw [if_pos c2, if_pos (h1.mpr c2), if_neg (show ¬ ((1 : Int32) = 0) by decide)]
    · rw [if_neg c2, if_neg (fun q => c2 (h1.mp q)), if_pos rfl]
theorem thin1 {x : Nat} (hx : x ≤ 4095) : thinM (nI x) 1 = itr (thinG1 x) 12 0 := by
  refine itr_congr 12 (fun k hk t => ?_) 0
  have h0 := hasN0 hx (show k < 32 by omega)
  have h1 : (1 : Int32) < besideM (nI x) (nI k) ↔ 1 < besN x k := by
    rw [besideN hx hk]
    exact nI_ltI (a := 1) (by decide) (by have := @besN_le x k; omega)
  unfold thinF thinG1
  dsimp only
  rw [if_neg (show ¬ ((1 : Int32) = 0) by decide)]
  by_cases c : x / 2 ^ k % 2 = 0
  · rw [if_pos c, if_pos (h0.mpr c)]
    by_cases c2 : 1 < besN x k
    · rw [if_pos c2, if_pos (h1.mpr c2), if_neg (show ¬ ((1 : Int32) = 0) by decide)]
    · rw [if_neg c2, if_neg (fun q => c2 (h1.mp q)), if_pos rfl]
  · rw [if_neg c, if_neg (fun q => c (h0.mp q)), if_neg (show ¬ ((1 : Int32) = 0) by decide)]
theorem dec_f1 : (List.range 4096).all (fun x => decide (itr (thinG0 x) 12 0 = forthI 1 (nI x) ∧ 0 ≤ forthI 1 (nI x) ∧ forthI 1 (nI x) ≤ 4095)) = true := by decide +kernel
theorem dec_b1 : (List.range 4096).all (fun x => decide (itr (thinG1 x) 12 0 = backI 1 (nI x) ∧ 0 ≤ backI 1 (nI x) ∧ backI 1 (nI x) ≤ 4095)) = true := by decide +kernel
theorem in_leaves {v : Int32} (h0 : 0 ≤ v) (h1 : v ≤ 4095) : ∃ y, y ≤ 4095 ∧ v = nI y := by
  rcases pk_ix v (n := 4096) (by decide) with h | h | ⟨j, hj, rfl⟩
  · exact absurd h (Int32.not_lt.mpr h0)
  · exact absurd (Int32.le_trans h h1) (by decide)
  · exact ⟨j, by omega, rfl⟩
/-- a saying forth: the class's and the reference's -/
theorem plain_f {w x : Nat} (hw : w ≤ 3) (hx : x ≤ 4095) : ∃ y, y ≤ 4095 ∧ forthI (nI w) (nI x) = nI y ∧ plainM (nI x) (nI w) 0 = nI y := by
  have key : plainM (nI x) (nI w) 0 = forthI (nI w) (nI x) ∧ 0 ≤ forthI (nI w) (nI x) ∧ forthI (nI w) (nI x) ≤ 4095 := by
    match w, hw with
    | 0, _ => exact of_decide_eq_true (all_at dec_f0 hx)
    | 1, _ =>
      have h := of_decide_eq_true (all_at dec_f1 hx)
      rw [← thin0 hx] at h
      exact h
    | 2, _ => exact of_decide_eq_true (all_at dec_f2 hx)
    | 3, _ => exact of_decide_eq_true (all_at dec_f3 hx)
    | k + 4, hw => omega
  obtain ⟨y, hy, e⟩ := in_leaves key.2.1 key.2.2
  exact ⟨y, hy, e, key.1.trans e⟩
theorem plain_b {w x : Nat} (hw : w ≤ 3) (hx : x ≤ 4095) : ∃ y, y ≤ 4095 ∧ backI (nI w) (nI x) = nI y ∧ plainM (nI x) (nI w) 1 = nI y := by
  have key : plainM (nI x) (nI w) 1 = backI (nI w) (nI x) ∧ 0 ≤ backI (nI w) (nI x) ∧ backI (nI w) (nI x) ≤ 4095 := by
    match w, hw with
    | 0, _ => exact of_decide_eq_true (all_at dec_b0 hx)
    | 1, _ =>
      have h := of_decide_eq_true (all_at dec_b1 hx)
      rw [← thin1 hx] at h
      exact h
    | 2, _ => exact of_decide_eq_true (all_at dec_b2 hx)
    | 3, _ => exact of_decide_eq_true (all_at dec_b3 hx)
    | k + 4, hw => omega
  obtain ⟨y, hy, e⟩ := in_leaves key.2.1 key.2.2
  exact ⟨y, hy, e, key.1.trans e⟩
