/-! An inn's E: tokens (0 not, 1 and, 2 or, 3 + n a test), a pile of truths, and how the two sides keep it. -/
def tstN (a : Nat → Nat) (n : Nat) : Bool := if n / 100 % 3 = 0 then decide (a (n / 300) < n % 100) else if n / 100 % 3 = 1 then decide (a (n / 300) = n % 100) else decide (n % 100 < a (n / 300))
/-- a token does with a pile -/
def evN (a : Nat → Nat) (n : Nat) (st : List Bool) : List Bool := match n with
  | 0 => match st with
    | b :: r => (!b) :: r
    | [] => []
  | 1 => match st with
    | b :: c :: r => (c && b) :: r
    | s => s
  | 2 => match st with
    | b :: c :: r => (c || b) :: r
    | s => s
  | n + 3 => tstN a n :: st
def dpN (n k : Nat) : Nat := match n with
  | 0 => k
  | 1 => k - 1
  | 2 => k - 1
  | _ => k + 1
def okN (n k : Nat) : Prop := match n with
  | 0 => 1 ≤ k
  | 1 => 2 ≤ k
  | 2 => 2 ≤ k
  | n + 3 => k < 12 ∧ n < 1800
theorem ev_len {a : Nat → Nat} {n k : Nat} {st : List Bool} (h : st.length = k) (ho : okN n k) : (evN a n st).length = dpN n k := by
  match n, ho with
  | 0, ho =>
    match st, h with
    | b :: r, h => exact h
    | [], h => simp only [List.length_nil] at h; exact absurd ho (by show ¬ 1 ≤ k; omega)
  | 1, ho =>
    match st, h with
    | b :: c :: r, h => simp only [List.length_cons] at h; show (r.length + 1) = k - 1; omega
    | [b], h => simp only [List.length_cons, List.length_nil] at h; exact absurd ho (by show ¬ 2 ≤ k; omega)
    | [], h => simp only [List.length_nil] at h; exact absurd ho (by show ¬ 2 ≤ k; omega)
  | 2, ho =>
    match st, h with
    | b :: c :: r, h => simp only [List.length_cons] at h; show (r.length + 1) = k - 1; omega
    | [b], h => simp only [List.length_cons, List.length_nil] at h; exact absurd ho (by show ¬ 2 ≤ k; omega)
    | [], h => simp only [List.length_nil] at h; exact absurd ho (by show ¬ 2 ≤ k; omega)
  | n + 3, _ => show st.length + 1 = k + 1; omega
/-- how deep the pile is behind m tokens of T from lo on -/
def dpA (T : Nat → Nat) (lo m : Nat) : Nat := itr (fun k d => dpN (T (lo + k)) d) m 0
def evA (a T : Nat → Nat) (lo m : Nat) : List Bool := itr (fun k st => evN a (T (lo + k)) st) m []
/-- a whole E stands in T from lo on, m tokens long -/
def okE (T : Nat → Nat) (lo m : Nat) : Prop := (∀ k, k < m → okN (T (lo + k)) (dpA T lo k)) ∧ dpA T lo m = 1
theorem evA_len {a T : Nat → Nat} {lo m : Nat} (h : okE T lo m) : ∀ k, k ≤ m → (evA a T lo k).length = dpA T lo k := by
  intro k
  induction k with
  | zero => intro _; rfl
  | succ k ih => intro hk; exact ev_len (ih (by omega)) (h.1 k (by omega))
theorem dp_le {n k : Nat} (h : okN n k) (hk : k ≤ 12) : dpN n k ≤ 12 := by
  match n, h with
  | 0, _ => exact hk
  | 1, _ => show k - 1 ≤ 12; omega
  | 2, _ => show k - 1 ≤ 12; omega
  | n + 3, h =>
    have a : k < 12 := h.1
    show k + 1 ≤ 12
    omega
theorem dpA_le {T : Nat → Nat} {lo m : Nat} (h : okE T lo m) : ∀ k, k ≤ m → dpA T lo k ≤ 12 := by
  intro k
  induction k with
  | zero => intro _; exact Nat.zero_le _
  | succ k ih =>
    intro hk
    exact dp_le (h.1 k (by omega)) (ih (by omega))
/-- does E hold -/
def hdB (st : List Bool) : Bool := match st with
  | b :: _ => b
  | [] => false
def holdN (a T : Nat → Nat) (lo m : Nat) : Bool := hdB (evA a T lo m)
/-! The class keeps the pile as bits, the top one lowest. -/
def enc : List Bool → Nat
  | [] => 0
  | b :: r => 2 * enc r + b.toNat
theorem enc_lt : ∀ st : List Bool, enc st < 2 ^ st.length := by
  intro st
  induction st with
  | nil => decide
  | cons b r ih =>
    show 2 * enc r + b.toNat < 2 ^ (r.length + 1)
    rw [Nat.pow_succ]
    cases b <;> simp only [Bool.toNat_false, Bool.toNat_true] <;> omega
def bI (b : Bool) : Int32 := if b = true then 1 else 0
theorem dec_pile : (List.range 4096).all (fun x => decide (nI x ^^^ (1 : Int32) = nI (x / 2 * 2 + (1 - x % 2)) ∧ (nI x >>> ((1 : Int32) &&& 31)) &&& ((nI x &&& (1 : Int32)) ||| ((-2) : Int32)) = nI (x / 4 * 2 + (x / 2 % 2) * (x % 2)) ∧ (nI x >>> ((1 : Int32) &&& 31)) ||| (nI x &&& (1 : Int32)) = nI (x / 4 * 2 + (x / 2 % 2 + x % 2 - (x / 2 % 2) * (x % 2))) ∧ (nI x <<< ((1 : Int32) &&& 31)) ||| (0 : Int32) = nI (2 * x) ∧ (nI x <<< ((1 : Int32) &&& 31)) ||| (1 : Int32) = nI (2 * x + 1) ∧ nI x &&& (1 : Int32) = nI (x % 2))) = true := by decide +kernel
theorem enc_le {st : List Bool} (h : st.length ≤ 12) : enc st ≤ 4095 := by
  have a := enc_lt st
  have b := Nat.pow_le_pow_right (show 0 < 2 by decide) h
  omega
def cT (n : Nat) : Int32 := match n with
  | 0 => -1
  | 1 => -2
  | 2 => -3
  | n + 3 => nI n
def mT (n : Nat) : Int32 := match n with
  | 0 => -33
  | 1 => -38
  | 2 => -124
  | n + 3 => nI (1000 * (n / 300) + 100 * (n / 100 % 3) + n % 100)
section HOLD
variable {X : Nat × (Nat → Int32)} {d : Nat} {I : Nat → Nat → Int32} {L : Nat → Nat → Int64} {Q : Option Value → XW → Prop}
theorem s24 {q n : Nat} {a : Nat → Nat} (hq : isInn q) (hn : n < 1800) (ha : ∀ f, f < 6 → I (q + 4) f = nI (a f) ∧ a f < 2 ^ 31) : wp X d m24 0 [some (.ref q), some (.int (nI n)), none, none] [] (K0, R0, I, L) Q ↔ Q (some (.int (bI (tstN a n)))) (K0, R0, I, L) := by
  have h1 : nI n / 100 = nI (n / 100) := nI_div (b := 100) (by omega) (by decide)
  have h2 : nI (n / 100) / 3 = nI (n / 100 / 3) := nI_div (b := 3) (by omega) (by decide)
  have h3 : nI (n / 100) - nI (n / 100 / 3) * 3 = nI (n / 100 % 3) := by
    rw [← h2]
    exact nI_rem (b := 3) (by omega) (by decide)
  have h4 : nI n - nI (n / 100) * 100 = nI (n % 100) := by
    rw [← h1]
    exact nI_rem (b := 100) (by omega) (by decide)
  have h5 : n / 100 / 3 = n / 300 := Nat.div_div_eq_div_mul n 100 3
  have h6 : n / 300 < 6 := by omega
  have h7 : n % 100 < 100 := Nat.mod_lt _ (by decide)
  obtain ⟨g1, g2⟩ := ha (n / 300) h6
  rw [b24_0 hq, h1, h2, h3, h4, h5, if_neg (nI_pos (by omega)), if_pos (show nI (n / 300) < (6 : Int32) from nI_lt (b := 6) (by omega) (by decide)), nI_clamp (by omega), g1]
  have ix : inA (nI (n / 300)) 6 = true := inA_nI h6 (by decide)
  rw [and_iff_right ix, and_iff_right ix, and_iff_right ix]
  unfold tstN
  have e0 : (nI (n / 100 % 3) = 0) ↔ n / 100 % 3 = 0 := nI_eq (b := 0) (by omega) (by decide)
  have e1 : (nI (n / 100 % 3) = 1) ↔ n / 100 % 3 = 1 := nI_eq (b := 1) (by omega) (by decide)
  by_cases c0 : n / 100 % 3 = 0
  · rw [if_pos (e0.mpr c0), if_pos c0]
    have e := nI_ltI g2 (show n % 100 < 2 ^ 31 by omega)
    by_cases c : a (n / 300) < n % 100
    · rw [if_pos (e.mpr c)]; unfold bI; rw [if_pos (decide_eq_true c)]
    · rw [if_neg (fun z => c (e.mp z))]; unfold bI; rw [if_neg (fun z => c (of_decide_eq_true z))]
  rw [if_neg (fun z => c0 (e0.mp z)), if_neg c0]
  by_cases c1 : n / 100 % 3 = 1
  · rw [if_pos (e1.mpr c1), if_pos c1]
    have e := nI_eq g2 (show n % 100 < 2 ^ 31 by omega)
    by_cases c : a (n / 300) = n % 100
    · rw [if_pos (e.mpr c)]; unfold bI; rw [if_pos (decide_eq_true c)]
    · rw [if_neg (fun z => c (e.mp z))]; unfold bI; rw [if_neg (fun z => c (of_decide_eq_true z))]
  · rw [if_neg (fun z => c1 (e1.mp z)), if_neg c1]
    have e := nI_ltI (show n % 100 < 2 ^ 31 by omega) g2
    by_cases c : n % 100 < a (n / 300)
    · rw [if_pos (e.mpr c)]; unfold bI; rw [if_pos (decide_eq_true c)]
    · rw [if_neg (fun z => c (e.mp z))]; unfold bI; rw [if_neg (fun z => c (of_decide_eq_true z))]
end HOLD
