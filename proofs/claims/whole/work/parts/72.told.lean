/-! What is told: joined, twice, mirrored, alike. -/
theorem for_inv {σ : Type} {P : Nat → σ → Prop} {F : Nat → σ → σ} (R : σ → Prop) (s : σ) (hs : R s) : ∀ N, (∀ k t, k < N → R t → R (F k t)) → (∀ k t, k < N → R t → (P k t ↔ P (k + 1) (F k t))) → (P 0 s ↔ P N (itr F N s)) ∧ R (itr F N s) := by
  intro N
  induction N with
  | zero => intro _ _; exact ⟨Iff.rfl, hs⟩
  | succ N ih =>
    intro h1 h2
    obtain ⟨a, b⟩ := ih (fun k t hk => h1 k t (by omega)) (fun k t hk => h2 k t (by omega))
    exact ⟨a.trans (h2 N _ (by omega) b), h1 N _ (by omega) b⟩
theorem nI_and (a b : Nat) : nI a &&& nI b = nI (a &&& b) := by
  apply Int32.toBitVec_inj.mp
  show BitVec.ofNat 32 a &&& BitVec.ofNat 32 b = BitVec.ofNat 32 (a &&& b)
  exact BitVec.ofNat_and.symm
theorem nI_xor (a b : Nat) : nI a ^^^ nI b = nI (a ^^^ b) := by
  apply Int32.toBitVec_inj.mp
  show BitVec.ofNat 32 a ^^^ BitVec.ofNat 32 b = BitVec.ofNat 32 (a ^^^ b)
  exact BitVec.ofNat_xor.symm
theorem xor_le {a b : Nat} (ha : a ≤ 4095) (hb : b ≤ 4095) : a ^^^ b ≤ 4095 := by
  have := Nat.xor_lt_two_pow (n := 12) (show a < 2 ^ 12 by omega) (show b < 2 ^ 12 by omega)
  omega
theorem or0 (x : Int32) : x ||| 0 = x := Int32.or_zero
theorem shN : ∀ k, k < 12 → (1 : Int32) <<< (nI k &&& 31) = nI (2 ^ k) := by decide +kernel
/-- leaves of cups put together, of those that p tells -/
def jnN (lv : Nat → Nat) (p : Nat → Bool) (n : Nat) : Nat := itr (fun i x => if p i = true then x ||| lv i else x) n 0
theorem jnN_le {lv : Nat → Nat} {p : Nat → Bool} : ∀ n, (∀ i, i < n → lv i ≤ 4095) → jnN lv p n ≤ 4095 := by
  intro n
  induction n with
  | zero => intro _; exact Nat.zero_le _
  | succ n ih =>
    intro h
    have a := ih (fun i hi => h i (by omega))
    show (if p n = true then jnN lv p n ||| lv n else jnN lv p n) ≤ 4095
    split
    · exact or_le a (h n (by omega))
    · exact a
section TOLD
variable {X : Nat × (Nat → Int32)} {d : Nat} {I : Nat → Nat → Int32} {L : Nat → Nat → Int64} {Q : Option Value → XW → Prop}
theorem s65 {t i n : Nat} (ht : isTable t) (hn : n ≤ 5) (h1 : I t 1 = nI n) (hi : i < n) : wp X (d + 2) m65 0 [some (.ref t), some (.int (nI i)), none] [] (K0, R0, I, L) Q ↔ Q (some (.int (I (t + 11 + 2 * i) 3))) (K0, R0, I, L) := by
  rw [b65_0 ht, s17_t ht hn h1 hi]
  simp only [Option.toList, List.cons_append, List.nil_append]
  rw [b65_5 (tcup ht (by omega))]
theorem s64 {t n : Nat} {b : Int32} {lv : Nat → Nat} {p : Nat → Bool} (ht : isTable t) (hn : n ≤ 5) (h1 : I t 1 = nI n) (hl : ∀ i, i < n → I (t + 11 + 2 * i) 3 = nI (lv i)) (hp : ∀ i, i < n → (nI i = b ↔ p i = false)) : wp X (d + 3) m64 0 [some (.ref t), some (.int b), none, none] [] (K0, R0, I, L) Q ↔ Q (some (.int (nI (jnN lv p n)))) (K0, R0, I, L) := by
  rw [b64_0 ht]
  refine (for_iff (P := fun k (x : Nat) => wp X (d + 3) m64 4 [some (.ref t), some (.int b), some (.int (nI x)), some (.int (nI k))] [] (K0, R0, I, L) Q) (F := fun i x => if p i = true then x ||| lv i else x) n (fun k x hk => ?_) 0).trans ?_
  · rw [b64_4 ht, h1, if_pos (nI_lt hk (by omega)), nI_1]
    by_cases c : p k = true
    · rw [if_neg (fun q => by rw [(hp k hk).mp q] at c; exact absurd c (by decide)), s65 ht hn h1 hk, hl k hk]
      simp only [Option.toList, List.cons_append, List.nil_append]
      rw [b64_23 ht, nI_or, nI_1]
      simp only [c, if_true]
    · rw [if_pos ((hp k hk).mpr (by simpa using c))]
      simp only [c, if_false]
      exact Iff.rfl
  · rw [b64_4 ht, h1, if_neg (nI_nlt (Nat.le_refl _) (by omega))]
    exact Iff.rfl
theorem s93 {t n : Nat} {s : Int32} {lv : Nat → Nat} {p : Nat → Bool} (ht : isTable t) (hn : n ≤ 5) (h1 : I t 1 = nI n) (hl : ∀ i, i < n → I (t + 11 + 2 * i) 3 = nI (lv i)) (hp : ∀ i, i < n → (((s >>> (nI i &&& 31)) &&& (1 : Int32)) = 1 ↔ p i = true)) : wp X (d + 3) m93 0 [some (.ref t), some (.int s), none, none] [] (K0, R0, I, L) Q ↔ Q (some (.int (nI (jnN lv p n)))) (K0, R0, I, L) := by
  rw [b93_0 ht]
  refine (for_iff (P := fun k (x : Nat) => wp X (d + 3) m93 4 [some (.ref t), some (.int s), some (.int (nI x)), some (.int (nI k))] [] (K0, R0, I, L) Q) (F := fun i x => if p i = true then x ||| lv i else x) n (fun k x hk => ?_) 0).trans ?_
  · rw [b93_4 ht, h1, if_pos (nI_lt hk (by omega)), nI_1]
    by_cases c : p k = true
    · rw [if_pos ((hp k hk).mpr c), s65 ht hn h1 hk, hl k hk]
      simp only [Option.toList, List.cons_append, List.nil_append]
      rw [b93_27 ht, nI_or, nI_1]
      simp only [c, if_true]
    · rw [if_neg (fun q => c ((hp k hk).mp q))]
      simp only [c, if_false]
      exact Iff.rfl
  · rw [b93_4 ht, h1, if_neg (nI_nlt (Nat.le_refl _) (by omega))]
    exact Iff.rfl
theorem s198 {n : Nat} {s : Int32} {lv : Nat → Nat} {p : Nat → Bool} (hn : n ≤ 5) (h1 : I 124 0 = nI n) (hl : ∀ i, i < n → I 127 i = nI (lv i)) (hp : ∀ i, i < n → (hasI s (nI i) = 0 ↔ p i = false)) : wp X (d + 1) m198 0 [some (.ref 124), some (.int s), none, none] [] (K0, R0, I, L) Q ↔ Q (some (.int (nI (jnN lv p n)))) (K0, R0, I, L) := by
  rw [b198_0]
  refine (for_iff (P := fun k (x : Nat) => wp X (d + 1) m198 4 [some (.ref 124), some (.int s), some (.int (nI x)), some (.int (nI k))] [] (K0, R0, I, L) Q) (F := fun i x => if p i = true then x ||| lv i else x) n (fun k x hk => ?_) 0).trans ?_
  · rw [b198_4, h1, if_pos (nI_lt hk (by omega)), b170_0]
    simp only [Option.toList, List.cons_append, List.nil_append]
    have ix : inA (nI k) 5 = true := inA_nI (by omega) (by decide)
    rw [b198_19, and_iff_right ix, nI_clamp (by omega), hl k hk, nI_or, nI_1, or0]
    by_cases c : p k = true
    · have g : ¬ hasI s (nI k) = 0 := fun q => by rw [(hp k hk).mp q] at c; exact absurd c (by decide)
      simp only [c, if_true]
      exact Iff.of_eq (if_neg g)
    · have g : hasI s (nI k) = 0 := (hp k hk).mpr (by simpa using c)
      simp only [c, if_false]
      exact Iff.of_eq (if_pos g)
  · rw [b198_4, h1, if_neg (nI_nlt (Nat.le_refl _) (by omega))]
    exact Iff.rfl
end TOLD
/-! Twice. -/
def cntN (lv : Nat → Nat) (k n : Nat) : Nat := itr (fun c x => if lv c / 2 ^ k % 2 = 0 then x else x + 1) n 0
def twM (lv : Nat → Nat) (n m : Nat) : Nat := itr (fun k x => if 1 < cntN lv k n then x ||| 2 ^ k else x) m 0
def twC (lv : Nat → Nat) (n : Nat) : Nat × Nat := itr (fun i (s : Nat × Nat) => (s.1 ||| (s.2 &&& lv i), s.2 ||| lv i)) n (0, 0)
theorem cnt_le {lv : Nat → Nat} {k : Nat} : ∀ n, cntN lv k n ≤ n := by
  intro n
  induction n with
  | zero => exact Nat.le_refl _
  | succ n ih =>
    show (if lv n / 2 ^ k % 2 = 0 then cntN lv k n else cntN lv k n + 1) ≤ n + 1
    split <;> omega
theorem twC_bits {lv : Nat → Nat} {k : Nat} : ∀ n, (twC lv n).1.testBit k = decide (1 < cntN lv k n) ∧ (twC lv n).2.testBit k = decide (0 < cntN lv k n) := by
  intro n
  induction n with
  | zero =>
    refine ⟨?_, ?_⟩
    · show (0 : Nat).testBit k = decide (1 < 0)
      rw [Nat.zero_testBit]; rfl
    · show (0 : Nat).testBit k = decide (0 < 0)
      rw [Nat.zero_testBit]; rfl
  | succ n ih =>
    obtain ⟨a, b⟩ := ih
    have e1 : (twC lv (n + 1)).1 = (twC lv n).1 ||| ((twC lv n).2 &&& lv n) := rfl
    have e2 : (twC lv (n + 1)).2 = (twC lv n).2 ||| lv n := rfl
    have e3 : cntN lv k (n + 1) = if lv n / 2 ^ k % 2 = 0 then cntN lv k n else cntN lv k n + 1 := rfl
    rw [e1, e2, e3, Nat.testBit_or, Nat.testBit_or, Nat.testBit_and, a, b, Nat.testBit_eq_decide_div_mod_eq]
    rcases Nat.mod_two_eq_zero_or_one (lv n / 2 ^ k) with h | h
    · rw [h, if_pos rfl]
      simp
    · rw [h, if_neg (by decide)]
      generalize cntN lv k n = c
      match c with
      | 0 => exact ⟨rfl, rfl⟩
      | 1 => exact ⟨rfl, rfl⟩
      | c + 2 =>
        have h1 : decide (1 < c + 2) = true := decide_eq_true (by omega)
        have h2 : decide (1 < c + 2 + 1) = true := decide_eq_true (by omega)
        have h3 : decide (0 < c + 2) = true := decide_eq_true (by omega)
        have h4 : decide (0 < c + 2 + 1) = true := decide_eq_true (by omega)
        rw [h1, h2, h3, h4]
        exact ⟨rfl, rfl⟩
theorem twM_bits {lv : Nat → Nat} {n k : Nat} : ∀ m, (twM lv n m).testBit k = decide (k < m ∧ 1 < cntN lv k n) := by
  intro m
  induction m with
  | zero =>
    show (0 : Nat).testBit k = _
    rw [Nat.zero_testBit]
    exact (decide_eq_false (by omega)).symm
  | succ m ih =>
    have e : twM lv n (m + 1) = if 1 < cntN lv m n then twM lv n m ||| 2 ^ m else twM lv n m := rfl
    rw [e]
    by_cases c : 1 < cntN lv m n
    · rw [if_pos c, Nat.testBit_or, ih, Nat.testBit_two_pow]
      by_cases q : m = k
      · subst q
        rw [decide_eq_true (show m = m from rfl), Bool.or_true]
        exact (decide_eq_true ⟨by omega, c⟩).symm
      · rw [decide_eq_false q, Bool.or_false]
        exact decide_eq_decide.mpr ⟨fun h => ⟨by omega, h.2⟩, fun h => ⟨by omega, h.2⟩⟩
    · rw [if_neg c, ih]
      refine decide_eq_decide.mpr ⟨fun h => ⟨by omega, h.2⟩, fun h => ⟨?_, h.2⟩⟩
      have := h.1
      by_cases q : k = m
      · subst q; exact absurd h.2 c
      · omega
theorem twC_le {lv : Nat → Nat} : ∀ n, (∀ i, i < n → lv i ≤ 4095) → (twC lv n).1 ≤ 4095 ∧ (twC lv n).2 ≤ 4095 := by
  intro n
  induction n with
  | zero => intro _; exact ⟨Nat.zero_le _, Nat.zero_le _⟩
  | succ n ih =>
    intro h
    obtain ⟨a, b⟩ := ih (fun i hi => h i (by omega))
    have hl := h n (by omega)
    have g := Nat.and_lt_two_pow (twC lv n).2 (n := 12) (y := lv n) (by omega)
    exact ⟨or_le a (show (twC lv n).2 &&& lv n ≤ 4095 by omega), or_le b hl⟩
theorem tw_eq {lv : Nat → Nat} {n : Nat} (h : ∀ i, i < n → lv i ≤ 4095) : twM lv n 12 = (twC lv n).1 := by
  refine Nat.eq_of_testBit_eq (fun k => ?_)
  rw [twM_bits, (twC_bits n).1]
  by_cases c : k < 12
  · exact decide_eq_decide.mpr ⟨fun q => q.2, fun q => ⟨c, q⟩⟩
  · rw [decide_eq_false (fun q => c q.1), ← (twC_bits (lv := lv) n).1]
    have := Nat.pow_le_pow_right (show 0 < 2 by decide) (show 12 ≤ k by omega)
    exact (Nat.testBit_lt_two_pow (by have := (twC_le n h).1; omega)).symm
section TOLD
variable {X : Nat × (Nat → Int32)} {d : Nat} {I : Nat → Nat → Int32} {L : Nat → Nat → Int64} {Q : Option Value → XW → Prop}
theorem s66 {t n : Nat} {lv : Nat → Nat} (ht : isTable t) (hn : n ≤ 5) (h1 : I t 1 = nI n) (hl : ∀ i, i < n → I (t + 11 + 2 * i) 3 = nI (lv i)) : wp X (d + 3) m66 0 [some (.ref t), none, none, none] [] (K0, R0, I, L) Q ↔ Q (some (.int (nI (twC lv n).1))) (K0, R0, I, L) := by
  rw [b66_0 ht]
  refine (for_iff (P := fun k (s : Nat × Nat) => wp X (d + 3) m66 6 [some (.ref t), some (.int (nI s.2)), some (.int (nI s.1)), some (.int (nI k))] [] (K0, R0, I, L) Q) (F := fun i (s : Nat × Nat) => (s.1 ||| (s.2 &&& lv i), s.2 ||| lv i)) n (fun k s hk => ?_) (0, 0)).trans ?_
  · rw [b66_6 ht, h1, if_pos (nI_lt hk (by omega)), s65 ht hn h1 hk, hl k hk]
    simp only [Option.toList, List.cons_append, List.nil_append]
    rw [b66_21 ht, s65 ht hn h1 hk, hl k hk]
    simp only [Option.toList, List.cons_append, List.nil_append]
    rw [b66_30 ht, nI_or, nI_and, nI_or, nI_1]
  · rw [b66_6 ht, h1, if_neg (nI_nlt (Nat.le_refl _) (by omega))]
    exact Iff.rfl
theorem s199 {n : Nat} {lv : Nat → Nat} (hn : n ≤ 5) (h1 : I 124 0 = nI n) (hl : ∀ i, i < n → I 127 i = nI (lv i) ∧ lv i ≤ 4095) : wp X (d + 1) m199 0 [some (.ref 124), none, none, none, none] [] (K0, R0, I, L) Q ↔ Q (some (.int (nI (twM lv n 12)))) (K0, R0, I, L) := by
  rw [b199_0]
  refine (for_iff (P := fun k (x : Nat) => wp X (d + 1) m199 4 [some (.ref 124), some (.int (nI x)), some (.int (nI k)), none, none] [] (K0, R0, I, L) Q) (F := fun k x => if 1 < cntN lv k n then x ||| 2 ^ k else x) 12 (fun k x hk => ?_) 0).trans ?_
  · rw [b199_4, if_pos (lt12 hk)]
    refine (for_iff (P := fun c (y : Nat) => wp X (d + 1) m199 15 [some (.ref 124), some (.int (nI x)), some (.int (nI k)), some (.int (nI y)), some (.int (nI c))] [] (K0, R0, I, L) Q) (F := fun c y => if lv c / 2 ^ k % 2 = 0 then y else y + 1) n (fun c y hc => ?_) 0).trans ?_
    · obtain ⟨g1, g2⟩ := hl c hc
      rw [b199_15, h1, if_pos (nI_lt hc (by omega)), and_iff_right (inA_nI (by omega) (by decide)), nI_clamp (by omega), g1, b170_0]
      simp only [Option.toList, List.cons_append, List.nil_append]
      have g := hasN0 (k := k) g2 (by omega)
      rw [b199_37, nI_1 c]
      by_cases z : lv c / 2 ^ k % 2 = 0
      · have z' : (if ((nI (lv c) >>> (nI k &&& 31)) &&& (1 : Int32)) = 1 then (1 : Int32) else 0) = 0 := g.mpr z
        rw [z', if_pos rfl, if_pos z, Int32.add_zero]
      · have z' : ¬ (if ((nI (lv c) >>> (nI k &&& 31)) &&& (1 : Int32)) = 1 then (1 : Int32) else 0) = 0 := fun q => z (g.mp q)
        rw [if_neg z', if_neg z, nI_1 y]
    · rw [b199_15, h1, if_neg (nI_nlt (Nat.le_refl _) (by omega)), nI_1, shN k hk, nI_or, or0]
      have e : itr (fun c y => if lv c / 2 ^ k % 2 = 0 then y else y + 1) n 0 = cntN lv k n := rfl
      rw [e]
      have g := @nI_ltI 1 (cntN lv k n) (by decide) (by have := @cnt_le lv k n; omega)
      by_cases z : 1 < cntN lv k n
      · rw [if_pos (show (1 : Int32) < nI (cntN lv k n) from g.mpr z), if_pos z]
      · rw [if_neg (show ¬ (1 : Int32) < nI (cntN lv k n) from fun q => z (g.mp q)), if_neg z]
  · rw [b199_4, if_neg nlt12]
    exact Iff.rfl
/-- mirrored -/
def mrF (lv : Nat → Nat) (i : Nat) (x : Int32) : Int32 := if mirI (nI (lv i)) = nI (lv i) then x ||| ((1 : Int32) <<< (nI i &&& 31)) else x
theorem s67 {t n : Nat} {lv : Nat → Nat} (ht : isTable t) (hn : n ≤ 5) (h1 : I t 1 = nI n) (hl : ∀ i, i < n → I (t + 11 + 2 * i) 3 = nI (lv i)) : wp X (d + 3) m67 0 [some (.ref t), none, none] [] (K0, R0, I, L) Q ↔ Q (some (.int (itr (mrF lv) n 0))) (K0, R0, I, L) := by
  rw [b67_0 ht]
  refine (for_iff (P := fun k (x : Int32) => wp X (d + 3) m67 4 [some (.ref t), some (.int x), some (.int (nI k))] [] (K0, R0, I, L) Q) (F := mrF lv) n (fun k x hk => ?_) 0).trans ?_
  · rw [b67_4 ht, h1, if_pos (nI_lt hk (by omega)), s65 ht hn h1 hk, hl k hk]
    simp only [Option.toList, List.cons_append, List.nil_append]
    rw [b67_17 ht, b68_0]
    simp only [Option.toList, List.cons_append, List.nil_append]
    rw [b67_20 ht, s65 ht hn h1 hk, hl k hk]
    simp only [Option.toList, List.cons_append, List.nil_append]
    rw [b67_25 ht, nI_1]
    exact Iff.rfl
  · rw [b67_4 ht, h1, if_neg (nI_nlt (Nat.le_refl _) (by omega))]
theorem s200 {n : Nat} {lv : Nat → Nat} (hn : n ≤ 5) (h1 : I 124 0 = nI n) (hl : ∀ i, i < n → I 127 i = nI (lv i) ∧ lv i ≤ 4095) : wp X (d + 1) m200 0 [some (.ref 124), none, none, none, none] [] (K0, R0, I, L) Q ↔ Q (some (.int (itr (mrF lv) n 0))) (K0, R0, I, L) := by
  rw [b200_0]
  refine (for_iff (P := fun k (x : Int32) => wp X (d + 1) m200 4 [some (.ref 124), some (.int x), some (.int (nI k)), none, none] [] (K0, R0, I, L) Q) (F := mrF lv) n (fun k x hk => ?_) 0).trans ?_
  · obtain ⟨g1, g2⟩ := hl k hk
    have ix : inA (nI k) 5 = true := inA_nI (by omega) (by decide)
    have hcl : (nI k).toNatClampNeg = k := nI_clamp (by omega)
    rw [b200_4, h1, if_pos (nI_lt hk (by omega))]
    refine (for_iff (P := fun c (y : Int32) => wp X (d + 1) m200 17 [some (.ref 124), some (.int x), some (.int (nI k)), some (.int y), some (.int (nI c))] [] (K0, R0, I, L) Q) (F := mirF (nI (lv k))) 12 (fun c y hc => ?_) 0).trans ?_
    · rw [b200_17, if_pos (lt12 hc), and_iff_right ix, hcl, g1, b170_0]
      simp only [Option.toList, List.cons_append, List.nil_append]
      rw [b200_37, nI_1]
      exact Iff.rfl
    · rw [b200_17, if_neg nlt12, and_iff_right ix, hcl, g1, nI_1, or0]
      have e : itr (mirF (nI (lv k))) 12 0 = mirI (nI (lv k)) := of_decide_eq_true (all_at dec_mir g2)
      rw [e]
      exact Iff.rfl
  · rw [b200_4, h1, if_neg (nI_nlt (Nat.le_refl _) (by omega))]
/-! The fewest of several: a number and how many cells. -/
end TOLD
abbrev Bst : Type := Option (Nat × Nat)
def bst (id cells : Nat) (s : Bst) : Bst := match s with
  | none => some (id, cells)
  | some (b, f) => if cells < f then some (id, cells) else some (b, f)
def bstI (s : Bst) : Int32 := match s with
  | none => -5
  | some (b, _) => nI b
/-- how few, as the class begins (h) -/
def bstF (h : Int32) (s : Bst) : Int32 := match s with
  | none => h
  | some (_, f) => nI f
def bstOk (s : Bst) : Prop := match s with
  | none => True
  | some (b, f) => b ≤ 1000 ∧ f ≤ 12
theorem bst_ok {id cells : Nat} {s : Bst} (h : bstOk s) (hi : id ≤ 1000) (hc : cells ≤ 12) : bstOk (bst id cells s) := by
  match s, h with
  | none, _ => exact ⟨hi, hc⟩
  | some (b, f), h =>
    show bstOk (if cells < f then some (id, cells) else some (b, f))
    split
    · exact ⟨hi, hc⟩
    · exact h
/-- the class's step -/
theorem bst_c {id cells : Nat} {s : Bst} (h : bstOk s) (hc : cells ≤ 12) (P : Int32 → Int32 → Prop) : (if nI cells < bstF 13 s then P (nI id) (nI cells) else P (bstI s) (bstF 13 s)) ↔ P (bstI (bst id cells s)) (bstF 13 (bst id cells s)) := by
  match s, h with
  | none, _ => rw [if_pos (show nI cells < bstF 13 none from nI_lt (b := 13) (by omega) (by decide))]; exact Iff.rfl
  | some (b, f), h =>
    have h2 : f ≤ 12 := h.2
    have g := nI_ltI (a := cells) (b := f) (by omega) (by omega)
    show (if nI cells < nI f then P (nI id) (nI cells) else P (nI b) (nI f)) ↔ P (bstI (if cells < f then some (id, cells) else some (b, f))) (bstF 13 (if cells < f then some (id, cells) else some (b, f)))
    by_cases c : cells < f
    · rw [if_pos (g.mpr c), if_pos c]; exact Iff.rfl
    · rw [if_neg (fun q => c (g.mp q)), if_neg c]; exact Iff.rfl
/-- the reference's -/
theorem bst_m {id cells : Nat} {s : Bst} (h : bstOk s) (hc : cells ≤ 12) (P : Int32 → Int32 → Prop) : (if bstI s < 0 then P (nI id) (nI cells) else if nI cells < bstF 0 s then P (nI id) (nI cells) else P (bstI s) (bstF 0 s)) ↔ P (bstI (bst id cells s)) (bstF 0 (bst id cells s)) := by
  match s, h with
  | none, _ => rw [if_pos (show bstI none < 0 by decide)]; exact Iff.rfl
  | some (b, f), h =>
    have h1 : b ≤ 1000 := h.1
    have h2 : f ≤ 12 := h.2
    have g := nI_ltI (a := cells) (b := f) (by omega) (by omega)
    rw [if_neg (show ¬ bstI (some (b, f)) < 0 from nI_pos (by omega))]
    show (if nI cells < nI f then P (nI id) (nI cells) else P (nI b) (nI f)) ↔ P (bstI (if cells < f then some (id, cells) else some (b, f))) (bstF 0 (if cells < f then some (id, cells) else some (b, f)))
    by_cases c : cells < f
    · rw [if_pos (g.mpr c), if_pos c]; exact Iff.rfl
    · rw [if_neg (fun q => c (g.mp q)), if_neg c]; exact Iff.rfl
def alI (lv : Nat → Nat) (i e : Nat) (s : Bst) : Bst := bst (10 * i + (i + 1 + e)) (pop (lv i ^^^ lv (i + 1 + e))) s
def alO (lv : Nat → Nat) (n i : Nat) (s : Bst) : Bst := itr (alI lv i) (n - (i + 1)) s
section TOLD
variable {X : Nat × (Nat → Int32)} {d : Nat} {I : Nat → Nat → Int32} {L : Nat → Nat → Int64} {Q : Option Value → XW → Prop}
theorem s70 {a b : Nat} (ha : a ≤ 4095) (hb : b ≤ 4095) : wp X (d + 1) m70 0 [some (.int (nI a)), some (.int (nI b))] [] (K0, R0, I, L) Q ↔ Q (some (.int (nI (pop (a ^^^ b))))) (K0, R0, I, L) := by
  rw [b70_0, nI_xor, s22, (pop_ok (xor_le ha hb)).2.2]
  simp only [Option.toList, List.cons_append, List.nil_append]
  rw [b70_6]
theorem s69 {t n : Nat} {lv : Nat → Nat} (ht : isTable t) (hn : n ≤ 5) (h1 : I t 1 = nI n) (hl : ∀ i, i < n → I (t + 11 + 2 * i) 3 = nI (lv i) ∧ lv i ≤ 4095) : wp X (d + 3) m69 0 [some (.ref t), none, none, none, none, none] [] (K0, R0, I, L) Q ↔ Q (some (.int (bstI (itr (alO lv n) n none)))) (K0, R0, I, L) := by
  rw [b69_0 ht]
  have inner : ∀ i s, i < n → bstOk s → (wp X (d + 3) m69 21 [some (.ref t), some (.int (bstI s)), some (.int (bstF 13 s)), some (.int (nI i)), some (.int (nI (i + 1))), none] [] (K0, R0, I, L) Q ↔ wp X (d + 3) m69 8 [some (.ref t), some (.int (bstI (alO lv n i s))), some (.int (bstF 13 (alO lv n i s))), some (.int (nI (i + 1))), none, none] [] (K0, R0, I, L) Q) ∧ bstOk (alO lv n i s) := by
    intro i s hi hs
    obtain ⟨a, b⟩ := for_inv (P := fun e (s : Bst) => wp X (d + 3) m69 21 [some (.ref t), some (.int (bstI s)), some (.int (bstF 13 s)), some (.int (nI i)), some (.int (nI (i + 1 + e))), none] [] (K0, R0, I, L) Q) (F := alI lv i) bstOk s hs (n - (i + 1)) (fun e s he hs => bst_ok hs (by omega) (pop_ok (xor_le (hl i hi).2 (hl _ (by omega)).2)).1) (fun e s he hs => by
      rw [b69_21 ht, h1, if_pos (nI_lt (by omega) (by omega)), s65 ht hn h1 hi, (hl i hi).1]
      simp only [Option.toList, List.cons_append, List.nil_append]
      rw [b69_35 ht, s65 ht hn h1 (show i + 1 + e < n by omega), (hl (i + 1 + e) (by omega)).1]
      simp only [Option.toList, List.cons_append, List.nil_append]
      rw [b69_41 ht, s70 (hl i hi).2 (hl (i + 1 + e) (by omega)).2]
      simp only [Option.toList, List.cons_append, List.nil_append]
      rw [b69_44 ht, nI_1, show (10 : Int32) * nI i + nI (i + 1 + e) = nI (10 * i + (i + 1 + e)) by rw [show (10 : Int32) * nI i = nI (10 * i) from nI_mul 10 i, nI_add]]
      exact bst_c hs (pop_ok (xor_le (hl i hi).2 (hl _ (by omega)).2)).1 (fun u v => wp X (d + 3) m69 21 [some (.ref t), some (.int u), some (.int v), some (.int (nI i)), some (.int (nI (i + 1 + e + 1))), none] [] (K0, R0, I, L) Q))
    refine ⟨a.trans ?_, b⟩
    show wp X (d + 3) m69 21 [some (.ref t), some (.int (bstI (alO lv n i s))), some (.int (bstF 13 (alO lv n i s))), some (.int (nI i)), some (.int (nI (i + 1 + (n - (i + 1))))), none] [] (K0, R0, I, L) Q ↔ _
    rw [show i + 1 + (n - (i + 1)) = n by omega, b69_21 ht, h1, if_neg (nI_nlt (Nat.le_refl _) (by omega)), nI_1]
  obtain ⟨a, -⟩ := for_inv (P := fun i (s : Bst) => wp X (d + 3) m69 8 [some (.ref t), some (.int (bstI s)), some (.int (bstF 13 s)), some (.int (nI i)), none, none] [] (K0, R0, I, L) Q) (F := alO lv n) bstOk none trivial n (fun i s hi hs => (inner i s hi hs).2) (fun i s hi hs => by
    rw [b69_8 ht, h1, if_pos (nI_lt hi (by omega)), nI_1]
    exact (inner i s hi hs).1)
  refine a.trans ?_
  show wp X (d + 3) m69 8 [some (.ref t), some (.int (bstI (itr (alO lv n) n none))), some (.int (bstF 13 (itr (alO lv n) n none))), some (.int (nI n)), none, none] [] (K0, R0, I, L) Q ↔ _
  rw [b69_8 ht, h1, if_neg (nI_nlt (Nat.le_refl _) (by omega))]
theorem s201 {n : Nat} {lv : Nat → Nat} (hn : n ≤ 5) (h1 : I 124 0 = nI n) (hl : ∀ i, i < n → I 127 i = nI (lv i) ∧ lv i ≤ 4095) : wp X (d + 2) m201 0 [some (.ref 124), none, none, none, none, none] [] (K0, R0, I, L) Q ↔ Q (some (.int (bstI (itr (alO lv n) n none)))) (K0, R0, I, L) := by
  rw [b201_0]
  have inner : ∀ i s, i < n → bstOk s → (wp X (d + 2) m201 20 [some (.ref 124), some (.int (bstI s)), some (.int (bstF 0 s)), some (.int (nI i)), some (.int (nI (i + 1))), none] [] (K0, R0, I, L) Q ↔ wp X (d + 2) m201 7 [some (.ref 124), some (.int (bstI (alO lv n i s))), some (.int (bstF 0 (alO lv n i s))), some (.int (nI (i + 1))), none, none] [] (K0, R0, I, L) Q) ∧ bstOk (alO lv n i s) := by
    intro i s hi hs
    obtain ⟨a, b⟩ := for_inv (P := fun e (s : Bst) => wp X (d + 2) m201 20 [some (.ref 124), some (.int (bstI s)), some (.int (bstF 0 s)), some (.int (nI i)), some (.int (nI (i + 1 + e))), none] [] (K0, R0, I, L) Q) (F := alI lv i) bstOk s hs (n - (i + 1)) (fun e s he hs => bst_ok hs (by omega) (pop_ok (xor_le (hl i hi).2 (hl _ (by omega)).2)).1) (fun e s he hs => by
      have hp := pop_ok (xor_le (hl i hi).2 (hl (i + 1 + e) (by omega)).2)
      rw [b201_20, h1, if_pos (nI_lt (by omega) (by omega)), and_iff_right (inA_nI (by omega) (by decide)), and_iff_right (inA_nI (by omega) (by decide)), nI_clamp (show i < 2 ^ 31 by omega), nI_clamp (show i + 1 + e < 2 ^ 31 by omega), (hl i hi).1, (hl (i + 1 + e) (by omega)).1, nI_xor, s169, hp.2.1]
      simp only [Option.toList, List.cons_append, List.nil_append]
      rw [b201_47, nI_1, show (10 : Int32) * nI i + nI (i + 1 + e) = nI (10 * i + (i + 1 + e)) by rw [show (10 : Int32) * nI i = nI (10 * i) from nI_mul 10 i, nI_add]]
      exact bst_m hs hp.1 (fun u v => wp X (d + 2) m201 20 [some (.ref 124), some (.int u), some (.int v), some (.int (nI i)), some (.int (nI (i + 1 + e + 1))), none] [] (K0, R0, I, L) Q))
    refine ⟨a.trans ?_, b⟩
    show wp X (d + 2) m201 20 [some (.ref 124), some (.int (bstI (alO lv n i s))), some (.int (bstF 0 (alO lv n i s))), some (.int (nI i)), some (.int (nI (i + 1 + (n - (i + 1))))), none] [] (K0, R0, I, L) Q ↔ _
    rw [show i + 1 + (n - (i + 1)) = n by omega, b201_20, h1, if_neg (nI_nlt (Nat.le_refl _) (by omega)), nI_1]
  obtain ⟨a, -⟩ := for_inv (P := fun i (s : Bst) => wp X (d + 2) m201 7 [some (.ref 124), some (.int (bstI s)), some (.int (bstF 0 s)), some (.int (nI i)), none, none] [] (K0, R0, I, L) Q) (F := alO lv n) bstOk none trivial n (fun i s hi hs => (inner i s hi hs).2) (fun i s hi hs => by
    rw [b201_7, h1, if_pos (nI_lt hi (by omega)), nI_1]
    exact (inner i s hi hs).1)
  refine a.trans ?_
  show wp X (d + 2) m201 7 [some (.ref 124), some (.int (bstI (itr (alO lv n) n none))), some (.int (bstF 0 (itr (alO lv n) n none))), some (.int (nI n)), none, none] [] (K0, R0, I, L) Q ↔ _
  rw [b201_7, h1, if_neg (nI_nlt (Nat.le_refl _) (by omega))]
end TOLD
section CALLS
variable {X : Nat × (Nat → Int32)} {d : Nat}
def lvF (I : Nat → Nat → Int32) (i : Nat) : Nat := (I 127 i).toNatClampNeg
theorem lv_view {I : Nat → Nat → Int32} {n q : Nat} (h : NowI I n q) (hn : n ≤ 5) : ∀ i, i < n → I (1 + 11 + 2 * i) 3 = nI (lvF I i) ∧ I 127 i = nI (lvF I i) ∧ lvF I i ≤ 4095 := by
  intro i hi
  obtain ⟨⟨c3, -⟩, ⟨lv, h1, h2⟩, -⟩ := cupcells h (i := i) (by omega)
  unfold lvF
  have c3' : I (1 + 11 + 2 * i) 3 = I 127 i := c3
  rw [c3', h2, nI_clamp (by omega)]
  exact ⟨rfl, rfl, h1⟩
theorem ok_told {x1 : Int32} : Ok X d m63 m196 [some (.ref 0), some (.int x1)] [some (.ref 124), some (.int x1)] := by
  intro I L hI
  obtain ⟨n, t, z, k, wd, nb, mm, T, hN, hn, e1, e4, S⟩ := sit_view hI
  have hv := lv_view hN hn
  by_cases c0 : x1 = 0
  · exact ⟨.int (nI t), I, L, I, L, hI, fun Q => by rw [b63_0, if_pos c0, S.2.2.2.2.2.2.1], fun Q => by rw [b196_0, if_pos c0, S.2.2.2.2.2.2.2.1]⟩
  by_cases c1 : x1 = 1
  · refine ⟨.int (riS wd nb k), I, L, I, L, hI, fun Q => ?_, fun Q => ?_⟩
    · rw [b63_0, if_neg c0, if_pos c1, S.2.2.2.2.2.2.2.2.2.2 _ _ _ _ _ rfl]
      simp only [Option.toList, List.cons_append, List.nil_append]
      rw [b63_56 S.1.inn, S.2.2.2.1]
    · rw [b196_0, if_neg c0, if_pos c1]
      refine (s183H (k := 2) (df := 2) (by decide) S.2.2.1).trans ?_
      simp only [Option.toList, List.cons_append, List.nil_append]
      rw [b196_55]
      exact Iff.rfl
  by_cases c2 : x1 = 2
  · refine ⟨.int (faS wd nb k), I, L, I, L, hI, fun Q => ?_, fun Q => ?_⟩
    · rw [b63_0, if_neg c0, if_neg c1, if_pos c2, S.2.2.2.2.2.2.2.2.2.2 _ _ _ _ _ rfl]
      simp only [Option.toList, List.cons_append, List.nil_append]
      rw [b63_64 S.1.inn, S.2.2.2.2.1]
    · rw [b196_0, if_neg c0, if_neg c1, if_pos c2]
      refine (s183H (k := 3) (df := 1) (by decide) S.2.2.1).trans ?_
      simp only [Option.toList, List.cons_append, List.nil_append]
      rw [b196_62]
      exact Iff.rfl
  by_cases c3 : x1 = 3
  · refine ⟨.int (nI (jnN (lvF I) (fun _ => true) n)), I, L, I, L, hI, fun Q => ?_, fun Q => ?_⟩
    · rw [b63_0, if_neg c0, if_neg c1, if_neg c2, if_pos c3, s64 (p := fun _ => true) tbl_1 hn e1 (fun i hi => (hv i hi).1) (fun i hi => ⟨fun q => absurd q (by
        have := nI_toInt (n := i) (by omega)
        intro q
        rw [q, show (-1 : Int32).toInt = -1 by decide] at this
        omega), fun q => absurd q (by decide)⟩)]
      simp only [Option.toList, List.cons_append, List.nil_append]
      rw [b63_76]
    · rw [b196_0, if_neg c0, if_neg c1, if_neg c2, if_pos c3, b197_0]
      refine (s198 (s := 31) (p := fun _ => true) hn e4 (fun i hi => (hv i hi).2.1) (fun i hi => ?_)).trans ?_
      · have : ∀ j, j < 5 → ¬ hasI 31 (nI j) = 0 := by decide +kernel
        exact ⟨fun q => absurd q (this i (by omega)), fun q => absurd q (by decide)⟩
      · simp only [Option.toList, List.cons_append, List.nil_append]
        rw [b197_6]
        simp only [Option.toList, List.cons_append, List.nil_append]
        rw [b196_67]
  by_cases c4 : x1 = 4
  · refine ⟨.int (nI (twC (lvF I) n).1), I, L, I, L, hI, fun Q => ?_, fun Q => ?_⟩
    · rw [b63_0, if_neg c0, if_neg c1, if_neg c2, if_neg c3, if_pos c4, s66 tbl_1 hn e1 (fun i hi => (hv i hi).1)]
      simp only [Option.toList, List.cons_append, List.nil_append]
      rw [b63_84]
    · rw [b196_0, if_neg c0, if_neg c1, if_neg c2, if_neg c3, if_pos c4, s199 hn e4 (fun i hi => (hv i hi).2), tw_eq (fun i hi => (hv i hi).2.2)]
      simp only [Option.toList, List.cons_append, List.nil_append]
      rw [b196_72]
  by_cases c5 : x1 = 5
  · refine ⟨.int (itr (mrF (lvF I)) n 0), I, L, I, L, hI, fun Q => ?_, fun Q => ?_⟩
    · rw [b63_0, if_neg c0, if_neg c1, if_neg c2, if_neg c3, if_neg c4, if_pos c5, s67 tbl_1 hn e1 (fun i hi => (hv i hi).1)]
      simp only [Option.toList, List.cons_append, List.nil_append]
      rw [b63_92]
    · rw [b196_0, if_neg c0, if_neg c1, if_neg c2, if_neg c3, if_neg c4, if_pos c5, s200 hn e4 (fun i hi => (hv i hi).2)]
      simp only [Option.toList, List.cons_append, List.nil_append]
      rw [b196_77]
  by_cases c6 : x1 = 6
  · refine ⟨.int (bstI (itr (alO (lvF I) n) n none)), I, L, I, L, hI, fun Q => ?_, fun Q => ?_⟩
    · rw [b63_0, if_neg c0, if_neg c1, if_neg c2, if_neg c3, if_neg c4, if_neg c5, if_pos c6, s69 tbl_1 hn e1 (fun i hi => ⟨(hv i hi).1, (hv i hi).2.2⟩)]
      simp only [Option.toList, List.cons_append, List.nil_append]
      rw [b63_100]
    · rw [b196_0, if_neg c0, if_neg c1, if_neg c2, if_neg c3, if_neg c4, if_neg c5, if_pos c6, s201 hn e4 (fun i hi => (hv i hi).2)]
      simp only [Option.toList, List.cons_append, List.nil_append]
      rw [b196_82]
  exact ⟨.int (-1), I, L, I, L, hI, fun Q => by rw [b63_0, if_neg c0, if_neg c1, if_neg c2, if_neg c3, if_neg c4, if_neg c5, if_neg c6], fun Q => by rw [b196_0, if_neg c0, if_neg c1, if_neg c2, if_neg c3, if_neg c4, if_neg c5, if_neg c6]⟩
end CALLS
