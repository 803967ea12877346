/-! What a saying does with leaves: one number on both sides. -/
def fN (w x : Nat) : Nat := (forthI (nI w) (nI x)).toNatClampNeg
def bN (w x : Nat) : Nat := (backI (nI w) (nI x)).toNatClampNeg
theorem fN_ok {w x : Nat} (hw : w ≤ 3) (hx : x ≤ 4095) : fN w x ≤ 4095 ∧ forthI (nI w) (nI x) = nI (fN w x) ∧ plainM (nI x) (nI w) 0 = nI (fN w x) := by
  obtain ⟨y, hy, e1, e2⟩ := plain_f hw hx
  have e : fN w x = y := by unfold fN; rw [e1, nI_clamp (by omega)]
  rw [e]
  exact ⟨hy, e1, e2⟩
theorem bN_ok {w x : Nat} (hw : w ≤ 3) (hx : x ≤ 4095) : bN w x ≤ 4095 ∧ backI (nI w) (nI x) = nI (bN w x) ∧ plainM (nI x) (nI w) 1 = nI (bN w x) := by
  obtain ⟨y, hy, e1, e2⟩ := plain_b hw hx
  have e : bN w x = y := by unfold bN; rw [e1, nI_clamp (by omega)]
  rw [e]
  exact ⟨hy, e1, e2⟩
theorem pop_ok {x : Nat} (hx : x ≤ 4095) : pop x ≤ 12 ∧ bitsI (nI x) = nI (pop x) ∧ bcI (nI x) = nI (pop x) := by
  have h := of_decide_eq_true (all_at dec_bits hx)
  exact ⟨h.2, h.1, of_decide_eq_true (all_at dec_bc hx)⟩
theorem dec_row2 : (List.range 4096).all (fun x => decide (nI x &&& ((-3841) : Int32) = nI (x % 256) ∧ nI x &&& (255 : Int32) = nI (x % 256))) = true := by decide +kernel
/-- by kind, number of night, the line's number for it -/
def doneN (kd lv w t ln : Nat) : Nat := match kd with
  | 1 => if 6 < pop lv then lv else fN w lv
  | 2 => bN w lv
  | 3 => fN w (fN w lv)
  | 4 => (if 6 < pop lv then lv else fN w lv) % 256
  | 5 => if t % 2 = 0 then fN w lv else bN w lv
  | 6 => fN w (fN w lv) ||| ln
  | _ => fN w lv
theorem or_le {a b : Nat} (ha : a ≤ 4095) (hb : b ≤ 4095) : a ||| b ≤ 4095 := by
  have := Nat.or_lt_two_pow (n := 12) (show a < 2 ^ 12 by omega) (show b < 2 ^ 12 by omega)
  omega
theorem nI_or (a b : Nat) : nI a ||| nI b = nI (a ||| b) := by
  apply Int32.toBitVec_inj.mp
  show BitVec.ofNat 32 a ||| BitVec.ofNat 32 b = BitVec.ofNat 32 (a ||| b)
  exact BitVec.ofNat_or.symm
theorem done_le {kd lv w t ln : Nat} (hl : lv ≤ 4095) (hw : w ≤ 3) (hn : ln ≤ 9) : doneN kd lv w t ln ≤ 4095 := by
  have f1 := (fN_ok hw hl).1
  have f2 := (fN_ok hw f1).1
  have b1 := (bN_ok hw hl).1
  unfold doneN
  split
  · split <;> omega
  · exact b1
  · exact f2
  · split <;> omega
  · split <;> omega
  · exact or_le f2 (by omega)
  · exact f1
theorem t2N {t : Nat} (ht : t < 2 ^ 31) : nI t - nI t / 2 * 2 = nI (t % 2) := nI_rem (b := 2) ht (by decide)
theorem shyN {lv : Nat} (hl : lv ≤ 4095) {y : Nat} : shyI (nI lv) (nI y) = nI (if 6 < pop lv then lv else y) := by
  unfold shyI
  rw [(pop_ok hl).2.2]
  have hp := (pop_ok hl).1
  by_cases c : 6 < pop lv
  · rw [if_pos c, if_pos (show (6 : Int32) < nI _ from (nI_ltI (a := 6) (by decide) (by omega)).mpr c)]
  · rw [if_neg c, if_neg (show ¬ (6 : Int32) < nI _ from fun q => c ((nI_ltI (a := 6) (by decide) (by omega)).mp q))]
theorem doneI_N {kd lv w t ln : Nat} (hk : kd ≤ 6) (hl : lv ≤ 4095) (hw : w ≤ 3) (ht : t < 2 ^ 31) : doneI (nI kd) (nI lv) (nI w) (nI t) (nI ln) = nI (doneN kd lv w t ln) := by
  obtain ⟨f0, f1, _⟩ := fN_ok hw hl
  obtain ⟨_, g1, _⟩ := fN_ok hw f0
  obtain ⟨_, b1, _⟩ := bN_ok hw hl
  unfold doneI
  rw [f1, g1, b1, shyN hl, t2N ht, nI_or]
  match kd, hk with
  | 0, _ => rfl
  | 1, _ => rfl
  | 2, _ => rfl
  | 3, _ => rfl
  | 4, _ => exact (of_decide_eq_true (all_at dec_row2 (x := if 6 < pop lv then lv else fN w lv) (by split <;> omega))).1
  | 5, _ =>
    show (if nI (t % 2) = 0 then nI (fN w lv) else nI (bN w lv)) = nI (if t % 2 = 0 then fN w lv else bN w lv)
    rcases Nat.mod_two_eq_zero_or_one t with h | h
    · rw [h]; rfl
    · rw [h]; rfl
  | 6, _ => rfl
  | k + 7, hk => omega
section DOES
variable {X : Nat × (Nat → Int32)} {d : Nat} {I : Nat → Nat → Int32} {L : Nat → Nat → Int64} {Q : Option Value → XW → Prop}
theorem s173 {w x b : Int32} (hw : isW w) (hb : b = 0 ∨ b = 1) : wp X (d + 3) m173 0 [some (.ref 124), some (.int x), some (.int w), some (.int b)] [] (K0, R0, I, L) Q ↔ Q (some (.int (plainM x w b))) (K0, R0, I, L) := by
  have e1 : ((1 : Int32) = 0) = False := i32_10
  have e2 : ((2 : Int32) = 0) = False := by decide
  have e3 : ((2 : Int32) = 1) = False := by decide
  have e4 : ((3 : Int32) = 0) = False := by decide
  have e5 : ((3 : Int32) = 1) = False := by decide
  have e6 : ((3 : Int32) = 2) = False := by decide
  unfold plainM
  rcases hw with h | h | h | h <;> subst h
  · simp only [b173_0, if_pos, s174, b173_34, Option.toList, List.cons_append, List.nil_append]
  · simp only [b173_0, e1, if_false, if_pos, s175, b173_41, Option.toList, List.cons_append, List.nil_append]
  · rcases hb with h | h <;> subst h
    · simp only [b173_0, e2, e3, if_false, if_pos, s177, b173_57, Option.toList, List.cons_append, List.nil_append]
    · simp only [b173_0, e1, e2, e3, if_false, if_pos, s177, b173_57, Option.toList, List.cons_append, List.nil_append]
  · rcases hb with h | h <;> subst h
    · simp only [b173_0, e4, e5, e6, if_false, if_pos, s177, b173_73, Option.toList, List.cons_append, List.nil_append]
    · simp only [b173_0, e1, e4, e5, e6, if_false, if_pos, s177, b173_73, Option.toList, List.cons_append, List.nil_append]
theorem s172 {w x : Nat} (hw : w ≤ 3) (hx : x ≤ 4095) : wp X (d + 4) m172 0 [some (.ref 124), some (.int (nI x)), some (.int (nI w))] [] (K0, R0, I, L) Q ↔ Q (some (.int (nI (if 6 < pop x then x else fN w x)))) (K0, R0, I, L) := by
  have hp := pop_ok hx
  rw [b172_0, s169, hp.2.1]
  simp only [Option.toList, List.cons_append, List.nil_append]
  rw [b172_5]
  by_cases c : 6 < pop x
  · rw [if_pos (show (6 : Int32) < nI _ from (nI_ltI (a := 6) (by decide) (by omega)).mpr c), b172_21, if_pos c]
  · rw [if_neg (show ¬ (6 : Int32) < nI _ from fun q => c ((nI_ltI (a := 6) (by decide) (by omega)).mp q)), s173 (isW_nI hw) (Or.inl rfl), (fN_ok hw hx).2.2, if_neg c]
    simp only [Option.toList, List.cons_append, List.nil_append]
    rw [b172_21]
/-- the reference's: what a saying does with a cup's leaves -/
theorem s171 {i kd lv w t ln : Nat} (hi : i < 5) (hk : kd ≤ 6) (hl : lv ≤ 4095) (hw : w ≤ 3) (ht : t < 2 ^ 31) (h1 : I 125 i = nI kd) (h2 : I 127 i = nI lv) (h3 : I 124 1 = nI t) (h4 : I 130 (4 * i + t % 4) = nI ln) : wp X (d + 5) m171 0 [some (.ref 124), some (.int (nI i)), some (.int (nI w)), none] [] (K0, R0, I, L) Q ↔ Q (some (.int (nI (doneN kd lv w t ln)))) (K0, R0, I, L) := by
  have hc : (nI i).toNatClampNeg = i := nI_clamp (by omega)
  have hm : t % 4 < 4 := Nat.mod_lt _ (by decide)
  obtain ⟨f0, _, f1⟩ := fN_ok hw hl
  obtain ⟨_, _, g1⟩ := fN_ok hw f0
  obtain ⟨_, _, b1⟩ := bN_ok hw hl
  have iw := isW_nI hw
  have e5 : (4 : Int32) * nI i + (nI t - nI t / 4 * 4) = nI (4 * i + t % 4) := by
    rw [show nI t - nI t / 4 * 4 = nI (t % 4) from nI_rem (b := 4) ht (by decide), show (4 : Int32) * nI i = nI (4 * i) from nI_mul 4 i, nI_add]
  rw [b171_0, and_iff_right (inA_nI hi (by decide)), and_iff_right (inA_nI hi (by decide)), hc, h1, h2, h3]
  match kd, hk with
  | 0, _ =>
    simp only [show (nI 0 = 1) = False by decide, show (nI 0 = 2) = False by decide, show (nI 0 = 3) = False by decide, show (nI 0 = 4) = False by decide, show (nI 0 = 5) = False by decide, show (nI 0 = 6) = False by decide, if_false, s173 iw (Or.inl rfl), f1, Option.toList, List.cons_append, List.nil_append, b171_151]
    exact Iff.rfl
  | 1, _ =>
    simp only [show (nI 1 = 1) = True by decide, if_true, s172 hw hl, Option.toList, List.cons_append, List.nil_append, b171_58]
    exact Iff.rfl
  | 2, _ =>
    simp only [show (nI 2 = 1) = False by decide, show (nI 2 = 2) = True by decide, if_true, if_false, s173 iw (Or.inr rfl), b1, Option.toList, List.cons_append, List.nil_append, b171_66]
    exact Iff.rfl
  | 3, _ =>
    simp only [show (nI 3 = 1) = False by decide, show (nI 3 = 2) = False by decide, show (nI 3 = 3) = True by decide, if_true, if_false, s173 iw (Or.inl rfl), f1, g1, Option.toList, List.cons_append, List.nil_append, b171_75, b171_80]
    exact Iff.rfl
  | 4, _ =>
    simp only [show (nI 4 = 1) = False by decide, show (nI 4 = 2) = False by decide, show (nI 4 = 3) = False by decide, show (nI 4 = 4) = True by decide, if_true, if_false, s172 hw hl, Option.toList, List.cons_append, List.nil_append, b171_87]
    rw [(of_decide_eq_true (all_at dec_row2 (x := if 6 < pop lv then lv else fN w lv) (by split <;> omega))).2]
    exact Iff.rfl
  | 5, _ =>
    simp only [show (nI 5 = 1) = False by decide, show (nI 5 = 2) = False by decide, show (nI 5 = 3) = False by decide, show (nI 5 = 4) = False by decide, show (nI 5 = 5) = True by decide, if_true, if_false, s173 iw (Or.inl rfl), s173 iw (Or.inr rfl), f1, b1, Option.toList, List.cons_append, List.nil_append, b171_113, t2N ht]
    rcases Nat.mod_two_eq_zero_or_one t with h | h
    · rw [h, if_neg (by decide)]
      show _ ↔ Q (some (.int (nI (if t % 2 = 0 then fN w lv else bN w lv)))) (K0, R0, I, L)
      rw [if_pos h]
    · rw [h, if_pos (by decide)]
      show _ ↔ Q (some (.int (nI (if t % 2 = 0 then fN w lv else bN w lv)))) (K0, R0, I, L)
      rw [if_neg (by omega)]
  | 6, _ =>
    simp only [show (nI 6 = 1) = False by decide, show (nI 6 = 2) = False by decide, show (nI 6 = 3) = False by decide, show (nI 6 = 4) = False by decide, show (nI 6 = 5) = False by decide, show (nI 6 = 6) = True by decide, if_true, if_false, s173 iw (Or.inl rfl), f1, g1, Option.toList, List.cons_append, List.nil_append, b171_122, b171_127, h3, e5]
    rw [and_iff_right (inA_nI (by omega) (by decide)), nI_clamp (by omega), h4, nI_or]
    exact Iff.rfl
  | k + 7, hk => omega
/-- the class's -/
theorem s25N {r kd lv w t ln : Nat} (hr : isCup r) (hk : kd ≤ 6) (hl : lv ≤ 4095) (hw : w ≤ 3) (ht : t < 2 ^ 31) (h1 : I r 1 = nI kd) (h2 : I r 3 = nI lv) (h4 : I (r + 1) (t % 4) = nI ln) : wp X (d + 3) m25 0 [some (.ref r), some (.int (nI w)), some (.int (nI t)), none, none] [] (K0, R0, I, L) Q ↔ Q (some (.int (nI (doneN kd lv w t ln)))) (K0, R0, I, L) := by
  rw [s25 hr (isW_nI hw) ht, h1, h2, h4, doneI_N hk hl hw ht]
end DOES
