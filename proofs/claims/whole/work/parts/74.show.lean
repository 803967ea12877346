/-! show, next. -/
theorem bit_and_not (x y : BitVec 32) : (y &&& x = x) ↔ (x &&& ~~~y = 0#32) := by
  constructor
  · intro h
    apply BitVec.eq_of_getLsbD_eq
    intro i hi
    have g := congrArg (fun z : BitVec 32 => z.getLsbD i) h
    simp only [BitVec.getLsbD_and] at g
    simp only [BitVec.getLsbD_and, BitVec.getLsbD_not, BitVec.getLsbD_zero, hi, decide_true, Bool.true_and]
    cases h1 : x.getLsbD i <;> cases h2 : y.getLsbD i <;> simp_all
  · intro h
    apply BitVec.eq_of_getLsbD_eq
    intro i hi
    have g := congrArg (fun z : BitVec 32 => z.getLsbD i) h
    simp only [BitVec.getLsbD_and, BitVec.getLsbD_not, BitVec.getLsbD_zero, hi, decide_true, Bool.true_and] at g
    simp only [BitVec.getLsbD_and]
    cases h1 : x.getLsbD i <;> cases h2 : y.getLsbD i <;> simp_all
theorem and_not (x y : Int32) : (y &&& x = x) ↔ (x &&& (y ^^^ (-1)) = 0) := by
  have h := bit_and_not x.toBitVec y.toBitVec
  rw [← Int32.toBitVec_inj, ← Int32.toBitVec_inj]
  rw [show (y &&& x).toBitVec = y.toBitVec &&& x.toBitVec from rfl, show (x &&& (y ^^^ (-1))).toBitVec = x.toBitVec &&& (y.toBitVec ^^^ (BitVec.allOnes 32)) from rfl, BitVec.xor_allOnes]
  exact h
/-- sets of cups tried one by one -/
def shS (lv : Nat → Nat) (n s set : Nat) (b : Option Nat) : Option Nat := if jnN lv (fun i => decide (set / 2 ^ i % 2 = 1)) n &&& s = s then (match b with
  | none => some set
  | some c => if pop set < pop c then some set else some c) else b
def shI (b : Option Nat) : Int32 := match b with
  | none => -5
  | some c => nI c
def shOk (b : Option Nat) : Prop := match b with
  | none => True
  | some c => c ≤ 31
theorem shl_n : ∀ n, n < 6 → (1 : Int32) <<< (nI n &&& 31) = nI (2 ^ n) := by decide +kernel
theorem set_c : ∀ s, s < 32 → ∀ i, i < 5 → (((nI s >>> (nI i &&& 31)) &&& (1 : Int32)) = 1 ↔ decide (s / 2 ^ i % 2 = 1) = true) := by decide +kernel
theorem set_m : ∀ s, s < 32 → ∀ i, i < 5 → (hasI (nI s) (nI i) = 0 ↔ decide (s / 2 ^ i % 2 = 1) = false) := by decide +kernel
section CALLS
variable {X : Nat × (Nat → Int32)} {d : Nat}
theorem ok_show {x1 : Int32} : Ok X d m92 m202 [some (.ref 0), some (.int x1), none, none, none] [some (.ref 124), some (.int x1), none, none] := by
  intro I L hI
  obtain ⟨n, t, z, k, wd, nb, mm, T, hN, hn, e1, e4, S⟩ := sit_view hI
  have hv := lv_view hN hn
  rcases num_cases x1 (n := 4095) (by decide) with h | ⟨s, hs, rfl⟩
  · refine ⟨.int (-2), I, L, I, L, hI, fun Q => ?_, fun Q => ?_⟩
    · rw [b92_0, s12_no h]
      simp only [Option.toList, List.cons_append, List.nil_append]
      rw [b92_4, if_pos rfl]
    · rw [b202_0, s143_no h]
      simp only [Option.toList, List.cons_append, List.nil_append]
      rw [b202_5, if_pos rfl]
  have p2 : 2 ^ n ≤ 32 := by
    have := Nat.pow_le_pow_right (show 0 < 2 by decide) hn
    exact this
  have ok : ∀ set b, set < 2 ^ n → shOk b → shOk (shS (lvF I) n s set b) := by
    intro set b hset hb
    unfold shS
    split
    · match b, hb with
      | none, _ => show set ≤ 31; omega
      | some c, hb =>
        show shOk (if pop set < pop c then some set else some c)
        split
        · show set ≤ 31; omega
        · exact hb
    · exact hb
  have jle : ∀ p, jnN (lvF I) p n ≤ 4095 := fun p => jnN_le n (fun i hi => (hv i hi).2.2)
  have hcond : ∀ set, (nI (jnN (lvF I) (fun i => decide (set / 2 ^ i % 2 = 1)) n) &&& nI s = nI s) ↔ jnN (lvF I) (fun i => decide (set / 2 ^ i % 2 = 1)) n &&& s = s := by
    intro set
    rw [nI_and]
    have a := Nat.and_lt_two_pow (jnN (lvF I) (fun i => decide (set / 2 ^ i % 2 = 1)) n) (n := 12) (y := s) (by omega)
    exact nI_eq (by omega) (by omega)
  refine ⟨.int (shI (itr (shS (lvF I) n s) (2 ^ n) none)), I, L, I, L, hI, fun Q => ?_, fun Q => ?_⟩
  · rw [b92_0, s12_ok hs]
    simp only [Option.toList, List.cons_append, List.nil_append]
    rw [b92_4, if_neg (by decide)]
    refine ((for_inv (P := fun set (b : Option Nat) => wp X (d + 100) m92 15 [some (.ref 0), some (.int (nI s)), some (.int (shI b)), some (.int (nI set)), none] [] (K0, R0, I, L) Q) (F := shS (lvF I) n s) shOk none trivial (2 ^ n) (fun set b hset hb => ok set b hset hb) (fun set b hset hb => ?_)).1).trans ?_
    · rw [b92_15, e1, shl_n n (by omega), if_pos (nI_lt hset (by omega)), s93 (p := fun i => decide (set / 2 ^ i % 2 = 1)) tbl_1 hn e1 (fun i hi => (hv i hi).1) (fun i hi => set_c set (by omega) i (by omega))]
      simp only [Option.toList, List.cons_append, List.nil_append]
      rw [b92_36, b92_47, nI_1]
      unfold shS
      by_cases c : jnN (lvF I) (fun i => decide (set / 2 ^ i % 2 = 1)) n &&& s = s
      · rw [if_pos ((hcond set).mpr c), if_neg (by decide), if_pos c]
        match b, hb with
        | none, _ => exact Iff.of_eq (if_pos (show shI none < 0 by decide))
        | some e, hb =>
          have he : e ≤ 31 := hb
          have ps := pop_ok (show set ≤ 4095 by omega)
          have pe := pop_ok (show e ≤ 4095 by omega)
          rw [if_neg (show ¬ shI (some e) < 0 from nI_pos (by omega)), s22, ps.2.2]
          simp only [Option.toList, List.cons_append, List.nil_append]
          rw [b92_62, show shI (some e) = nI e from rfl, s22, pe.2.2]
          simp only [Option.toList, List.cons_append, List.nil_append]
          rw [b92_66, nI_1]
          have g := nI_ltI (a := pop set) (b := pop e) (by omega) (by omega)
          by_cases q : pop set < pop e
          · rw [if_pos (g.mpr q)]
            simp only [q, if_true]
            exact Iff.rfl
          · rw [if_neg (fun z => q (g.mp z))]
            simp only [q, if_false]
            exact Iff.rfl
      · rw [if_neg (fun q => c ((hcond set).mp q)), if_pos rfl, if_neg c]
    · rw [b92_15, e1, shl_n n (by omega), if_neg (nI_nlt (Nat.le_refl _) (by omega))]
  · rw [b202_0, s143_ok hs]
    simp only [Option.toList, List.cons_append, List.nil_append]
    rw [b202_5, if_neg (by decide)]
    refine ((for_inv (P := fun set (b : Option Nat) => wp X (d + 100) m202 16 [some (.ref 124), some (.int (nI s)), some (.int (shI b)), some (.int (nI set))] [] (K0, R0, I, L) Q) (F := shS (lvF I) n s) shOk none trivial (2 ^ n) (fun set b hset hb => ok set b hset hb) (fun set b hset hb => ?_)).1).trans ?_
    · rw [b202_16, e4, shl_n n (by omega), if_pos (nI_lt hset (by omega)), s198 (p := fun i => decide (set / 2 ^ i % 2 = 1)) hn e4 (fun i hi => (hv i hi).2.1) (fun i hi => set_m set (by omega) i (by omega))]
      simp only [Option.toList, List.cons_append, List.nil_append]
      have hc2 := and_not (nI s) (nI (jnN (lvF I) (fun i => decide (set / 2 ^ i % 2 = 1)) n))
      rw [b202_32, nI_1]
      unfold shS
      by_cases c : jnN (lvF I) (fun i => decide (set / 2 ^ i % 2 = 1)) n &&& s = s
      · rw [if_pos (hc2.mp ((hcond set).mpr c)), if_pos c]
        match b, hb with
        | none, _ => exact Iff.of_eq (if_pos (show shI none < 0 by decide))
        | some e, hb =>
          have he : e ≤ 31 := hb
          have ps := pop_ok (show set ≤ 4095 by omega)
          have pe := pop_ok (show e ≤ 4095 by omega)
          rw [if_neg (show ¬ shI (some e) < 0 from nI_pos (by omega)), s169, ps.2.1]
          simp only [Option.toList, List.cons_append, List.nil_append]
          rw [b202_47, show shI (some e) = nI e from rfl, s169, pe.2.1]
          simp only [Option.toList, List.cons_append, List.nil_append]
          rw [b202_52, nI_1]
          have g := nI_ltI (a := pop set) (b := pop e) (by omega) (by omega)
          by_cases q : pop set < pop e
          · rw [if_pos (g.mpr q)]
            simp only [q, if_true]
            exact Iff.rfl
          · rw [if_neg (fun z => q (g.mp z))]
            simp only [q, if_false]
            exact Iff.rfl
      · rw [if_neg (fun q => c ((hcond set).mp (hc2.mpr q))), if_neg c]
    · rw [b202_16, e4, shl_n n (by omega), if_neg (nI_nlt (Nat.le_refl _) (by omega))]
theorem but_c : ∀ c, c < 5 → ∀ i, i < 5 → (nI i = nI c ↔ (decide (i = c) == false) = false) := by decide +kernel
theorem but_m : ∀ c, c < 5 → ∀ i, i < 5 → (hasI ((31 : Int32) &&& (((1 : Int32) <<< (nI c &&& 31)) ^^^ ((-1) : Int32))) (nI i) = 0 ↔ (decide (i = c) == false) = false) := by decide +kernel
/-- the step of next: cup c, saying w, leaves of the others put together with what it would have -/
def nxI (lv : Nat → Nat) (af : Nat → Nat → Nat) (n s c w : Nat) (b : Bst) : Bst := bst (10 * c + w) (pop ((jnN lv (fun i => decide (i = c) == false) n ||| af c w) ^^^ s)) b
def nxO (lv : Nat → Nat) (af : Nat → Nat → Nat) (n s c : Nat) (b : Bst) : Bst := itr (nxI lv af n s c) 4 b
theorem ok_next {x1 : Int32} : Ok X d m94 m203 [some (.ref 0), some (.int x1), none, none, none, none, none, none, none] [some (.ref 124), some (.int x1), none, none, none, none, none] := by
  intro I L hI
  obtain ⟨n, t, z, k, wd, nb, mm, T, hN, hn, e1, e4, S⟩ := sit_view hI
  have hv := lv_view hN hn
  rcases num_cases x1 (n := 4095) (by decide) with h | ⟨s, hs, rfl⟩
  · refine ⟨.int (-2), I, L, I, L, hI, fun Q => ?_, fun Q => ?_⟩
    · rw [b94_0, s12_no h]
      simp only [Option.toList, List.cons_append, List.nil_append]
      rw [b94_4, if_pos rfl]
    · rw [b203_0, s143_no h]
      simp only [Option.toList, List.cons_append, List.nil_append]
      rw [b203_5, if_pos rfl]
  -- what a saying would leave, for each cup
  have hcup : ∀ c, c < n → ∃ (kd v lv m r : Nat) (ln : Nat → Nat), CupR I (12 + 2 * c) c kd v lv (nI m) (nI r) ln ∧ CupM I c kd v lv (nI m) (nI r) ln ∧ m ≤ 9 ∧ r ≤ 9999 ∧ ∀ p, p < 4 → ln p ≤ 9 := fun c hc => cup_view hN hc
  have haf : ∃ af : Nat → Nat → Nat, (∀ c w, c < n → w ≤ 3 → af c w ≤ 4095) ∧ (∀ c w J, c < n → w ≤ 3 → Asked I J → ∃ K, Asked I K ∧ K 72 3 = nI (af c w) ∧ ∃ r, ∀ Q : Option Value → XW → Prop, wp X (d + 99) m77 0 [some (.ref 0), some (.ref (12 + 2 * c)), some (.int (nI w))] [] (K0, R0, J, L) Q ↔ Q (some (.int r)) (K0, R0, K, L)) ∧ (∀ c w J, c < n → w ≤ 3 → Asked I J → ∃ K, Asked I K ∧ ∀ Q : Option Value → XW → Prop, wp X (d + 99) m187 0 [some (.ref 124), some (.int (nI c)), some (.int (nI w)), none] [] (K0, R0, J, L) Q ↔ Q (some (.int (nI (af c w)))) (K0, R0, K, L)) := by
    have key : ∀ c, ∃ g : Nat → Nat, c < n → (∀ w, w ≤ 3 → g w ≤ 4095) ∧ (∀ w J, w ≤ 3 → Asked I J → ∃ K, Asked I K ∧ K 72 3 = nI (g w) ∧ ∃ r, ∀ Q : Option Value → XW → Prop, wp X (d + 99) m77 0 [some (.ref 0), some (.ref (12 + 2 * c)), some (.int (nI w))] [] (K0, R0, J, L) Q ↔ Q (some (.int r)) (K0, R0, K, L)) ∧ (∀ w J, w ≤ 3 → Asked I J → ∃ K, Asked I K ∧ ∀ Q : Option Value → XW → Prop, wp X (d + 99) m187 0 [some (.ref 124), some (.int (nI c)), some (.int (nI w)), none] [] (K0, R0, J, L) Q ↔ Q (some (.int (nI (g w)))) (K0, R0, K, L)) := by
      intro c
      by_cases hc : c < n
      · obtain ⟨kd, v, lv, m, r, ln, hR, hM, hm, hr, hln⟩ := hcup c hc
        refine ⟨fun w => (sayN (wiS T wd nb mm k t c kd v) (dnS kd t ln) (riS wd nb k) (faS wd nb k) w (lv, nI m)).1, fun _ => ⟨fun w hw => hL_le (wi := wiS T wd nb mm k t c kd v w lv) (md := nI m) hM.2.2.2.2.2.2.2.2.2 hw hln, fun w J hw hJ => ?_, fun w J hw hJ => ?_⟩⟩
        · obtain ⟨K, ak, ck, hK⟩ := s77 (X := X) (d := d + 93) (L := L) (s := (lv, nI m)) (S.asked hJ) (hR.asked (by omega) hJ) hw hln
          exact ⟨K, hJ.trans ak, ck.2.2.2.2.1, _, hK⟩
        · obtain ⟨K, ak, hK⟩ := s187N (X := X) (d := d + 92) (L := L) (s := (lv, nI m)) (S.asked hJ) (hM.asked hJ) (show r ≤ 100000 by omega) hw hln
          exact ⟨K, hJ.trans (Asked.ak ak), hK⟩
      · exact ⟨fun _ => 0, fun q => absurd q hc⟩
    refine ⟨fun c w => (key c).choose w, fun c w hc hw => ((key c).choose_spec hc).1 w hw, fun c w J hc hw hJ => ((key c).choose_spec hc).2.1 w J hw hJ, fun c w J hc hw hJ => ((key c).choose_spec hc).2.2 w J hw hJ⟩
  obtain ⟨af, af1, af2, af3⟩ := haf
  have jle : ∀ p, jnN (lvF I) p n ≤ 4095 := fun p => jnN_le n (fun i hi => (hv i hi).2.2)
  have cell : ∀ c w, c < n → w ≤ 3 → (jnN (lvF I) (fun i => decide (i = c) == false) n ||| af c w) ≤ 4095 := fun c w hc hw => or_le (jle _) (af1 c w hc hw)
  have lvJ : ∀ J, Asked I J → J 1 1 = nI n ∧ J 124 0 = nI n ∧ ∀ i, i < n → J (1 + 11 + 2 * i) 3 = nI (lvF I i) ∧ J 127 i = nI (lvF I i) := by
    intro J hJ
    refine ⟨?_, (hJ.2 0 (by decide)).trans e4, fun i hi => ⟨?_, ?_⟩⟩
    · rw [hJ.1 1 (by omega) (by unfold Sk; omega)]; exact e1
    · rw [hJ.1 _ (by omega) (by unfold Sk; omega)]; exact (hv i hi).1
    · rw [hJ.1 127 (by omega) (by unfold Sk; omega)]; exact (hv i hi).2.1
  -- class
  have inC : ∀ c b J, c < n → bstOk b → Asked I J → bstOk (nxO (lvF I) af n s c b) ∧ ∃ K, Asked I K ∧ ∀ Q : Option Value → XW → Prop, wp X (d + 100) m94 19 [some (.ref 0), some (.int (nI s)), some (.int (bstI b)), some (.int (bstF 13 b)), some (.int (nI c)), none, none, none, none] [] (K0, R0, J, L) Q ↔ wp X (d + 100) m94 19 [some (.ref 0), some (.int (nI s)), some (.int (bstI (nxO (lvF I) af n s c b))), some (.int (bstF 13 (nxO (lvF I) af n s c b))), some (.int (nI (c + 1))), none, none, none, none] [] (K0, R0, K, L) Q := by
    intro c b J hc hb hJ
    have hK := cupK (i := c) (by omega)
    obtain ⟨l1, l2, l3⟩ := lvJ J hJ
    obtain ⟨a, K, aK, cK⟩ := for_w (P := fun w (b : Bst) J (Q : Option Value → XW → Prop) => wp X (d + 100) m94 56 [some (.ref 0), some (.int (nI s)), some (.int (bstI b)), some (.int (bstF 13 b)), some (.int (nI c)), some (.ref (12 + 2 * c)), some (.int (nI (jnN (lvF I) (fun i => decide (i = c) == false) n))), some (.int (nI w)), none] [] (K0, R0, J, L) Q) (F := nxI (lvF I) af n s c) (fun J => Asked I J) bstOk 4 (fun w b J hw hb hJ => by
      refine ⟨bst_ok hb (by omega) (pop_ok (xor_le (cell c w hc (by omega)) hs)).1, ?_⟩
      obtain ⟨K, aK, k72, r, hK2⟩ := af2 c w J hc (by omega) hJ
      refine ⟨K, aK, fun Q => ?_⟩
      rw [b94_56 hK, if_pos (show nI w < (4 : Int32) from nI_lt (b := 4) hw (by decide)), hK2]
      simp only [Option.toList, List.cons_append, List.nil_append]
      rw [b94_75 hK, k72, nI_or, s70 (cell c w hc (by omega)) hs]
      simp only [Option.toList, List.cons_append, List.nil_append]
      rw [b94_90 hK, nI_1, show (10 : Int32) * nI c + nI w = nI (10 * c + w) by rw [show (10 : Int32) * nI c = nI (10 * c) from nI_mul 10 c, nI_add]]
      exact bst_c hb (pop_ok (xor_le (cell c w hc (by omega)) hs)).1 (fun u v => wp X (d + 100) m94 56 [some (.ref 0), some (.int (nI s)), some (.int u), some (.int v), some (.int (nI c)), some (.ref (12 + 2 * c)), some (.int (nI (jnN (lvF I) (fun i => decide (i = c) == false) n))), some (.int (nI (w + 1))), none] [] (K0, R0, K, L) Q)) b J hb hJ
    refine ⟨a, K, aK, fun Q => ?_⟩
    rw [b94_19, l1, if_pos (nI_lt hc (by omega)), s17_ok hn l1 hc]
    simp only [Option.toList, List.cons_append, List.nil_append]
    rw [b94_40 hK, s64 (p := fun i => decide (i = c) == false) tbl_1 hn l1 (fun i hi => (l3 i hi).1) (fun i hi => but_c c (by omega) i (by omega))]
    simp only [Option.toList, List.cons_append, List.nil_append]
    rw [b94_51 hK]
    refine (cK Q).trans ?_
    rw [b94_56 hK, if_neg (show ¬ nI 4 < (4 : Int32) by decide), nI_1]
    exact Iff.rfl
  obtain ⟨-, J, aJ, cJ⟩ := for_w (P := fun c (b : Bst) J (Q : Option Value → XW → Prop) => wp X (d + 100) m94 19 [some (.ref 0), some (.int (nI s)), some (.int (bstI b)), some (.int (bstF 13 b)), some (.int (nI c)), none, none, none, none] [] (K0, R0, J, L) Q) (F := nxO (lvF I) af n s) (fun J => Asked I J) bstOk n (fun c b J hc hb hJ => inC c b J hc hb hJ) none I trivial Asked.rfl'
  -- reference
  have inM : ∀ c b J, c < n → bstOk b → Asked I J → bstOk (nxO (lvF I) af n s c b) ∧ ∃ K, Asked I K ∧ ∀ Q : Option Value → XW → Prop, wp X (d + 100) m203 19 [some (.ref 124), some (.int (nI s)), some (.int (bstI b)), some (.int (bstF 0 b)), some (.int (nI c)), none, none] [] (K0, R0, J, L) Q ↔ wp X (d + 100) m203 19 [some (.ref 124), some (.int (nI s)), some (.int (bstI (nxO (lvF I) af n s c b))), some (.int (bstF 0 (nxO (lvF I) af n s c b))), some (.int (nI (c + 1))), none, none] [] (K0, R0, K, L) Q := by
    intro c b J hc hb hJ
    obtain ⟨l1, l2, l3⟩ := lvJ J hJ
    obtain ⟨a, K, aK, cK⟩ := for_w (P := fun w (b : Bst) J (Q : Option Value → XW → Prop) => wp X (d + 100) m203 31 [some (.ref 124), some (.int (nI s)), some (.int (bstI b)), some (.int (bstF 0 b)), some (.int (nI c)), some (.int (nI w)), none] [] (K0, R0, J, L) Q) (F := nxI (lvF I) af n s c) (fun J => Asked I J) bstOk 4 (fun w b J hw hb hJ => by
      have hp := pop_ok (xor_le (cell c w hc (by omega)) hs)
      refine ⟨bst_ok hb (by omega) hp.1, ?_⟩
      obtain ⟨K, aK, hK2⟩ := af3 c w J hc (by omega) hJ
      obtain ⟨l1, l2, l3⟩ := lvJ J hJ
      refine ⟨K, aK, fun Q => ?_⟩
      rw [b203_31, if_pos (show nI w < (4 : Int32) from nI_lt (b := 4) hw (by decide)), s198 (p := fun i => decide (i = c) == false) hn l2 (fun i hi => (l3 i hi).2) (fun i hi => but_m c (by omega) i (by omega))]
      simp only [Option.toList, List.cons_append, List.nil_append]
      rw [b203_51, hK2]
      simp only [Option.toList, List.cons_append, List.nil_append]
      rw [b203_59, nI_or, nI_xor, s169, hp.2.1]
      simp only [Option.toList, List.cons_append, List.nil_append]
      rw [b203_65, nI_1, show (10 : Int32) * nI c + nI w = nI (10 * c + w) by rw [show (10 : Int32) * nI c = nI (10 * c) from nI_mul 10 c, nI_add]]
      exact bst_m hb hp.1 (fun u v => wp X (d + 100) m203 31 [some (.ref 124), some (.int (nI s)), some (.int u), some (.int v), some (.int (nI c)), some (.int (nI (w + 1))), none] [] (K0, R0, K, L) Q)) b J hb hJ
    refine ⟨a, K, aK, fun Q => ?_⟩
    rw [b203_19, l2, if_pos (nI_lt hc (by omega))]
    refine (cK Q).trans ?_
    rw [b203_31, if_neg (show ¬ nI 4 < (4 : Int32) by decide), nI_1]
    exact Iff.rfl
  obtain ⟨-, K, aK, cK⟩ := for_w (P := fun c (b : Bst) J (Q : Option Value → XW → Prop) => wp X (d + 100) m203 19 [some (.ref 124), some (.int (nI s)), some (.int (bstI b)), some (.int (bstF 0 b)), some (.int (nI c)), none, none] [] (K0, R0, J, L) Q) (F := nxO (lvF I) af n s) (fun J => Asked I J) bstOk n (fun c b J hc hb hJ => inM c b J hc hb hJ) none J trivial aJ
  refine ⟨.int (bstI (itr (nxO (lvF I) af n s) n none)), J, L, K, L, hI.asked aK, fun Q => ?_, fun Q => ?_⟩
  · rw [b94_0, s12_ok hs]
    simp only [Option.toList, List.cons_append, List.nil_append]
    rw [b94_4, if_neg (by decide)]
    refine (cJ Q).trans ?_
    rw [b94_19, (lvJ J aJ).1, if_neg (nI_nlt (Nat.le_refl _) (by omega))]
  · rw [b203_0, s143_ok hs]
    simp only [Option.toList, List.cons_append, List.nil_append]
    rw [b203_5, if_neg (by decide)]
    refine (cK Q).trans ?_
    rw [b203_19, (lvJ K aK).2.1, if_neg (nI_nlt (Nat.le_refl _) (by omega))]
end CALLS
