/-! Acts: which body runs; the class. -/
def bdN (a c : Nat) : Nat := ([10, 11, 12, 0, 20, 0, 30, 0, 0, 0, 0, 40, 50, 51, 0, 0, 0, 60, 71, 70, 0] : List Nat).getD (a * 3 + c) 0
def kwN (a c : Nat) : Nat := ([0, 0, 0, 0, 1, 0, 2, 0, 0, 0, 0, 3, 4, 4, 0, 2, 0, 5, 6, 6, 3] : List Nat).getD (a * 3 + c) 0
theorem BO_nI : ∀ j, j < 21 → BO j = nI (([10, 11, 12, 0, 20, 0, 30, 0, 0, 0, 0, 40, 50, 51, 0, 0, 0, 60, 71, 70, 0] : List Nat).getD j 0) := by decide +kernel
def begC (b : Int32) (I : Nat → Nat → Int32) : Nat → Nat → Int32 := updR (updR I 80 (I 79 1).toNatClampNeg b) 79 1 (I 79 1 + 1)
def begM (b : Int32) (I : Nat → Nat → Int32) : Nat → Nat → Int32 := updR (updR I 162 (I 124 59).toNatClampNeg b) 124 59 (I 124 59 + 1)
def rnC (bs : List Int32) (I : Nat → Nat → Int32) : Nat → Nat → Int32 := bs.foldl (fun J b => begC b J) I
def rnM (bs : List Int32) (I : Nat → Nat → Int32) : Nat → Nat → Int32 := bs.foldl (fun J b => begM b J) I
theorem rnC_app (a b : List Int32) (I : Nat → Nat → Int32) : rnC b (rnC a I) = rnC (a ++ b) I := (List.foldl_append ..).symm
theorem rnM_app (a b : List Int32) (I : Nat → Nat → Int32) : rnM b (rnM a I) = rnM (a ++ b) I := (List.foldl_append ..).symm
theorem rnC_facts : ∀ (bs : List Int32) (I : Nat → Nat → Int32) (n : Nat), I 79 1 = nI n → n + bs.length ≤ 20 → (∀ k, k ≠ 79 → k ≠ 80 → rnC bs I k = I k) ∧ rnC bs I 79 1 = nI (n + bs.length) ∧ ∀ k, k < n + bs.length → rnC bs I 80 k = if k < n then I 80 k else bs.getD (k - n) 0 := by
  intro bs
  induction bs with
  | nil =>
    intro I n h _
    exact ⟨fun _ _ _ => rfl, h, fun k hk => (if_pos hk).symm⟩
  | cons b bs ih =>
    intro I n h hl
    simp only [List.length_cons] at hl
    have hc : (I 79 1).toNatClampNeg = n := by rw [h, nI_clamp (by omega)]
    have h1 : begC b I 79 1 = nI (n + 1) := by unfold begC; rw [updR_same, h, nI_1]
    obtain ⟨g1, g2, g3⟩ := ih (begC b I) (n + 1) h1 (by omega)
    have e : rnC (b :: bs) I = rnC bs (begC b I) := rfl
    rw [e]
    refine ⟨fun k k1 k2 => (g1 k k1 k2).trans (by unfold begC; rw [updR_row k k1, updR_row k k2]), ?_, fun k hk => ?_⟩
    · rw [g2, List.length_cons]; congr 1; omega
    · simp only [List.length_cons] at hk
      rw [g3 k (by omega)]
      unfold begC
      rw [updR_k (by decide), hc]
      by_cases c : k < n
      · rw [if_pos (by omega), if_pos c, updR_j (by omega)]
      · rw [if_neg c]
        by_cases c2 : k = n
        · subst c2; rw [if_pos (by omega), updR_same, Nat.sub_self]; rfl
        · rw [if_neg (by omega), show k - n = (k - (n + 1)) + 1 by omega]; rfl
theorem rnM_facts : ∀ (bs : List Int32) (I : Nat → Nat → Int32) (n : Nat), I 124 59 = nI n → n + bs.length ≤ 20 → (∀ k, k ≠ 124 → k ≠ 162 → rnM bs I k = I k) ∧ (∀ j, j ≠ 59 → rnM bs I 124 j = I 124 j) ∧ rnM bs I 124 59 = nI (n + bs.length) ∧ ∀ k, k < n + bs.length → rnM bs I 162 k = if k < n then I 162 k else bs.getD (k - n) 0 := by
  intro bs
  induction bs with
  | nil =>
    intro I n h _
    exact ⟨fun _ _ _ => rfl, fun _ _ => rfl, h, fun k hk => (if_pos hk).symm⟩
  | cons b bs ih =>
    intro I n h hl
    simp only [List.length_cons] at hl
    have hc : (I 124 59).toNatClampNeg = n := by rw [h, nI_clamp (by omega)]
    have h1 : begM b I 124 59 = nI (n + 1) := by unfold begM; rw [updR_same, h, nI_1]
    obtain ⟨g1, g0, g2, g3⟩ := ih (begM b I) (n + 1) h1 (by omega)
    have e : rnM (b :: bs) I = rnM bs (begM b I) := rfl
    rw [e]
    refine ⟨fun k k1 k2 => (g1 k k1 k2).trans (by unfold begM; rw [updR_row k k1, updR_row k k2]), fun j hj => (g0 j hj).trans (by unfold begM; rw [updR_j hj, updR_k (by decide)]), ?_, fun k hk => ?_⟩
    · rw [g2, List.length_cons]; congr 1; omega
    · simp only [List.length_cons] at hk
      rw [g3 k (by omega)]
      unfold begM
      rw [updR_k (by decide), hc]
      by_cases c : k < n
      · rw [if_pos (by omega), if_pos c, updR_j (by omega)]
      · rw [if_neg c]
        by_cases c2 : k = n
        · subst c2; rw [if_pos (by omega), updR_same, Nat.sub_self]; rfl
        · rw [if_neg (by omega), show k - n = (k - (n + 1)) + 1 by omega]; rfl
def liB (kd : Nat) : List Int32 := match kd with
  | 2 => [30, 10]
  | 4 => [50, 10]
  | 5 => [30, 10]
  | 6 => [71, 10]
  | _ => [10]
def liV (kd : Nat) (num v x : Int32) : Int32 := match kd with
  | 2 => x * 3 + num
  | 4 => -(x + num)
  | 5 => x * 3 + num
  | 6 => (x + num) ^^^ v
  | _ => x + num
def csB (kd : Nat) : List Int32 := 11 :: liB kd
def csV (kd : Nat) (num v x : Int32) : Int32 := liV kd num v x - v
def saB (kd : Nat) : List Int32 := match kd with
  | 1 => 20 :: csB kd
  | 4 => 51 :: 20 :: csB kd
  | 6 => 70 :: (csB kd ++ [10])
  | _ => csB kd
def saV (kd : Nat) (num v x : Int32) : Int32 := match kd with
  | 1 => csV kd num v x ^^^ 6
  | 4 => csV kd num v (x + 1) ^^^ 6
  | 6 => csV kd num v x + (2 + num)
  | _ => csV kd num v x
def ctB (kd : Nat) : List Int32 := 12 :: saB kd
def ctV (kd : Nat) (num v x : Int32) : Int32 := saV kd num v x * 2
def teB (kd : Nat) : List Int32 := match kd with
  | 3 => 40 :: (ctB kd ++ saB kd)
  | 5 => 60 :: ctB kd
  | 6 => 40 :: (ctB kd ++ saB kd)
  | _ => ctB kd
def teV (kd : Nat) (num v x : Int32) : Int32 := match kd with
  | 3 => ctV kd num v x + saV kd num v 1
  | 5 => ctV kd num v (x - num)
  | 6 => ctV kd num v x + saV kd num v 1
  | _ => ctV kd num v x
theorem liB_len (kd : Nat) : (liB kd).length ≤ 2 := by unfold liB; split <;> simp
theorem csB_len (kd : Nat) : (csB kd).length ≤ 3 := by have := liB_len kd; unfold csB; simp only [List.length_cons]; omega
theorem saB_len (kd : Nat) : (saB kd).length ≤ 5 := by
  have := csB_len kd
  unfold saB
  split <;> (try simp only [List.length_cons, List.length_append, List.length_nil]) <;> omega
theorem ctB_len (kd : Nat) : (ctB kd).length ≤ 6 := by have := saB_len kd; unfold ctB; simp only [List.length_cons]; omega
theorem teB_len (kd : Nat) : (teB kd).length ≤ 12 := by
  have := saB_len kd
  have := ctB_len kd
  unfold teB
  split <;> (try simp only [List.length_cons, List.length_append]) <;> omega
/-- a cup of the class that acts, n bodies began -/
def AC (I : Nat → Nat → Int32) (r n kd : Nat) (num v : Int32) : Prop := isCup r ∧ r ≠ 79 ∧ r ≠ 80 ∧ kd ≤ 6 ∧ I r 0 = num ∧ I r 1 = nI kd ∧ I r 2 = v ∧ I 79 1 = nI n
theorem AC.run {I : Nat → Nat → Int32} {r n kd : Nat} {num v : Int32} (h : AC I r n kd num v) (bs : List Int32) (hl : n + bs.length ≤ 20) : AC (rnC bs I) r (n + bs.length) kd num v := by
  obtain ⟨h1, h2, h3, h4, h5, h6, h7, h8⟩ := h
  obtain ⟨g1, g2, -⟩ := rnC_facts bs I n h8 hl
  exact ⟨h1, h2, h3, h4, by rw [g1 r h2 h3]; exact h5, by rw [g1 r h2 h3]; exact h6, by rw [g1 r h2 h3]; exact h7, g2⟩
theorem AC.one {I : Nat → Nat → Int32} {r n kd : Nat} {num v : Int32} (h : AC I r n kd num v) (b : Int32) (hl : n + 1 ≤ 20) : AC (begC b I) r (n + 1) kd num v := h.run [b] hl
section ACTS
variable {X : Nat × (Nat → Int32)} {d : Nat} {I : Nat → Nat → Int32} {L : Nat → Nat → Int64} {Q : Option Value → XW → Prop}
theorem s124 {a c : Nat} (ha : a ≤ 6) (hc : c ≤ 2) : wp X d m124 0 [some (.int (nI a)), some (.int (nI c)), none] [] (K0, R0, I, L) Q ↔ Q (some (.int (nI (bdN a c)))) (K0, R0, I, L) := by
  rw [b124_0, show nI a * 3 + nI c = nI (a * 3 + c) by rw [show nI a * 3 = nI (a * 3) from nI_mul a 3, nI_add], if_neg (nI_pos (by omega)), if_pos (show nI (a * 3 + c) < (21 : Int32) from nI_lt (b := 21) (by omega) (by decide)), and_iff_right (inA_nI (by omega) (by decide)), nI_clamp (by omega), BO_nI _ (by omega)]
  exact Iff.rfl
theorem s123 {a c : Nat} (ha : a ≤ 6) (hc : c ≤ 2) : wp X (d + 1) m123 0 [some (.int (nI a)), some (.int (nI c)), none, none] [] (K0, R0, I, L) Q ↔ Q (some (.int (nI (kwN a c)))) (K0, R0, I, L) := by
  have st : ∀ (a b : Nat), 0 < a → a ≤ 6 → b < 7 → (wp X (d + 1) m123 4 [none, some (.int (nI c)), some (.int (nI a)), some (.int (nI b))] [] (K0, R0, I, L) Q ↔ (if bdN a c = 0 then wp X (d + 1) m123 4 [none, some (.int (nI c)), some (.int (KA a)), some (.int (nI (b + 1)))] [] (K0, R0, I, L) Q else Q (some (.int (nI a))) (K0, R0, I, L))) := by
    intro a b h0 ha hb
    rw [b123_4, if_pos (show nI b < (7 : Int32) from nI_lt (b := 7) hb (by decide)), if_pos (show (0 : Int32) < nI a from nI_lt (a := 0) h0 (by omega)), if_pos (show nI a < (7 : Int32) from nI_lt (b := 7) (by omega) (by decide)), s124 ha hc]
    simp only [Option.toList, List.cons_append, List.nil_append]
    have hb' : bdN a c < 2 ^ 31 := by
      have : ∀ j, j < 21 → ([10, 11, 12, 0, 20, 0, 30, 0, 0, 0, 0, 40, 50, 51, 0, 0, 0, 60, 71, 70, 0] : List Nat).getD j 0 < 2 ^ 31 := by decide +kernel
      exact this _ (by omega)
    have e : (nI (bdN a c) = 0) ↔ bdN a c = 0 := nI_eq (b := 0) hb' (by decide)
    rw [b123_27, and_iff_right (inA_nI (by omega) (by decide)), nI_clamp (by omega), nI_1]
    by_cases q : bdN a c = 0
    · rw [if_pos q, if_pos (e.mpr q)]
    · rw [if_neg q, if_neg (fun z => q (e.mp z))]
  have z : ∀ b, (wp X (d + 1) m123 4 [none, some (.int (nI c)), some (.int (nI 0)), some (.int (nI b))] [] (K0, R0, I, L) Q ↔ Q (some (.int (nI 0))) (K0, R0, I, L)) := by
    intro b
    rw [b123_4, if_neg (show ¬ (0 : Int32) < nI 0 by decide)]
    by_cases q : nI b < (7 : Int32)
    · rw [if_pos q]; exact Iff.rfl
    · rw [if_neg q]; exact Iff.rfl
  rw [b123_0]
  show wp X (d + 1) m123 4 [none, some (.int (nI c)), some (.int (nI a)), some (.int (nI 0))] [] (K0, R0, I, L) Q ↔ _
  match a, ha with
  | 0, _ => match c, hc with
    | 0, _ =>
      rw [z]
      try exact Iff.rfl
    | 1, _ =>
      rw [z]
      try exact Iff.rfl
    | 2, _ =>
      rw [z]
      try exact Iff.rfl
    | c + 3, hc => omega
  | 1, _ => match c, hc with
    | 0, _ =>
      rw [st 1 0 (by decide) (by decide) (by decide), if_pos (show bdN 1 0 = 0 by decide), show KA 1 = nI 0 from rfl, z]
      try exact Iff.rfl
    | 1, _ =>
      rw [st 1 0 (by decide) (by decide) (by decide), if_neg (show ¬ bdN 1 1 = 0 by decide)]
      try exact Iff.rfl
    | 2, _ =>
      rw [st 1 0 (by decide) (by decide) (by decide), if_pos (show bdN 1 2 = 0 by decide), show KA 1 = nI 0 from rfl, z]
      try exact Iff.rfl
    | c + 3, hc => omega
  | 2, _ => match c, hc with
    | 0, _ =>
      rw [st 2 0 (by decide) (by decide) (by decide), if_neg (show ¬ bdN 2 0 = 0 by decide)]
      try exact Iff.rfl
    | 1, _ =>
      rw [st 2 0 (by decide) (by decide) (by decide), if_pos (show bdN 2 1 = 0 by decide), show KA 2 = nI 0 from rfl, z]
      try exact Iff.rfl
    | 2, _ =>
      rw [st 2 0 (by decide) (by decide) (by decide), if_pos (show bdN 2 2 = 0 by decide), show KA 2 = nI 0 from rfl, z]
      try exact Iff.rfl
    | c + 3, hc => omega
  | 3, _ => match c, hc with
    | 0, _ =>
      rw [st 3 0 (by decide) (by decide) (by decide), if_pos (show bdN 3 0 = 0 by decide), show KA 3 = nI 0 from rfl, z]
      try exact Iff.rfl
    | 1, _ =>
      rw [st 3 0 (by decide) (by decide) (by decide), if_pos (show bdN 3 1 = 0 by decide), show KA 3 = nI 0 from rfl, z]
      try exact Iff.rfl
    | 2, _ =>
      rw [st 3 0 (by decide) (by decide) (by decide), if_neg (show ¬ bdN 3 2 = 0 by decide)]
      try exact Iff.rfl
    | c + 3, hc => omega
  | 4, _ => match c, hc with
    | 0, _ =>
      rw [st 4 0 (by decide) (by decide) (by decide), if_neg (show ¬ bdN 4 0 = 0 by decide)]
      try exact Iff.rfl
    | 1, _ =>
      rw [st 4 0 (by decide) (by decide) (by decide), if_neg (show ¬ bdN 4 1 = 0 by decide)]
      try exact Iff.rfl
    | 2, _ =>
      rw [st 4 0 (by decide) (by decide) (by decide), if_pos (show bdN 4 2 = 0 by decide), show KA 4 = nI 1 from rfl, st 1 1 (by decide) (by decide) (by decide), if_pos (show bdN 1 2 = 0 by decide), show KA 1 = nI 0 from rfl, z]
      try exact Iff.rfl
    | c + 3, hc => omega
  | 5, _ => match c, hc with
    | 0, _ =>
      rw [st 5 0 (by decide) (by decide) (by decide), if_pos (show bdN 5 0 = 0 by decide), show KA 5 = nI 2 from rfl, st 2 1 (by decide) (by decide) (by decide), if_neg (show ¬ bdN 2 0 = 0 by decide)]
      try exact Iff.rfl
    | 1, _ =>
      rw [st 5 0 (by decide) (by decide) (by decide), if_pos (show bdN 5 1 = 0 by decide), show KA 5 = nI 2 from rfl, st 2 1 (by decide) (by decide) (by decide), if_pos (show bdN 2 1 = 0 by decide), show KA 2 = nI 0 from rfl, z]
      try exact Iff.rfl
    | 2, _ =>
      rw [st 5 0 (by decide) (by decide) (by decide), if_neg (show ¬ bdN 5 2 = 0 by decide)]
      try exact Iff.rfl
    | c + 3, hc => omega
  | 6, _ => match c, hc with
    | 0, _ =>
      rw [st 6 0 (by decide) (by decide) (by decide), if_neg (show ¬ bdN 6 0 = 0 by decide)]
      try exact Iff.rfl
    | 1, _ =>
      rw [st 6 0 (by decide) (by decide) (by decide), if_neg (show ¬ bdN 6 1 = 0 by decide)]
      try exact Iff.rfl
    | 2, _ =>
      rw [st 6 0 (by decide) (by decide) (by decide), if_pos (show bdN 6 2 = 0 by decide), show KA 6 = nI 3 from rfl, st 3 1 (by decide) (by decide) (by decide), if_neg (show ¬ bdN 3 2 = 0 by decide)]
      try exact Iff.rfl
    | c + 3, hc => omega
  | a + 7, ha => omega
/-- a body begins: the class -/
theorem s122b {r n kd a c dl b w : Nat} {num v x : Int32} (A : AC I r n kd num v) (ha : a ≤ 6) (hc : c ≤ 2) (hd : dl < 40) (hn : n < 20) (hw : kwN a c = w) (hb : bdN w c = b) (hw6 : w ≤ 6) : wp X (d + 2) m122 0 [some (.ref 79), some (.int (nI a)), some (.ref r), some (.int (nI c)), some (.int x), some (.int (nI dl)), none, none, none] [] (K0, R0, I, L) Q ↔ wp X (d + 2) m122 36 [some (.ref 79), none, some (.ref r), none, some (.int x), none, some (.int (nI (dl + 1))), some (.int (nI w)), some (.int (nI b))] [] (K0, R0, begC (nI b) I, L) Q := by
  have h := A.1
  have h8 := A.2.2.2.2.2.2.2
  rw [b122_0 h, if_pos (show nI dl < (40 : Int32) from nI_lt (b := 40) hd (by decide)), s123 ha hc, hw]
  simp only [Option.toList, List.cons_append, List.nil_append]
  rw [b122_20 h, s124 hw6 hc, hb]
  simp only [Option.toList, List.cons_append, List.nil_append]
  rw [b122_28 h, b125_0, h8, if_neg (nI_pos (by omega)), if_pos (show nI n < (20 : Int32) from nI_lt (b := 20) hn (by decide)), and_iff_right (inA_nI hn (by decide)), nI_1]
  simp only [Option.toList, List.cons_append, List.nil_append]
  unfold begC
  rw [h8, nI_1]
theorem s126 {r a u c dl : Nat} {x : Int32} (hr : isCup r) (ha : a ≤ 6) (hu : KA a = nI u) : wp X (d + 1) m126 0 [some (.ref 79), some (.int (nI a)), some (.ref r), some (.int (nI c)), some (.int x), some (.int (nI dl)), none] [] (K0, R0, I, L) Q ↔ wp X d m122 0 [some (.ref 79), some (.int (nI u)), some (.ref r), some (.int (nI c)), some (.int x), some (.int (nI dl)), none, none, none] [] (K0, R0, I, L) (fun r w1 => wp X (d + 1) m126 35 [none, none, none, none, none, none, none] (r.toList ++ []) w1 Q) := by
  rw [b126_0 hr, if_neg (nI_pos (by omega)), if_pos (show nI a < (7 : Int32) from nI_lt (b := 7) (by omega) (by decide)), and_iff_right (inA_nI (by omega) (by decide)), nI_clamp (by omega), hu]
/-- lies, from a kind that has CUP's -/
theorem run10 {r n kd a dl : Nat} {num v x : Int32} (A : AC I r n kd num v) (ha : a ≤ 6) (hd : dl < 40) (hn : n < 20) (hw : kwN a 0 = 0) : wp X (d + 2) m122 0 [some (.ref 79), some (.int (nI a)), some (.ref r), some (.int (nI 0)), some (.int x), some (.int (nI dl)), none, none, none] [] (K0, R0, I, L) Q ↔ Q (some (.int (x + num))) (K0, R0, begC 10 I, L) := by
  have A1 := A.one 10 (by omega)
  rw [s122b A ha (by decide) hd hn hw (show bdN 0 0 = 10 by decide) (by decide)]
  show wp X (d + 2) m122 36 [some (.ref 79), none, some (.ref r), none, some (.int x), none, some (.int (nI (dl + 1))), some (.int (nI 0)), some (.int 10)] [] (K0, R0, begC 10 I, L) Q ↔ _
  rw [b122_36 A.1, if_pos rfl, A1.2.2.2.2.1]
theorem up10 {r n kd a u dl : Nat} {num v x : Int32} (A : AC I r n kd num v) (ha : a ≤ 6) (hu : KA a = nI u) (hu6 : u ≤ 6) (hd : dl < 40) (hn : n < 20) (hw : kwN u 0 = 0) : wp X (d + 3) m126 0 [some (.ref 79), some (.int (nI a)), some (.ref r), some (.int (nI 0)), some (.int x), some (.int (nI dl)), none] [] (K0, R0, I, L) Q ↔ Q (some (.int (x + num))) (K0, R0, begC 10 I, L) := by
  rw [s126 A.1 ha hu, run10 A hu6 hd hn hw]
  simp only [Option.toList, List.cons_append, List.nil_append]
  rw [b126_35]
/-- lies -/
theorem lies_c {r n kd dl : Nat} {num v x : Int32} (A : AC I r n kd num v) (hd : dl < 39) (hn : n + 2 ≤ 20) : wp X (d + 4) m122 0 [some (.ref 79), some (.int (nI kd)), some (.ref r), some (.int (nI 0)), some (.int x), some (.int (nI dl)), none, none, none] [] (K0, R0, I, L) Q ↔ Q (some (.int (liV kd num v x))) (K0, R0, rnC (liB kd) I, L) := by
  have hk := A.2.2.2.1
  have hr := A.1
  match kd, hk with
  | 0, _ => exact run10 A (by decide) (by omega) (by omega) (by decide)
  | 1, _ => exact run10 A (by decide) (by omega) (by omega) (by decide)
  | 3, _ => exact run10 A (by decide) (by omega) (by omega) (by decide)
  | 2, _ =>
    have A1 := A.one 30 (by omega)
    rw [s122b (w := 2) (b := 30) A (by decide) (by decide) (by omega) (by omega) (by decide) (by decide) (by decide)]
    show wp X (d + 4) m122 36 [some (.ref 79), none, some (.ref r), none, some (.int x), none, some (.int (nI (dl + 1))), some (.int (nI 2)), some (.int 30)] [] (K0, R0, begC 30 I, L) Q ↔ _
    rw [b122_36 hr, if_neg (by decide), if_neg (by decide), if_neg (by decide), if_neg (by decide), if_pos rfl]
    refine (up10 (a := 2) (u := 0) A1 (by decide) rfl (by decide) (by omega) (by omega) (by decide)).trans ?_
    simp only [Option.toList, List.cons_append, List.nil_append]
    rw [b122_211]
    exact Iff.rfl
  | 5, _ =>
    have A1 := A.one 30 (by omega)
    rw [s122b (w := 2) (b := 30) A (by decide) (by decide) (by omega) (by omega) (by decide) (by decide) (by decide)]
    show wp X (d + 4) m122 36 [some (.ref 79), none, some (.ref r), none, some (.int x), none, some (.int (nI (dl + 1))), some (.int (nI 2)), some (.int 30)] [] (K0, R0, begC 30 I, L) Q ↔ _
    rw [b122_36 hr, if_neg (by decide), if_neg (by decide), if_neg (by decide), if_neg (by decide), if_pos rfl]
    refine (up10 (a := 2) (u := 0) A1 (by decide) rfl (by decide) (by omega) (by omega) (by decide)).trans ?_
    simp only [Option.toList, List.cons_append, List.nil_append]
    rw [b122_211]
    exact Iff.rfl
  | 4, _ =>
    have A1 := A.one 50 (by omega)
    rw [s122b (w := 4) (b := 50) A (by decide) (by decide) (by omega) (by omega) (by decide) (by decide) (by decide)]
    show wp X (d + 4) m122 36 [some (.ref 79), none, some (.ref r), none, some (.int x), none, some (.int (nI (dl + 1))), some (.int (nI 4)), some (.int 50)] [] (K0, R0, begC 50 I, L) Q ↔ _
    rw [b122_36 hr, if_neg (by decide), if_neg (by decide), if_neg (by decide), if_neg (by decide), if_neg (by decide), if_neg (by decide), if_pos rfl]
    refine (up10 (a := 4) (u := 1) A1 (by decide) rfl (by decide) (by omega) (by omega) (by decide)).trans ?_
    simp only [Option.toList, List.cons_append, List.nil_append]
    rw [b122_251]
    exact Iff.rfl
  | 6, _ =>
    have A1 := A.one 71 (by omega)
    have A2 := A1.one 10 (by omega)
    rw [s122b (w := 6) (b := 71) A (by decide) (by decide) (by omega) (by omega) (by decide) (by decide) (by decide)]
    show wp X (d + 4) m122 36 [some (.ref 79), none, some (.ref r), none, some (.int x), none, some (.int (nI (dl + 1))), some (.int (nI 6)), some (.int 71)] [] (K0, R0, begC 71 I, L) Q ↔ _
    rw [b122_36 hr, if_neg (by decide), if_neg (by decide), if_neg (by decide), if_neg (by decide), if_neg (by decide), if_neg (by decide), if_neg (by decide), if_neg (by decide), if_neg (by decide), if_neg (by decide), if_pos rfl]
    refine (up10 (a := 6) (u := 3) A1 (by decide) rfl (by decide) (by omega) (by omega) (by decide)).trans ?_
    simp only [Option.toList, List.cons_append, List.nil_append]
    rw [b122_323 hr, A2.2.2.2.2.2.2.1]
    exact Iff.rfl
  | k + 7, hk => omega
end ACTS
