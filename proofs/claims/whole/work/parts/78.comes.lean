/-! comes, near, fullest. -/
def lenN (j : Nat) : Nat := if j < 1 then 0 else if j < 5 then 1 else if j < 21 then 2 else if j < 85 then 3 else 4
theorem bg_step {m : Nat} (h : m ≤ 4) : bgN (m + 1) = bgN m + 4 ^ m ∧ bgN (m + 1) = 4 * bgN m + 1 ∧ bgN m ≤ 85 := by
  match m, h with
  | 0, _ => exact ⟨rfl, rfl, by decide⟩
  | 1, _ => exact ⟨rfl, rfl, by decide⟩
  | 2, _ => exact ⟨rfl, rfl, by decide⟩
  | 3, _ => exact ⟨rfl, rfl, by decide⟩
  | 4, _ => exact ⟨rfl, rfl, by decide⟩
  | m + 5, h => omega
theorem len_bg {m row : Nat} (h : m ≤ 4) (hr : row < 4 ^ m) : lenN (bgN m + row) = m := by
  have b0 : bgN 0 = 0 := rfl
  have b1 : bgN 1 = 1 := rfl
  have b2 : bgN 2 = 5 := rfl
  have b3 : bgN 3 = 21 := rfl
  have b4 : bgN 4 = 85 := rfl
  unfold lenN
  match m, h, hr with
  | 0, _, hr => rw [b0, if_pos (by simp at hr; omega)]
  | 1, _, hr => rw [b1, if_neg (by omega), if_pos (by simp at hr; omega)]
  | 2, _, hr => rw [b2, if_neg (by omega), if_neg (by omega), if_pos (by simp at hr; omega)]
  | 3, _, hr => rw [b3, if_neg (by omega), if_neg (by omega), if_neg (by omega), if_pos (by simp at hr; omega)]
  | 4, _, hr => rw [b4, if_neg (by omega), if_neg (by omega), if_neg (by omega), if_neg (by omega)]
  | m + 5, h, _ => omega
theorem bg_find : ∀ j, j < 341 → ∃ m row, m ≤ 4 ∧ row < 4 ^ m ∧ j = bgN m + row := by
  intro j hj
  by_cases h0 : j < 1
  · exact ⟨0, 0, by decide, by decide, by show j = 0 + 0; omega⟩
  by_cases h1 : j < 5
  · exact ⟨1, j - 1, by decide, by show j - 1 < 4; omega, by show j = 1 + (j - 1); omega⟩
  by_cases h2 : j < 21
  · exact ⟨2, j - 5, by decide, by show j - 5 < 16; omega, by show j = 5 + (j - 5); omega⟩
  by_cases h3 : j < 85
  · exact ⟨3, j - 21, by decide, by show j - 21 < 64; omega, by show j = 21 + (j - 21); omega⟩
  · exact ⟨4, j - 85, by decide, by show j - 85 < 256; omega, by show j = 85 + (j - 85); omega⟩
def fdN (p : Nat → Bool) : Nat → Nat → Option Nat
  | 0, _ => none
  | r + 1, j => if p j = true then some j else fdN p r (j + 1)
theorem fd_lt {p : Nat → Bool} : ∀ r j e, fdN p r j = some e → e < j + r := by
  intro r
  induction r with
  | zero => intro j e h; cases h
  | succ r ih =>
    intro j e h
    have h' : (if p j = true then some j else fdN p r (j + 1)) = some e := h
    by_cases c : p j = true
    · rw [if_pos c] at h'
      cases h'
      omega
    · rw [if_neg c] at h'
      have := ih (j + 1) e h'
      omega
def fdI (o : Option Nat) : Int32 := match o with
  | none => -1
  | some j => nI j
/-- the k-th of a row of m sayings -/
def kthI (m row : Nat) (x : Int32) : Int32 := if x < 0 then nI m else if x < nI m then nI (row / 4 ^ (m - 1 - x.toNatClampNeg) % 4) else -5
def ansO (x : Int32) (o : Option Nat) : Int32 := match o with
  | none => -5
  | some j => kthI (lenN j) (j - bgN (lenN j)) x
section TREE
variable {X : Nat × (Nat → Int32)} {d : Nat} {L : Nat → Nat → Int64} {I : Nat → Nat → Int32} {Q : Option Value → XW → Prop}
theorem RB_n : ∀ e, e < 6 → RB e = nI (bgN e) := by decide +kernel
theorem s82 {e : Nat} (he : e < 6) : wp X d m82 0 [some (.int (nI e))] [] (K0, R0, I, L) Q ↔ Q (some (.int (nI (bgN e)))) (K0, R0, I, L) := by
  rw [b82_0, if_neg (nI_pos (by omega)), if_pos (show nI e < (6 : Int32) from nI_lt (b := 6) he (by decide)), and_iff_right (inA_nI he (by decide)), nI_clamp (by omega), RB_n e he]
theorem s84 {j : Nat} (hj : j < 341) : wp X (d + 1) m84 0 [some (.ref 74), some (.int (nI j)), none] [] (K0, R0, I, L) Q ↔ Q (some (.int (nI (lenN j)))) (K0, R0, I, L) := by
  have st : ∀ e, e < 4 → (wp X (d + 1) m84 2 [none, some (.int (nI j)), some (.int (nI e))] [] (K0, R0, I, L) Q ↔ (if j < bgN (e + 1) then Q (some (.int (nI e))) (K0, R0, I, L) else wp X (d + 1) m84 2 [none, some (.int (nI j)), some (.int (nI (e + 1)))] [] (K0, R0, I, L) Q)) := by
    intro e he
    have hb := (bg_step (m := e + 1) (by omega)).2.2
    rw [b84_2, if_pos (show nI e < (4 : Int32) from nI_lt (b := 4) he (by decide)), nI_1, s82 (by omega)]
    simp only [Option.toList, List.cons_append, List.nil_append]
    rw [b84_14, nI_1]
    have g := nI_ltI (a := j) (b := bgN (e + 1)) (by omega) (by omega)
    by_cases c : j < bgN (e + 1)
    · rw [if_pos (g.mpr c), if_pos c]
    · rw [if_neg (fun q => c (g.mp q)), if_neg c]
  have e4 : wp X (d + 1) m84 2 [none, some (.int (nI j)), some (.int (nI 4))] [] (K0, R0, I, L) Q ↔ Q (some (.int (nI 4))) (K0, R0, I, L) := by
    rw [b84_2, if_neg (show ¬ nI 4 < (4 : Int32) by decide)]
  rw [b84_0]
  show wp X (d + 1) m84 2 [none, some (.int (nI j)), some (.int (nI 0))] [] (K0, R0, I, L) Q ↔ _
  rw [st 0 (by decide), show bgN (0 + 1) = 1 from rfl, st 1 (by decide), show bgN (1 + 1) = 5 from rfl, st 2 (by decide), show bgN (2 + 1) = 21 from rfl, st 3 (by decide), show bgN (3 + 1) = 85 from rfl, e4]
  unfold lenN
  by_cases h0 : j < 1
  · rw [if_pos h0, if_pos h0]
  by_cases h1 : j < 5
  · rw [if_neg h0, if_pos h1, if_neg h0, if_pos h1]
  by_cases h2 : j < 21
  · rw [if_neg h0, if_neg h1, if_pos h2, if_neg h0, if_neg h1, if_pos h2]
  by_cases h3 : j < 85
  · rw [if_neg h0, if_neg h1, if_neg h2, if_pos h3, if_neg h0, if_neg h1, if_neg h2, if_pos h3]
  · rw [if_neg h0, if_neg h1, if_neg h2, if_neg h3, if_neg h0, if_neg h1, if_neg h2, if_neg h3]
theorem s85 {m row k : Nat} (hm : m ≤ 4) (hr : row < 4 ^ m) (hk : k < 4) : wp X (d + 2) m85 0 [some (.ref 74), some (.int (nI (bgN m + row))), some (.int (nI k)), none, none, none] [] (K0, R0, I, L) Q ↔ Q (some (.int (kthI m row (nI k)))) (K0, R0, I, L) := by
  have hp := p4_le m hm
  have hb := bg_step hm
  have k0 : ¬ nI k < 0 := nI_pos (by omega)
  rw [b85_0, s84 (by omega), len_bg hm hr]
  simp only [Option.toList, List.cons_append, List.nil_append]
  rw [b85_5, if_neg k0]
  unfold kthI
  rw [if_neg k0, nI_clamp (by omega)]
  have g := nI_ltI (a := k) (b := m) (by omega) (by omega)
  by_cases c : k < m
  · rw [if_pos (g.mpr c), if_pos (g.mpr c), show nI m - 1 = nI (m - 1) from nI_sub (b := 1) (by omega)]
    rw [show nI (bgN m + row) = nI (bgN (m - 0) + row / 4 ^ 0) by rw [Nat.sub_zero, Nat.pow_zero, Nat.div_one]]
    refine (for_iff (P := fun e (_ : Unit) => wp X (d + 2) m85 26 [none, none, some (.int (nI k)), none, some (.int (nI (bgN (m - e) + row / 4 ^ e))), some (.int (nI (m - 1 - e)))] [] (K0, R0, I, L) Q) (F := fun _ u => u) (m - 1 - k) (fun e _ he => ?_) ()).trans ?_
    · obtain ⟨m', hm'⟩ : ∃ m', m - e = m' + 1 := ⟨m - e - 1, by omega⟩
      have hb' := bg_step (m := m') (by omega)
      have hd : row / 4 ^ e ≤ row := Nat.div_le_self _ _
      rw [b85_26, if_pos (nI_lt (by omega) (by omega)), hm', hb'.2.1, show 4 * bgN m' + 1 + row / 4 ^ e = (4 * bgN m' + row / 4 ^ e) + 1 by omega, nI_pred, show nI (4 * bgN m' + row / 4 ^ e) / 4 = nI ((4 * bgN m' + row / 4 ^ e) / 4) from nI_div (b := 4) (by omega) (by decide), show (4 * bgN m' + row / 4 ^ e) / 4 = bgN m' + row / 4 ^ e / 4 by omega, Nat.div_div_eq_div_mul, ← Nat.pow_succ]
      obtain ⟨q, hq⟩ : ∃ q, m - 1 - e = q + 1 := ⟨m - 1 - e - 1, by omega⟩
      rw [hq, nI_addn, show q = m - 1 - (e + 1) by omega, show m' = m - (e + 1) by omega]
    · have hb' := bg_step (m := k) (by omega)
      have hd : row / 4 ^ (m - 1 - k) ≤ row := Nat.div_le_self _ _
      rw [b85_26, if_neg (nI_nlt (by omega) (by omega)), show m - (m - 1 - k) = k + 1 by omega, hb'.2.1, show 4 * bgN k + 1 + row / 4 ^ (m - 1 - k) = (4 * bgN k + row / 4 ^ (m - 1 - k)) + 1 by omega, nI_pred, show nI (4 * bgN k + row / 4 ^ (m - 1 - k)) - nI (4 * bgN k + row / 4 ^ (m - 1 - k)) / 4 * 4 = nI ((4 * bgN k + row / 4 ^ (m - 1 - k)) % 4) from nI_rem (b := 4) (by omega) (by decide), show (4 * bgN k + row / 4 ^ (m - 1 - k)) % 4 = row / 4 ^ (m - 1 - k) % 4 by omega]
  · rw [if_neg (fun q => c (g.mp q)), if_neg (fun q => c (g.mp q))]
theorem s83 {s : Nat} {lf : Nat → Nat} (hs : s ≤ 4095) (hl : ∀ j, j < 341 → I 75 j = nI (lf j) ∧ lf j ≤ 4095) : ∀ rem j, j + rem = 341 → (wp X d m83 2 [some (.ref 74), some (.int (nI s)), some (.int (nI j))] [] (K0, R0, I, L) Q ↔ Q (some (.int (fdI (fdN (fun e => decide (lf e = s)) rem j)))) (K0, R0, I, L)) := by
  intro rem
  induction rem with
  | zero =>
    intro j hj
    rw [b83_2, if_neg (show ¬ nI j < (341 : Int32) from nI_nlt (b := 341) (by omega) (by omega))]
    exact Iff.rfl
  | succ rem ih =>
    intro j hj
    obtain ⟨h1, h2⟩ := hl j (by omega)
    rw [b83_2, if_pos (show nI j < (341 : Int32) from nI_lt (b := 341) (by omega) (by decide)), and_iff_right (inA_nI (by omega) (by decide)), nI_clamp (by omega), h1, nI_1, ih (j + 1) (by omega)]
    have g := nI_eq (a := lf j) (b := s) (by omega) (by omega)
    show _ ↔ Q (some (.int (fdI (if decide (lf j = s) = true then some j else fdN (fun e => decide (lf e = s)) rem (j + 1))))) (K0, R0, I, L)
    by_cases c : lf j = s
    · rw [if_pos (g.mpr c), if_pos (decide_eq_true c)]
      exact Iff.rfl
    · rw [if_neg (fun q => c (g.mp q)), if_neg (fun q => c (of_decide_eq_true q))]
theorem s88 {j : Nat} (hj : j < 341) : wp X d m88 0 [some (.ref 74), some (.int (nI j))] [] (K0, R0, I, L) Q ↔ Q (some (.int (I 75 j))) (K0, R0, I, L) := by
  rw [b88_0, if_neg (nI_pos (by omega)), if_pos (show nI j < (341 : Int32) from nI_lt (b := 341) hj (by decide)), and_iff_right (inA_nI hj (by decide)), nI_clamp (by omega)]
end TREE
section CALLS
variable {X : Nat × (Nat → Int32)} {d : Nat}
/-- a number from -1 on -/
theorem argK (x : Int32) {n : Nat} (hn : n < 100) : (x < -1 ∨ nI n < x) ∨ x = -1 ∨ ∃ s, s ≤ n ∧ x = nI s := by
  rcases num_cases x (n := n) (by omega) with h | h
  · by_cases c : x = -1
    · exact Or.inr (Or.inl c)
    · refine Or.inl ?_
      rcases h with h | h
      · refine Or.inl ?_
        have a := (lt_r (n := 0) (by decide)).mp h
        rw [Int32.lt_iff_toInt_lt]
        have b : x.toInt ≠ (-1 : Int32).toInt := fun q => c (Int32.toInt_inj.mp q)
        rw [show (-1 : Int32).toInt = -1 by decide] at b ⊢
        omega
      · exact Or.inr h
  · exact Or.inr (Or.inr h)
theorem ok_comes {x1 x2 x3 : Int32} : Ok X d m79 m190 [some (.ref 0), some (.int x1), some (.int x2), some (.int x3), none, none] [some (.ref 124), some (.int x1), some (.int x2), some (.int x3), none, none, none] := by
  intro I L hI
  obtain ⟨n, t, z, k, wd, nb, mm, T, hN, hn, e1, e4, S⟩ := sit_view hI
  rcases argC x1 hn with h | ⟨i, hi, rfl⟩
  · refine ⟨.int (-1), I, L, I, L, hI, fun Q => ?_, fun Q => ?_⟩
    · simp only [b79_0, s17_no hn e1 h, b79_8_1, Option.toList, List.cons_append, List.nil_append]
    · simp only [b190_0, s145_no hn e4 h, b190_5, if_true, Option.toList, List.cons_append, List.nil_append]
  have hc := cupK (i := i) (by omega)
  have hkk : (x3 < -1 ∨ (3 : Int32) < x3) ∨ ((¬ x3 < -1 ∧ x3 < 4) ∧ ¬ (3 : Int32) < x3) ∧ (x3 = -1 ∨ ∃ s, s ≤ 3 ∧ x3 = nI s) := by
    rcases argK x3 (n := 3) (by decide) with h | h | ⟨s, hs, rfl⟩
    · exact Or.inl h
    · subst h; exact Or.inr ⟨by decide, Or.inl rfl⟩
    · exact Or.inr ⟨⟨⟨fun q => nI_pos (n := s) (by omega) (Int32.lt_trans q (by decide)), nI_lt (b := 4) (by omega) (by decide)⟩, nI_nlt (a := 3) hs (by decide)⟩, Or.inr ⟨s, hs, rfl⟩⟩
  rcases hkk with h | ⟨⟨⟨ka, kb⟩, kc⟩, hk3⟩
  · refine ⟨.int (-1), I, L, I, L, hI, fun Q => ?_, fun Q => ?_⟩
    · rw [b79_0, s17_ok hn e1 hi]
      simp only [Option.toList, List.cons_append, List.nil_append]
      rw [b79_8 hc]
      rcases h with h | h
      · rw [if_pos h]
      · rw [if_neg (fun q => nlt0 (n := 3) (by decide) h (Int32.lt_trans q (by decide))), if_neg (show ¬ x3 < (4 : Int32) from fun q => by
          have a := (lt_l (n := 3) (by decide)).mp h
          have b := (lt_r (n := 4) (by decide)).mp q
          omega)]
    · rw [b190_0, s145_ok hn e4 hi]
      simp only [Option.toList, List.cons_append, List.nil_append]
      rw [b190_5, if_neg (by decide), s142_no h]
      simp only [Option.toList, List.cons_append, List.nil_append]
      rw [b190_15, if_pos rfl]
  rcases num_cases x2 (n := 4095) (by decide) with h | ⟨s, hs, rfl⟩
  · refine ⟨.int (-2), I, L, I, L, hI, fun Q => ?_, fun Q => ?_⟩
    · rw [b79_0, s17_ok hn e1 hi]
      simp only [Option.toList, List.cons_append, List.nil_append]
      rw [b79_8 hc, if_neg ka, if_pos kb, s12_no h]
      simp only [Option.toList, List.cons_append, List.nil_append]
      rw [b79_31 hc, if_pos rfl]
    · rw [b190_0, s145_ok hn e4 hi]
      simp only [Option.toList, List.cons_append, List.nil_append]
      rw [b190_5, if_neg (by decide), s142_ok ka kc]
      simp only [Option.toList, List.cons_append, List.nil_append]
      rw [b190_15, if_neg (by decide), s143_no h]
      simp only [Option.toList, List.cons_append, List.nil_append]
      rw [b190_25, if_pos rfl]
  obtain ⟨kd, v, lv, m, r, ln, hR, hM, hm, hr, hln⟩ := cup_view hN hi
  obtain ⟨J, aJ, gJ, cJ⟩ := s80 (X := X) (d := d + 93) (L := L) (n := 4) (s0 := (lv, nI m)) S hR hln (Or.inr rfl)
  have SJ := S.asked aJ
  have hMJ := hM.asked aJ
  -- the reference's search
  have go : ∀ rem many row (J' : Nat → Nat → Int32), many ≤ 4 → row < 4 ^ many → bgN many + row + rem = 341 → Asked I J' → ∃ K, Asked I K ∧ ∀ Q : Option Value → XW → Prop, wp X (d + 100) m190 46 [some (.ref 124), some (.int (nI i)), some (.int (nI s)), some (.int x3), some (.int (nI (4 ^ many))), some (.int (nI many)), some (.int (nI row))] [] (K0, R0, J', L) Q ↔ Q (some (.int (ansO x3 (fdN (fun e => decide ((stS (sayN (wiS T wd nb mm k t i kd v) (dnS kd t ln) (riS wd nb k) (faS wd nb k)) (lv, nI m) 5 e).1 = s)) rem (bgN many + row))))) (K0, R0, K, L) := by
    intro rem
    induction rem with
    | zero =>
      intro many row J' hm4 hrow hj
      have a := bg_step hm4
      have b : bgN (many + 1) ≤ 341 := by
        match many, hm4 with
        | 0, _ => decide
        | 1, _ => decide
        | 2, _ => decide
        | 3, _ => decide
        | 4, _ => decide
        | q + 5, hm4 => omega
      omega
    | succ rem ih =>
      intro many row J' hm4 hrow hj aJ'
      have p256 := p4_le many hm4
      have hbs := bg_step hm4
      obtain ⟨K, ak, hK⟩ := s191 (X := X) (d := d + 91) (L := L) (s0 := (lv, nI m)) (S.asked aJ') (hM.asked aJ') (show r ≤ 50000 by omega) hln hm4 hrow
      have aK := aJ'.trans (Asked.ak ak)
      have est := st_md (f := sayN (wiS T wd nb mm k t i kd v) (dnS kd t ln) (riS wd nb k) (faS wd nb k)) (s0 := (lv, nI m)) 4 many row hm4 hm4 hrow
      have lle : (mdS (sayN (wiS T wd nb mm k t i kd v) (dnS kd t ln) (riS wd nb k) (faS wd nb k)) (lv, nI m) many row).1 ≤ 4095 := by
        rw [← est]
        exact (gJ _ (by show bgN many + row < 341; omega)).2
      have g := nI_eq (a := (mdS (sayN (wiS T wd nb mm k t i kd v) (dnS kd t ln) (riS wd nb k) (faS wd nb k)) (lv, nI m) many row).1) (b := s) (by omega) (by omega)
      have eL : lenN (bgN many + row) = many := len_bg hm4 hrow
      by_cases c : (mdS (sayN (wiS T wd nb mm k t i kd v) (dnS kd t ln) (riS wd nb k) (faS wd nb k)) (lv, nI m) many row).1 = s
      · refine ⟨K, aK, fun Q => ?_⟩
        have ea : ansO x3 (fdN (fun e => decide ((stS (sayN (wiS T wd nb mm k t i kd v) (dnS kd t ln) (riS wd nb k) (faS wd nb k)) (lv, nI m) 5 e).1 = s)) (rem + 1) (bgN many + row)) = kthI many row x3 := by
          show ansO x3 (if decide ((stS (sayN (wiS T wd nb mm k t i kd v) (dnS kd t ln) (riS wd nb k) (faS wd nb k)) (lv, nI m) 5 (bgN many + row)).1 = s) = true then some (bgN many + row) else _) = _
          rw [if_pos (decide_eq_true (by rw [est]; exact c))]
          show kthI (lenN (bgN many + row)) (bgN many + row - bgN (lenN (bgN many + row))) x3 = _
          rw [eL, Nat.add_sub_cancel_left]
        rw [ea, b190_46, if_pos (nI_lt hrow (by omega)), hK]
        simp only [Option.toList, List.cons_append, List.nil_append]
        rw [b190_62, if_pos (g.mpr c)]
        unfold kthI
        rcases hk3 with rfl | ⟨u, hu, rfl⟩
        · rw [if_pos (by decide), if_pos (by decide)]
        · have u0 : ¬ nI u < 0 := nI_pos (by omega)
          have gu := nI_ltI (a := u) (b := many) (by omega) (by omega)
          rw [if_neg u0, if_neg u0, nI_clamp (by omega)]
          by_cases c2 : u < many
          · rw [if_pos (gu.mpr c2), if_pos (gu.mpr c2), s192 hm4 c2 (by omega)]
            simp only [Option.toList, List.cons_append, List.nil_append]
            rw [b190_93]
          · rw [if_neg (fun q => c2 (gu.mp q)), if_neg (fun q => c2 (gu.mp q))]
      · have ea : fdN (fun e => decide ((stS (sayN (wiS T wd nb mm k t i kd v) (dnS kd t ln) (riS wd nb k) (faS wd nb k)) (lv, nI m) 5 e).1 = s)) (rem + 1) (bgN many + row) = fdN (fun e => decide ((stS (sayN (wiS T wd nb mm k t i kd v) (dnS kd t ln) (riS wd nb k) (faS wd nb k)) (lv, nI m) 5 e).1 = s)) rem (bgN many + row + 1) := by
          show (if decide ((stS (sayN (wiS T wd nb mm k t i kd v) (dnS kd t ln) (riS wd nb k) (faS wd nb k)) (lv, nI m) 5 (bgN many + row)).1 = s) = true then some (bgN many + row) else _) = _
          rw [if_neg (fun q => c (by rw [← est]; exact of_decide_eq_true q))]
        have step : ∀ Q : Option Value → XW → Prop, wp X (d + 100) m190 46 [some (.ref 124), some (.int (nI i)), some (.int (nI s)), some (.int x3), some (.int (nI (4 ^ many))), some (.int (nI many)), some (.int (nI row))] [] (K0, R0, J', L) Q ↔ wp X (d + 100) m190 46 [some (.ref 124), some (.int (nI i)), some (.int (nI s)), some (.int x3), some (.int (nI (4 ^ many))), some (.int (nI many)), some (.int (nI (row + 1)))] [] (K0, R0, K, L) Q := by
          intro Q
          rw [b190_46, if_pos (nI_lt hrow (by omega)), hK]
          simp only [Option.toList, List.cons_append, List.nil_append]
          rw [b190_62, if_neg (fun q => c (g.mp q)), nI_1]
        rw [ea]
        by_cases c2 : row + 1 < 4 ^ many
        · obtain ⟨M, aM, hM'⟩ := ih many (row + 1) K hm4 c2 (by omega) aK
          exact ⟨M, aM, fun Q => (step Q).trans (hM' Q)⟩
        · have lvl : ∀ Q : Option Value → XW → Prop, wp X (d + 100) m190 46 [some (.ref 124), some (.int (nI i)), some (.int (nI s)), some (.int x3), some (.int (nI (4 ^ many))), some (.int (nI many)), some (.int (nI (row + 1)))] [] (K0, R0, K, L) Q ↔ (if nI (many + 1) < 5 then wp X (d + 100) m190 46 [some (.ref 124), some (.int (nI i)), some (.int (nI s)), some (.int x3), some (.int (nI (4 ^ (many + 1)))), some (.int (nI (many + 1))), some (.int (nI 0))] [] (K0, R0, K, L) Q else Q (some (.int (-5))) (K0, R0, K, L)) := by
            intro Q
            rw [b190_46, if_neg (nI_nlt (by omega) (by omega)), nI_1, show nI (4 ^ many) * 4 = nI (4 ^ (many + 1)) by rw [Nat.pow_succ]; exact nI_mul (4 ^ many) 4, b190_37]
            exact Iff.rfl
          by_cases c3 : many = 4
          · subst c3
            have er : rem = 0 := by
              have : bgN (4 + 1) = 341 := rfl
              omega
            subst er
            refine ⟨K, aK, fun Q => ?_⟩
            rw [step, lvl, if_neg (by decide)]
            exact Iff.rfl
          · have e5 : nI (many + 1) < (5 : Int32) := nI_lt (b := 5) (by omega) (by decide)
            obtain ⟨M, aM, hM'⟩ := ih (many + 1) 0 K (by omega) (p4_le (many + 1) (by omega)).2 (by omega) aK
            refine ⟨M, aM, fun Q => ?_⟩
            rw [step, lvl, if_pos e5, hM', Nat.add_zero, hbs.1, show bgN many + row + 1 = bgN many + 4 ^ many by omega]
  obtain ⟨K, aK, hK⟩ := go 341 0 0 J (by decide) (by decide) rfl aJ
  refine ⟨.int (ansO x3 (fdN (fun e => decide ((stS (sayN (wiS T wd nb mm k t i kd v) (dnS kd t ln) (riS wd nb k) (faS wd nb k)) (lv, nI m) 5 e).1 = s)) 341 0)), J, L, K, L, hI.asked aK, fun Q => ?_, fun Q => ?_⟩
  · rw [b79_0, s17_ok hn e1 hi]
    simp only [Option.toList, List.cons_append, List.nil_append]
    rw [b79_8 hc, if_neg ka, if_pos kb, s12_ok hs]
    simp only [Option.toList, List.cons_append, List.nil_append]
    rw [b79_31 hc, if_neg (by decide), S.2.2.2.2.2.2.2.2.2.2 _ _ _ _ _ rfl]
    simp only [Option.toList, List.cons_append, List.nil_append]
    rw [b79_55 hc S.1.inn, S.2.2.2.2.2.2.1]
    refine (cJ _).trans ?_
    simp only [Option.toList, List.cons_append, List.nil_append]
    rw [b79_58, b83_0]
    refine (s83 (lf := fun e => (stS (sayN (wiS T wd nb mm k t i kd v) (dnS kd t ln) (riS wd nb k) (faS wd nb k)) (lv, nI m) 5 e).1) hs (fun j hj => gJ j hj) 341 0 rfl).trans ?_
    simp only [Option.toList, List.cons_append, List.nil_append]
    rw [b79_66]
    have hf := @fd_lt (fun e => decide ((stS (sayN (wiS T wd nb mm k t i kd v) (dnS kd t ln) (riS wd nb k) (faS wd nb k)) (lv, nI m) 5 e).1 = s)) 341 0
    generalize fdN (fun e => decide ((stS (sayN (wiS T wd nb mm k t i kd v) (dnS kd t ln) (riS wd nb k) (faS wd nb k)) (lv, nI m) 5 e).1 = s)) 341 0 = o at hf
    match o, hf with
    | none, _ => exact Iff.of_eq (if_pos (show fdI none < 0 by decide))
    | some j, hf =>
      have hj : j < 341 := by have := hf j rfl; omega
      rw [if_neg (show ¬ fdI (some j) < 0 from nI_pos (by omega))]
      show (if x3 < 0 then wp X (d + 99) m84 0 [some (.ref 74), some (.int (nI j)), none] [] (K0, R0, J, L) (fun r w1 => wp X (d + 100) m79 89 [none, none, none, none, none, none] (r.toList ++ []) w1 Q) else wp X (d + 99) m85 0 [some (.ref 74), some (.int (nI j)), some (.int x3), none, none, none] [] (K0, R0, J, L) (fun r w1 => wp X (d + 100) m79 102 [none, none, none, none, none, none] (r.toList ++ []) w1 Q)) ↔ Q (some (.int (kthI (lenN j) (j - bgN (lenN j)) x3))) (K0, R0, J, L)
      rcases hk3 with rfl | ⟨u, hu, rfl⟩
      · rw [if_pos (by decide), s84 hj]
        simp only [Option.toList, List.cons_append, List.nil_append]
        rw [b79_89, b79_102]
        exact Iff.rfl
      · obtain ⟨m', row, hm', hrow, rfl⟩ := bg_find j hj
        rw [if_neg (nI_pos (by omega)), s85 hm' hrow (by omega), len_bg hm' hrow, Nat.add_sub_cancel_left]
        simp only [Option.toList, List.cons_append, List.nil_append]
        rw [b79_102]
  · rw [b190_0, s145_ok hn ((aJ.2 0 (by decide)).trans e4) hi]
    simp only [Option.toList, List.cons_append, List.nil_append]
    rw [b190_5, if_neg (by decide), s142_ok ka kc]
    simp only [Option.toList, List.cons_append, List.nil_append]
    rw [b190_15, if_neg (by decide), s143_ok hs]
    simp only [Option.toList, List.cons_append, List.nil_append]
    rw [b190_25, if_neg (by decide), b190_37, if_pos (by decide)]
    exact hK Q
end CALLS
