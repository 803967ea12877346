/-! E, as each side works it out. -/
theorem for_at {σ : Type} {P : Nat → σ → Prop} {F : Nat → σ → σ} (s : σ) : ∀ N, (∀ k, k < N → (P k (itr F k s) ↔ P (k + 1) (F k (itr F k s)))) → (P 0 s ↔ P N (itr F N s)) := by
  intro N
  induction N with
  | zero => intro _; exact Iff.rfl
  | succ N ih => intro h; exact (ih (fun k hk => h k (by omega))).trans (h N (by omega))
theorem enc_not {b : Bool} {r : List Bool} (h : (b :: r).length ≤ 12) : nI (enc (b :: r)) ^^^ (1 : Int32) = nI (enc ((!b) :: r)) := by
  rw [(of_decide_eq_true (all_at dec_pile (enc_le h))).1]
  congr 1
  show (2 * enc r + b.toNat) / 2 * 2 + (1 - (2 * enc r + b.toNat) % 2) = 2 * enc r + (!b).toNat
  cases b
  · show (2 * enc r + 0) / 2 * 2 + (1 - (2 * enc r + 0) % 2) = 2 * enc r + 1
    omega
  · show (2 * enc r + 1) / 2 * 2 + (1 - (2 * enc r + 1) % 2) = 2 * enc r + 0
    omega
theorem enc_two {b c : Bool} {r : List Bool} : enc (b :: c :: r) / 4 = enc r ∧ enc (b :: c :: r) / 2 % 2 = c.toNat ∧ enc (b :: c :: r) % 2 = b.toNat := by
  show (2 * (2 * enc r + c.toNat) + b.toNat) / 4 = enc r ∧ (2 * (2 * enc r + c.toNat) + b.toNat) / 2 % 2 = c.toNat ∧ (2 * (2 * enc r + c.toNat) + b.toNat) % 2 = b.toNat
  have hb : b.toNat ≤ 1 := by cases b <;> decide
  have hc : c.toNat ≤ 1 := by cases c <;> decide
  omega
theorem enc_and {b c : Bool} {r : List Bool} (h : (b :: c :: r).length ≤ 12) : (nI (enc (b :: c :: r)) >>> ((1 : Int32) &&& 31)) &&& ((nI (enc (b :: c :: r)) &&& (1 : Int32)) ||| ((-2) : Int32)) = nI (enc ((c && b) :: r)) := by
  rw [(of_decide_eq_true (all_at dec_pile (enc_le h))).2.1, enc_two.1, enc_two.2.1, enc_two.2.2]
  congr 1
  show enc r * 2 + c.toNat * b.toNat = 2 * enc r + (c && b).toNat
  cases b <;> cases c <;> simp only [Bool.toNat_false, Bool.toNat_true, Bool.and_true, Bool.and_false, Bool.and_self] <;> omega
theorem enc_or {b c : Bool} {r : List Bool} (h : (b :: c :: r).length ≤ 12) : (nI (enc (b :: c :: r)) >>> ((1 : Int32) &&& 31)) ||| (nI (enc (b :: c :: r)) &&& (1 : Int32)) = nI (enc ((c || b) :: r)) := by
  rw [(of_decide_eq_true (all_at dec_pile (enc_le h))).2.2.1, enc_two.1, enc_two.2.1, enc_two.2.2]
  congr 1
  show enc r * 2 + (c.toNat + b.toNat - c.toNat * b.toNat) = 2 * enc r + (c || b).toNat
  cases b <;> cases c <;> simp only [Bool.toNat_false, Bool.toNat_true, Bool.or_true, Bool.or_false, Bool.or_self] <;> omega
theorem bI_0 {b : Bool} : (bI b = 0) ↔ b = false := by cases b <;> decide
theorem enc_push {b : Bool} {st : List Bool} (h : st.length ≤ 12) : (if bI b = 0 then (nI (enc st) <<< ((1 : Int32) &&& 31)) ||| (0 : Int32) else (nI (enc st) <<< ((1 : Int32) &&& 31)) ||| (1 : Int32)) = nI (enc (b :: st)) := by
  have e := of_decide_eq_true (all_at dec_pile (enc_le h))
  cases b
  · rw [if_pos (bI_0.mpr rfl)]
    exact e.2.2.2.1
  · rw [if_neg (fun q => absurd (bI_0.mp q) (by decide))]
    exact e.2.2.2.2.1
theorem enc_top {st : List Bool} (h : st.length ≤ 12) : (if nI (enc st) &&& (1 : Int32) = 1 then (1 : Int32) else 0) = bI (hdB st) := by
  rw [(of_decide_eq_true (all_at dec_pile (enc_le h))).2.2.2.2.2]
  match st with
  | [] => rfl
  | b :: r =>
    have e : enc (b :: r) % 2 = b.toNat := by
      show (2 * enc r + b.toNat) % 2 = b.toNat
      have hb : b.toNat ≤ 1 := by cases b <;> decide
      omega
    rw [e]
    cases b <;> rfl
section HOLD
variable {X : Nat × (Nat → Int32)} {d : Nat} {I : Nat → Nat → Int32} {L : Nat → Nat → Int64} {Q : Option Value → XW → Prop}
theorem s3_nI {n : Nat} (hn : n < 2 ^ 31) : wp X d m3 0 [some (.int (nI n)), some (.int 0)] [] (K0, R0, I, L) Q ↔ Q (some (.int (nI n))) (K0, R0, I, L) := by
  rw [b3_0, if_neg (nI_pos hn)]
theorem cT_ne {n : Nat} (h : n < 1800) : ¬ nI n = (-3 : Int32) ∧ ¬ nI n = (-2 : Int32) ∧ ¬ nI n = (-1 : Int32) := by
  have e := nI_toInt (n := n) (by omega)
  refine ⟨fun q => ?_, fun q => ?_, fun q => ?_⟩ <;> rw [q] at e
  · rw [show (-3 : Int32).toInt = -3 by decide] at e; omega
  · rw [show (-2 : Int32).toInt = -2 by decide] at e; omega
  · rw [show (-1 : Int32).toInt = -1 by decide] at e; omega
/-- does E hold: the class -/
theorem s23 {q lo m : Nat} {a T : Nat → Nat} (hq : isInn q) (hm : lo + m ≤ 100) (ha : ∀ f, f < 6 → I (q + 4) f = nI (a f) ∧ a f < 2 ^ 31) (hT : ∀ k, k < m → I (q + 3) (lo + k) = cT (T (lo + k))) (ho : okE T lo m) : wp X (d + 1) m23 0 [some (.ref q), some (.int (nI lo)), some (.int (nI (lo + m))), none, none, none] [] (K0, R0, I, L) Q ↔ Q (some (.int (bI (holdN a T lo m)))) (K0, R0, I, L) := by
  rw [b23_0 hq, s3_nI (by omega)]
  simp only [Option.toList, List.cons_append, List.nil_append]
  rw [b23_7 hq]
  refine (for_at (P := fun k (st : List Bool) => wp X (d + 1) m23 9 [some (.ref q), none, some (.int (nI (lo + m))), some (.int (nI (enc st))), some (.int (nI (lo + k))), none] [] (K0, R0, I, L) Q) (F := fun k st => evN a (T (lo + k)) st) [] m (fun k hk => ?_)).trans ?_
  · have hl := evA_len (a := a) ho k (by omega)
    have hd := dpA_le ho k (by omega)
    have hok := ho.1 k hk
    have hTk := hT k hk
    have hs : itr (fun k st => evN a (T (lo + k)) st) k [] = evA a T lo k := rfl
    rw [hs]
    generalize evA a T lo k = st at hl
    rw [b23_9 hq, if_pos (nI_lt (by omega) (by omega)), if_pos (show nI (lo + k) < (100 : Int32) from nI_lt (b := 100) (by omega) (by decide)), and_iff_right (inA_nI (by omega) (by decide)), and_iff_right (inA_nI (by omega) (by decide)), nI_clamp (by omega), hTk, nI_1]
    show _ ↔ wp X (d + 1) m23 9 [some (.ref q), none, some (.int (nI (lo + m))), some (.int (nI (enc (evN a (T (lo + k)) st)))), some (.int (nI (lo + k + 1))), none] [] (K0, R0, I, L) Q
    match T (lo + k), hok with
    | 0, hok =>
      match st, hl with
      | b :: r, hl =>
        rw [if_neg (show ¬ cT 0 = (-3) by decide), if_neg (show ¬ cT 0 = (-2) by decide), if_pos (show cT 0 = (-1) by decide), enc_not (by omega)]
        exact Iff.rfl
      | [], hl => exact absurd (show 1 ≤ dpA T lo k from hok) (by simp only [List.length_nil] at hl; omega)
    | 1, hok =>
      match st, hl with
      | b :: c :: r, hl =>
        rw [if_neg (show ¬ cT 1 = (-3) by decide), if_pos (show cT 1 = (-2) by decide), enc_and (by omega)]
        exact Iff.rfl
      | [b], hl => exact absurd (show 2 ≤ dpA T lo k from hok) (by simp only [List.length_cons, List.length_nil] at hl; omega)
      | [], hl => exact absurd (show 2 ≤ dpA T lo k from hok) (by simp only [List.length_nil] at hl; omega)
    | 2, hok =>
      match st, hl with
      | b :: c :: r, hl =>
        rw [if_pos (show cT 2 = (-3) by decide), enc_or (by omega)]
        exact Iff.rfl
      | [b], hl => exact absurd (show 2 ≤ dpA T lo k from hok) (by simp only [List.length_cons, List.length_nil] at hl; omega)
      | [], hl => exact absurd (show 2 ≤ dpA T lo k from hok) (by simp only [List.length_nil] at hl; omega)
    | n + 3, hok =>
      have hn : n < 1800 := hok.2
      have c := cT_ne hn
      rw [if_neg (show ¬ cT (n + 3) = (-3) from c.1), if_neg (show ¬ cT (n + 3) = (-2) from c.2.1), if_neg (show ¬ cT (n + 3) = (-1) from c.2.2), show cT (n + 3) = nI n from rfl, s24 hq hn ha]
      simp only [Option.toList, List.cons_append, List.nil_append]
      rw [b23_108 hq, enc_push (by omega), nI_1]
      exact Iff.rfl
  · have hl := evA_len (a := a) ho m (Nat.le_refl _)
    have hd := dpA_le ho m (Nat.le_refl _)
    show wp X (d + 1) m23 9 [some (.ref q), none, some (.int (nI (lo + m))), some (.int (nI (enc (evA a T lo m)))), some (.int (nI (lo + m))), none] [] (K0, R0, I, L) Q ↔ _
    rw [b23_9 hq, if_neg (nI_nlt (Nat.le_refl _) (by omega)), enc_top (by omega)]
    exact Iff.rfl
end HOLD
