/-! Tapes: tape, item, read, shift; judge. -/
theorem subI {a b : Nat} (ha : a < 2 ^ 31) (hb : b < 2 ^ 31) : (nI a - nI b).toInt = (a : Int) - (b : Int) := by
  rw [Int32.toInt_sub, nI_toInt (by omega), nI_toInt (by omega)]
  exact Int.bmod_eq_of_le_mul_two (by omega) (by omega)
theorem tapeK {p : Nat} (hp : p < 6) : isTape (112 + 2 * p) := (tapes_ok p hp).2
theorem tapes_view {I : Nat → Nat → Int32} {L : Nat → Nat → Int64} (h : Inv I L) : TapesI I L := by
  obtain ⟨n, q, n', q', c, h1, h2, h3, h4, h5, h6, h7, h8, h9, -⟩ := h
  exact h9
/-- one tape, seen from both sides -/
theorem tape_view {I : Nat → Nat → Int32} {L : Nat → Nat → Int64} {p : Nat} (h : TapesI I L) (hp : p < 6) : ∃ (s : Int32) (z : Nat), I (112 + 2 * p) 0 = s ∧ I 163 p = s ∧ I (112 + 2 * p) 1 = nI z ∧ I 164 p = nI z ∧ (s = -1 ∨ Rg 4 s) ∧ z ≤ 60 ∧ ∀ k, k < 60 → L (112 + 2 * p + 1) k = L 165 (60 * p + k) := by
  obtain ⟨h1, h2, h3, ⟨z, z1, z2⟩, h5⟩ := h p hp
  exact ⟨I 163 p, z, h1, rfl, h2.trans z2, z2, h3, z1, h5⟩
section TAPE
variable {X : Nat × (Nat → Int32)} {d : Nat} {I : Nat → Nat → Int32} {L : Nat → Nat → Int64} {Q : Option Value → XW → Prop}
theorem s115_no {x : Int32} (h : x < 0 ∨ (5 : Int32) < x) : wp X d m115 0 [some (.ref 0), some (.int x)] [] (K0, R0, I, L) Q ↔ Q (some .null) (K0, R0, I, L) := by
  rw [b115_0]
  rcases h with h | h
  · rw [if_pos h]
  · rw [if_neg (nlt0 (n := 5) (by decide) h), if_neg (show ¬ x < (6 : Int32) from fun q => by
      have a := (lt_l (n := 5) (by decide)).mp h
      have b := (lt_r (n := 6) (by decide)).mp q
      omega)]
theorem s115_ok {p : Nat} (h : p < 6) : wp X d m115 0 [some (.ref 0), some (.int (nI p))] [] (K0, R0, I, L) Q ↔ Q (some (.ref (112 + 2 * p))) (K0, R0, I, L) := by
  rw [b115_0, if_neg (nI_pos (by omega)), if_pos (show nI p < (6 : Int32) from nI_lt (b := 6) (by omega) (by decide)), and_iff_right (inA_nI h (by decide)), nI_clamp (by omega)]
theorem s217_no {x : Int32} (h : x < 0 ∨ (5 : Int32) < x) : wp X (d + 1) m217 0 [some (.ref 124), some (.int x)] [] (K0, R0, I, L) Q ↔ Q (some (.int 0)) (K0, R0, I, L) := by
  rw [b217_0, s142_no h]
  simp only [Option.toList, List.cons_append, List.nil_append]
  rw [b217_7]
  exact and_iff_right rfl
theorem s217_ok {p : Nat} (h : p < 6) : wp X (d + 1) m217 0 [some (.ref 124), some (.int (nI p))] [] (K0, R0, I, L) Q ↔ Q (some (.int 1)) (K0, R0, I, L) := by
  rw [b217_0, s142_ok (nI_pos (by omega)) (show ¬ (5 : Int32) < nI p from nI_nlt (a := 5) (by omega) (by decide))]
  simp only [Option.toList, List.cons_append, List.nil_append]
  rw [b217_7]
  exact and_iff_right rfl
/-- are n items there from x1 on -/
def rchI (s : Int32) (z : Nat) (x1 x2 : Int32) : Int32 := if s < 0 then 0 else if x1 < 0 then 0 else if x2 < 0 then 0 else if nI z < x1 then 0 else if nI z - x1 < x2 then 0 else 1
theorem s117 {r z : Nat} {s x1 x2 : Int32} (hr : isTape r) (h0 : I r 0 = s) (h1 : I r 1 = nI z) : wp X (d + 1) m117 0 [some (.ref r), some (.int x1), some (.int x2)] [] (K0, R0, I, L) Q ↔ Q (some (.int (rchI s z x1 x2))) (K0, R0, I, L) := by
  rw [b117_0 hr, b116_0 hr, h0]
  simp only [Option.toList, List.cons_append, List.nil_append]
  rw [b117_4 hr, h1]
  unfold rchI
  by_cases h : s < 0
  · rw [if_pos h, if_pos h, if_pos rfl]
  · rw [if_neg h, if_neg h, if_neg (by decide)]
theorem rch_1 {s x : Int32} {z : Nat} (hz : z ≤ 60) (h : ¬ s < 0) : (rchI s z x 1 = 0 ∧ (x < 0 ∨ nI z - 1 < x)) ∨ ∃ j, j < z ∧ x = nI j ∧ rchI s z x 1 = 1 := by
  unfold rchI
  rw [if_neg h]
  rcases pk_ix x (n := z) (by omega) with g | g | ⟨j, hj, rfl⟩
  · exact Or.inl ⟨if_pos g, Or.inl g⟩
  · refine Or.inl ⟨?_, Or.inr ?_⟩
    · have gx : ¬ x < 0 := fun q => by
        have a := (lt_r (n := 0) (by decide)).mp q
        rw [Int32.le_iff_toInt_le, nI_toInt (by omega)] at g
        omega
      rw [if_neg gx, if_neg (by decide)]
      by_cases c : nI z < x
      · rw [if_pos c]
      · rw [if_neg c]
        have e : x = nI z := Int32.le_antisymm (Int32.not_lt.mp c) g
        rw [e, Int32.sub_self, if_pos (by decide)]
    · have a := subI (a := z) (b := 1) (by omega) (by decide)
      have b : (nI z - 1).toInt = (z : Int) - 1 := a
      rw [Int32.le_iff_toInt_le, nI_toInt (by omega)] at g
      rw [Int32.lt_iff_toInt_lt, b]
      omega
  · refine Or.inr ⟨j, hj, rfl, ?_⟩
    rw [if_neg (nI_pos (by omega)), if_neg (by decide), if_neg (nI_nlt (by omega) (by omega)), nI_sub (by omega), if_neg (show ¬ nI (z - j) < 1 from nI_nlt (b := 1) (by omega) (by omega))]
theorem s142_z {z j : Nat} (hz : z ≤ 60) (hj : j < z) : wp X d m142 0 [some (.ref 124), some (.int (nI j)), some (.int 0), some (.int (nI z - 1))] [] (K0, R0, I, L) Q ↔ Q (some (.int 1)) (K0, R0, I, L) := by
  refine s142_ok (nI_pos (by omega)) ?_
  rw [show nI z - 1 = nI (z - 1) from nI_sub (b := 1) (by omega)]
  exact nI_nlt (by omega) (by omega)
theorem s118 {r j : Nat} (hr : isTape r) (hj : j < 60) : wp X d m118 0 [some (.ref r), some (.int (nI j))] [] (K0, R0, I, L) Q ↔ Q (some (.long (L (r + 1) j))) (K0, R0, I, L) := by
  rw [b118_0 hr, if_neg (nI_pos (by omega)), if_pos (show nI j < (60 : Int32) from nI_lt (b := 60) hj (by decide)), and_iff_right (inA_nI hj (by decide)), nI_clamp (by omega)]
end TAPE
section CALLS
variable {X : Nat × (Nat → Int32)} {d : Nat}
theorem i60 {p j : Nat} : (60 : Int32) * nI p + nI j = nI (60 * p + j) := by rw [show (60 : Int32) * nI p = nI (60 * p) from nI_mul 60 p, nI_add]
theorem ok_read {x1 x2 : Int32} : Ok X d m138 m235 [some (.ref 0), some (.int x1), some (.int x2), none] [some (.ref 124), some (.int x1), some (.int x2)] := by
  intro I L hI
  have hT := tapes_view hI
  rcases num_cases x1 (n := 5) (by decide) with h | ⟨p, hp, rfl⟩
  · refine ⟨.long (-9223372036854775808), I, L, I, L, hI, fun Q => ?_, fun Q => ?_⟩
    · rw [b138_0, s115_no h]
      simp only [Option.toList, List.cons_append, List.nil_append]
      rw [b138_5_1]
    · rw [b235_0, s217_no h]
      simp only [Option.toList, List.cons_append, List.nil_append]
      rw [b235_5, if_pos rfl]
  have hp6 : p < 6 := by omega
  have hr := tapeK hp6
  have i6 : inA (nI p) 6 = true := inA_nI hp6 (by decide)
  have hcl : (nI p).toNatClampNeg = p := nI_clamp (by omega)
  obtain ⟨s, z, a0, m0, a1, m1, hs, hz, hL⟩ := tape_view hT hp6
  by_cases hn : s < 0
  · refine ⟨.long (-9223372036854775808), I, L, I, L, hI, fun Q => ?_, fun Q => ?_⟩
    · rw [b138_0, s115_ok hp6]
      simp only [Option.toList, List.cons_append, List.nil_append]
      rw [b138_5 hr, s117 hr a0 a1]
      simp only [Option.toList, List.cons_append, List.nil_append]
      rw [b138_16 hr, show rchI s z x2 1 = 0 from if_pos hn, if_pos rfl]
    · rw [b235_0, s217_ok hp6]
      simp only [Option.toList, List.cons_append, List.nil_append]
      rw [b235_5, if_neg (by decide), and_iff_right i6, hcl, m0, if_pos hn]
  rcases rch_1 (x := x2) hz hn with ⟨h, g⟩ | ⟨j, hj, rfl, h⟩
  · refine ⟨.long (-9223372036854775808), I, L, I, L, hI, fun Q => ?_, fun Q => ?_⟩
    · rw [b138_0, s115_ok hp6]
      simp only [Option.toList, List.cons_append, List.nil_append]
      rw [b138_5 hr, s117 hr a0 a1]
      simp only [Option.toList, List.cons_append, List.nil_append]
      rw [b138_16 hr, h, if_pos rfl]
    · rw [b235_0, s217_ok hp6]
      simp only [Option.toList, List.cons_append, List.nil_append]
      rw [b235_5, if_neg (by decide), and_iff_right i6, hcl, m0, if_neg hn, and_iff_right i6, m1, s142_no g]
      simp only [Option.toList, List.cons_append, List.nil_append]
      rw [b235_31, if_pos rfl]
  · refine ⟨.long (L (112 + 2 * p + 1) j), I, L, I, L, hI, fun Q => ?_, fun Q => ?_⟩
    · rw [b138_0, s115_ok hp6]
      simp only [Option.toList, List.cons_append, List.nil_append]
      rw [b138_5 hr, s117 hr a0 a1]
      simp only [Option.toList, List.cons_append, List.nil_append]
      rw [b138_16 hr, h, if_neg (by decide), s118 hr (by omega)]
      simp only [Option.toList, List.cons_append, List.nil_append]
      rw [b138_28]
    · rw [b235_0, s217_ok hp6]
      simp only [Option.toList, List.cons_append, List.nil_append]
      rw [b235_5, if_neg (by decide), and_iff_right i6, hcl, m0, if_neg hn, and_iff_right i6, m1, s142_z hz hj]
      simp only [Option.toList, List.cons_append, List.nil_append]
      rw [b235_31, if_neg (by decide), i60, and_iff_right (inA_nI (by omega) (by decide)), nI_clamp (by omega), hL j (by omega)]
/-- what an item of a sort keeps of v -/
def cutI (s : Int32) (v : Int64) : Int64 := if s = 0 then Int32.toInt64 ((Int32.toInt8 (Int64.toInt32 v)).toInt32) else if s = 1 then Int32.toInt64 ((Int32.toInt16 (Int64.toInt32 v)).toInt32) else if s = 2 then Int32.toInt64 (Int64.toInt32 v) else if s = 3 then v else if lg_cmp v 0 = 0 then 0 else 1
theorem s137 {I : Nat → Nat → Int32} {L : Nat → Nat → Int64} {Q : Option Value → XW → Prop} {r : Nat} {s : Int32} {v : Int64} (hr : isTape r) (h0 : I r 0 = s) : wp X d m137 0 [some (.ref r), some (.long v), none] [] (K0, R0, I, L) Q ↔ Q (some (.long (cutI s v))) (K0, R0, I, L) := by
  rw [b137_0 hr, h0]
  unfold cutI
  (repeat' split) <;> rfl
theorem s234 {I : Nat → Nat → Int32} {L : Nat → Nat → Int64} {Q : Option Value → XW → Prop} {s : Int32} {v : Int64} (hs : Rg 4 s) : wp X d m234 0 [some (.ref 124), some (.int s), some (.long v), none] [] (K0, R0, I, L) Q ↔ Q (some (.long (cutI s v))) (K0, R0, I, L) := by
  rw [b234_0]
  obtain ⟨k, hk, rfl⟩ := hs
  match k, hk with
  | 0, _ => exact Iff.rfl
  | 1, _ => exact Iff.rfl
  | 2, _ => exact Iff.rfl
  | 3, _ => exact Iff.rfl
  | 4, _ =>
    unfold cutI
    rw [if_neg (show ¬ nI 4 = 0 by decide), if_neg (show ¬ nI 4 = 1 by decide), if_neg (show ¬ nI 4 = 2 by decide), if_pos (show nI 4 = 4 by decide), if_neg (show ¬ nI 4 = 0 by decide), if_neg (show ¬ nI 4 = 1 by decide), if_neg (show ¬ nI 4 = 2 by decide), if_neg (show ¬ nI 4 = 3 by decide)]
    split <;> rfl
  | k + 5, hk => omega
theorem ok_item {x1 x2 : Int32} {x3 : Int64} : Ok X d m135 m233 [some (.ref 0), some (.int x1), some (.int x2), some (.long x3), none, none] [some (.ref 124), some (.int x1), some (.int x2), some (.long x3), none] := by
  intro I L hI
  have hT := tapes_view hI
  rcases num_cases x1 (n := 5) (by decide) with h | ⟨p, hp, rfl⟩
  · refine ⟨.int (-1), I, L, I, L, hI, fun Q => ?_, fun Q => ?_⟩
    · rw [b135_0, s115_no h]
      simp only [Option.toList, List.cons_append, List.nil_append]
      rw [b135_5_1]
    · rw [b233_0, s217_no h]
      simp only [Option.toList, List.cons_append, List.nil_append]
      rw [b233_5, if_pos rfl]
  have hp6 : p < 6 := by omega
  have hr := tapeK hp6
  have i6 : inA (nI p) 6 = true := inA_nI hp6 (by decide)
  have hcl : (nI p).toNatClampNeg = p := nI_clamp (by omega)
  obtain ⟨s, z, a0, m0, a1, m1, hs, hz, hL⟩ := tape_view hT hp6
  by_cases hn : s < 0
  · refine ⟨.int (-11), I, L, I, L, hI, fun Q => ?_, fun Q => ?_⟩
    · rw [b135_0, s115_ok hp6]
      simp only [Option.toList, List.cons_append, List.nil_append]
      rw [b135_5 hr, b116_0 hr, a0, if_pos hn]
      simp only [Option.toList, List.cons_append, List.nil_append]
      rw [b135_19 hr, if_pos rfl]
    · rw [b233_0, s217_ok hp6]
      simp only [Option.toList, List.cons_append, List.nil_append]
      rw [b233_5, if_neg (by decide), and_iff_right i6, hcl, m0, if_pos hn]
  have hs4 : Rg 4 s := hs.resolve_left (fun q => hn (by rw [q]; decide))
  rcases rch_1 (x := x2) hz hn with ⟨h, g⟩ | ⟨j, hj, rfl, h⟩
  · refine ⟨.int (-13), I, L, I, L, hI, fun Q => ?_, fun Q => ?_⟩
    · rw [b135_0, s115_ok hp6]
      simp only [Option.toList, List.cons_append, List.nil_append]
      rw [b135_5 hr, b116_0 hr, a0, if_neg hn]
      simp only [Option.toList, List.cons_append, List.nil_append]
      rw [b135_19 hr, if_neg (by decide), s117 hr a0 a1]
      simp only [Option.toList, List.cons_append, List.nil_append]
      rw [b135_32 hr, h, if_pos rfl]
    · rw [b233_0, s217_ok hp6]
      simp only [Option.toList, List.cons_append, List.nil_append]
      rw [b233_5, if_neg (by decide), and_iff_right i6, hcl, m0, if_neg hn, and_iff_right i6, m1, s142_no g]
      simp only [Option.toList, List.cons_append, List.nil_append]
      rw [b233_36, if_pos rfl]
  · refine ⟨.int 1, I, updR L (112 + 2 * p + 1) j (cutI s x3), I, updR (updR L (112 + 2 * p + 1) j (cutI s x3)) 165 (60 * p + j) (cutI s x3), ?_, fun Q => ?_, fun Q => ?_⟩
    · refine hI.tapes (fun k _ _ _ => rfl) (fun _ q hq => ?_)
      obtain ⟨t1, t2, t3, t4, t5⟩ := hT q hq
      refine ⟨t1, t2, t3, t4, fun k hk => ?_⟩
      rw [updR_k (by omega)]
      by_cases hqp : q = p
      · subst hqp
        by_cases hkj : k = j
        · subst hkj; rw [updR_same, updR_same]
        · rw [updR_j hkj, updR_j (by omega), updR_k (by omega)]; exact t5 k hk
      · rw [updR_k (by omega), updR_j (by omega), updR_k (by omega)]; exact t5 k hk
    · rw [b135_0, s115_ok hp6]
      simp only [Option.toList, List.cons_append, List.nil_append]
      rw [b135_5 hr, b116_0 hr, a0, if_neg hn]
      simp only [Option.toList, List.cons_append, List.nil_append]
      rw [b135_19 hr, if_neg (by decide), s117 hr a0 a1]
      simp only [Option.toList, List.cons_append, List.nil_append]
      rw [b135_32 hr, h, if_neg (by decide), b136_0 hr, if_neg (nI_pos (by omega)), if_pos (show nI j < (60 : Int32) from nI_lt (b := 60) (by omega) (by decide)), s137 hr a0]
      simp only [Option.toList, List.cons_append, List.nil_append]
      rw [b136_23 hr.2.2, and_iff_right (inA_nI (by omega) (by decide)), nI_clamp (by omega)]
      simp only [Option.toList, List.cons_append, List.nil_append]
      rw [b135_45]
    · rw [b233_0, s217_ok hp6]
      simp only [Option.toList, List.cons_append, List.nil_append]
      rw [b233_5, if_neg (by decide), and_iff_right i6, hcl, m0, if_neg hn, and_iff_right i6, m1, s142_z hz hj]
      simp only [Option.toList, List.cons_append, List.nil_append]
      rw [b233_36, if_neg (by decide), and_iff_right i6, hcl, m0, s234 hs4]
      simp only [Option.toList, List.cons_append, List.nil_append]
      rw [b233_63, i60, and_iff_right (inA_nI (by omega) (by decide)), nI_clamp (by omega)]
end CALLS
