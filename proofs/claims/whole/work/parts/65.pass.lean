/-! Nights: pass. -/
def dnI (x : Int32) : Int32 := if x - 1 < 0 then 0 else x - 1
theorem dn_nI (m : Nat) (h : m < 2 ^ 31) : dnI (nI m) = nI (m - 1) := by
  unfold dnI
  match m, h with
  | 0, _ => decide
  | m + 1, h => rw [nI_pred, if_neg (nI_pos (by omega)), Nat.add_sub_cancel]
def ngF (t i : Nat) (J : Nat → Nat → Int32) : Nat → Nat → Int32 := updR J (t + 11 + 2 * i) 4 (dnI (J (t + 11 + 2 * i) 4))
theorem ng_facts {t : Nat} {I : Nat → Nat → Int32} : ∀ n, (∀ k j, (∀ i, i < n → k = t + 11 + 2 * i → j ≠ 4) → itr (ngF t) n I k j = I k j) ∧ ∀ i, i < n → itr (ngF t) n I (t + 11 + 2 * i) 4 = dnI (I (t + 11 + 2 * i) 4) := by
  intro n
  induction n with
  | zero => exact ⟨fun _ _ _ => rfl, fun i hi => absurd hi (Nat.not_lt_zero _)⟩
  | succ n ih =>
    have e : itr (ngF t) (n + 1) I = updR (itr (ngF t) n I) (t + 11 + 2 * n) 4 (dnI (itr (ngF t) n I (t + 11 + 2 * n) 4)) := rfl
    rw [e, ih.1 (t + 11 + 2 * n) 4 (fun i hi q => by omega)]
    refine ⟨fun k j h => ?_, fun i hi => ?_⟩
    · by_cases c : k = t + 11 + 2 * n
      · rw [updR_j (h n (by omega) c)]; exact ih.1 k j (fun i hi => h i (by omega))
      · rw [updR_k c]; exact ih.1 k j (fun i hi => h i (by omega))
    · by_cases c : i = n
      · subst c; rw [updR_same]
      · rw [updR_k (by omega)]; exact ih.2 i (by omega)
def nmF (i : Nat) (J : Nat → Nat → Int32) : Nat → Nat → Int32 := updR J 128 i (if 0 < J 128 i then J 128 i - 1 else 0)
theorem nm_facts {I : Nat → Nat → Int32} : ∀ n, (∀ k j, (k = 128 → n ≤ j) → itr nmF n I k j = I k j) ∧ ∀ i, i < n → itr nmF n I 128 i = (if 0 < I 128 i then I 128 i - 1 else 0) := by
  intro n
  induction n with
  | zero => exact ⟨fun _ _ _ => rfl, fun i hi => absurd hi (Nat.not_lt_zero _)⟩
  | succ n ih =>
    have e : itr nmF (n + 1) I = updR (itr nmF n I) 128 n (if 0 < itr nmF n I 128 n then itr nmF n I 128 n - 1 else 0) := rfl
    rw [e, ih.1 128 n (fun _ => Nat.le_refl _)]
    refine ⟨fun k j h => ?_, fun i hi => ?_⟩
    · by_cases c : k = 128
      · rw [updR_j (by have := h c; omega)]; exact ih.1 k j (fun q => by have := h q; omega)
      · rw [updR_k c]; exact ih.1 k j (fun q => absurd q c)
    · by_cases c : i = n
      · subst c; rw [updR_same]
      · rw [updR_j c]; exact ih.2 i (by omega)
section NIGHT
variable {X : Nat × (Nat → Int32)} {d : Nat} {I : Nat → Nat → Int32} {L : Nat → Nat → Int64} {Q : Option Value → XW → Prop}
theorem tcup {t i : Nat} (ht : isTable t) (hi : i < 5) : isCup (t + 11 + 2 * i) := (ht.2.2.2.2.2.2.2.2.2 i hi).2
theorem s17_t {t i n : Nat} (ht : isTable t) (hn : n ≤ 5) (hI : I t 1 = nI n) (hi : i < n) : wp X (d + 1) m17 0 [some (.ref t), some (.int (nI i))] [] (K0, R0, I, L) Q ↔ Q (some (.ref (t + 11 + 2 * i))) (K0, R0, I, L) := by
  rw [b17_0 ht, hI, if_pos (nI_lt hi (by omega)), b13_0 ht, if_neg (nI_pos (by omega)), if_pos (show nI i < (5 : Int32) from nI_lt (b := 5) (by omega) (by decide)), and_iff_right (inA_nI (by omega) (by decide)), nI_clamp (by omega)]
  simp only [Option.toList, List.cons_append, List.nil_append]
  exact b17_13 (tcup ht (by omega))
/-- a night goes: the class -/
theorem s75 {t n : Nat} (ht : isTable t) (hn : n ≤ 5) (hI : I t 1 = nI n) : wp X (d + 2) m75 0 [some (.ref t), none, none] [] (K0, R0, I, L) Q ↔ Q none (K0, R0, updR (itr (ngF t) n I) t 2 (I t 2 + 1), L) := by
  rw [b75_0 ht]
  refine (for_at (P := fun k (J : Nat → Nat → Int32) => wp X (d + 2) m75 2 [some (.ref t), some (.int (nI k)), none] [] (K0, R0, J, L) Q) (F := ngF t) I n (fun k hk => ?_)).trans ?_
  · have hJ : itr (ngF t) k I t 1 = nI n := by rw [(ng_facts k).1 t 1 (fun i hi q => by omega)]; exact hI
    generalize itr (ngF t) k I = J at hJ
    have hc := tcup ht (i := k) (by omega)
    rw [b75_2 ht, hJ, if_pos (nI_lt hk (by omega)), s17_t ht hn hJ hk]
    simp only [Option.toList, List.cons_append, List.nil_append]
    rw [b75_15 ht hc, b3_0]
    simp only [Option.toList, List.cons_append, List.nil_append]
    rw [b75_31 ht hc, nI_1]
    exact Iff.rfl
  · have hJ : itr (ngF t) n I t 1 = nI n := by rw [(ng_facts n).1 t 1 (fun i hi q => by omega)]; exact hI
    have h2 : itr (ngF t) n I t 2 = I t 2 := (ng_facts n).1 t 2 (fun i hi q => by omega)
    rw [b75_2 ht, hJ, if_neg (nI_nlt (Nat.le_refl _) (by omega)), h2]
/-- the reference -/
theorem s185 {n : Nat} (hn : n ≤ 5) (hI : I 124 0 = nI n) : wp X d m185 0 [some (.ref 124), none] [] (K0, R0, I, L) Q ↔ Q none (K0, R0, updR (itr nmF n I) 124 1 (I 124 1 + 1), L) := by
  rw [b185_0]
  refine (for_at (P := fun k (J : Nat → Nat → Int32) => wp X d m185 2 [some (.ref 124), some (.int (nI k))] [] (K0, R0, J, L) Q) (F := nmF) I n (fun k hk => ?_)).trans ?_
  · have hJ : itr nmF k I 124 0 = nI n := by rw [(nm_facts k).1 124 0 (fun q => by omega)]; exact hI
    generalize itr nmF k I = J at hJ
    have ix : inA (nI k) 5 = true := inA_nI (by omega) (by decide)
    rw [b185_2, hJ, if_pos (nI_lt hk (by omega)), and_iff_right ix, nI_clamp (by omega), and_iff_right ix, and_iff_right ix, and_iff_right ix, nI_1]
    unfold nmF
    by_cases c : 0 < J 128 k
    · rw [if_pos c, if_pos c]
    · rw [if_neg c, if_neg c]
  · have hJ : itr nmF n I 124 0 = nI n := by rw [(nm_facts n).1 124 0 (fun q => by omega)]; exact hI
    have h2 : itr nmF n I 124 1 = I 124 1 := (nm_facts n).1 124 1 (fun q => by omega)
    rw [b185_2, hJ, if_neg (nI_nlt (Nat.le_refl _) (by omega)), h2]
theorem mdn (m : Nat) (h : m < 2 ^ 31) : (if 0 < nI m then nI m - 1 else 0) = nI (m - 1) := by
  match m, h with
  | 0, _ => rfl
  | m + 1, h => rw [if_pos (show (0 : Int32) < nI (m + 1) from nI_lt (a := 0) (by omega) h), nI_pred, Nat.add_sub_cancel]
end NIGHT
section CALLS
variable {X : Nat × (Nat → Int32)} {d : Nat} {L : Nat → Nat → Int64}
/-- nights go, one by one: the class -/
theorem pass_c {n : Nat} (hn : n ≤ 5) : ∀ rem k q (mo : Nat → Nat) (I : Nat → Nat → Int32), k + rem ≤ 100 → q + rem ≤ 20000 → I 1 1 = nI n → I 1 2 = nI q → (∀ i, i < n → mo i ≤ 9 ∧ I (12 + 2 * i) 4 = nI (mo i)) → ∃ J, (∀ a j, (∀ i, i < n → a = 12 + 2 * i → j ≠ 4) → (a = 1 → j ≠ 2) → J a j = I a j) ∧ J 1 2 = nI (q + rem) ∧ (∀ i, i < n → J (12 + 2 * i) 4 = nI (mo i - rem)) ∧ ∀ Q : Option Value → XW → Prop, wp X (d + 3) m74 33 [some (.ref 0), some (.int (nI (k + rem))), some (.int (nI k))] [] (K0, R0, I, L) Q ↔ Q (some (.int (nI (q + rem)))) (K0, R0, J, L) := by
  intro rem
  induction rem with
  | zero =>
    intro k q mo I hk hq h1 h2 h3
    refine ⟨I, fun _ _ _ _ => rfl, h2, fun i hi => (h3 i hi).2, fun Q => ?_⟩
    rw [b74_33, if_neg (show ¬ nI k < nI (k + 0) from nI_nlt (Nat.le_refl _) (by omega)), h2]
    exact Iff.rfl
  | succ rem ih =>
    intro k q mo I hk hq h1 h2 h3
    have f := @ng_facts 1 I n
    have e1 : updR (itr (ngF 1) n I) 1 2 (I 1 2 + 1) 1 1 = nI n := by rw [updR_j (by decide), f.1 1 1 (fun i hi q => by omega)]; exact h1
    have e2 : updR (itr (ngF 1) n I) 1 2 (I 1 2 + 1) 1 2 = nI (q + 1) := by rw [updR_same, h2, nI_1]
    have e3 : ∀ i, i < n → mo i - 1 ≤ 9 ∧ updR (itr (ngF 1) n I) 1 2 (I 1 2 + 1) (12 + 2 * i) 4 = nI (mo i - 1) := by
      intro i hi
      obtain ⟨g1, g2⟩ := h3 i hi
      have g3 : itr (ngF 1) n I (12 + 2 * i) 4 = dnI (I (12 + 2 * i) 4) := f.2 i hi
      refine ⟨by omega, ?_⟩
      rw [updR_k (by omega), g3, g2, dn_nI _ (by omega)]
    obtain ⟨J, j1, j2, j3, j4⟩ := ih (k + 1) (q + 1) (fun i => mo i - 1) _ (by omega) (by omega) e1 e2 e3
    refine ⟨J, fun a j g1 g2 => ?_, ?_, fun i hi => ?_, fun Q => ?_⟩
    · rw [j1 a j g1 g2]
      by_cases c : a = 1
      · rw [updR_j (g2 c)]; exact f.1 a j g1
      · rw [updR_k c]; exact f.1 a j g1
    · rw [j2]; congr 1; omega
    · rw [j3 i hi]; congr 1; omega
    · rw [b74_33, if_pos (nI_lt (by omega) (by omega)), s75 tbl_1 hn h1]
      simp only [Option.toList, List.cons_append, List.nil_append]
      rw [b74_45, nI_1]
      have j5 := j4 Q
      rw [show k + 1 + rem = k + (rem + 1) by omega, show q + 1 + rem = q + (rem + 1) by omega] at j5
      exact j5
theorem pass_m {n : Nat} (hn : n ≤ 5) : ∀ rem k q (mo : Nat → Nat) (I : Nat → Nat → Int32), k + rem ≤ 100 → q + rem ≤ 20000 → I 124 0 = nI n → I 124 1 = nI q → (∀ i, i < n → mo i ≤ 9 ∧ I 128 i = nI (mo i)) → ∃ J, (∀ a j, (a = 128 → n ≤ j) → (a = 124 → j ≠ 1) → J a j = I a j) ∧ J 124 1 = nI (q + rem) ∧ (∀ i, i < n → J 128 i = nI (mo i - rem)) ∧ ∀ Q : Option Value → XW → Prop, wp X (d + 3) m184 31 [some (.ref 124), some (.int (nI (k + rem))), some (.int (nI k))] [] (K0, R0, I, L) Q ↔ Q (some (.int (nI (q + rem)))) (K0, R0, J, L) := by
  intro rem
  induction rem with
  | zero =>
    intro k q mo I hk hq h1 h2 h3
    refine ⟨I, fun _ _ _ _ => rfl, h2, fun i hi => (h3 i hi).2, fun Q => ?_⟩
    rw [b184_31, if_neg (show ¬ nI k < nI (k + 0) from nI_nlt (Nat.le_refl _) (by omega)), h2]
    exact Iff.rfl
  | succ rem ih =>
    intro k q mo I hk hq h1 h2 h3
    have f := @nm_facts I n
    have e1 : updR (itr nmF n I) 124 1 (I 124 1 + 1) 124 0 = nI n := by rw [updR_j (by decide), f.1 124 0 (fun q => by omega)]; exact h1
    have e2 : updR (itr nmF n I) 124 1 (I 124 1 + 1) 124 1 = nI (q + 1) := by rw [updR_same, h2, nI_1]
    have e3 : ∀ i, i < n → mo i - 1 ≤ 9 ∧ updR (itr nmF n I) 124 1 (I 124 1 + 1) 128 i = nI (mo i - 1) := by
      intro i hi
      obtain ⟨g1, g2⟩ := h3 i hi
      refine ⟨by omega, ?_⟩
      rw [updR_k (by omega), f.2 i hi, g2, mdn _ (by omega)]
    obtain ⟨J, j1, j2, j3, j4⟩ := ih (k + 1) (q + 1) (fun i => mo i - 1) _ (by omega) (by omega) e1 e2 e3
    refine ⟨J, fun a j g1 g2 => ?_, ?_, fun i hi => ?_, fun Q => ?_⟩
    · rw [j1 a j g1 g2]
      by_cases c : a = 124
      · rw [updR_j (g2 c)]; exact f.1 a j g1
      · rw [updR_k c]; exact f.1 a j g1
    · rw [j2]; congr 1; omega
    · rw [j3 i hi]; congr 1; omega
    · rw [b184_31, if_pos (nI_lt (by omega) (by omega)), s185 hn h1]
      simp only [Option.toList, List.cons_append, List.nil_append]
      rw [b184_40, nI_1]
      have j5 := j4 Q
      rw [show k + 1 + rem = k + (rem + 1) by omega, show q + 1 + rem = q + (rem + 1) by omega] at j5
      exact j5
theorem ok_pass {x1 : Int32} : Ok X d m74 m184 [some (.ref 0), some (.int x1), none] [some (.ref 124), some (.int x1), none] := by
  intro I L hI
  obtain ⟨n, t, z, k, wd, nb, mm, T, hN, hn, e1, e4, S⟩ := sit_view hI
  have ht := S.2.2.2.2.2.2.2.2.1
  have et : I 1 2 = nI t := S.2.2.2.2.2.2.1
  have et4 : I 124 1 = nI t := S.2.2.2.2.2.2.2.1
  rcases num_cases x1 (n := 60) (by decide) with h | ⟨u, hu, rfl⟩
  · refine ⟨.int (-2), I, L, I, L, hI, fun Q => ?_, fun Q => ?_⟩
    · rw [b74_0]
      rcases h with h | h
      · rw [if_pos h]
      · rw [if_neg (nlt0 (n := 60) (by decide) h), if_pos (show (60 : Int32) < x1 from h)]
    · rw [b184_0, s142_no (show x1 < 0 ∨ 60 < x1 from h)]
      simp only [Option.toList, List.cons_append, List.nil_append]
      rw [b184_8, if_pos rfl]
  have n0 : ¬ nI u < 0 := nI_pos (by omega)
  have n60 : ¬ (60 : Int32) < nI u := nI_nlt (a := 60) hu (by decide)
  by_cases hb : 9999 < t + u
  · refine ⟨.int (-3), I, L, I, L, hI, fun Q => ?_, fun Q => ?_⟩
    · rw [b74_0, if_neg n0, if_neg n60, et, nI_add, if_pos (show (9999 : Int32) < nI (t + u) from nI_lt (a := 9999) hb (by omega))]
    · rw [b184_0]
      refine (s142_nI (n := 60) hu (by decide)).trans ?_
      simp only [Option.toList, List.cons_append, List.nil_append]
      rw [b184_8, if_neg (by decide), et4, nI_add, if_pos (show (9999 : Int32) < nI (t + u) from nI_lt (a := 9999) hb (by omega))]
  have hle : ¬ (9999 : Int32) < nI (t + u) := nI_nlt (a := 9999) (by omega) (by decide)
  have hmo : ∀ i, i < n → (I 128 i).toNatClampNeg ≤ 9 ∧ I 128 i = nI (I 128 i).toNatClampNeg := by
    intro i hi
    obtain ⟨m, hm, g⟩ := (cupcells hN (i := i) (by omega)).2.2.1
    rw [g, nI_clamp (by omega)]
    exact ⟨hm, rfl⟩
  have hmc : ∀ i, i < n → (I 128 i).toNatClampNeg ≤ 9 ∧ I (12 + 2 * i) 4 = nI (I 128 i).toNatClampNeg := fun i hi => ⟨(hmo i hi).1, (cupcells hN (i := i) (by omega)).1.2.1.trans (hmo i hi).2⟩
  obtain ⟨J, j1, j2, j3, j4⟩ := pass_c (X := X) (d := d + 97) (L := L) hn u 0 t (fun i => (I 128 i).toNatClampNeg) I (by omega) (by omega) e1 et hmc
  have jm : ∀ a j, 22 ≤ a → J a j = I a j := fun a j ha => j1 a j (fun i hi q => by omega) (fun q => by omega)
  obtain ⟨K, k1, k2, k3, k4⟩ := pass_m (X := X) (d := d + 97) (L := L) hn u 0 t (fun i => (I 128 i).toNatClampNeg) J (by omega) (by omega) ((jm 124 0 (by decide)).trans e4) ((jm 124 1 (by decide)).trans et4) (fun i hi => ⟨(hmo i hi).1, (jm 128 i (by decide)).trans (hmo i hi).2⟩)
  rw [Nat.zero_add] at j4 k4
  have kc : ∀ a j, a ≤ 21 → K a j = J a j := fun a j ha => k1 a j (fun q => by omega) (fun q => by omega)
  have kx : ∀ a j, 22 ≤ a → (a = 128 → n ≤ j) → (a = 124 → j ≠ 1) → K a j = I a j := fun a j h1 h2 h3 => (k1 a j h2 h3).trans (jm a j h1)
  have kn : ∀ a j, a ≤ 21 → (∀ i, i < n → a = 12 + 2 * i → j ≠ 4) → (a = 1 → j ≠ 2) → K a j = I a j := fun a j h1 h2 h3 => (kc a j h1).trans (j1 a j h2 h3)
  refine ⟨.int (nI (t + u)), J, L, K, L, ?_, fun Q => ?_, fun Q => ?_⟩
  · refine hI.re (fun a h1 h2 h3 h4 h5 => ?_) (fun j h1 h2 h3 => kx 124 j (by decide) (fun q => by omega) (fun _ => h2)) ?_ (fun n' q hN => ?_)
    · funext j
      by_cases c : a ≤ 21
      · exact kn a j c (fun i hi q => by omega) (fun q => by omega)
      · exact kx a j (by omega) (fun q => by omega) (fun q => by omega)
    · exact kn 1 3 (by decide) (fun i hi q => by omega) (fun q => by decide)
    · have en : n = n' := (nI_eq (by omega) (by have := hN.1.1; omega)).mp (e4.symm.trans hN.1.2.2.2.1)
      subst en
      obtain ⟨⟨a1, a2, a3, a4, a5, a6, a7⟩, k2', k3', k4', -⟩ := hN
      refine ⟨n, t + u, Nat.le_refl _, ⟨hn, by omega, ?_, ?_, (kc 1 2 (by decide)).trans j2, k2⟩, fun j hj => ?_, fun j hj => ?_, fun j hj => ?_⟩
      · exact (kn 1 1 (by decide) (fun i hi q => by omega) (fun q => by decide)).trans a3
      · exact (kx 124 0 (by decide) (fun q => by omega) (fun q => by decide)).trans a4
      · exact (kn (1 + 11 + 2 * j) 0 (by omega) (fun i hi q => by decide) (fun q => by omega)).trans (k2' j hj)
      · obtain ⟨b1, b2, b3, b4, b5, b6⟩ := k3' j hj
        refine ⟨?_, ?_, ?_, ?_, ?_, fun p hp => ?_⟩
        · rw [kn (1 + 11 + 2 * j) 1 (by omega) (fun i hi q => by decide) (fun q => by omega), kx 125 j (by decide) (fun q => by omega) (fun q => by omega)]; exact b1
        · rw [kn (1 + 11 + 2 * j) 2 (by omega) (fun i hi q => by decide) (fun q => by omega), kx (125 + 1) j (by decide) (fun q => by omega) (fun q => by omega)]; exact b2
        · rw [kn (1 + 11 + 2 * j) 3 (by omega) (fun i hi q => by decide) (fun q => by omega), kx (125 + 2) j (by decide) (fun q => by omega) (fun q => by omega)]; exact b3
        · by_cases c : j < n
          · exact ((kc (12 + 2 * j) 4 (by omega)).trans (j3 j c)).trans (k3 j c).symm
          · rw [kn (1 + 11 + 2 * j) 4 (by omega) (fun i hi q => by omega) (fun q => by omega), kx (125 + 3) j (by decide) (fun q => by omega) (fun q => by omega)]; exact b4
        · rw [kn (1 + 11 + 2 * j) 5 (by omega) (fun i hi q => by decide) (fun q => by omega), kx (125 + 4) j (by decide) (fun q => by omega) (fun q => by omega)]; exact b5
        · rw [kn (1 + 11 + 2 * j + 1) p (by omega) (fun i hi q => by omega) (fun q => by omega), kx (125 + 5) (4 * j + p) (by decide) (fun q => by omega) (fun q => by omega)]; exact b6 p hp
      · obtain ⟨b1, b2, b3, b4, b5, b6⟩ := k4' j hj
        refine ⟨?_, ?_, ?_, ?_, ?_, fun p hp => ?_⟩
        · rw [kx 125 j (by decide) (fun q => by omega) (fun q => by omega)]; exact b1
        · rw [kx (125 + 1) j (by decide) (fun q => by omega) (fun q => by omega)]; exact b2
        · rw [kx (125 + 2) j (by decide) (fun q => by omega) (fun q => by omega)]; exact b3
        · by_cases c : j < n
          · exact ⟨_, by have := (hmo j c).1; omega, k3 j c⟩
          · rw [kx (125 + 3) j (by decide) (fun q => by omega) (fun q => by omega)]; exact b4
        · rw [kx (125 + 4) j (by decide) (fun q => by omega) (fun q => by omega)]; exact b5
        · rw [kx (125 + 5) (4 * j + p) (by decide) (fun q => by omega) (fun q => by omega)]; exact b6 p hp
  · rw [b74_0, if_neg n0, if_neg n60, et, nI_add, if_neg hle]
    exact j4 Q
  · rw [b184_0]
    refine (s142_nI (n := 60) hu (by decide)).trans ?_
    simp only [Option.toList, List.cons_append, List.nil_append]
    rw [b184_8, if_neg (by decide), jm 124 1 (by decide), et4, nI_add, if_neg hle]
    exact k4 Q
end CALLS
