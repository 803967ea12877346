/-! image, undo. -/
theorem nI_inj {a b : Nat} {x : Int32} (h : x = nI a) (g : x = nI b) (ha : a < 2 ^ 31) (hb : b < 2 ^ 31) : a = b := (nI_eq ha hb).mp (h.symm.trans g)
theorem TabI.move {I J : Nat → Nat → Int32} {t a s f0 f1 f2 f3 f4 f5 n q t' a' s' g0 g1 g2 g3 g4 g5 x y z : Nat} (h : TabI I t a s f0 f1 f2 f3 f4 f5 n q) (m : J t' 1 = I t 1 ∧ J t' 2 = I t 2 ∧ J t' 3 = I t 3) (cu : ∀ i, i < 5 → (∀ b, b < 6 → J (t' + 11 + 2 * i) b = I (t + 11 + 2 * i) b) ∧ ∀ p, p < 4 → J (t' + 11 + 2 * i + 1) p = I (t + 11 + 2 * i + 1) p) (hx : I (t + 2) 2 = nI x) (hx5 : x ≤ 5) (hy : I (t + 5) 2 = nI y) (hy5 : y ≤ 10) (hz : I (t + 8) 2 = nI z) (hz5 : z ≤ 8) (rx : J (t' + 2) 2 = nI x ∧ ∀ k, k < x → J (t' + 2 + 1) k = I (t + 2 + 1) k ∧ J (t' + 2 + 2) k = I (t + 2 + 2) k) (ry : J (t' + 5) 2 = nI y ∧ ∀ k, k < y → J (t' + 5 + 1) k = I (t + 5 + 1) k ∧ J (t' + 5 + 2) k = I (t + 5 + 2) k) (rz : J (t' + 8) 2 = nI z ∧ ∀ k, k < z → J (t' + 8 + 1) k = I (t + 8 + 1) k ∧ J (t' + 8 + 2) k = I (t + 8 + 2) k) (fl : J 124 g0 = I 124 f0 ∧ J 124 g1 = I 124 f1 ∧ J 124 g2 = I 124 f2 ∧ J 124 g3 = I 124 f3 ∧ J 124 g4 = I 124 f4 ∧ J 124 g5 = I 124 f5) (ma : ∀ e j, e < 5 → j < 5 → J (a' + e) j = I (a + e) j) (ml : ∀ j, j < 20 → J (a' + 5) j = I (a + 5) j) (m1 : ∀ e j, e < 2 → j < 5 → J (s' + e) j = I (s + e) j) (m2 : ∀ e j, e < 2 → j < 10 → J (s' + 2 + e) j = I (s + 2 + e) j) (m3 : ∀ e j, e < 2 → j < 8 → J (s' + 4 + e) j = I (s + 4 + e) j) : TabI J t' a' s' g0 g1 g2 g3 g4 g5 n q := by
  obtain ⟨⟨a1, a2, a3, a4, a5, a6, a7⟩, h2, h3, h4, ⟨u, u1, u2, u3, u4⟩, ⟨v, v1, v2, v3, v4⟩, ⟨w, w1, w2, w3, w4⟩⟩ := h
  obtain rfl := nI_inj hx u2 (by omega) (by omega)
  obtain rfl := nI_inj hy v2 (by omega) (by omega)
  obtain rfl := nI_inj hz w2 (by omega) (by omega)
  obtain ⟨l0, l1, l2, l3, l4, l5⟩ := fl
  refine ⟨⟨a1, a2, m.1.trans a3, l0.trans a4, m.2.1.trans a5, l1.trans a6, m.2.2.trans (a7.trans l2.symm)⟩, fun i hi => ((cu i (by omega)).1 0 (by decide)).trans (h2 i hi), fun i hi => ?_, fun i hi => ?_, ⟨x, u1, rx.1, l3.trans u3, fun k hk => ?_⟩, ⟨y, v1, ry.1, l4.trans v3, fun k hk => ?_⟩, ⟨z, w1, rz.1, l5.trans w3, fun k hk => ?_⟩⟩
  · obtain ⟨b1, b2, b3, b4, b5, b6⟩ := h3 i hi
    obtain ⟨c1, c2⟩ := cu i hi
    have e0 := ma 0 i (by decide) hi
    have e1 := ma 1 i (by decide) hi
    have e2 := ma 2 i (by decide) hi
    have e3 := ma 3 i (by decide) hi
    have e4 := ma 4 i (by decide) hi
    exact ⟨(c1 1 (by decide)).trans (b1.trans e0.symm), (c1 2 (by decide)).trans (b2.trans e1.symm), (c1 3 (by decide)).trans (b3.trans e2.symm), (c1 4 (by decide)).trans (b4.trans e3.symm), (c1 5 (by decide)).trans (b5.trans e4.symm), fun p hp => (c2 p hp).trans ((b6 p hp).trans (ml _ (by omega)).symm)⟩
  · obtain ⟨b1, b2, b3, b4, b5, b6⟩ := h4 i hi
    have e0 : J a' i = I a i := ma 0 i (by decide) hi
    have e1 := ma 1 i (by decide) hi
    have e2 := ma 2 i (by decide) hi
    have e3 := ma 3 i (by decide) hi
    have e4 := ma 4 i (by decide) hi
    rw [e0, e1, e2, e3, e4]
    exact ⟨b1, b2, b3, b4, b5, fun p hp => by rw [ml _ (by omega)]; exact b6 p hp⟩
  · obtain ⟨b1, b2, b3, b4⟩ := u4 k hk
    obtain ⟨c1, c2⟩ := rx.2 k hk
    have e0 : J s' k = I s k := m1 0 k (by decide) (by omega)
    have e1 := m1 1 k (by decide) (by omega)
    rw [c1, c2, e0, e1]
    exact ⟨b1, b2, b3, b4⟩
  · obtain ⟨b1, b2⟩ := v4 k hk
    obtain ⟨c1, c2⟩ := ry.2 k hk
    have e0 : J (s' + 2) k = I (s + 2) k := m2 0 k (by decide) (by omega)
    have e1 := m2 1 k (by decide) (by omega)
    rw [c1, c2, e0, e1]
    exact ⟨b1, b2⟩
  · obtain ⟨b1, b2, b3⟩ := w4 k hk
    obtain ⟨c1, c2⟩ := rz.2 k hk
    have e0 : J (s' + 4) k = I (s + 4) k := m3 0 k (by decide) (by omega)
    have e1 := m3 1 k (by decide) (by omega)
    rw [c1, c2, e0, e1]
    exact ⟨b1, b2, b3⟩
section CALLS
variable {X : Nat × (Nat → Int32)} {d : Nat}
theorem ok_image : Ok X d m119 m218 [some (.ref 0)] [some (.ref 124), none] := by
  intro I L hI
  obtain ⟨n, q, n', q', c, h1, h2, h3, h4, h5, h6, h7, h8, h9, h10⟩ := hI
  obtain ⟨⟨a1, a2, a3, a4, a5, a6, a7⟩, -, -, -, ⟨x, x1, x2, x3, x4⟩, ⟨y, y1, y2, y3, y4⟩, ⟨z, z1, z2, z3, z4⟩⟩ := id h1
  obtain ⟨J, j1, j2, j3, j4, j5, j6, j7⟩ := s110 (X := X) (d := d + 95) (L := L) tbl_22 tbl_1 (by omega) x2 x1 y2 y1 z2 z1
  have r0 : ∀ a, a ≠ 0 → updR J 0 3 1 a = J a := fun a ha => updR_row a ha
  obtain ⟨M, m1, m2, ⟨f0, f1, f2, f3, f4, f5, f6⟩, m3, m4, m5, m6, m7, m8⟩ := im_all (X := X) (d := d + 100) (I := updR J 0 3 1) (L := L)
  have jI : ∀ a, a ≠ 0 → ¬(22 ≤ a ∧ a ≤ 42) → updR J 0 3 1 a = I a := fun a h1 h2 => (r0 a h1).trans (j1 a (by omega))
  have mJ : ∀ a, a < 124 → M a = updR J 0 3 1 a := fun a ha => m1 a (by omega) (by omega) (by omega)
  have mI : ∀ a, a ≠ 0 → a ≠ 124 → ¬(22 ≤ a ∧ a ≤ 42) → ¬(150 ≤ a ∧ a ≤ 161) → M a = I a := fun a h0 h4 h1 h2 => (m1 a h4 (by omega) (by omega)).trans (jI a h0 h1)
  have m4I : ∀ j, ¬(40 ≤ j ∧ j ≤ 46) → M 124 j = I 124 j := fun j hj => (m2 j hj).trans (congrFun (jI 124 (by decide) (by omega)) j)
  have m0I : ∀ j, j ≠ 3 → M 0 j = I 0 j := fun j hj => by rw [mJ 0 (by decide), updR_j hj, j1 0 (by omega)]
  refine ⟨.int (nI n), updR J 0 3 1, L, M, L, ?_, fun Q => ?_, fun Q => ?_⟩
  · refine ⟨n, q, n, q, c, h1.cong (fun k hk => mI k (by omega) (by omega) (by omega) (by omega)) (fun f hf => m4I f (by omega)), ?_, h3.cong (m4I 9 (by omega)), ?_, ⟨?_, ?_⟩, h6.cong (fun k hk => mI k (by omega) (by omega) (by omega) (by omega)) (m0I 6 (by decide)) (m4I 8 (by omega)), h7.cong (by rw [mI 64 (by omega) (by omega) (by omega) (by omega)]) (mI 65 (by omega) (by omega) (by omega) (by omega)) (m4I 10 (by omega)) (mI 131 (by omega) (by omega) (by omega) (by omega)), h8.cong (by rw [mI 79 (by omega) (by omega) (by omega) (by omega)]) (mI 80 (by omega) (by omega) (by omega) (by omega)) (m4I 59 (by omega)) (mI 162 (by omega) (by omega) (by omega) (by omega)), h9.cong (fun k hk => mI k (by omega) (by omega) (by omega) (by omega)), h10.cong (m4I 26 (by omega)) (mI 139 (by omega) (by omega) (by omega) (by omega)) (mI 67 (by omega) (by omega) (by omega) (by omega))⟩
    · have k4 : ∀ j, updR J 0 3 1 124 j = I 124 j := fun j => congrFun (jI 124 (by decide) (by omega)) j
      have kk : ∀ a j, 22 ≤ a ∧ a ≤ 42 → M a j = J a j := fun a j ha => by rw [mJ a (by omega), r0 a (by omega)]
      refine h1.move (x := x) (y := y) (z := z) ⟨(kk 22 1 (by omega)).trans j2.1, (kk 22 2 (by omega)).trans j2.2.1, (kk 22 3 (by omega)).trans j2.2.2⟩ (fun i hi => ⟨fun b hb => (kk _ b (by omega)).trans ((j3 i hi).1 b hb), fun p hp => (kk _ p (by omega)).trans ((j3 i hi).2 p hp)⟩) x2 x1 y2 y1 z2 z1 ⟨(kk _ 2 (by omega)).trans j4.1, fun k hk => ⟨(kk _ k (by omega)).trans (j4.2 k hk).1, (kk _ k (by omega)).trans (j4.2 k hk).2⟩⟩ ⟨(kk _ 2 (by omega)).trans j5.1, fun k hk => ⟨(kk _ k (by omega)).trans (j5.2 k hk).1, (kk _ k (by omega)).trans (j5.2 k hk).2⟩⟩ ⟨(kk _ 2 (by omega)).trans j6.1, fun k hk => ⟨(kk _ k (by omega)).trans (j6.2 k hk).1, (kk _ k (by omega)).trans (j6.2 k hk).2⟩⟩ ⟨f2.trans (k4 0), f3.trans (k4 1), f1.trans (k4 9), f4.trans (k4 31), f5.trans (k4 34), f6.trans (k4 35)⟩ (fun e j he hj => (m3 e j he hj).trans (congrFun (jI (125 + e) (by omega) (by omega)) j)) (fun j hj => (m4 j hj).trans (congrFun (jI 130 (by omega) (by omega)) j)) (fun e j he hj => (m5 e j he hj).trans (congrFun (jI (144 + e) (by omega) (by omega)) j)) (fun e j he hj => (m6 e j he hj).trans (congrFun (jI (146 + e) (by omega) (by omega)) j)) (fun e j he hj => (m7 e j he hj).trans (congrFun (jI (148 + e) (by omega) (by omega)) j))
    · have g : M 124 41 = I 124 9 := f1.trans (congrFun (jI 124 (by decide) (by omega)) 9)
      unfold HeldI at h3 ⊢
      rw [g]
      exact h3
    · rw [mJ 0 (by decide), updR_same, f0]
    · exact Or.inr f0
  · rw [b119_0, j7]
    simp only [Option.toList, List.cons_append, List.nil_append]
    rw [b119_11, j1 1 (by omega), a3]
  · rw [m8, m4I 0 (by omega), a4]
theorem ok_undo : Ok X d m120 m219 [some (.ref 0)] [some (.ref 124), none] := by
  intro I L hI
  have hI0 := hI
  obtain ⟨n', q', n, q, c, h1, h2, h3, h4, ⟨h5, h5'⟩, h6, h7, h8, h9, h10⟩ := hI
  by_cases h40 : I 124 40 = 0
  · refine ⟨.int (-3), I, L, I, L, hI0, fun Q => ?_, fun Q => ?_⟩
    · rw [b120_0, if_pos (h5.trans h40)]
    · rw [b219_0, if_pos h40]
  obtain ⟨⟨a1, a2, a3, a4, a5, a6, a7⟩, -, -, -, ⟨x, x1, x2, x3, x4⟩, ⟨y, y1, y2, y3, y4⟩, ⟨z, z1, z2, z3, z4⟩⟩ := id h2
  obtain ⟨J, j1, j2, j3, j4, j5, j6, j7⟩ := s110 (X := X) (d := d + 95) (L := L) tbl_1 tbl_22 (by omega) x2 x1 y2 y1 z2 z1
  have jI : ∀ a, ¬(1 ≤ a ∧ a ≤ 21) → J a = I a := fun a h1 => j1 a (by omega)
  obtain ⟨M, m1, m2, ⟨f1, f2, f3, f4, f5, f6⟩, m3, m4, m5, m6, m7, m8⟩ := un_all (X := X) (d := d + 100) (I := J) (L := L) (by rw [jI 124 (by omega)]; exact h40)
  have mJ : ∀ a, a < 124 → M a = J a := fun a ha => m1 a (by omega) (by omega) (by omega)
  have mI : ∀ a, a ≠ 124 → ¬(1 ≤ a ∧ a ≤ 21) → ¬(125 ≤ a ∧ a ≤ 130) → ¬(144 ≤ a ∧ a ≤ 149) → M a = I a := fun a h0 h1 h2 h3 => (m1 a h0 (by omega) (by omega)).trans (jI a h1)
  have m4I : ∀ j, ¬(j = 9 ∨ j = 0 ∨ j = 1 ∨ j = 31 ∨ j = 34 ∨ j = 35) → M 124 j = I 124 j := fun j hj => (m2 j hj).trans (congrFun (jI 124 (by omega)) j)
  have k4 : ∀ j, J 124 j = I 124 j := fun j => congrFun (jI 124 (by omega)) j
  refine ⟨.int (nI n), J, L, M, L, ?_, fun Q => ?_, fun Q => ?_⟩
  · refine ⟨n, q, n, q, c, ?_, h2.cong (fun k hk => mI k (by omega) (by omega) (by omega) (by omega)) (fun f hf => m4I f (by omega)), ?_, h4.cong (m4I 41 (by omega)), ⟨?_, ?_⟩, h6.cong (fun k hk => mI k (by omega) (by omega) (by omega) (by omega)) (by rw [mI 0 (by omega) (by omega) (by omega) (by omega)]) (m4I 8 (by omega)), h7.cong (by rw [mI 64 (by omega) (by omega) (by omega) (by omega)]) (mI 65 (by omega) (by omega) (by omega) (by omega)) (m4I 10 (by omega)) (mI 131 (by omega) (by omega) (by omega) (by omega)), h8.cong (by rw [mI 79 (by omega) (by omega) (by omega) (by omega)]) (mI 80 (by omega) (by omega) (by omega) (by omega)) (m4I 59 (by omega)) (mI 162 (by omega) (by omega) (by omega) (by omega)), h9.cong (fun k hk => mI k (by omega) (by omega) (by omega) (by omega)), h10.cong (m4I 26 (by omega)) (mI 139 (by omega) (by omega) (by omega) (by omega)) (mI 67 (by omega) (by omega) (by omega) (by omega))⟩
    · have kk : ∀ a j, 1 ≤ a ∧ a ≤ 21 → M a j = J a j := fun a j ha => by rw [mJ a (by omega)]
      refine h2.move (x := x) (y := y) (z := z) ⟨(kk 1 1 (by omega)).trans j2.1, (kk 1 2 (by omega)).trans j2.2.1, (kk 1 3 (by omega)).trans j2.2.2⟩ (fun i hi => ⟨fun b hb => (kk _ b (by omega)).trans ((j3 i hi).1 b hb), fun p hp => (kk _ p (by omega)).trans ((j3 i hi).2 p hp)⟩) x2 x1 y2 y1 z2 z1 ⟨(kk _ 2 (by omega)).trans j4.1, fun k hk => ⟨(kk _ k (by omega)).trans (j4.2 k hk).1, (kk _ k (by omega)).trans (j4.2 k hk).2⟩⟩ ⟨(kk _ 2 (by omega)).trans j5.1, fun k hk => ⟨(kk _ k (by omega)).trans (j5.2 k hk).1, (kk _ k (by omega)).trans (j5.2 k hk).2⟩⟩ ⟨(kk _ 2 (by omega)).trans j6.1, fun k hk => ⟨(kk _ k (by omega)).trans (j6.2 k hk).1, (kk _ k (by omega)).trans (j6.2 k hk).2⟩⟩ ⟨f2.trans (k4 42), f3.trans (k4 43), f1.trans (k4 41), f4.trans (k4 44), f5.trans (k4 45), f6.trans (k4 46)⟩ (fun e j he hj => (m3 e j he hj).trans (congrFun (jI (150 + e) (by omega)) j)) (fun j hj => (m4 j hj).trans (congrFun (jI 155 (by omega)) j)) (fun e j he hj => (m5 e j he hj).trans (congrFun (jI (156 + e) (by omega)) j)) (fun e j he hj => (m6 e j he hj).trans (congrFun (jI (158 + e) (by omega)) j)) (fun e j he hj => (m7 e j he hj).trans (congrFun (jI (160 + e) (by omega)) j))
    · have g : M 124 9 = I 124 41 := f1.trans (k4 41)
      unfold HeldI at h4 ⊢
      rw [g]
      exact h4
    · rw [mI 0 (by omega) (by omega) (by omega) (by omega), m4I 40 (by omega)]; exact h5
    · rw [m4I 40 (by omega)]; exact h5'
  · rw [b120_0, if_neg (fun g => h40 (h5.symm.trans g)), j7]
    simp only [Option.toList, List.cons_append, List.nil_append]
    rw [b120_21, j2.1, a3]
  · rw [m8, f2, k4 42, a4]
end CALLS
