/-! What holds between calls: the class's cells and the reference's tell the same. -/
def Rg (m : Nat) (x : Int32) : Prop := ∃ k, k ≤ m ∧ x = nI k
/-- cups: table t of the class, rows a .. a + 5 of the reference -/
def CupsE (I : Nat → Nat → Int32) (t a : Nat) : Prop := ∀ i, i < 5 → I (t + 11 + 2 * i) 1 = I a i ∧ I (t + 11 + 2 * i) 2 = I (a + 1) i ∧ I (t + 11 + 2 * i) 3 = I (a + 2) i ∧ I (t + 11 + 2 * i) 4 = I (a + 3) i ∧ I (t + 11 + 2 * i) 5 = I (a + 4) i ∧ ∀ p, p < 4 → I (t + 11 + 2 * i + 1) p = I (a + 5) (4 * i + p)
def CupsG (I : Nat → Nat → Int32) (a : Nat) : Prop := ∀ i, i < 5 → Rg 6 (I a i) ∧ Rg 9 (I (a + 1) i) ∧ Rg 4095 (I (a + 2) i) ∧ Rg 9 (I (a + 3) i) ∧ Rg 9999 (I (a + 4) i) ∧ ∀ p, p < 4 → Rg 9 (I (a + 5) (4 * i + p))
def NumI (I : Nat → Nat → Int32) (t n : Nat) : Prop := ∀ i, i < n → I (t + 11 + 2 * i) 0 = nI i
def SeenI (I : Nat → Nat → Int32) (r a f : Nat) : Prop := ∃ s, s ≤ 5 ∧ I r 2 = nI s ∧ I 124 f = nI s ∧ ∀ k, k < s → I (r + 1) k = I a k ∧ I (r + 2) k = I (a + 1) k ∧ Rg 3 (I a k) ∧ Rg 4095 (I (a + 1) k)
def EveI (I : Nat → Nat → Int32) (r a f n : Nat) : Prop := ∃ s, s ≤ 10 ∧ I r 2 = nI s ∧ I 124 f = nI s ∧ ∀ k, k < s → I (r + 1) k = I a k ∧ (I a k = 5 ∨ (∃ c, c < n ∧ I a k = nI c) ∧ I (r + 2) k = I (a + 1) k ∧ Rg 3 (I (a + 1) k))
def BookI (I : Nat → Nat → Int32) (r a f n : Nat) : Prop := ∃ s, s ≤ 8 ∧ I r 2 = nI s ∧ I 124 f = nI s ∧ ∀ k, k < s → I (r + 1) k = I a k ∧ I (r + 2) k = I (a + 1) k ∧ ∃ c, c < n ∧ I a k = nI c
/-- all that the image takes -/
def TabI (I : Nat → Nat → Int32) (t a s f0 f1 f2 f3 f4 f5 n q : Nat) : Prop := (n ≤ 5 ∧ q ≤ 9999 ∧ I t 1 = nI n ∧ I 124 f0 = nI n ∧ I t 2 = nI q ∧ I 124 f1 = nI q ∧ I t 3 = I 124 f2) ∧ NumI I t n ∧ CupsE I t a ∧ CupsG I a ∧ SeenI I (t + 2) s f3 ∧ EveI I (t + 5) (s + 2) f4 n ∧ BookI I (t + 8) (s + 4) f5 n
abbrev NowI (I : Nat → Nat → Int32) (n q : Nat) : Prop := TabI I 1 125 144 0 1 9 31 34 35 n q
abbrev KeptI (I : Nat → Nat → Int32) (n q : Nat) : Prop := TabI I 22 150 156 42 43 41 44 45 46 n q
def HeldI (I : Nat → Nat → Int32) (f c : Nat) : Prop := I 124 f = -1 ∨ ∃ h, h < c ∧ I 124 f = nI h
def InnB (I : Nat → Nat → Int32) (i : Nat) : Prop := ∃ (n : Nat) (wd nb mm T : Nat → Nat), InnC I (82 + 5 * i) n wd nb mm T ∧ InnM I i n wd nb mm T ∧ I (82 + 5 * i) 0 = nI (laN wd nb 2 n 2) ∧ I (82 + 5 * i) 1 = nI (laN wd nb 3 n 1) ∧ ∀ c, nb c ≤ 99
def InnsI (I : Nat → Nat → Int32) (c : Nat) : Prop := c ≤ 6 ∧ I 0 6 = nI c ∧ I 124 8 = nI c ∧ ∀ i, i < c → InnB I i
def TextI (I : Nat → Nat → Int32) : Prop := ∃ s, s ≤ 100 ∧ I 64 1 = nI s ∧ I 124 10 = nI s ∧ ∀ k, k < s → I 65 k = I 131 k ∧ Rg 127 (I 131 k)
def ActsI (I : Nat → Nat → Int32) : Prop := ∃ r, r ≤ 20 ∧ I 79 1 = nI r ∧ I 124 59 = nI r ∧ ∀ k, k < r → I 80 k = I 162 k
def TapesI (I : Nat → Nat → Int32) (L : Nat → Nat → Int64) : Prop := ∀ p, p < 6 → I (112 + 2 * p) 0 = I 163 p ∧ I (112 + 2 * p) 1 = I 164 p ∧ (I 163 p = -1 ∨ Rg 4 (I 163 p)) ∧ Rg 60 (I 164 p) ∧ ∀ k, k < 60 → L (112 + 2 * p + 1) k = L 165 (60 * p + k)
def MiscI (I : Nat → Nat → Int32) : Prop := I 124 26 = 9999 ∧ (∀ k, k < 16 → I 139 k = I0 139 k) ∧ I 67 0 = 2 ∧ I 67 1 = 1 ∧ I 67 2 = 0
def ImgI (I : Nat → Nat → Int32) : Prop := I 0 3 = I 124 40 ∧ (I 124 40 = 0 ∨ I 124 40 = 1)
def Inv (I : Nat → Nat → Int32) (L : Nat → Nat → Int64) : Prop := ∃ n q n' q' c, NowI I n q ∧ KeptI I n' q' ∧ HeldI I 9 c ∧ HeldI I 41 c ∧ ImgI I ∧ InnsI I c ∧ TextI I ∧ ActsI I ∧ TapesI I L ∧ MiscI I
theorem CupsE.cong {I J : Nat → Nat → Int32} {t a : Nat} (h : CupsE I t a) (e : ∀ k, (t + 11 ≤ k ∧ k ≤ t + 20) ∨ (a ≤ k ∧ k ≤ a + 5) → J k = I k) : CupsE J t a := by
  intro i hi
  have := h i hi
  rw [e (t + 11 + 2 * i) (by omega), e (t + 11 + 2 * i + 1) (by omega), e a (by omega), e (a + 1) (by omega), e (a + 2) (by omega), e (a + 3) (by omega), e (a + 4) (by omega), e (a + 5) (by omega)]
  exact this
theorem CupsG.cong {I J : Nat → Nat → Int32} {a : Nat} (h : CupsG I a) (e : ∀ k, a ≤ k ∧ k ≤ a + 5 → J k = I k) : CupsG J a := by
  intro i hi
  have := h i hi
  rw [e a (by omega), e (a + 1) (by omega), e (a + 2) (by omega), e (a + 3) (by omega), e (a + 4) (by omega), e (a + 5) (by omega)]
  exact this
theorem NumI.cong {I J : Nat → Nat → Int32} {t n : Nat} (h : NumI I t n) (hn : n ≤ 5) (e : ∀ k, t + 11 ≤ k ∧ k ≤ t + 20 → J k 0 = I k 0) : NumI J t n := by
  intro i hi
  rw [e (t + 11 + 2 * i) (by omega)]
  exact h i hi
theorem SeenI.cong {I J : Nat → Nat → Int32} {r a f : Nat} (h : SeenI I r a f) (e : ∀ k, k = r ∨ k = r + 1 ∨ k = r + 2 ∨ k = a ∨ k = a + 1 → J k = I k) (e4 : J 124 f = I 124 f) : SeenI J r a f := by
  unfold SeenI at h ⊢
  rw [e r (by omega), e (r + 1) (by omega), e (r + 2) (by omega), e a (by omega), e (a + 1) (by omega), e4]
  exact h
theorem EveI.cong {I J : Nat → Nat → Int32} {r a f n : Nat} (h : EveI I r a f n) (e : ∀ k, k = r ∨ k = r + 1 ∨ k = r + 2 ∨ k = a ∨ k = a + 1 → J k = I k) (e4 : J 124 f = I 124 f) : EveI J r a f n := by
  unfold EveI at h ⊢
  rw [e r (by omega), e (r + 1) (by omega), e (r + 2) (by omega), e a (by omega), e (a + 1) (by omega), e4]
  exact h
theorem BookI.cong {I J : Nat → Nat → Int32} {r a f n : Nat} (h : BookI I r a f n) (e : ∀ k, k = r ∨ k = r + 1 ∨ k = r + 2 ∨ k = a ∨ k = a + 1 → J k = I k) (e4 : J 124 f = I 124 f) : BookI J r a f n := by
  unfold BookI at h ⊢
  rw [e r (by omega), e (r + 1) (by omega), e (r + 2) (by omega), e a (by omega), e (a + 1) (by omega), e4]
  exact h
theorem EveI.mono {I : Nat → Nat → Int32} {r a f n m : Nat} (h : EveI I r a f n) (hm : n ≤ m) : EveI I r a f m := by
  obtain ⟨s, h1, h2, h3, h4⟩ := h
  refine ⟨s, h1, h2, h3, fun k hk => ?_⟩
  obtain ⟨g1, g2⟩ := h4 k hk
  refine ⟨g1, g2.imp id (fun g => ⟨?_, g.2⟩)⟩
  obtain ⟨c, hc, e⟩ := g.1
  exact ⟨c, by omega, e⟩
theorem BookI.mono {I : Nat → Nat → Int32} {r a f n m : Nat} (h : BookI I r a f n) (hm : n ≤ m) : BookI I r a f m := by
  obtain ⟨s, h1, h2, h3, h4⟩ := h
  refine ⟨s, h1, h2, h3, fun k hk => ?_⟩
  obtain ⟨g1, g2, c, hc, e⟩ := h4 k hk
  exact ⟨g1, g2, c, by omega, e⟩
theorem TabI.cong {I J : Nat → Nat → Int32} {t a s f0 f1 f2 f3 f4 f5 n q : Nat} (h : TabI I t a s f0 f1 f2 f3 f4 f5 n q) (e : ∀ k, (t ≤ k ∧ k ≤ t + 20) ∨ (a ≤ k ∧ k ≤ a + 5) ∨ (s ≤ k ∧ k ≤ s + 5) → J k = I k) (e4 : ∀ f, f = f0 ∨ f = f1 ∨ f = f2 ∨ f = f3 ∨ f = f4 ∨ f = f5 → J 124 f = I 124 f) : TabI J t a s f0 f1 f2 f3 f4 f5 n q := by
  obtain ⟨h1, h2, h3, h4, h5, h6, h7⟩ := h
  refine ⟨?_, h2.cong h1.1 (fun k hk => by rw [e k (by omega)]), h3.cong (fun k hk => e k (by omega)), h4.cong (fun k hk => e k (by omega)), h5.cong (fun k hk => e k (by omega)) (e4 _ (by simp)), h6.cong (fun k hk => e k (by omega)) (e4 _ (by simp)), h7.cong (fun k hk => e k (by omega)) (e4 _ (by simp))⟩
  rw [e t (by omega), e4 f0 (by simp), e4 f1 (by simp), e4 f2 (by simp)]
  exact h1
theorem InnC.cg {I J : Nat → Nat → Int32} {q n : Nat} {wd nb mm T : Nat → Nat} (h : InnC I q n wd nb mm T) (e : ∀ k, q ≤ k ∧ k ≤ q + 3 → J k = I k) : InnC J q n wd nb mm T := by
  unfold InnC at h ⊢
  rw [e q (by omega), e (q + 1) (by omega), e (q + 2) (by omega), e (q + 3) (by omega)]
  exact h
theorem InnM.cg {I J : Nat → Nat → Int32} {h n : Nat} {wd nb mm T : Nat → Nat} (g : InnM I h n wd nb mm T) (e : ∀ k, 132 ≤ k ∧ k ≤ 137 → J k = I k) : InnM J h n wd nb mm T := by
  unfold InnM at g ⊢
  rw [e 132 (by omega), e 133 (by omega), e 134 (by omega), e 135 (by omega), e 136 (by omega), e 137 (by omega)]
  exact g
theorem InnB.cong {I J : Nat → Nat → Int32} {i : Nat} (h : InnB I i) (e : ∀ k, (82 + 5 * i ≤ k ∧ k ≤ 82 + 5 * i + 3) ∨ (132 ≤ k ∧ k ≤ 137) → J k = I k) : InnB J i := by
  obtain ⟨n, wd, nb, mm, T, h1, h2, h3, h4, h5⟩ := h
  exact ⟨n, wd, nb, mm, T, h1.cg (fun k hk => e k (by omega)), h2.cg (fun k hk => e k (by omega)), by rw [e _ (by omega)]; exact h3, by rw [e _ (by omega)]; exact h4, h5⟩
theorem HeldI.cong {I J : Nat → Nat → Int32} {f c : Nat} (h : HeldI I f c) (e : J 124 f = I 124 f) : HeldI J f c := by
  unfold HeldI at h ⊢
  rw [e]
  exact h
theorem InnsI.cong {I J : Nat → Nat → Int32} {c : Nat} (h : InnsI I c) (e : ∀ k, (82 ≤ k ∧ k ≤ 110 ∧ k ≠ 86 ∧ k ≠ 91 ∧ k ≠ 96 ∧ k ≠ 101 ∧ k ≠ 106) ∨ (132 ≤ k ∧ k ≤ 137) → J k = I k) (e0 : J 0 6 = I 0 6) (e4 : J 124 8 = I 124 8) : InnsI J c := by
  obtain ⟨h1, h2, h3, h4⟩ := h
  exact ⟨h1, e0.trans h2, e4.trans h3, fun i hi => (h4 i hi).cong (fun k hk => e k (by omega))⟩
theorem TextI.cong {I J : Nat → Nat → Int32} (h : TextI I) (e1 : J 64 1 = I 64 1) (e5 : J 65 = I 65) (e4 : J 124 10 = I 124 10) (e6 : J 131 = I 131) : TextI J := by
  unfold TextI at h ⊢
  rw [e1, e5, e4, e6]
  exact h
theorem ActsI.cong {I J : Nat → Nat → Int32} (h : ActsI I) (e1 : J 79 1 = I 79 1) (e5 : J 80 = I 80) (e4 : J 124 59 = I 124 59) (e6 : J 162 = I 162) : ActsI J := by
  unfold ActsI at h ⊢
  rw [e1, e5, e4, e6]
  exact h
theorem TapesI.cong {I J : Nat → Nat → Int32} {L : Nat → Nat → Int64} (h : TapesI I L) (e : ∀ k, (112 ≤ k ∧ k ≤ 123) ∨ k = 163 ∨ k = 164 → J k = I k) : TapesI J L := by
  intro p hp
  have := h p hp
  rw [e (112 + 2 * p) (by omega), e 163 (by omega), e 164 (by omega)]
  exact this
theorem MiscI.cong {I J : Nat → Nat → Int32} (h : MiscI I) (e1 : J 124 26 = I 124 26) (e2 : J 139 = I 139) (e3 : J 67 = I 67) : MiscI J := by
  unfold MiscI at h ⊢
  rw [e1, e2, e3]
  exact h
theorem ImgI.cong {I J : Nat → Nat → Int32} (h : ImgI I) (e1 : J 0 3 = I 0 3) (e2 : J 124 40 = I 124 40) : ImgI J := by
  unfold ImgI at h ⊢
  rw [e1, e2]
  exact h
/-- what may be written while something is asked -/
def Sk (k : Nat) : Prop := (43 ≤ k ∧ k ≤ 63) ∨ (71 ≤ k ∧ k ≤ 78) ∨ k = 86 ∨ k = 91 ∨ k = 96 ∨ k = 101 ∨ k = 106 ∨ k = 111 ∨ (140 ≤ k ∧ k ≤ 143)
def Asked (I J : Nat → Nat → Int32) : Prop := (∀ k, k ≠ 124 → ¬ Sk k → J k = I k) ∧ ∀ j, j ≠ 27 → J 124 j = I 124 j
theorem Asked.rfl' {I : Nat → Nat → Int32} : Asked I I := ⟨fun _ _ _ => rfl, fun _ _ => rfl⟩
theorem Asked.trans {I J K : Nat → Nat → Int32} (h : Asked I J) (g : Asked J K) : Asked I K := ⟨fun k h1 h2 => (g.1 k h1 h2).trans (h.1 k h1 h2), fun j hj => (g.2 j hj).trans (h.2 j hj)⟩
theorem Asked.ak {I J : Nat → Nat → Int32} (h : Ak I J) : Asked I J := ⟨fun k h1 h2 => h.1 k h1 (fun q => h2 (by unfold Sk; omega)) (fun q => h2 (by unfold Sk; omega)) (fun q => h2 (by unfold Sk; omega)) (fun q => h2 (by unfold Sk; omega)), h.2⟩
theorem NowI.asked {I J : Nat → Nat → Int32} {n q : Nat} (h : NowI I n q) (g : Asked I J) : NowI J n q := h.cong (fun k hk => g.1 k (by omega) (by unfold Sk; omega)) (fun f hf => g.2 f (by omega))
theorem InnsI.asked {I J : Nat → Nat → Int32} {c : Nat} (h : InnsI I c) (g : Asked I J) : InnsI J c := h.cong (fun k hk => g.1 k (by omega) (by unfold Sk; omega)) (by rw [g.1 0 (by decide) (by unfold Sk; omega)]) (g.2 8 (by decide))
theorem MiscI.asked {I J : Nat → Nat → Int32} (h : MiscI I) (g : Asked I J) : MiscI J := h.cong (g.2 26 (by decide)) (g.1 139 (by decide) (by unfold Sk; omega)) (g.1 67 (by decide) (by unfold Sk; omega))
theorem Inv.asked {I J : Nat → Nat → Int32} {L : Nat → Nat → Int64} (h : Inv I L) (g : Asked I J) : Inv J L := by
  obtain ⟨n, q, n', q', c, h1, h2, h3, h4, h5, h6, h7, h8, h9, h10⟩ := h
  have r : ∀ k, k ≠ 124 → ¬ Sk k → J k = I k := g.1
  exact ⟨n, q, n', q', c, h1.asked g, h2.cong (fun k hk => r k (by omega) (by unfold Sk; omega)) (fun f hf => g.2 f (by omega)), h3.cong (g.2 9 (by decide)), h4.cong (g.2 41 (by decide)), h5.cong (by rw [r 0 (by decide) (by unfold Sk; omega)]) (g.2 40 (by decide)), h6.asked g, h7.cong (by rw [r 64 (by decide) (by unfold Sk; omega)]) (r 65 (by decide) (by unfold Sk; omega)) (g.2 10 (by decide)) (r 131 (by decide) (by unfold Sk; omega)), h8.cong (by rw [r 79 (by decide) (by unfold Sk; omega)]) (r 80 (by decide) (by unfold Sk; omega)) (g.2 59 (by decide)) (r 162 (by decide) (by unfold Sk; omega)), h9.cong (fun k hk => r k (by omega) (by unfold Sk; omega)), h10.asked g⟩
/-- one call, both sides: one answer, and all holds again -/
def Ok (X : Nat × (Nat → Int32)) (d : Nat) (mc mm : MI) (lc lm : XL) : Prop := ∀ I L, Inv I L → ∃ r I1 L1 I2 L2, Inv I2 L2 ∧ (∀ Q : Option Value → XW → Prop, wp X (d + 100) mc 0 lc [] (K0, R0, I, L) Q ↔ Q (some r) (K0, R0, I1, L1)) ∧ ∀ Q : Option Value → XW → Prop, wp X (d + 100) mm 0 lm [] (K0, R0, I1, L1) Q ↔ Q (some r) (K0, R0, I2, L2)
/-- a cup that is there, seen from both sides -/
theorem cup_view {I : Nat → Nat → Int32} {n q i : Nat} (h : NowI I n q) (hi : i < n) : ∃ (kd v lv m r : Nat) (ln : Nat → Nat), CupR I (12 + 2 * i) i kd v lv (nI m) (nI r) ln ∧ CupM I i kd v lv (nI m) (nI r) ln ∧ m ≤ 9 ∧ r ≤ 9999 ∧ ∀ p, p < 4 → ln p ≤ 9 := by
  obtain ⟨h1, h2, h3, h4, -⟩ := h
  have hn := h1.1
  have h5 : i < 5 := by omega
  obtain ⟨e1, e2, e3, e4, e5, e6⟩ := h3 i h5
  obtain ⟨⟨kd, k1, k2⟩, ⟨v, v1, v2⟩, ⟨lv, l1, l2⟩, ⟨m, m1, m2⟩, ⟨r, r1, r2⟩, g6⟩ := h4 i h5
  have en := h2 i hi
  refine ⟨kd, v, lv, m, r, fun p => (I 130 (4 * i + p)).toNatClampNeg, ⟨cupK h5, en, e1.trans k2, e2.trans v2, e3.trans l2, e4.trans m2, e5.trans r2, fun p hp => ?_, h5, k1, v1, l1⟩, ⟨k2, v2, l2, m2, r2, fun p hp => ?_, h5, k1, v1, l1⟩, m1, r1, fun p hp => ?_⟩
  · obtain ⟨z, z1, z2⟩ := g6 p hp
    have z3 : I 130 (4 * i + p) = nI z := z2
    show I (12 + 2 * i + 1) p = nI (I 130 (4 * i + p)).toNatClampNeg
    rw [z3, nI_clamp (by omega)]
    exact (e6 p hp).trans z2
  · obtain ⟨z, z1, z2⟩ := g6 p hp
    have z3 : I 130 (4 * i + p) = nI z := z2
    show I 130 (4 * i + p) = nI (I 130 (4 * i + p)).toNatClampNeg
    rw [z3, nI_clamp (by omega)]
  · obtain ⟨z, z1, z2⟩ := g6 p hp
    have z3 : I 130 (4 * i + p) = nI z := z2
    show (I 130 (4 * i + p)).toNatClampNeg ≤ 9
    rw [z3, nI_clamp (by omega)]
    exact z1
theorem laN_le {wd nb : Nat → Nat} {k df : Nat} (hd : df ≤ 99) (hb : ∀ c, nb c ≤ 99) : ∀ n, laN wd nb k n df ≤ 99 := by
  intro n
  induction n with
  | zero => exact hd
  | succ n ih =>
    show (if wd n = k then nb n else laN wd nb k n df) ≤ 99
    split
    · exact hb n
    · exact ih
/-- the inn that holds, or none: seen from both sides -/
def isQ (q : Nat) : Prop := q = 67 ∨ ∃ h, h < 6 ∧ q = 82 + 5 * h
theorem isQ.inn {q : Nat} (h : isQ q) : isInn q := by
  rcases h with rfl | ⟨h, hh, rfl⟩
  · exact inn_67
  · exact (inns_ok h hh).2
theorem isQ.sk {q : Nat} (h : isQ q) : Sk (q + 4) := by
  unfold Sk
  rcases h with rfl | ⟨h, hh, rfl⟩ <;> omega
theorem inn_view {I : Nat → Nat → Int32} {n q c : Nat} (h : NowI I n q) (h1 : HeldI I 9 c) (h2 : InnsI I c) (h3 : MiscI I) : ∃ (z k : Nat) (wd nb mm T : Nat → Nat), isQ z ∧ InnC I z k wd nb mm T ∧ Hd I k wd nb mm T ∧ I z 0 = nI (laN wd nb 2 k 2) ∧ I z 1 = nI (laN wd nb 3 k 1) ∧ (∀ c, nb c ≤ 99) ∧ ∀ (X : Nat × (Nat → Int32)) (d : Nat) (J : Nat → Nat → Int32) (L : Nat → Nat → Int64) (Q : Option Value → XW → Prop), J 1 3 = I 1 3 → (wp X d m19 0 [some (.ref 0), none] [] (K0, R0, J, L) Q ↔ Q (some (.ref z)) (K0, R0, J, L)) := by
  have e : I 1 3 = I 124 9 := h.1.2.2.2.2.2.2
  obtain ⟨-, -, m1, m2, m3⟩ := h3
  rcases h1 with h1 | ⟨j, hj, h1⟩
  · refine ⟨67, 0, fun _ => 0, fun _ => 0, fun _ => 0, fun _ => 0, Or.inl rfl, ⟨by omega, m3, fun c hc => absurd hc (Nat.not_lt_zero _), fun c hc => absurd hc (Nat.not_lt_zero _), Nat.zero_le _, fun s hs => absurd hs (Nat.not_lt_zero _)⟩, Or.inl ⟨by rw [h1]; decide, rfl⟩, m1, m2, fun _ => Nat.zero_le _, fun X d J L Q g => ?_⟩
    rw [b19_0, g, e, h1, if_pos (by decide)]
  · have hc := h2.1
    obtain ⟨k, wd, nb, mm, T, g1, g2, g3, g4, g5⟩ := h2.2.2.2 j hj
    refine ⟨82 + 5 * j, k, wd, nb, mm, T, Or.inr ⟨j, by omega, rfl⟩, g1, Or.inr ⟨j, h1, g2⟩, g3, g4, g5, fun X d J L Q g => ?_⟩
    rw [b19_0, g, e, h1, if_neg (nI_pos (by omega)), if_pos (show nI j < (6 : Int32) from nI_lt (b := 6) (by omega) (by decide)), and_iff_right (inA_nI (by omega) (by decide)), nI_clamp (by omega)]
