/-! What the block equations stand on. -/
theorem wp_congr {X : Nat × (Nat → Int32)} {d : Nat} {mi : MI} {pc : Nat} {ls : XL} {st : List Value} {w : XW} {Q Q' : Option Value → XW → Prop} (h : ∀ r w1, Q r w1 ↔ Q' r w1) : wp X d mi pc ls st w Q ↔ wp X d mi pc ls st w Q' := by
  have e : Q = Q' := by
    funext r w1
    exact propext (h r w1)
  rw [e]
theorem ite_val {c : Prop} [Decidable c] {a b : Int32} (P : Int32 → Prop) : (if c then P a else P b) ↔ P (if c then a else b) := by
  split <;> exact Iff.rfl
theorem w_aaldR {X : Nat × (Nat → Int32)} {d : Nat} {mi : MI} {pc pc' : Nat} {ls : XL} {st : List Value} {K : XK} {R : Nat → Nat → Option Nat} {I : Nat → Nat → Int32} {L : Nat → Nat → Int64} {Q : Option Value → XW → Prop} {pc0 n a b c p : Nat} {t : List (Int × Nat)} {i : Int32} {k m q : Nat} {C : String} (he : cdx (mC mi) pc = some (pc0, .aaload, n, a, b, c, p, t)) (hk : K[k]? = some (.inl (.object C, m))) (hr : inA i m = true → R k i.toNatClampNeg = some q) (hp : pc + n = pc') : wp X d mi pc ls (.int i :: .ref k :: st) (K, R, I, L) Q ↔ (inA i m = true ∧ wp X d mi pc' ls (.ref q :: st) (K, R, I, L) Q) :=
  (w_aald he hk hp).trans (and_congr_right fun h => by rw [hr h]; exact Iff.rfl)
theorem updR_k {α : Type} {f : Nat → Nat → α} {k j a b : Nat} {v : α} (h : a ≠ k) : updR f k j v a b = f a b := by rw [updR_ne h]
theorem updR_j {α : Type} {f : Nat → Nat → α} {k j a b : Nat} {v : α} (h : b ≠ j) : updR f k j v a b = f a b := by
  unfold updR
  rw [if_neg (fun q => h q.2)]
theorem updR_same {α : Type} {f : Nat → Nat → α} {k j : Nat} {v : α} : updR f k j v k j = v := updR_self
section RV
variable {X : Nat × (Nat → Int32)} {d : Nat} {mi : MI} {pc pc' : Nat} {ls : XL} {st : List Value} {K : XK} {R : Nat → Nat → Option Nat} {I : Nat → Nat → Int32} {L : Nat → Nat → Int64} {Q : Option Value → XW → Prop} {pc0 n a b c p : Nat} {t : List (Int × Nat)}
theorem w_getIv {ix k : Nat} {v : Int32} (he : cdx (mC mi) pc = some (pc0, .getfield ix, n, a, b, 0, p, t)) (hk : K[k]? = some (.inr a)) (hb : b < clN a) (ht : isIntT (clT a b) = true) (hv : I k b = v) (hp : pc + n = pc') : wp X d mi pc ls (.ref k :: st) (K, R, I, L) Q ↔ wp X d mi pc' ls (.int v :: st) (K, R, I, L) Q := by
  subst hv
  exact w_getI he hk hb ht hp
theorem w_ialdv {i : Int32} {k m : Nat} {v : Int32} (he : cdx (mC mi) pc = some (pc0, .iaload, n, a, b, c, p, t)) (hk : K[k]? = some (.inl (.int, m))) (hv : I k i.toNatClampNeg = v) (hp : pc + n = pc') : wp X d mi pc ls (.int i :: .ref k :: st) (K, R, I, L) Q ↔ (inA i m = true ∧ wp X d mi pc' ls (.int v :: st) (K, R, I, L) Q) := by
  subst hv
  exact w_iald he hk hp
theorem w_zaldv {i : Int32} {k m : Nat} {v : Int32} (he : cdx (mC mi) pc = some (pc0, .baload, n, a, b, c, p, t)) (hk : K[k]? = some (.inl (.boolean, m))) (hv : I k i.toNatClampNeg = v) (hp : pc + n = pc') : wp X d mi pc ls (.int i :: .ref k :: st) (K, R, I, L) Q ↔ (inA i m = true ∧ wp X d mi pc' ls (.int v :: st) (K, R, I, L) Q) := by
  subst hv
  exact w_zald he hk hp
theorem w_laldv {i : Int32} {k m : Nat} {v : Int64} (he : cdx (mC mi) pc = some (pc0, .laload, n, a, b, c, p, t)) (hk : K[k]? = some (.inl (.long, m))) (hv : L k i.toNatClampNeg = v) (hp : pc + n = pc') : wp X d mi pc ls (.int i :: .ref k :: st) (K, R, I, L) Q ↔ (inA i m = true ∧ wp X d mi pc' ls (.long v :: st) (K, R, I, L) Q) := by
  subst hv
  exact w_lald he hk hp
end RV
def KA : Nat → Int32 := fun j => ([-1, 0, 0, 0, 1, 2, 3] : List Int32).getD j 0
def BO : Nat → Int32 := fun j => ([10, 11, 12, 0, 20, 0, 30, 0, 0, 0, 0, 40, 50, 51, 0, 0, 0, 60, 71, 70, 0] : List Int32).getD j 0
def RB : Nat → Int32 := fun j => ([0, 1, 5, 21, 85, 341] : List Int32).getD j 0
theorem ci_free {X : Nat × (Nat → Int32)} {k : Nat} (hk : k ≠ 1000050) (h : cInts (0, fun _ => 0) k = none) : cInts X k = none := by
  unfold cInts at h ⊢
  repeat' split at h
  all_goals first | (cases h; done) | skip
  all_goals simp_all
theorem strBytes {X : Nat × (Nat → Int32)} {s n : Nat} {f : Nat → Int32} (h : isStr s n f) : K0[s + 20]? = none ∧ cInts X (s + 20) = none ∧ cByts (s + 20) = some (n, f) := ⟨h.2.2.1, ci_free (by have := h.2.1; omega) h.2.2.2.1, h.2.2.2.2⟩
abbrev str_n0 : Nat := 4
def str_f0 : Nat → Int32 := fun j => ([98, 97, 108, 107] : List Int32).getD j 0
theorem str_ok0 : isStr 1000000 str_n0 str_f0 := ⟨by decide +kernel, by decide, by decide +kernel, rfl, rfl⟩
abbrev str_n1 : Nat := 4
def str_f1 : Nat → Int32 := fun j => ([114, 105, 115, 101] : List Int32).getD j 0
theorem str_ok1 : isStr 1000001 str_n1 str_f1 := ⟨by decide +kernel, by decide, by decide +kernel, rfl, rfl⟩
abbrev str_n2 : Nat := 4
def str_f2 : Nat → Int32 := fun j => ([102, 97, 108, 108] : List Int32).getD j 0
theorem str_ok2 : isStr 1000002 str_n2 str_f2 := ⟨by decide +kernel, by decide, by decide +kernel, rfl, rfl⟩
abbrev str_n3 : Nat := 4
def str_f3 : Nat → Int32 := fun j => ([119, 105, 108, 108] : List Int32).getD j 0
theorem str_ok3 : isStr 1000003 str_n3 str_f3 := ⟨by decide +kernel, by decide, by decide +kernel, rfl, rfl⟩
abbrev str_n4 : Nat := 1
def str_f4 : Nat → Int32 := fun j => ([32] : List Int32).getD j 0
theorem str_ok4 : isStr 1000004 str_n4 str_f4 := ⟨by decide +kernel, by decide, by decide +kernel, rfl, rfl⟩
abbrev str_n5 : Nat := 6
def str_f5 : Nat → Int32 := fun j => ([99, 119, 107, 118, 108, 110] : List Int32).getD j 0
theorem str_ok5 : isStr 1000005 str_n5 str_f5 := ⟨by decide +kernel, by decide, by decide +kernel, rfl, rfl⟩
abbrev str_n6 : Nat := 3
def str_f6 : Nat → Int32 := fun j => ([60, 61, 62] : List Int32).getD j 0
theorem str_ok6 : isStr 1000006 str_n6 str_f6 := ⟨by decide +kernel, by decide, by decide +kernel, rfl, rfl⟩
abbrev str_n7 : Nat := 1
def str_f7 : Nat → Int32 := fun j => ([41] : List Int32).getD j 0
theorem str_ok7 : isStr 1000007 str_n7 str_f7 := ⟨by decide +kernel, by decide, by decide +kernel, rfl, rfl⟩
theorem kn_1000040 : K0[1000040]? = none := by decide +kernel
theorem kn_1000041 : K0[1000041]? = none := by decide +kernel
theorem kn_1000042 : K0[1000042]? = none := by decide +kernel
theorem kn_1000050 : K0[1000050]? = none := by decide +kernel
theorem rows_3 : isRows 3 5 := tbl_1.2.2.2.2.2.2.1
theorem rows_6 : isRows 6 10 := tbl_1.2.2.2.2.2.2.2.1
theorem rows_9 : isRows 9 8 := tbl_1.2.2.2.2.2.2.2.2.1
theorem rows_24 : isRows 24 5 := tbl_22.2.2.2.2.2.2.1
theorem rows_27 : isRows 27 10 := tbl_22.2.2.2.2.2.2.2.1
theorem rows_30 : isRows 30 8 := tbl_22.2.2.2.2.2.2.2.2.1
theorem rows_45 : isRows 45 5 := tbl_43.2.2.2.2.2.2.1
theorem rows_48 : isRows 48 10 := tbl_43.2.2.2.2.2.2.2.1
theorem rows_51 : isRows 51 8 := tbl_43.2.2.2.2.2.2.2.2.1
theorem kd_0 : K0[0]? = some (.inr 9) := by decide +kernel
theorem kd_64 : K0[64]? = some (.inr 7) := by decide +kernel
theorem kd_65 : K0[65]? = some (.inl (.int, 100)) := by decide +kernel
theorem kd_66 : K0[66]? = some (.inl (.object "LeavesObject$Inn", 6)) := by decide +kernel
theorem kd_74 : K0[74]? = some (.inr 8) := by decide +kernel
theorem kd_75 : K0[75]? = some (.inl (.int, 341)) := by decide +kernel
theorem kd_76 : K0[76]? = some (.inl (.int, 341)) := by decide +kernel
theorem kd_79 : K0[79]? = some (.inr 0) := by decide +kernel
theorem kd_80 : K0[80]? = some (.inl (.int, 20)) := by decide +kernel
theorem kd_81 : K0[81]? = some (.inl (.object "LeavesObject$Tape", 6)) := by decide +kernel
theorem kd_124 : K0[124]? = some (.inr 10) := by decide +kernel
theorem kd_125 : K0[125]? = some (.inl (.int, 5)) := by decide +kernel
theorem kd_126 : K0[126]? = some (.inl (.int, 5)) := by decide +kernel
theorem kd_127 : K0[127]? = some (.inl (.int, 5)) := by decide +kernel
theorem kd_128 : K0[128]? = some (.inl (.int, 5)) := by decide +kernel
theorem kd_129 : K0[129]? = some (.inl (.int, 5)) := by decide +kernel
theorem kd_130 : K0[130]? = some (.inl (.int, 20)) := by decide +kernel
theorem kd_131 : K0[131]? = some (.inl (.int, 100)) := by decide +kernel
theorem kd_132 : K0[132]? = some (.inl (.int, 6)) := by decide +kernel
theorem kd_133 : K0[133]? = some (.inl (.int, 60)) := by decide +kernel
theorem kd_134 : K0[134]? = some (.inl (.int, 60)) := by decide +kernel
theorem kd_135 : K0[135]? = some (.inl (.int, 60)) := by decide +kernel
theorem kd_136 : K0[136]? = some (.inl (.int, 60)) := by decide +kernel
theorem kd_137 : K0[137]? = some (.inl (.int, 600)) := by decide +kernel
theorem kd_138 : K0[138]? = some (.inl (.int, 101)) := by decide +kernel
theorem kd_139 : K0[139]? = some (.inl (.int, 16)) := by decide +kernel
theorem kd_140 : K0[140]? = some (.inl (.boolean, 100)) := by decide +kernel
theorem kd_141 : K0[141]? = some (.inl (.int, 5)) := by decide +kernel
theorem kd_142 : K0[142]? = some (.inl (.int, 5)) := by decide +kernel
theorem kd_143 : K0[143]? = some (.inl (.int, 5)) := by decide +kernel
theorem kd_144 : K0[144]? = some (.inl (.int, 5)) := by decide +kernel
theorem kd_145 : K0[145]? = some (.inl (.int, 5)) := by decide +kernel
theorem kd_146 : K0[146]? = some (.inl (.int, 10)) := by decide +kernel
theorem kd_147 : K0[147]? = some (.inl (.int, 10)) := by decide +kernel
theorem kd_148 : K0[148]? = some (.inl (.int, 8)) := by decide +kernel
theorem kd_149 : K0[149]? = some (.inl (.int, 8)) := by decide +kernel
theorem kd_150 : K0[150]? = some (.inl (.int, 5)) := by decide +kernel
theorem kd_151 : K0[151]? = some (.inl (.int, 5)) := by decide +kernel
theorem kd_152 : K0[152]? = some (.inl (.int, 5)) := by decide +kernel
theorem kd_153 : K0[153]? = some (.inl (.int, 5)) := by decide +kernel
theorem kd_154 : K0[154]? = some (.inl (.int, 5)) := by decide +kernel
theorem kd_155 : K0[155]? = some (.inl (.int, 20)) := by decide +kernel
theorem kd_156 : K0[156]? = some (.inl (.int, 5)) := by decide +kernel
theorem kd_157 : K0[157]? = some (.inl (.int, 5)) := by decide +kernel
theorem kd_158 : K0[158]? = some (.inl (.int, 10)) := by decide +kernel
theorem kd_159 : K0[159]? = some (.inl (.int, 10)) := by decide +kernel
theorem kd_160 : K0[160]? = some (.inl (.int, 8)) := by decide +kernel
theorem kd_161 : K0[161]? = some (.inl (.int, 8)) := by decide +kernel
theorem kd_162 : K0[162]? = some (.inl (.int, 20)) := by decide +kernel
theorem kd_163 : K0[163]? = some (.inl (.int, 6)) := by decide +kernel
theorem kd_164 : K0[164]? = some (.inl (.int, 6)) := by decide +kernel
theorem kd_165 : K0[165]? = some (.inl (.long, 360)) := by decide +kernel
theorem kd_166 : K0[166]? = some (.inl (.long, 60)) := by decide +kernel
theorem rd_0_0 : R0 0 0 = some 1 := by decide +kernel
theorem rd_0_1 : R0 0 1 = some 22 := by decide +kernel
theorem rd_0_2 : R0 0 2 = some 43 := by decide +kernel
theorem rd_0_4 : R0 0 4 = some 64 := by decide +kernel
theorem rd_0_5 : R0 0 5 = some 66 := by decide +kernel
theorem rd_0_7 : R0 0 7 = some 67 := by decide +kernel
theorem rd_0_8 : R0 0 8 = some 72 := by decide +kernel
theorem rd_0_9 : R0 0 9 = some 74 := by decide +kernel
theorem rd_0_10 : R0 0 10 = some 79 := by decide +kernel
theorem rd_0_11 : R0 0 11 = some 81 := by decide +kernel
theorem rd_64_0 : R0 64 0 = some 65 := by decide +kernel
theorem rd_74_0 : R0 74 0 = some 75 := by decide +kernel
theorem rd_74_1 : R0 74 1 = some 76 := by decide +kernel
theorem rd_74_2 : R0 74 2 = some 77 := by decide +kernel
theorem rd_79_0 : R0 79 0 = some 80 := by decide +kernel
theorem rd_124_2 : R0 124 2 = some 125 := by decide +kernel
theorem rd_124_3 : R0 124 3 = some 126 := by decide +kernel
theorem rd_124_4 : R0 124 4 = some 127 := by decide +kernel
theorem rd_124_5 : R0 124 5 = some 128 := by decide +kernel
theorem rd_124_6 : R0 124 6 = some 129 := by decide +kernel
theorem rd_124_7 : R0 124 7 = some 130 := by decide +kernel
theorem rd_124_13 : R0 124 13 = some 131 := by decide +kernel
theorem rd_124_14 : R0 124 14 = some 132 := by decide +kernel
theorem rd_124_15 : R0 124 15 = some 133 := by decide +kernel
theorem rd_124_16 : R0 124 16 = some 134 := by decide +kernel
theorem rd_124_17 : R0 124 17 = some 135 := by decide +kernel
theorem rd_124_18 : R0 124 18 = some 136 := by decide +kernel
theorem rd_124_19 : R0 124 19 = some 137 := by decide +kernel
theorem rd_124_20 : R0 124 20 = some 138 := by decide +kernel
theorem rd_124_24 : R0 124 24 = some 139 := by decide +kernel
theorem rd_124_25 : R0 124 25 = some 140 := by decide +kernel
theorem rd_124_28 : R0 124 28 = some 141 := by decide +kernel
theorem rd_124_29 : R0 124 29 = some 142 := by decide +kernel
theorem rd_124_30 : R0 124 30 = some 143 := by decide +kernel
theorem rd_124_32 : R0 124 32 = some 144 := by decide +kernel
theorem rd_124_33 : R0 124 33 = some 145 := by decide +kernel
theorem rd_124_36 : R0 124 36 = some 146 := by decide +kernel
theorem rd_124_37 : R0 124 37 = some 147 := by decide +kernel
theorem rd_124_38 : R0 124 38 = some 148 := by decide +kernel
theorem rd_124_39 : R0 124 39 = some 149 := by decide +kernel
theorem rd_124_47 : R0 124 47 = some 150 := by decide +kernel
theorem rd_124_48 : R0 124 48 = some 151 := by decide +kernel
theorem rd_124_49 : R0 124 49 = some 152 := by decide +kernel
theorem rd_124_50 : R0 124 50 = some 153 := by decide +kernel
theorem rd_124_51 : R0 124 51 = some 154 := by decide +kernel
theorem rd_124_52 : R0 124 52 = some 155 := by decide +kernel
theorem rd_124_53 : R0 124 53 = some 156 := by decide +kernel
theorem rd_124_54 : R0 124 54 = some 157 := by decide +kernel
theorem rd_124_55 : R0 124 55 = some 158 := by decide +kernel
theorem rd_124_56 : R0 124 56 = some 159 := by decide +kernel
theorem rd_124_57 : R0 124 57 = some 160 := by decide +kernel
theorem rd_124_58 : R0 124 58 = some 161 := by decide +kernel
theorem rd_124_60 : R0 124 60 = some 162 := by decide +kernel
theorem rd_124_61 : R0 124 61 = some 163 := by decide +kernel
theorem rd_124_62 : R0 124 62 = some 164 := by decide +kernel
theorem rd_124_63 : R0 124 63 = some 165 := by decide +kernel
theorem rd_124_64 : R0 124 64 = some 166 := by decide +kernel
theorem mt3 : mtab[3]? = some m3 := rfl
theorem mt11 : mtab[11]? = some m11 := rfl
theorem mt12 : mtab[12]? = some m12 := rfl
theorem mt13 : mtab[13]? = some m13 := rfl
theorem mt14 : mtab[14]? = some m14 := rfl
theorem mt15 : mtab[15]? = some m15 := rfl
theorem mt17 : mtab[17]? = some m17 := rfl
theorem mt18 : mtab[18]? = some m18 := rfl
theorem mt19 : mtab[19]? = some m19 := rfl
theorem mt20 : mtab[20]? = some m20 := rfl
theorem mt21 : mtab[21]? = some m21 := rfl
theorem mt22 : mtab[22]? = some m22 := rfl
theorem mt23 : mtab[23]? = some m23 := rfl
theorem mt24 : mtab[24]? = some m24 := rfl
theorem mt25 : mtab[25]? = some m25 := rfl
theorem mt26 : mtab[26]? = some m26 := rfl
theorem mt27 : mtab[27]? = some m27 := rfl
theorem mt28 : mtab[28]? = some m28 := rfl
theorem mt29 : mtab[29]? = some m29 := rfl
theorem mt30 : mtab[30]? = some m30 := rfl
theorem mt31 : mtab[31]? = some m31 := rfl
theorem mt32 : mtab[32]? = some m32 := rfl
theorem mt33 : mtab[33]? = some m33 := rfl
theorem mt34 : mtab[34]? = some m34 := rfl
theorem mt37 : mtab[37]? = some m37 := rfl
theorem mt39 : mtab[39]? = some m39 := rfl
theorem mt41 : mtab[41]? = some m41 := rfl
theorem mt42 : mtab[42]? = some m42 := rfl
theorem mt43 : mtab[43]? = some m43 := rfl
theorem mt44 : mtab[44]? = some m44 := rfl
theorem mt45 : mtab[45]? = some m45 := rfl
theorem mt46 : mtab[46]? = some m46 := rfl
theorem mt47 : mtab[47]? = some m47 := rfl
theorem mt48 : mtab[48]? = some m48 := rfl
theorem mt49 : mtab[49]? = some m49 := rfl
theorem mt50 : mtab[50]? = some m50 := rfl
theorem mt51 : mtab[51]? = some m51 := rfl
theorem mt52 : mtab[52]? = some m52 := rfl
theorem mt53 : mtab[53]? = some m53 := rfl
theorem mt54 : mtab[54]? = some m54 := rfl
theorem mt55 : mtab[55]? = some m55 := rfl
theorem mt56 : mtab[56]? = some m56 := rfl
theorem mt57 : mtab[57]? = some m57 := rfl
theorem mt59 : mtab[59]? = some m59 := rfl
theorem mt60 : mtab[60]? = some m60 := rfl
theorem mt61 : mtab[61]? = some m61 := rfl
theorem mt62 : mtab[62]? = some m62 := rfl
theorem mt64 : mtab[64]? = some m64 := rfl
theorem mt65 : mtab[65]? = some m65 := rfl
theorem mt66 : mtab[66]? = some m66 := rfl
theorem mt67 : mtab[67]? = some m67 := rfl
theorem mt68 : mtab[68]? = some m68 := rfl
theorem mt69 : mtab[69]? = some m69 := rfl
theorem mt70 : mtab[70]? = some m70 := rfl
theorem mt72 : mtab[72]? = some m72 := rfl
theorem mt73 : mtab[73]? = some m73 := rfl
theorem mt75 : mtab[75]? = some m75 := rfl
theorem mt77 : mtab[77]? = some m77 := rfl
theorem mt78 : mtab[78]? = some m78 := rfl
theorem mt80 : mtab[80]? = some m80 := rfl
theorem mt81 : mtab[81]? = some m81 := rfl
theorem mt82 : mtab[82]? = some m82 := rfl
theorem mt83 : mtab[83]? = some m83 := rfl
theorem mt84 : mtab[84]? = some m84 := rfl
theorem mt85 : mtab[85]? = some m85 := rfl
theorem mt87 : mtab[87]? = some m87 := rfl
theorem mt88 : mtab[88]? = some m88 := rfl
theorem mt90 : mtab[90]? = some m90 := rfl
theorem mt93 : mtab[93]? = some m93 := rfl
theorem mt96 : mtab[96]? = some m96 := rfl
theorem mt98 : mtab[98]? = some m98 := rfl
theorem mt99 : mtab[99]? = some m99 := rfl
theorem mt100 : mtab[100]? = some m100 := rfl
theorem mt101 : mtab[101]? = some m101 := rfl
theorem mt104 : mtab[104]? = some m104 := rfl
theorem mt105 : mtab[105]? = some m105 := rfl
theorem mt106 : mtab[106]? = some m106 := rfl
theorem mt110 : mtab[110]? = some m110 := rfl
theorem mt111 : mtab[111]? = some m111 := rfl
theorem mt115 : mtab[115]? = some m115 := rfl
theorem mt116 : mtab[116]? = some m116 := rfl
theorem mt117 : mtab[117]? = some m117 := rfl
theorem mt118 : mtab[118]? = some m118 := rfl
theorem mt122 : mtab[122]? = some m122 := rfl
theorem mt123 : mtab[123]? = some m123 := rfl
theorem mt124 : mtab[124]? = some m124 := rfl
theorem mt125 : mtab[125]? = some m125 := rfl
theorem mt126 : mtab[126]? = some m126 := rfl
theorem mt128 : mtab[128]? = some m128 := rfl
theorem mt130 : mtab[130]? = some m130 := rfl
theorem mt133 : mtab[133]? = some m133 := rfl
theorem mt134 : mtab[134]? = some m134 := rfl
theorem mt136 : mtab[136]? = some m136 := rfl
theorem mt137 : mtab[137]? = some m137 := rfl
theorem mt142 : mtab[142]? = some m142 := rfl
theorem mt143 : mtab[143]? = some m143 := rfl
theorem mt145 : mtab[145]? = some m145 := rfl
theorem mt149 : mtab[149]? = some m149 := rfl
theorem mt150 : mtab[150]? = some m150 := rfl
theorem mt151 : mtab[151]? = some m151 := rfl
theorem mt152 : mtab[152]? = some m152 := rfl
theorem mt153 : mtab[153]? = some m153 := rfl
theorem mt154 : mtab[154]? = some m154 := rfl
theorem mt155 : mtab[155]? = some m155 := rfl
theorem mt156 : mtab[156]? = some m156 := rfl
theorem mt157 : mtab[157]? = some m157 := rfl
theorem mt158 : mtab[158]? = some m158 := rfl
theorem mt159 : mtab[159]? = some m159 := rfl
theorem mt160 : mtab[160]? = some m160 := rfl
theorem mt161 : mtab[161]? = some m161 := rfl
theorem mt162 : mtab[162]? = some m162 := rfl
theorem mt164 : mtab[164]? = some m164 := rfl
theorem mt165 : mtab[165]? = some m165 := rfl
theorem mt166 : mtab[166]? = some m166 := rfl
theorem mt167 : mtab[167]? = some m167 := rfl
theorem mt168 : mtab[168]? = some m168 := rfl
theorem mt169 : mtab[169]? = some m169 := rfl
theorem mt170 : mtab[170]? = some m170 := rfl
theorem mt171 : mtab[171]? = some m171 := rfl
theorem mt172 : mtab[172]? = some m172 := rfl
theorem mt173 : mtab[173]? = some m173 := rfl
theorem mt174 : mtab[174]? = some m174 := rfl
theorem mt175 : mtab[175]? = some m175 := rfl
theorem mt176 : mtab[176]? = some m176 := rfl
theorem mt177 : mtab[177]? = some m177 := rfl
theorem mt179 : mtab[179]? = some m179 := rfl
theorem mt180 : mtab[180]? = some m180 := rfl
theorem mt181 : mtab[181]? = some m181 := rfl
theorem mt182 : mtab[182]? = some m182 := rfl
theorem mt183 : mtab[183]? = some m183 := rfl
theorem mt185 : mtab[185]? = some m185 := rfl
theorem mt187 : mtab[187]? = some m187 := rfl
theorem mt188 : mtab[188]? = some m188 := rfl
theorem mt189 : mtab[189]? = some m189 := rfl
theorem mt191 : mtab[191]? = some m191 := rfl
theorem mt192 : mtab[192]? = some m192 := rfl
theorem mt197 : mtab[197]? = some m197 := rfl
theorem mt198 : mtab[198]? = some m198 := rfl
theorem mt199 : mtab[199]? = some m199 := rfl
theorem mt200 : mtab[200]? = some m200 := rfl
theorem mt201 : mtab[201]? = some m201 := rfl
theorem mt206 : mtab[206]? = some m206 := rfl
theorem mt209 : mtab[209]? = some m209 := rfl
theorem mt210 : mtab[210]? = some m210 := rfl
theorem mt217 : mtab[217]? = some m217 := rfl
theorem mt221 : mtab[221]? = some m221 := rfl
theorem mt222 : mtab[222]? = some m222 := rfl
theorem mt223 : mtab[223]? = some m223 := rfl
theorem mt224 : mtab[224]? = some m224 := rfl
theorem mt225 : mtab[225]? = some m225 := rfl
theorem mt226 : mtab[226]? = some m226 := rfl
theorem mt227 : mtab[227]? = some m227 := rfl
theorem mt228 : mtab[228]? = some m228 := rfl
theorem mt234 : mtab[234]? = some m234 := rfl
