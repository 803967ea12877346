/-! Cells that are made, and what is done at once: Object's constructor, arraycopy. -/
def kw : ((FieldType × Nat) ⊕ Nat) → Nat
  | .inl q => q.2
  | .inr ci => clN ci
def sw (K : XK) : Nat := (K.map kw).sum
theorem sw_app (K : XK) (q : (FieldType × Nat) ⊕ Nat) : sw (K ++ [q]) = sw K + kw q := by simp [sw]
set_option maxRecDepth 20000 in
theorem inst_ok : ∀ {a : Nat}, a < 11 → a ≠ 3 → Jvm.Cond.instantiable (clR a) (clN a) ∈ lw_use ∧ Jvm.Cond.initialized (clR a) ∈ lw_use := by
  intro a h h3
  match a, h, h3 with
  | 0, _, _ => exact ⟨wu (p := 1206) (by decide +kernel) rfl, wu (p := 1009) (by decide +kernel) rfl⟩
  | 1, _, _ => exact ⟨wu (p := 1057) (by decide +kernel) rfl, wu (p := 1005) (by decide +kernel) rfl⟩
  | 2, _, _ => exact ⟨wu (p := 1149) (by decide +kernel) rfl, wu (p := 1007) (by decide +kernel) rfl⟩
  | 3, _, h => exact absurd rfl h
  | 4, _, _ => exact ⟨wu (p := 1037) (by decide +kernel) rfl, wu (p := 1003) (by decide +kernel) rfl⟩
  | 5, _, _ => exact ⟨wu (p := 1029) (by decide +kernel) rfl, wu (p := 1002) (by decide +kernel) rfl⟩
  | 6, _, _ => exact ⟨wu (p := 1221) (by decide +kernel) rfl, wu (p := 1010) (by decide +kernel) rfl⟩
  | 7, _, _ => exact ⟨wu (p := 1130) (by decide +kernel) rfl, wu (p := 1006) (by decide +kernel) rfl⟩
  | 8, _, _ => exact ⟨wu (p := 1188) (by decide +kernel) rfl, wu (p := 1008) (by decide +kernel) rfl⟩
  | 9, _, _ => exact ⟨wu (p := 1021) (by decide +kernel) rfl, wu (p := 1001) (by decide +kernel) rfl⟩
  | 10, _, _ => exact ⟨wu (p := 4121) (by decide +kernel) rfl, wu (p := 1011) (by decide +kernel) rfl⟩
  | a + 11, h, _ => omega
theorem over_ok : ∀ {a : Nat}, a = 1 ∨ a = 2 ∨ a = 6 → Jvm.Cond.arrayOver (.object (clR a)) ∈ lw_use := by
  intro a h
  rcases h with rfl | rfl | rfl
  · exact wu (p := 1035) (by decide +kernel) rfl
  · exact wu (p := 1148) (by decide +kernel) rfl
  · exact wu (p := 1220) (by decide +kernel) rfl
theorem arr_int : Jvm.Cond.arrayClass .int ∈ lw_use := wu (p := 1056) (by decide +kernel) rfl
theorem arr_long : Jvm.Cond.arrayClass .long ∈ lw_use := wu (p := 1238) (by decide +kernel) rfl
theorem arr_bool : Jvm.Cond.arrayClass .boolean ∈ lw_use := wu (p := 5082) (by decide +kernel) rfl
theorem obj_ok : Jvm.Cond.instanceMethod Lib.objectInit ∈ lw_use ∧ Jvm.Cond.code Lib.objectInit ⟨#[0xb1]⟩ 1 none ∈ lw_use := ⟨wu (p := 1026) (by decide +kernel) rfl, wu (p := 1027) (by decide +kernel) rfl⟩
theorem cpy_ok : Jvm.Cond.native arraycopyName ∈ lw_use ∧ Jvm.Cond.static arraycopyName ∈ lw_use ∧ Jvm.Cond.initialized "java/lang/System" ∈ lw_use := ⟨wu (p := 3098) (by decide +kernel) rfl, wu (p := 3097) (by decide +kernel) rfl, wu (p := 1019) (by decide +kernel) rfl⟩
def tyOk (ty : FieldType) : Bool := isRefT ty || (isIntT ty || decide (ty = .long))
theorem tys_ok : ∀ a, a < 11 → ∀ j, j < clN a → tyOk (clT a j) = true := by decide +kernel
theorem def_ok {ty : FieldType} (h : tyOk ty = true) {ws : va_W} : Vo ws (fval ty none 0 0) (defaultValue ty) := by
  cases ty with
  | object C => rfl
  | array t => rfl
  | int => rfl
  | boolean => rfl
  | long => rfl
  | _ => simp [tyOk, isRefT, isIntT] at h
def dfl (a : Nat) : List Value := (List.range (clN a)).map (fun j => defaultValue (clT a j))
theorem dfl_at {a j : Nat} (h : j < clN a) : (dfl a)[j]? = some (defaultValue (clT a j)) := by
  unfold dfl
  rw [List.getElem?_map, List.getElem?_range h]
  rfl
theorem clrR_ne {α : Type} {f : Nat → Nat → α} {k a : Nat} {v : α} (h : a ≠ k) : clrR f k v a = f a := by
  funext b
  unfold clrR
  rw [if_neg h]
theorem clrR_self {α : Type} {f : Nat → Nat → α} {k : Nat} {v : α} : clrR f k v k = fun _ => v := by
  funext b
  unfold clrR
  rw [if_pos rfl]
theorem cpyR_ne {α : Type} {f : Nat → Nat → α} {a sp b dp n q : Nat} (h : q ≠ b) : cpyR f a sp b dp n q = f q := by
  funext j
  unfold cpyR
  rw [if_neg (fun z => h z.1)]
section SNN
variable {X : Nat × (Nat → Int32)} {cst : Nat → Value} {base : Nat} {D : va_G} {mi : MI} {p : Program} {l : Launch} {e : Env} {R : Room} {s : State} {m : MethodId} {args : Array Value} {below : List Frame} {meth : Method} {c : Code} {Q : State → Prop}
variable {w w' : XW} {ls ls' : XL} {st st' : List Value} {H : Heap} {locs : List Loc} {lsA : Array Slot} {stA : List Value} {ws : va_W} {tys : List (ClassId × FieldType)} {cells slots pc pc' : Nat}
theorem Wr.app {A : Nat → Prop} {K : XK} {R1 : Nat → Nat → Option Nat} {I1 : Nat → Nat → Int32} {L1 : Nat → Nat → Int64} {H1 : Heap} {tys' : List (ClassId × FieldType)} {q : Nat} {e1 : va_E} {kd : (FieldType × Nat) ⊕ Nat} {U : State} (r : Wr D U H A (K, R1, I1, L1) ws tys) (hlt : K.length < 900000) (hK : va_K D classes tys' U) (hP : va_P D classes (ws ++ [(q, e1)]) H1) (hD : va_D A (ws ++ [(q, e1)]))
    (ht : ∀ (t0 : Nat) (z : ClassId × FieldType), tys[t0]? = some z → tys'[t0]? = some z) (hc : Cr (ws ++ [(q, e1)]) tys' (clrR R1 K.length none) (clrR I1 K.length 0) (clrR L1 K.length 0) K.length kd e1) : Wr D U H1 A (xnew K R1 I1 L1 kd) (ws ++ [(q, e1)]) tys' := by
  obtain ⟨h1, h2, h3, h4, h5, h6⟩ := r
  have h4 : ws.length = K.length := h4
  refine ⟨hK, hP, hD, by simp [xnew, h4], by simp only [xnew, List.length_append, List.length_cons, List.length_nil]; omega, fun k kd' hk => ?_⟩
  have hk : (K ++ [kd])[k]? = some kd' := hk
  by_cases hkl : k < K.length
  · rw [List.getElem?_append_left hkl] at hk
    obtain ⟨b, e2, g1, g2⟩ := h6 k kd' hk
    have hne : k ≠ K.length := Nat.ne_of_lt hkl
    exact ⟨b, e2, by rw [List.getElem?_append_left (by omega)]; exact g1, (g2.mono Ext.app (fun t0 z hz => ⟨t0, ht t0 z hz⟩)).cong (clrR_ne hne) (clrR_ne hne) (clrR_ne hne)⟩
  · rw [List.getElem?_append_right (by omega)] at hk
    have hz : k - K.length < 1 := (List.getElem?_eq_some_iff.mp hk).1
    have hk0 : k = K.length := by omega
    subst hk0
    rw [Nat.sub_self] at hk
    cases hk
    exact ⟨q, e1, by rw [List.getElem?_append_right (by omega), h4, Nat.sub_self]; rfl, hc⟩
theorem FR.size (r : FR cst base D mi s w ls st H locs lsA stA ws tys) : lsA.size = mL mi := by
  obtain ⟨lm, h, -⟩ := r.2.2.1
  rw [h.1]
  exact r.2.2.2.2
theorem FR.new {H1 : Heap} {tys1 : List (ClassId × FieldType)} {a : Nat} {en : va_E} (r : FR cst base D mi s w ls st H locs lsA stA ws tys) (hW : Wr D s H1 (xA base) w' (ws ++ [(a, en)]) tys1) (hS : va_S (xA base) s.heap H1 locs) (hl : ws.length = w.1.length) : FR cst base D mi s w' ls (.ref w.1.length :: st) H1 locs lsA (.ref a :: stA) (ws ++ [(a, en)]) tys1 :=
  ⟨hW, hS, r.2.2.1.mono Ext.app, ⟨Or.inl ⟨a, en, by rw [List.getElem?_append_right (by omega), hl, Nat.sub_self]; rfl, rfl⟩, r.2.2.2.1.mono Ext.app⟩, r.2.2.2.2⟩
theorem tys_app {tys : List (ClassId × FieldType)} {q : ClassId × FieldType} : ∀ (t0 : Nat) (z : ClassId × FieldType), tys[t0]? = some z → (tys ++ [q])[t0]? = some z := fun t0 z hz => by
  rw [List.getElem?_append_left (List.getElem?_eq_some_iff.mp hz).1]
  exact hz
theorem tys_last {tys : List (ClassId × FieldType)} {q : ClassId × FieldType} : (tys ++ [q])[tys.length]? = some q := by
  rw [List.getElem?_append_right (Nat.le_refl _), Nat.sub_self]
  rfl
set_option maxHeartbeats 8000000 in
theorem sN (F : Fx X cst base mi p s m args meth c) {en : XE} (he : cdx (mC mi) pc = some en) (hst : stpN en pc ls st w = some (pc', ls', st', w')) (r : FR cst base D mi s w ls st H locs lsA stA ws tys) (hroom : 1 ≤ R.frames ∧ 60 ≤ R.locals) :
    ∃ dc ds, w'.1.length = w.1.length + dc ∧ sw w'.1 = sw w.1 + ds ∧ (cells + dc ≤ R.cells → slots + ds ≤ R.slots →
    (∀ (H1 : Heap) (locs1 : List Loc) (stA' : List Value) (ws1 : va_W) (tys1 : List (ClassId × FieldType)), Ext ws ws1 → FR cst base D mi s w' ls' st' H1 locs1 lsA stA' ws1 tys1 → W p l e R s m args below meth c H1 locs1 (cells + dc) (slots + ds) Q (F0 m pc' lsA stA')) → W p l e R s m args below meth c H locs cells slots Q (F0 m pc lsA stA)) := by
  obtain ⟨h0, hd, hl⟩ := F.at he
  obtain ⟨hx, hb, -, hml, hown, hts, -, hbase, hG, -, hinit, hgs⟩ := id F
  have hgs := List.all_eq_true.mp hgs _ (cdx_mem he).2
  obtain ⟨pc0, i, n, a, b, c0, pp, t⟩ := en
  obtain ⟨K, RR, I, L⟩ := w
  dsimp only at h0 hd
  subst h0
  unfold stpN at hst
  dsimp only at hst
  have hK := r.1.1
  have hP := r.1.2.1
  have hD := r.1.2.2.1
  have hS := r.2.1
  have hwl : ws.length = K.length := r.1.2.2.2.1
  have hA : ∀ q : Nat, s.heap.size ≤ q → xA base q := fun q h => Nat.le_trans hbase h
  have hcell : ∀ {k : Nat} {kd : (FieldType × Nat) ⊕ Nat}, K[k]? = some kd → ∃ a e, ws[k]? = some (a, e) ∧ Cr ws tys RR I L k kd e := fun {k kd} h => r.1.2.2.2.2.2 k kd h
  have hown1 : ∀ {k : Nat} {v' : Value} {kd : (FieldType × Nat) ⊕ Nat} {a1 : Nat} {e1 : va_E}, K[k]? = some kd → ws[k]? = some (a1, e1) → Vr ws cst (.ref k) v' → v' = .ref a1 := by
    intro k v' kd a1 e1 h1 h2 h3
    obtain ⟨a2, e2, h4, h5⟩ := r.1.own (List.getElem?_eq_some_iff.mp h1).1 h3
    rw [h2] at h4
    cases h4
    exact h5
  split at hst
  all_goals try (cases hst; done)
  -- new
  · rename_i ix
    split at hst
    · rename_i hc
      obtain ⟨hlt, ha11⟩ := hc
      obtain ⟨rfl, rfl, rfl, rfl⟩ := xs_inj hst
      simp only [lnkOk, Bool.and_eq_true, beq_iff_eq, decide_eq_true_eq] at hl
      obtain ⟨rfl, -, hw⟩ := hl
      have ha3 : a ≠ 3 := of_decide_eq_true hgs
      obtain ⟨rc, hrc⟩ := cls_ex ha11
      obtain ⟨q1, q2, q3, q4, q5, q6⟩ := cls_ok hrc
      obtain ⟨i1, i2⟩ := inst_ok ha11 ha3
      obtain ⟨rC, rT, rN⟩ := rc
      dsimp only at q1 q2 q3 q4 q5 q6
      refine ⟨1, clN a, by simp [xnew], by show sw (K ++ [.inr a]) = _; rw [sw_app]; rfl, fun hc1 hc2 kk => ?_⟩
      rw [q5] at hw i1 i2
      rw [q4] at i1 hc2 kk
      refine va_new hx hb hts q1 (clT a) q2 hown (hts _ (wu hw rfl)) (hts _ i1) (hts _ i2) hK hP hD hS hA hrc (fs := dfl a) (fun j hj => ?_) hc1 hc2 hd (fun q H1 hP1 hD1 hS1 => ?_)
      · unfold vp_V
        rw [List.getD_eq_getElem?_getD, dfl_at (by rw [q4]; exact hj)]
        rfl
      · refine kk H1 locs _ _ tys Ext.app (r.new (Wr.app r.1 hlt hK hP1 hD1 (fun _ _ h => h) ⟨rfl, ha11, by simp [dfl], fun j hj => ⟨_, dfl_at hj, ?_⟩⟩) hS1 hwl)
        rw [clrR_self, clrR_self, clrR_self]
        exact def_ok (tys_ok a ha11 j hj)
    · cases hst
  -- newarray int
  · rename_i x st1
    split at hst
    · rename_i hc
      obtain ⟨hlt, hx0, hx1⟩ := hc
      obtain ⟨rfl, rfl, rfl, rfl⟩ := xs_inj hst
      simp only [lnkOk, beq_iff_eq] at hl
      subst hl
      obtain ⟨sA, rfl, r1⟩ := r.int
      refine ⟨1, x.toNatClampNeg, by simp [xnew], by show sw (K ++ [.inl (.int, _)]) = _; rw [sw_app]; rfl, fun hc1 hc2 kk => ?_⟩
      refine va_newa hx hb (atype := .int) (hts _ arr_int) (ty := .int) rfl hK hP hD hS hA (N' := x.toNatClampNeg) (a0 := (x.toNatClampNeg, (.inl (fun _ => 0)))) (fun cA => rfl) hx0 rfl (by show x.toNatClampNeg * _ ≤ _; simp only [componentBytes]; omega) hc1 hc2 hd (fun q cA H1 hK1 hP1 hD1 hS1 => ?_)
      refine kk H1 locs _ _ _ Ext.app (r1.new (Wr.app r1.1 hlt hK1 hP1 hD1 tys_app ⟨rfl, ⟨_, tys_last⟩, _, rfl, fun j hj => ?_⟩) hS1 hwl)
      rw [clrR_self]
    · cases hst
  -- newarray long
  · rename_i x st1
    split at hst
    · rename_i hc
      obtain ⟨hlt, hx0, hx1⟩ := hc
      obtain ⟨rfl, rfl, rfl, rfl⟩ := xs_inj hst
      simp only [lnkOk, beq_iff_eq] at hl
      subst hl
      obtain ⟨sA, rfl, r1⟩ := r.int
      refine ⟨1, x.toNatClampNeg, by simp [xnew], by show sw (K ++ [.inl (.long, _)]) = _; rw [sw_app]; rfl, fun hc1 hc2 kk => ?_⟩
      refine va_newa hx hb (atype := .long) (hts _ arr_long) (ty := .long) rfl hK hP hD hS hA (N' := x.toNatClampNeg) (a0 := (x.toNatClampNeg, (.inr (.inl (fun _ => 0))))) (fun cA => rfl) hx0 rfl (by show x.toNatClampNeg * _ ≤ _; simp only [componentBytes]; omega) hc1 hc2 hd (fun q cA H1 hK1 hP1 hD1 hS1 => ?_)
      refine kk H1 locs _ _ _ Ext.app (r1.new (Wr.app r1.1 hlt hK1 hP1 hD1 tys_app ⟨rfl, ⟨_, tys_last⟩, _, rfl, fun j hj => ?_⟩) hS1 hwl)
      rw [clrR_self]
    · cases hst
  -- newarray boolean
  · rename_i x st1
    split at hst
    · rename_i hc
      obtain ⟨hlt, hx0, hx1⟩ := hc
      obtain ⟨rfl, rfl, rfl, rfl⟩ := xs_inj hst
      simp only [lnkOk, beq_iff_eq] at hl
      subst hl
      obtain ⟨sA, rfl, r1⟩ := r.int
      refine ⟨1, x.toNatClampNeg, by simp [xnew], by show sw (K ++ [.inl (.boolean, _)]) = _; rw [sw_app]; rfl, fun hc1 hc2 kk => ?_⟩
      refine va_newa hx hb (atype := .boolean) (hts _ arr_bool) (ty := .boolean) rfl hK hP hD hS hA (N' := x.toNatClampNeg) (a0 := (x.toNatClampNeg, (.inl (fun _ => 0)))) (fun cA => rfl) hx0 rfl (by show x.toNatClampNeg * _ ≤ _; simp only [componentBytes]; omega) hc1 hc2 hd (fun q cA H1 hK1 hP1 hD1 hS1 => ?_)
      refine kk H1 locs _ _ _ Ext.app (r1.new (Wr.app r1.1 hlt hK1 hP1 hD1 tys_app ⟨rfl, ⟨_, tys_last⟩, _, rfl, fun j hj => ?_⟩) hS1 hwl)
      rw [clrR_self]
    · cases hst
  -- anewarray
  · rename_i ix x st1
    split at hst
    · rename_i rc hrc
      split at hst
      · rename_i hc
        obtain ⟨hlt, hx0, hx1⟩ := hc
        obtain ⟨rfl, rfl, rfl, rfl⟩ := xs_inj hst
        simp only [lnkOk, Bool.and_eq_true, beq_iff_eq, decide_eq_true_eq] at hl
        obtain ⟨rfl, ha11, hw, ha⟩ := hl
        obtain ⟨q1, q2, q3, q4, q5, q6⟩ := cls_ok hrc
        obtain ⟨sA, rfl, r1⟩ := r.int
        have hov := over_ok ha
        rw [q5] at hw hov
        refine ⟨1, x.toNatClampNeg, by simp [xnew], by show sw (K ++ [.inl (.object rc.1, _)]) = _; rw [sw_app]; rfl, fun hc1 hc2 kk => ?_⟩
        refine va_newq hx hb hown (hts _ (wu hw rfl)) (va_AO.of (hts _ hov)) hK hP hD hS hA hx0 rfl (by omega) hc1 hc2 hd (fun q cA H1 hK1 hP1 hD1 hS1 => ?_)
        refine kk H1 locs _ _ _ Ext.app (r1.new (Wr.app r1.1 hlt hK1 hP1 hD1 tys_app ⟨rfl, ⟨_, tys_last⟩, _, rfl, fun j hj => ?_⟩) hS1 hwl)
        rw [clrR_self]
        rfl
      · cases hst
    · cases hst
  -- Object's constructor
  · rename_i ix k st1
    split at hst
    · rename_i hc
      obtain ⟨rfl, hsw, hkK⟩ := hc
      obtain ⟨rfl, rfl, rfl, rfl⟩ := xs_inj hst
      simp only [lnkOk, if_neg (show ¬ (21 : Nat) = 99 by decide), if_true, Bool.and_eq_true, beq_iff_eq] at hl
      obtain ⟨rfl, hw⟩ := hl
      obtain ⟨v', sA, rfl, hv, r1⟩ := r.pop
      obtain ⟨a1, e1, h1, rfl⟩ := r.1.own hkK hv
      have hsum := of_decide_eq_true hsw
      rw [← r1.2.2.2.1.sum] at hsum
      refine ⟨0, 0, rfl, rfl, fun _ _ kk => ?_⟩
      refine W.objInit hx hb hown (hts _ (wu hw rfl)) (hts _ obj_ok.1) (hts _ obj_ok.2) rfl (by rw [hml]; exact r.size) rfl hd hroom.1 ?_ ?_
      · show 2 * 0 + _ + 12 ≤ _
        have := hroom.2
        omega
      · exact kk H locs sA ws tys Ext.rf r1
    · cases hst
  -- arraycopy
  · rename_i ix z dp k1 sp k0 st1
    split at hst
    · rename_i t0 m0 t1 m1 hk0 hk1
      split at hst
      · rename_i hc
        obtain ⟨rfl, hsw, rfl, hsp, hdp, hz, hb0, hb1⟩ := hc
        simp only [lnkOk, if_neg (show ¬ (20 : Nat) = 99 by decide), if_true, Bool.and_eq_true, beq_iff_eq] at hl
        obtain ⟨rfl, hw⟩ := hl
        obtain ⟨sA1, rfl, r1⟩ := r.int
        obtain ⟨sA2, rfl, r2⟩ := r1.int
        obtain ⟨v1, sA3, rfl, hv1, r3⟩ := r2.pop
        obtain ⟨sA4, rfl, r4⟩ := r3.int
        obtain ⟨v0, sA, rfl, hv0, r5⟩ := r4.pop
        obtain ⟨a0, e0, g0, c00⟩ := hcell hk0
        obtain ⟨a1, e1, g1, c11⟩ := hcell hk1
        cases hown1 hk0 g0 hv0
        cases hown1 hk1 g1 hv1
        have hsum := of_decide_eq_true hsw
        rw [← r5.2.2.2.1.sum] at hsum
        have hnw : (sA.map fun v => v.category).sum + (nativeFrameWords "java/lang/System" "arraycopy" 5 + 11) ≤ R.locals := by
          have h1 : nativeFrameWords "java/lang/System" "arraycopy" 5 ≤ 40 := by decide +kernel
          have := hroom.2
          omega
        split at hst
        · obtain ⟨rfl, rfl, rfl, rfl⟩ := xs_inj hst
          refine ⟨0, 0, rfl, rfl, fun _ _ kk => ?_⟩
          match e0, g0, c00, e1, g1, c11 with
          | .inl (cA, n0, bd0), g0, c00, .inl (cB, n1, bd1), g1, c11 =>
            obtain ⟨rfl, ⟨ta, hta⟩, f, rfl, hf⟩ := c00
            obtain ⟨rfl, ⟨tb, htb⟩, g, rfl, hg⟩ := c11
            refine va_copyi hx hb (by rw [hml, r.size]) hown (hts _ (wu hw rfl)) (hts _ cpy_ok.1) (hts _ cpy_ok.2.1) (hts _ cpy_ok.2.2) hK hP hD hS k0 k1 ta tb g0 g1 hta htb rfl hsp hdp hz hb0 hb1 (fun _ _ => rfl) hroom.1 hnw hd (fun H1 locs1 hP1 hD1 hS1 => ?_)
            refine kk H1 locs1 sA _ tys (Ext.set g1) (r5.sto (Wr.upd r.1 g1 hP1 hD1 hk1 ⟨rfl, ⟨tb, htb⟩, _, rfl, fun j hj => ?_⟩ (fun _ _ => rfl) (fun q hq => cpyR_ne hq) (fun _ _ => rfl)) hS1 (Ext.set g1))
            unfold va_cpy cpyR
            by_cases hin : dp.toNatClampNeg ≤ j ∧ j < dp.toNatClampNeg + z.toNatClampNeg
            · rw [if_pos hin, if_pos ⟨rfl, hin⟩]
              exact hf _ (by omega)
            · rw [if_neg hin, if_neg (fun q => hin q.2)]
              exact hg _ hj
          | .inr _, _, c00, _, _, _ => exact c00.elim
          | .inl (_, _, _), _, _, .inr _, _, c11 => exact c11.elim
        · obtain ⟨rfl, rfl, rfl, rfl⟩ := xs_inj hst
          refine ⟨0, 0, rfl, rfl, fun _ _ kk => ?_⟩
          match e0, g0, c00, e1, g1, c11 with
          | .inl (cA, n0, bd0), g0, c00, .inl (cB, n1, bd1), g1, c11 =>
            obtain ⟨rfl, ⟨ta, hta⟩, f, rfl, hf⟩ := c00
            obtain ⟨rfl, ⟨tb, htb⟩, g, rfl, hg⟩ := c11
            refine va_copyl hx hb (by rw [hml, r.size]) hown (hts _ (wu hw rfl)) (hts _ cpy_ok.1) (hts _ cpy_ok.2.1) (hts _ cpy_ok.2.2) hK hP hD hS k0 k1 ta tb g0 g1 hta htb rfl hsp hdp hz hb0 hb1 (fun _ _ => rfl) hroom.1 hnw hd (fun H1 locs1 hP1 hD1 hS1 => ?_)
            refine kk H1 locs1 sA _ tys (Ext.set g1) (r5.sto (Wr.upd r.1 g1 hP1 hD1 hk1 ⟨rfl, ⟨tb, htb⟩, _, rfl, fun j hj => ?_⟩ (fun _ _ => rfl) (fun _ _ => rfl) (fun q hq => cpyR_ne hq)) hS1 (Ext.set g1))
            unfold va_cpy cpyR
            by_cases hin : dp.toNatClampNeg ≤ j ∧ j < dp.toNatClampNeg + z.toNatClampNeg
            · rw [if_pos hin, if_pos ⟨rfl, hin⟩]
              exact hf _ (by omega)
            · rw [if_neg hin, if_neg (fun q => hin q.2)]
              exact hg _ hj
          | .inr _, _, c00, _, _, _ => exact c00.elim
          | .inl (_, _, _), _, _, .inr _, _, c11 => exact c11.elim
        · cases hst
      · cases hst
    · cases hst
end SNN
