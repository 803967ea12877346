/-! What the small machine's values and cells say of the real ones. -/
def Vo (ws : va_W) (v v' : Value) : Prop := match v with
  | .ref n => ∃ a e, ws[n]? = some (a, e) ∧ v' = .ref a
  | _ => v' = v
def Vr (ws : va_W) (cst : Nat → Value) (v v' : Value) : Prop := match v with
  | .ref n => (∃ a e, ws[n]? = some (a, e) ∧ v' = .ref a) ∨ (1000000 ≤ n ∧ v' = cst n ∧ (v' = .null ∨ ∃ a, v' = .ref a))
  | _ => v' = v
def Sr (ws : va_W) (cst : Nat → Value) : List Value → List Value → Prop
  | [], [] => True
  | v :: s, v' :: s' => Vr ws cst v v' ∧ Sr ws cst s s'
  | _, _ => False
def Ext (ws ws' : va_W) : Prop := ∀ (k a : Nat) (e : va_E), ws[k]? = some (a, e) → ∃ e', ws'[k]? = some (a, e')
def Br (ws : va_W) (ty : FieldType) (n : Nat) (r : Nat → Option Nat) (i : Nat → Int32) (l : Nat → Int64) (b : (Nat → Int32) ⊕ (Nat → Int64) ⊕ (Nat → UInt32) ⊕ (Nat → UInt64) ⊕ (Nat → Option Nat)) : Prop := match ty with
  | .object _ => ∃ f, b = .inr (.inr (.inr (.inr f))) ∧ ∀ j, j < n → Vo ws (rfv (r j)) (va_rf (f j))
  | .long => ∃ f, b = .inr (.inl f) ∧ ∀ j, j < n → f j = l j
  | _ => ∃ f, b = .inl f ∧ ∀ j, j < n → f j = i j
def Cr (ws : va_W) (tys : List (ClassId × FieldType)) (R : Nat → Nat → Option Nat) (I : Nat → Nat → Int32) (L : Nat → Nat → Int64) (k : Nat) (kd : (FieldType × Nat) ⊕ Nat) (e : va_E) : Prop := match kd, e with
  | .inr ci, .inr (ci', fs) => ci' = ci ∧ ci < 11 ∧ fs.length = clN ci ∧ ∀ j, j < clN ci → ∃ v', fs[j]? = some v' ∧ Vo ws (fval (clT ci j) (R k j) (I k j) (L k j)) v'
  | .inl (ty, n), .inl (cA, n', b) => n' = n ∧ (∃ t0 : Nat, tys[t0]? = some (cA, ty)) ∧ Br ws ty n (R k) (I k) (L k) b
  | _, _ => False
def Wr (D : va_G) (U : State) (H : Heap) (A : Nat → Prop) (w : XW) (ws : va_W) (tys : List (ClassId × FieldType)) : Prop :=
  va_K D classes tys U ∧ va_P D classes ws H ∧ va_D A ws ∧ ws.length = w.1.length ∧ w.1.length ≤ 900000 ∧ ∀ (k : Nat) (kd : (FieldType × Nat) ⊕ Nat), w.1[k]? = some kd → ∃ a e, ws[k]? = some (a, e) ∧ Cr ws tys w.2.1 w.2.2.1 w.2.2.2 k kd e
/-- the words that a method uses: those that any list hands on, and three kinds that are handed on one by one -/
def isNest : Jvm.Cond → Bool
  | .methodLinkNest .. => true
  | .fieldLinkNest .. => true
  | .arrayOver (.object _) => true
  | _ => false
def useW (w : Jvm.Cond) : Bool := (k2_isCode w || goodWord w) || isNest w
def lw_use : List Jvm.Cond := lw_tbl.filter useW
def lw_gd : List Jvm.Cond := lw_tbl.filter (fun w => k2_isCode w || goodWord w)
theorem wu {p : Nat} {c : Jvm.Cond} (h : wd p c = true) (hu : useW c = true) : c ∈ lw_use := List.mem_filter.mpr ⟨wd_in h, hu⟩
def Nf (U : State) : Prop := ∀ w ∈ lw_tbl, isNest w = true → w.before #[] U = true
theorem Nf.go {s U : State} (h : Nf s) (hW : s.WarmedH U.vm) : Nf U := by
  intro w hw hn
  have h1 := h w hw hn
  unfold isNest at hn
  split at hn
  · exact va_Nw.warmM hW h1
  · exact va_Nw.warmF hW h1
  · exact va_AO.moved hW.alike h1
  · cases hn
theorem Nf.same {s U : State} (h : Nf s) (hv : U.vm = s.vm) : Nf U := by
  intro w hw hn
  have h1 := h w hw hn
  unfold isNest at hn
  split at hn
  · exact va_Nw.same rfl hv.symm h1
  · exact va_Nw.same rfl hv.symm h1
  · exact va_AO.moved (by rw [hv]; exact Vm.Alike.refl s.vm) h1
  · cases hn
theorem nest_args {w : Jvm.Cond} {A : Array Value} {U : State} (hn : isNest w = true) (h : w.before #[] U = true) : w.before A U = true := by
  unfold isNest at hn
  split at hn
  · exact va_Nw.use rfl h
  · exact va_Nw.use rfl h
  · exact h
  · cases hn
def xA (base : Nat) : Nat → Prop := fun q => base ≤ q
/-- what was there before the law began, and stays -/
def Gc (X : Nat × (Nat → Int32)) (cst : Nat → Value) (A : Nat → Prop) (U : State) (H : Heap) : Prop :=
  (∀ b, b < 3 → ∃ a, cst (1000040 + b) = .ref a ∧ va_Z (sttT b).1 (sttT b).2.1 (sttT b).2.2 (.ref a) A U H ∧ ∃ N f, cInts X (1000040 + b) = some (N, f) ∧ va_T .int a N (fun j => .int (f j)) A U H) ∧
  va_Z "java/lang/String" "COMPACT_STRINGS" "Z" (.int 1) A U H ∧
  ((cst 1000060 = .null ∨ ∃ t, cst 1000060 = .ref t) ∧ va_Z (sttT 20).1 (sttT 20).2.1 (sttT 20).2.2 (cst 1000060) A U H) ∧
  (∀ i, i < 8 → ∃ aK aV, cst (1000000 + i) = .ref aK ∧ cst (1000020 + i) = .ref aV ∧ vk_R "LeavesObject$Text" (strK i) (strT i) aK U ∧ va_O "java/lang/String" aK A U H ∧ va_OF "java/lang/String" "coder" "B" (.int 0) aK A U H ∧ va_OF "java/lang/String" "value" "[B" (.ref aV) aK A U H ∧ va_T .byte aV (strLen.getD i 0) (fun j => .int ((strByt.getD i []).getD j 0)) A U H) ∧
  (X.1 = 0 ∨ ∃ b, cst 1000050 = .ref b ∧ va_X b (X.1 - 1) X.2 U H ∧ b < H.size ∧ ¬ A b) ∧ Nf U
theorem Gc.go {X : Nat × (Nat → Int32)} {cst : Nat → Value} {A : Nat → Prop} {s U : State} {H0 H : Heap} {locs : List Loc} (h : Gc X cst A s H0) (hW : s.WarmedH U.vm) (hS : va_S A H0 H locs) : Gc X cst A U H := by
  obtain ⟨h1, h2, ⟨h3, h3'⟩, h4, h5, h9⟩ := h
  refine ⟨fun b hb => ?_, (va_Z.moved hW.alike h2).kept hS.2.1, ⟨h3, (va_Z.moved hW.alike h3').kept hS.2.1⟩, fun i hi => ?_, ?_, h9.go hW⟩
  · obtain ⟨a, q1, q2, N, f, q3, q4⟩ := h1 b hb
    exact ⟨a, q1, (va_Z.moved hW.alike q2).kept hS.2.1, N, f, q3, (va_T.moved hW.alike q4).kept hS.2.1⟩
  · obtain ⟨aK, aV, q1, q2, q3, q4, q5, q6, q7⟩ := h4 i hi
    exact ⟨aK, aV, q1, q2, q3.warm hW, (va_O.moved hW.alike q4).kept hS.2.1, (va_OF.moved hW.alike q5).kept hS.2.1, (va_OF.moved hW.alike q6).kept hS.2.1, (va_T.moved hW.alike q7).kept hS.2.1⟩
  · rcases h5 with h5 | ⟨b, h5, h6, h7, h8⟩
    · exact Or.inl h5
    · exact Or.inr ⟨b, h5, (va_X.moved hW.alike h6).kept (hS.2.1 b h7 h8), Nat.lt_of_lt_of_le h7 hS.1, h8⟩
theorem Gc.same {X : Nat × (Nat → Int32)} {cst : Nat → Value} {A : Nat → Prop} {s U : State} {H : Heap} (h : Gc X cst A s H) (hv : U.vm = s.vm) : Gc X cst A U H := by
  have ha : s.vm.Alike U.vm := by rw [hv]; exact Vm.Alike.refl s.vm
  obtain ⟨h1, h2, ⟨h3, h3'⟩, h4, h5, h9⟩ := h
  refine ⟨fun b hb => ?_, va_Z.moved ha h2, ⟨h3, va_Z.moved ha h3'⟩, fun i hi => ?_, ?_, h9.same hv⟩
  · obtain ⟨a, q1, q2, N, f, q3, q4⟩ := h1 b hb
    exact ⟨a, q1, va_Z.moved ha q2, N, f, q3, va_T.moved ha q4⟩
  · obtain ⟨aK, aV, q1, q2, q3, q4, q5, q6, q7⟩ := h4 i hi
    exact ⟨aK, aV, q1, q2, q3.same hv, va_O.moved ha q4, va_OF.moved ha q5, va_OF.moved ha q6, va_T.moved ha q7⟩
  · rcases h5 with h5 | ⟨b, h5, h6, h7, h8⟩
    · exact Or.inl h5
    · exact Or.inr ⟨b, h5, va_X.moved ha h6, h7, h8⟩
/-- without the script -/
theorem Gc.less {X : Nat × (Nat → Int32)} {cst : Nat → Value} {A : Nat → Prop} {s : State} {H : Heap} (h : Gc X cst A s H) (f : Nat → Int32) : Gc (0, f) cst A s H := by
  obtain ⟨h1, h2, h3, h4, h5, h9⟩ := h
  refine ⟨fun b hb => ?_, h2, h3, h4, Or.inl rfl, h9⟩
  obtain ⟨a, q1, q2, N, g, q3, q4⟩ := h1 b hb
  refine ⟨a, q1, q2, N, g, ?_, q4⟩
  match b, hb with
  | 0, _ => exact q3
  | 1, _ => exact q3
  | 2, _ => exact q3
  | b + 3, hb => omega
theorem Vo.r {ws : va_W} {cst : Nat → Value} {v v' : Value} (h : Vo ws v v') : Vr ws cst v v' := by
  cases v with
  | ref n => exact Or.inl h
  | _ => exact h
theorem Ext.rf {ws : va_W} : Ext ws ws := fun _ _ e h => ⟨e, h⟩
theorem Ext.tr {a b c : va_W} (h1 : Ext a b) (h2 : Ext b c) : Ext a c := fun k q e h => by
  obtain ⟨e1, h3⟩ := h1 k q e h
  exact h2 k q e1 h3
theorem Ext.app {ws : va_W} {q : Nat × va_E} : Ext ws (ws ++ [q]) := fun k a e h => ⟨e, by rw [List.getElem?_append_left (List.getElem?_eq_some_iff.mp h).1]; exact h⟩
theorem Ext.set {ws : va_W} {k a : Nat} {e e' : va_E} (h : ws[k]? = some (a, e)) : Ext ws (ws.set k (a, e')) := fun j b e1 h1 => by
  by_cases hj : k = j
  · subst hj
    rw [h] at h1
    cases h1
    exact ⟨e', List.getElem?_set_self (List.getElem?_eq_some_iff.mp h).1⟩
  · exact ⟨e1, by rw [List.getElem?_set_ne hj]; exact h1⟩
theorem Vo.mono {a b : va_W} (h : Ext a b) {v v' : Value} (hv : Vo a v v') : Vo b v v' := by
  cases v with
  | ref n =>
    obtain ⟨q, e, h1, h2⟩ := hv
    obtain ⟨e', h3⟩ := h n q e h1
    exact ⟨q, e', h3, h2⟩
  | _ => exact hv
theorem Vr.mono {a b : va_W} (h : Ext a b) {cst : Nat → Value} {v v' : Value} (hv : Vr a cst v v') : Vr b cst v v' := by
  cases v with
  | ref n =>
    rcases hv with ⟨q, e, h1, h2⟩ | hv
    · obtain ⟨e', h3⟩ := h n q e h1
      exact Or.inl ⟨q, e', h3, h2⟩
    · exact Or.inr hv
  | _ => exact hv
theorem Sr.mono {a b : va_W} (h : Ext a b) {cst : Nat → Value} : ∀ {s s' : List Value}, Sr a cst s s' → Sr b cst s s'
  | [], [], _ => trivial
  | _ :: _, _ :: _, hs => ⟨hs.1.mono h, Sr.mono h hs.2⟩
theorem Br.mono {a b : va_W} (h : Ext a b) {ty : FieldType} {n : Nat} {r : Nat → Option Nat} {i : Nat → Int32} {l : Nat → Int64} {x : (Nat → Int32) ⊕ (Nat → Int64) ⊕ (Nat → UInt32) ⊕ (Nat → UInt64) ⊕ (Nat → Option Nat)} (hb : Br a ty n r i l x) : Br b ty n r i l x := by
  cases ty with
  | object C =>
    obtain ⟨f, h1, h2⟩ := hb
    exact ⟨f, h1, fun j hj => (h2 j hj).mono h⟩
  | _ => exact hb
theorem Cr.mono {a b : va_W} (h : Ext a b) {tys tys' : List (ClassId × FieldType)} (ht : ∀ (t0 : Nat) (q : ClassId × FieldType), tys[t0]? = some q → ∃ t1 : Nat, tys'[t1]? = some q) {R : Nat → Nat → Option Nat} {I : Nat → Nat → Int32} {L : Nat → Nat → Int64} {k : Nat} {kd : (FieldType × Nat) ⊕ Nat} {e : va_E} (hc : Cr a tys R I L k kd e) : Cr b tys' R I L k kd e := by
  match kd, e, hc with
  | .inr ci, .inr (ci', fs), hc =>
    obtain ⟨h1, h0, h2, h3⟩ := hc
    refine ⟨h1, h0, h2, fun j hj => ?_⟩
    obtain ⟨v', h4, h5⟩ := h3 j hj
    exact ⟨v', h4, h5.mono h⟩
  | .inl (ty, n), .inl (cA, n', x), hc =>
    obtain ⟨h1, ⟨t0, h2⟩, h3⟩ := hc
    obtain ⟨t1, h4⟩ := ht t0 _ h2
    exact ⟨h1, ⟨t1, h4⟩, h3.mono h⟩
  | .inl (_, _), .inr (_, _), hc => exact hc.elim
  | .inr _, .inl (_, _, _), hc => exact hc.elim
theorem Vr.cat {ws : va_W} {cst : Nat → Value} {v v' : Value} (h : Vr ws cst v v') : v'.category = v.category := by
  cases v with
  | ref n =>
    rcases h with ⟨a, e, -, rfl⟩ | ⟨-, -, rfl | ⟨a, rfl⟩⟩ <;> rfl
  | _ => exact congrArg _ h
theorem Sr.cons {ws : va_W} {cst : Nat → Value} {v : Value} {st stA : List Value} (h : Sr ws cst (v :: st) stA) : ∃ v' stA', stA = v' :: stA' ∧ Vr ws cst v v' ∧ Sr ws cst st stA' := by
  cases stA with
  | nil => exact h.elim
  | cons v' s => exact ⟨v', s, rfl, h.1, h.2⟩
theorem Sr.nil {ws : va_W} {cst : Nat → Value} {stA : List Value} (h : Sr ws cst [] stA) : stA = [] := by
  cases stA with
  | nil => rfl
  | cons v' s => exact h.elim
theorem Sr.sum {ws : va_W} {cst : Nat → Value} : ∀ {s s' : List Value}, Sr ws cst s s' → (s'.map fun v => v.category).sum = (s.map fun v => v.category).sum
  | [], [], _ => rfl
  | _ :: _, _ :: _, h => by simp only [List.map_cons, List.sum_cons]; rw [h.1.cat, Sr.sum h.2]
theorem Sr.len {ws : va_W} {cst : Nat → Value} : ∀ {s s' : List Value}, Sr ws cst s s' → s'.length = s.length
  | [], [], _ => rfl
  | _ :: _, _ :: _, h => by simp only [List.length_cons]; rw [Sr.len h.2]
theorem Sr.app {ws : va_W} {cst : Nat → Value} : ∀ {s s' t t' : List Value}, Sr ws cst s s' → Sr ws cst t t' → Sr ws cst (s ++ t) (s' ++ t')
  | [], [], _, _, _, h => h
  | _ :: _, _ :: _, _, _, h, h2 => ⟨h.1, Sr.app h.2 h2⟩
theorem Sr.take {ws : va_W} {cst : Nat → Value} : ∀ (n : Nat) {s s' : List Value}, Sr ws cst s s' → Sr ws cst (s.take n) (s'.take n)
  | 0, _, _, _ => by simp only [List.take_zero]; trivial
  | _ + 1, [], [], _ => trivial
  | n + 1, _ :: _, _ :: _, h => ⟨h.1, Sr.take n h.2⟩
theorem Sr.drop {ws : va_W} {cst : Nat → Value} : ∀ (n : Nat) {s s' : List Value}, Sr ws cst s s' → Sr ws cst (s.drop n) (s'.drop n)
  | 0, _, _, h => h
  | _ + 1, [], [], _ => trivial
  | n + 1, _ :: _, _ :: _, h => Sr.drop n h.2
theorem Sr.rev {ws : va_W} {cst : Nat → Value} : ∀ {s s' : List Value}, Sr ws cst s s' → Sr ws cst s.reverse s'.reverse
  | [], [], _ => trivial
  | _ :: _, _ :: _, h => by
    simp only [List.reverse_cons]
    exact Sr.app (Sr.rev h.2) ⟨h.1, trivial⟩
/-- locals -/
def Lr (ws : va_W) (cst : Nat → Value) (ls : XL) (lsA : Array Slot) : Prop := ∃ lm : List (Nat × Value), lv_has lsA ls.length lm ∧ ∀ (j : Nat) (u : Value), ls[j]? = some (some u) → ∃ u', (j, u') ∈ lm ∧ Vr ws cst u u'
theorem Lr.mono {a b : va_W} (h : Ext a b) {cst : Nat → Value} {ls : XL} {lsA : Array Slot} (hl : Lr a cst ls lsA) : Lr b cst ls lsA := by
  obtain ⟨lm, h1, h2⟩ := hl
  refine ⟨lm, h1, fun j u hj => ?_⟩
  obtain ⟨u', h3, h4⟩ := h2 j u hj
  exact ⟨u', h3, h4.mono h⟩
theorem Lr.get {ws : va_W} {cst : Nat → Value} {ls : XL} {lsA : Array Slot} (hl : Lr ws cst ls lsA) {i : Nat} {v : Value} (h : lget ls i = some v) : ∃ v', lsA[i]? = some (.val v') ∧ Vr ws cst v v' := by
  obtain ⟨lm, h1, h2⟩ := hl
  have hi : ls[i]? = some (some v) := by
    unfold lget at h
    split at h
    · cases h; assumption
    · cases h
  obtain ⟨u', h3, h4⟩ := h2 i v hi
  exact ⟨u', h1.2.2 _ h3, h4⟩
theorem lclr_len (ls : XL) (i : Nat) : (lclr ls i).length = ls.length := by
  cases i with
  | zero => rfl
  | succ i =>
    simp only [lclr]
    split <;> first | rfl | exact List.length_set
theorem lclr_get {ls : XL} {i j : Nat} {u : Value} (h : (lclr ls i)[j]? = some (some u)) : ls[j]? = some (some u) ∧ ¬ (j + 1 = i ∧ u.category = 2) := by
  cases i with
  | zero => exact ⟨h, fun q => by omega⟩
  | succ i =>
    simp only [lclr] at h
    by_cases hj : j = i
    · subst hj
      split at h
      · rw [List.getElem?_set] at h
        simp at h
      · rw [List.getElem?_set] at h
        simp at h
      · rename_i h1 h2
        refine ⟨h, fun q => ?_⟩
        cases u with
        | long x => exact h1 _ h
        | double x => exact h2 _ h
        | _ => exact absurd q.2 (by simp [Value.category])
    · have e : ∀ z : XL, z = ls ∨ z = ls.set i none → z[j]? = some (some u) → ls[j]? = some (some u) := by
        intro z hz hq
        rcases hz with rfl | rfl
        · exact hq
        · rw [List.getElem?_set_ne (fun q => hj q.symm)] at hq
          exact hq
      refine ⟨?_, fun q => hj (by omega)⟩
      split at h
      · exact e _ (Or.inr rfl) h
      · exact e _ (Or.inr rfl) h
      · exact h
theorem Lr.set1 {ws : va_W} {cst : Nat → Value} {ls : XL} {lm : List (Nat × Value)} {lsA' : Array Slot} {i : Nat} {v v' : Value} (hrel : ∀ (j : Nat) (u : Value), ls[j]? = some (some u) → ∃ u', (j, u') ∈ lm ∧ Vr ws cst u u') (hi : i < ls.length) (hv : Vr ws cst v v')
    (h : lv_has lsA' ls.length ((i, v') :: lm.filter (fun q => !(q.1 == i) && !(q.1 + 1 == i && q.2.category == 2)))) : Lr ws cst (lset1 ls i v) lsA' := by
  refine ⟨_, by unfold lset1; rw [List.length_set, lclr_len]; exact h, fun j u hj => ?_⟩
  unfold lset1 at hj
  by_cases hji : j = i
  · subst hji
    rw [List.getElem?_set_self (by rw [lclr_len]; exact hi)] at hj
    cases hj
    exact ⟨v', List.mem_cons_self, hv⟩
  · rw [List.getElem?_set_ne (fun q => hji q.symm)] at hj
    obtain ⟨h1, h2⟩ := lclr_get hj
    obtain ⟨u', h3, h4⟩ := hrel j u h1
    refine ⟨u', List.mem_cons_of_mem _ (List.mem_filter.mpr ⟨h3, ?_⟩), h4⟩
    have hc := h4.cat
    simp only [Bool.and_eq_true, Bool.not_eq_true', beq_eq_false_iff_ne, Bool.and_eq_false_iff, ne_eq]
    refine ⟨hji, ?_⟩
    by_cases hq : j + 1 = i
    · right
      rw [hc]
      exact fun q => h2 ⟨hq, q⟩
    · left
      exact hq
theorem Lr.set2 {ws : va_W} {cst : Nat → Value} {ls : XL} {lm : List (Nat × Value)} {lsA' : Array Slot} {i : Nat} {v v' : Value} (hrel : ∀ (j : Nat) (u : Value), ls[j]? = some (some u) → ∃ u', (j, u') ∈ lm ∧ Vr ws cst u u') (hi : i + 1 < ls.length) (hv : Vr ws cst v v')
    (h : lv_has lsA' ls.length ((i, v') :: lm.filter (fun q => !(q.1 == i) && (!(q.1 == i + 1) && !(q.1 + 1 == i && q.2.category == 2))))) : Lr ws cst (lset2 ls i v) lsA' := by
  refine ⟨_, by unfold lset2; rw [List.length_set, List.length_set, lclr_len]; exact h, fun j u hj => ?_⟩
  unfold lset2 at hj
  by_cases hj2 : j = i + 1
  · subst hj2
    rw [List.getElem?_set_self (by rw [List.length_set, lclr_len]; exact hi)] at hj
    cases hj
  · rw [List.getElem?_set_ne (fun q => hj2 q.symm)] at hj
    by_cases hji : j = i
    · subst hji
      rw [List.getElem?_set_self (by rw [lclr_len]; omega)] at hj
      cases hj
      exact ⟨v', List.mem_cons_self, hv⟩
    · rw [List.getElem?_set_ne (fun q => hji q.symm)] at hj
      obtain ⟨h1, h2⟩ := lclr_get hj
      obtain ⟨u', h3, h4⟩ := hrel j u h1
      refine ⟨u', List.mem_cons_of_mem _ (List.mem_filter.mpr ⟨h3, ?_⟩), h4⟩
      have hc := h4.cat
      simp only [Bool.and_eq_true, Bool.not_eq_true', beq_eq_false_iff_ne, Bool.and_eq_false_iff, ne_eq]
      refine ⟨hji, hj2, ?_⟩
      by_cases hq : j + 1 = i
      · right
        rw [hc]
        exact fun q => h2 ⟨hq, q⟩
      · left
        exact hq
theorem xs_inj {a a' : Nat} {b b' : XL} {c c' : List Value} {d d' : XW} (h : some (a, b, c, d) = some (a', b', c', d')) : a = a' ∧ b = b' ∧ c = c' ∧ d = d' := by
  cases h
  exact ⟨rfl, rfl, rfl, rfl⟩
theorem cdx_mem {cd : List XE} {pc : Nat} {e : XE} (h : cdx cd pc = some e) : e.1 = pc ∧ e ∈ cd := by
  induction cd with
  | nil => cases h
  | cons q cd ih =>
    unfold cdx at h
    split at h
    · cases h
      exact ⟨by assumption, List.mem_cons_self⟩
    · obtain ⟨h1, h2⟩ := ih h
      exact ⟨h1, List.mem_cons_of_mem _ h2⟩
theorem lsw_ok {pc : Nat} : ∀ {ps : List (Int × Int)} {t : List (Int × Nat)} {d : Int} {a : Nat} {x : Int}, lswOk pc ps t = true → (pc : Int) + d = (a : Int) → (pc : Int) + Op.lookupswitch.offset ps d x = (swT t a x : Int)
  | [], [], d, a, x, _, h => h
  | o :: os, q :: ts, d, a, x, h, hd => by
    obtain ⟨o1, o2⟩ := o
    simp only [lswOk, Bool.and_eq_true, decide_eq_true_eq] at h
    rw [Op.lookupswitch.offset_cons]
    unfold swT
    by_cases hx : o1 = x
    · rw [if_pos hx, if_pos (by rw [← h.1, hx])]
      exact h.2.1
    · rw [if_neg hx, if_neg (by rw [← h.1]; exact fun q => hx q.symm)]
      exact lsw_ok h.2.2 hd
theorem tsw_ok {pc : Nat} : ∀ {os : List Int} {t : List (Int × Nat)} {lo : Int} {a : Nat} {x : Int}, tswOk pc lo os t = true → ((x < lo ∨ lo + os.length ≤ x) → swT t a x = a) ∧ (lo ≤ x → x < lo + os.length → ∃ off, os[(x - lo).toNat]? = some off ∧ (pc : Int) + off = (swT t a x : Int))
  | [], [], lo, a, x, _ => ⟨fun _ => rfl, fun h1 h2 => by simp at h2; omega⟩
  | o :: os, q :: ts, lo, a, x, h => by
    simp only [tswOk, Bool.and_eq_true, decide_eq_true_eq] at h
    have ih := tsw_ok (a := a) (x := x) h.2.2
    unfold swT
    simp only [List.length_cons, Int.natCast_add, Int.cast_ofNat_Int]
    refine ⟨fun hx => ?_, fun h1 h2 => ?_⟩
    · rw [if_neg (by rw [h.1]; omega)]
      exact ih.1 (by omega)
    · by_cases hx : x = lo
      · rw [if_pos (by rw [h.1]; exact hx)]
        subst hx
        exact ⟨o, by simp, h.2.1⟩
      · rw [if_neg (by rw [h.1]; exact hx)]
        obtain ⟨off, h3, h4⟩ := ih.2 (by omega) (by omega)
        refine ⟨off, ?_, h4⟩
        rw [show (x - lo).toNat = (x - (lo + 1)).toNat + 1 by omega, List.getElem?_cons_succ]
        exact h3
