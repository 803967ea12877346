/-! Calls, and whole methods: what the small machine answers, the real one answers. -/
theorem good_all : ∀ w ∈ lw_gd, w ∈ lw_use ∧ ((w.onTables && w.keeps) = true ∨ ∃ ty, w = .arrayClass ty) := by
  intro w hw
  obtain ⟨h1, h2⟩ := List.mem_filter.mp hw
  refine ⟨List.mem_filter.mpr ⟨h1, by unfold useW; rw [h2]; rfl⟩, ?_⟩
  rcases Bool.or_eq_true _ _ ▸ h2 with h3 | h3
  · cases w <;> first | (simp [k2_isCode] at h3; done) | exact Or.inl rfl
  · exact good_of_word h3
def rmd (d mc ms : Nat) : Room := { frames := d + 1, cells := mc, slots := ms, locals := 60 + 60 * d }
def mW (mi : MI) : List Jvm.Cond := .code (mY mi) (mB mi) (mL mi) (mR mi) :: lw_gd
def Rr (ws : va_W) (cst : Nat → Value) (r r' : Option Value) : Prop := match r, r' with
  | none, none => True
  | some v, some v' => Vr ws cst v v'
  | _, _ => False
def xPc (X : Nat × (Nat → Int32)) (cst : Nat → Value) (base : Nat) (D : va_G) (w : XW) (ws : va_W) (tys : List (ClassId × FieldType)) (avs : List Value) : Array Value → State → Prop :=
  va_Pc avs (fun U => base ≤ U.heap.size ∧ Wr D U U.heap (xA base) w ws tys ∧ Gc X cst (xA base) U U.heap)
def xQc (cst : Nat → Value) (base : Nat) (D : va_G) (r : Option Value) (w' : XW) (ws : va_W) : Array Value → State → Outcome → State → Prop := fun _ st oc t =>
  (∃ r' ws' tys', oc = .returned r' ∧ Rr ws' cst r r' ∧ Ext ws ws' ∧ Wr D t t.heap (xA base) w' ws' tys') ∧ va_F (xA base) st t
theorem Wr.moved {D : va_G} {U U' : State} {H : Heap} {A : Nat → Prop} {w : XW} {ws : va_W} {tys : List (ClassId × FieldType)} (h : Wr D U H A w ws tys) (hv : U.vm.Alike U'.vm) : Wr D U' H A w ws tys := ⟨va_K.moved hv h.1, h.2⟩
/-- what is checked of a method of the table -/
theorem mok {mj : MI} (h : mOk mj = true) : Jvm.Cond.code (mY mj) (mB mj) (mL mj) (mR mj) ∈ lw_use ∧ Jvm.Cond.initialized (mY mj).cls ∈ lw_use ∧ ((mP mj)[3]? ≠ some 9999 → Jvm.Cond.instanceMethod (mY mj) ∈ lw_use ∧ Jvm.Cond.selects (mY mj).cls (mY mj) (mY mj) ∈ lw_use) ∧ mL mj ≤ 20 ∧ plainFor (mY mj) = true ∧ ((mY mj).cls ≠ "java/lang/invoke/MethodHandle" ∧ (mY mj).cls ≠ "java/lang/invoke/VarHandle") ∧ (parseMethodDescriptor (mY mj).desc).map (fun d => d.parameters.length) = some (mN mj) := by
  unfold mOk at h
  split at h
  · rename_i pc pi ps pv hp
    simp only [Bool.and_eq_true, decide_eq_true_eq] at h
    obtain ⟨h1, h2, h3, h4, h5, h6, h7⟩ := h
    refine ⟨wu h1 rfl, wu h2 rfl, fun hne => ?_, h4, h5, h6, h7⟩
    rw [hp] at hne
    rw [if_neg (fun z => hne (by rw [z]; rfl))] at h3
    simp only [Bool.and_eq_true] at h3
    exact ⟨wu h3.1 rfl, wu h3.2 rfl⟩
  · cases h
section SNC
variable {X : Nat × (Nat → Int32)} {cst : Nat → Value} {base : Nat} {D : va_G} {mi : MI} {p : Program} {l : Launch} {e : Env} {R : Room} {s : State} {m : MethodId} {args : Array Value} {below : List Frame} {meth : Method} {c : Code} {Q : State → Prop}
variable {w w' : XW} {ls ls' : XL} {st st' : List Value} {H : Heap} {locs : List Loc} {lsA : Array Slot} {stA : List Value} {ws : va_W} {tys : List (ClassId × FieldType)} {cells slots pc pc' : Nat}
theorem xcall {mc ms : Nat} {r : Option Value} {st0 rest : List Value} {a : Array Value} (hr : va_Run p l e R s m args below meth c H locs cells slots mc ms (F0 m pc lsA st0) rest (xQc cst base D r w' ws a) (xA base)) (hS : va_S (xA base) s.heap H locs)
    (kk : ∀ (r' : Option Value) (ws' : va_W) (tys' : List (ClassId × FieldType)) (H1 : Heap) (locs1 : List Loc), Rr ws' cst r r' → Ext ws ws' → Wr D s H1 (xA base) w' ws' tys' → va_S (xA base) s.heap H1 locs1 → W p l e R s m args below meth c H1 locs1 (cells + mc) (slots + ms) Q (F0 m (pc + 3) lsA (r'.toList ++ rest))) : W p l e R s m args below meth c H locs cells slots Q (F0 m pc lsA st0) := by
  intro T hT X1
  obtain ⟨v, st₀, t, T', L, h0, X', hL, e1, e2, ⟨⟨r', ws', tys', hv, hp, hE, hW⟩, hz, hk⟩, st⟩ := hr T hT X1
  cases hv
  rw [h0] at hz hk
  have hal : s.vm.Alike t.vm := by rw [← e2]; exact X'.warmed.alike
  obtain ⟨t2, a1, b1⟩ := kk v ws' tys' T'.heap (locs ++ L) hp hE (by rw [e1]; exact hW.moved hal.symm)
    ⟨Nat.le_trans hS.1 (by rw [e1]; exact hz), fun q h1 h2 => by rw [e1, hk q (Nat.lt_of_lt_of_le h1 hS.1) h2]; exact hS.2.1 q h1 h2, fun q hq => by
      rcases List.mem_append.mp hq with h | h
      · exact hS.2.2 q h
      · exact hL q h⟩ T' rfl X'
  exact ⟨t2, st t2 a1, b1⟩
/-- all runs of at most n steps, d calls deep -/
def Snd (X : Nat × (Nat → Int32)) (n d : Nat) : Prop :=
  ∀ (mi : MI) (pc : Nat) (ls : XL) (st : List Value) (w : XW) (r : Option Value) (w' : XW), exec X n d mi pc ls st w = some (r, w') →
  ∀ (cst : Nat → Value) (base : Nat) (D : va_G) (p : Program) (l : Launch) (e : Env) (R : Room) (s : State) (m : MethodId) (args : Array Value) (below : List Frame) (meth : Method) (c : Code) (Q : State → Prop) (H : Heap) (locs : List Loc) (lsA : Array Slot) (stA : List Value) (ws : va_W) (tys : List (ClassId × FieldType)) (cells slots dc ds : Nat),
  Fx X cst base mi p s m args meth c → FR cst base D mi s w ls st H locs lsA stA ws tys → d + 1 ≤ R.frames → 60 + 60 * d ≤ R.locals → w'.1.length = w.1.length + dc → sw w'.1 = sw w.1 + ds → cells + dc ≤ R.cells → slots + ds ≤ R.slots →
  (∀ (pc1 : Nat) (en : XE) (ls1 : XL) (st1 : List Value) (lsA1 : Array Slot) (stA1 : List Value) (H1 : Heap) (locs1 : List Loc) (ws1 : va_W) (tys1 : List (ClassId × FieldType)), cdx (mC mi) pc1 = some en → grp en = 5 → rtn (mR mi) en st1 = some r → Ext ws ws1 → FR cst base D mi s w' ls1 st1 H1 locs1 lsA1 stA1 ws1 tys1 → W p l e R s m args below meth c H1 locs1 (cells + dc) (slots + ds) Q (F0 m pc1 lsA1 stA1)) →
  W p l e R s m args below meth c H locs cells slots Q (F0 m pc lsA stA)
theorem fits_nar {ty : FieldType} {x : Int32} (h : fits ty (.int x) = true) : narrow ty (.int x) = .int x := by
  cases ty with
  | boolean => exact nar_int rfl h
  | byte =>
    simp only [fits, Bool.and_eq_true, decide_eq_true_eq] at h
    show Value.int _ = _
    rw [Value.int.injEq]
    exact Int32.toInt_inj.mp (by
      have h1 := Int32.le_iff_toInt_le.mp h.1
      have h2 := Int32.le_iff_toInt_le.mp h.2
      rw [Int8.toInt_toInt32, Int32.toInt_toInt8]
      have e1 : (-128 : Int32).toInt = -128 := by decide
      have e2 : (127 : Int32).toInt = 127 := by decide
      rw [e1] at h1
      rw [e2] at h2
      rw [Int.bmod_def]
      split <;> omega)
  | char =>
    simp only [fits, Bool.and_eq_true, decide_eq_true_eq] at h
    show Value.int _ = _
    rw [Value.int.injEq]
    have h1 := Int32.le_iff_toInt_le.mp h.1
    have h2 := Int32.le_iff_toInt_le.mp h.2
    have e1 : (0 : Int32).toInt = 0 := by decide
    have e2 : (65535 : Int32).toInt = 65535 := by decide
    rw [e1] at h1
    rw [e2] at h2
    obtain ⟨j, hj, rfl⟩ := nI_of (x := x) (by
      intro q
      have := Int32.lt_iff_toInt_lt.mp q
      rw [e1] at this
      omega)
    rw [nI_toInt hj] at h2
    have h3 := (pk_charN (q := j) (by omega)).1
    exact Value.int.inj h3
  | short =>
    simp only [fits, Bool.and_eq_true, decide_eq_true_eq] at h
    show Value.int _ = _
    rw [Value.int.injEq]
    exact Int32.toInt_inj.mp (by
      have h1 := Int32.le_iff_toInt_le.mp h.1
      have h2 := Int32.le_iff_toInt_le.mp h.2
      rw [Int16.toInt_toInt32, Int32.toInt_toInt16]
      have e1 : (-32768 : Int32).toInt = -32768 := by decide
      have e2 : (32767 : Int32).toInt = 32767 := by decide
      rw [e1] at h1
      rw [e2] at h2
      rw [Int.bmod_def]
      split <;> omega)
  | _ => first | rfl | (simp [fits] at h)
theorem blind (av : List Value) : FrameBlind (xPc X cst base D w ws tys av) := fun a U g mk q => by
  obtain ⟨q0, q1, q2, q3⟩ := q
  exact ⟨q0, q1, q2.moved (U' := U.calling g mk a) (Vm.Alike.refl U.vm), q3.same rfl⟩
theorem entL_len : ∀ (vs : List Value), (entL vs).length = (lg_sl vs).length
  | [] => rfl
  | v :: vs => by
    unfold entL lg_sl
    rw [List.flatMap_cons, List.length_append]
    have ih := entL_len vs
    unfold lg_sl at ih
    split <;> simp [ih] <;> omega
theorem ent_rel : ∀ (vs avs : List Value) (i : Nat), Sr ws cst vs avs → ∀ (j : Nat) (u : Value), (entL vs)[j]? = some (some u) → ∃ u', (i + j, u') ∈ lv_args i avs ∧ Vr ws cst u u'
  | [], [], _, _, j, u, h => by simp [entL] at h
  | v :: vs, v' :: avs, i, hs, j, u, h => by
    have hc := hs.1.cat
    unfold entL at h
    unfold lv_args
    by_cases h2 : v.category = 2
    · rw [if_pos h2] at h
      rw [if_pos (hc.trans h2)]
      match j, h with
      | 0, h => cases h; exact ⟨v', List.mem_cons_self, hs.1⟩
      | 1, h => cases h
      | j + 2, h =>
        obtain ⟨u', h3, h4⟩ := ent_rel vs avs (i + 2) hs.2 j u h
        exact ⟨u', List.mem_cons_of_mem _ (by rw [show i + (j + 2) = i + 2 + j by omega]; exact h3), h4⟩
    · rw [if_neg h2] at h
      rw [if_neg (fun z => h2 (hc.symm.trans z))]
      match j, h with
      | 0, h => cases h; exact ⟨v', List.mem_cons_self, hs.1⟩
      | j + 1, h =>
        obtain ⟨u', h3, h4⟩ := ent_rel vs avs (i + 1) hs.2 j u h
        exact ⟨u', List.mem_cons_of_mem _ (by rw [show i + (j + 1) = i + 1 + j by omega]; exact h3), h4⟩
theorem lg_len : ∀ {vs avs : List Value}, Sr ws cst vs avs → (lg_sl avs).length = (lg_sl vs).length
  | [], [], _ => rfl
  | v :: vs, v' :: avs, hs => by
    have ih := lg_len hs.2
    unfold lg_sl at ih ⊢
    rw [List.flatMap_cons, List.flatMap_cons, List.length_append, List.length_append, ih, hs.1.cat]
    split <;> rfl
theorem ent_Lr {n : Nat} {vs avs : List Value} (hs : Sr ws cst vs avs) (hn : (entL vs).length ≤ n) : Lr ws cst (entX n vs) ((lg_sl avs ++ List.replicate (n - (lg_sl avs).length) Slot.unset).toArray) ∧ (entX n vs).length = n := by
  have hlen : (entX n vs).length = n := by
    unfold entX
    rw [List.length_append, List.length_replicate]
    omega
  have h1 : (lg_sl avs).length ≤ n := by rw [lg_len hs, ← entL_len]; exact hn
  refine ⟨⟨lv_args 0 avs, by rw [hlen]; exact lv_entry avs h1, fun j u hj => ?_⟩, hlen⟩
  unfold entX at hj
  by_cases hjl : j < (entL vs).length
  · rw [List.getElem?_append_left hjl] at hj
    obtain ⟨u', h3, h4⟩ := ent_rel vs avs 0 hs j u hj
    rw [Nat.zero_add] at h3
    exact ⟨u', h3, h4⟩
  · rw [List.getElem?_append_right (by omega), List.getElem?_replicate] at hj
    split at hj <;> cases hj
set_option maxHeartbeats 4000000 in
theorem met_of {n d : Nat} (ih : Snd X n d) {mj : MI} (hok : (mOk mj && (mC mj).all (eOk (mY mj) (mB mj))) = true) (hgs : (mC mj).all gsOk = true) {vs avs : List Value} {r : Option Value} (hex : exec X n d mj 0 (entX (mL mj) vs) [] w = some (r, w')) (hlen : (entL vs).length ≤ mL mj) (hs : Sr ws cst vs avs) {dc ds : Nat} (hdc : w'.1.length = w.1.length + dc) (hds : sw w'.1 = sw w.1 + ds) :
    Met l (mY mj) (mW mj) (rmd d dc ds) (xPc X cst base D w ws tys avs) (xQc cst base D r w' ws) dc ds (xA base) := by
  rw [Bool.and_eq_true] at hok
  obtain ⟨m1, m2, m3, m4, m5, m6, m7⟩ := mok hok.1
  refine va_MetF (cc := mB mj) (maxL := mL mj) (ret := mR mj) m5 rfl ?_
  intro p e s m args below meth c s₁ B hml hv
  obtain ⟨rfl, hbase, hW, hG⟩ := hv
  have hts : ∀ w ∈ mW mj, w.before avs.toArray s = true := atoms_spec (ws := mW mj) B.pre
  have F : Fx X cst base mj p s m avs.toArray meth c := ⟨B.exec, B.bytes, B.returns, hml, findClass_of_methodNamed B.named, fun w hw => by
    obtain ⟨h1, h2⟩ := List.mem_filter.mp hw
    by_cases h3 : (k2_isCode w || goodWord w) = true
    · exact hts w (List.mem_cons_of_mem _ (List.mem_filter.mpr ⟨h1, h3⟩))
    · unfold useW at h2
      rw [Bool.not_eq_true] at h3
      rw [h3, Bool.false_or] at h2
      exact nest_args h2 (hG.2.2.2.2.2 w h1 h2), B.notSynchronized, hbase, hG, hok.2, fun h => by rw [← h]; exact (name_of_methodNamed B.named B.method).1, hgs⟩
  rw [lg_entry_eq]
  obtain ⟨h1, h2⟩ := ent_Lr (n := mL mj) hs hlen
  refine ih mj 0 _ [] w r w' hex cst base D p l e (rmd d dc ds) s m avs.toArray below meth c _ s.heap [] _ [] ws tys 0 0 dc ds F ⟨hW, va_S.rf, h1, trivial, h2⟩ (Nat.le_refl _) (Nat.le_refl _) hdc hds (Nat.le_of_eq (Nat.zero_add _)) (Nat.le_of_eq (Nat.zero_add _)) ?_
  intro pc1 en ls1 st1 lsA1 stA1 H1 locs1 ws1 tys1 hcd hg hrt hE r1
  rw [Nat.zero_add, Nat.zero_add]
  obtain ⟨h0, hd, hl⟩ := F.at hcd
  have hx := B.exec
  have hb := B.bytes
  have hr := B.returns
  have hlocks : meth.locks = false := B.notSynchronized
  have post : ∀ (r' : Option Value), Rr ws1 cst r r' → ∀ t : State, t.heap = H1 → s.WarmedH t.vm → xQc cst base D r w' ws avs.toArray s (.returned r') t := fun r' hr' t ht hWm => ⟨⟨r', ws1, tys1, rfl, hr', hE, by rw [ht]; exact r1.1.moved hWm.alike⟩, r1.2.1.F ht⟩
  obtain ⟨pc0, i, n0, a, b, c0, pp, t⟩ := en
  dsimp only at h0 hd
  subst h0
  unfold rtn at hrt
  dsimp only at hrt
  split at hrt
  · rename_i x hret
    cases hrt
    simp only [lnkOk, beq_iff_eq] at hl
    subst hl
    obtain ⟨sA, rfl, r2⟩ := r1.int
    cases r2.2.2.2.1.nil
    exact W.iret hx hb (by rw [hr, hret]) (post _ rfl) r1.2.1.2.2 hd hlocks
  · rename_i x ty hnot hret
    split at hrt
    · rename_i hf
      cases hrt
      simp only [lnkOk, beq_iff_eq] at hl
      subst hl
      obtain ⟨sA, rfl, r2⟩ := r1.int
      cases r2.2.2.2.1.nil
      exact W.zret hx hb (by rw [hr, hret]) (fits_nar hf) (post _ rfl) r1.2.1.2.2 hd hlocks
    · cases hrt
  · rename_i x hret
    cases hrt
    simp only [lnkOk, beq_iff_eq] at hl
    subst hl
    obtain ⟨sA, rfl, r2⟩ := r1.long
    cases r2.2.2.2.1.nil
    exact W.lret hx hb (by rw [hr, hret]) (post _ rfl) r1.2.1.2.2 hd hlocks
  · rename_i x C hret
    cases hrt
    simp only [lnkOk, beq_iff_eq] at hl
    subst hl
    obtain ⟨v, sA, rfl, hv, r2⟩ := r1.pop
    cases r2.2.2.2.1.nil
    have hq : v = .null ∨ ∃ a, v = .ref a := by
      rcases id hv with ⟨a1, e1, -, h⟩ | ⟨-, -, h⟩
      · exact Or.inr ⟨a1, h⟩
      · exact h
    exact W.aret hx hb (by rw [hr, hret]) (Or.inl ⟨C, rfl⟩) hq (post _ hv) r1.2.1.2.2 hd hlocks
  · rename_i C hret
    cases hrt
    simp only [lnkOk, beq_iff_eq] at hl
    subst hl
    obtain ⟨sA, rfl, r2⟩ := r1.null
    cases r2.2.2.2.1.nil
    exact W.aret hx hb (by rw [hr, hret]) (Or.inl ⟨C, rfl⟩) (Or.inl rfl) (post _ rfl) r1.2.1.2.2 hd hlocks
  · rename_i hret
    cases hrt
    simp only [lnkOk, beq_iff_eq] at hl
    subst hl
    cases r1.2.2.2.1.nil
    exact W.vret hx hb (by rw [hr, hret]) (post _ trivial) r1.2.1.2.2 hd hlocks
  · cases hrt
end SNC
