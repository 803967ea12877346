/-! A step of the small machine is a step of the real one: jumps, values, locals. -/
/-- what getstatic gives is told by 0 or 1; what is made has a constructor -/
def gsOk (e : XE) : Bool := match e with
  | (_, .getstatic _, _, _, _, c, _, _) => decide (c ≤ 1)
  | (_, .new _, _, a, _, _, _, _) => decide (a ≠ 3)
  | (_, .invokestatic _, _, a, _, c, _, _) => if c < 20 then (match mtab[a]? with
    | some mj => wd ((mP mj).getD 2 0) (.static (mY mj))
    | none => false) else true
  | (_, .invokespecial _, _, a, _, c, _, _) => if c < 20 then (match mtab[a]? with
    | some mj => wd ((mP mj).getD 2 0) (.instanceMethod (mY mj))
    | none => false) else true
  | _ => true
def Fx (X : Nat × (Nat → Int32)) (cst : Nat → Value) (base : Nat) (mi : MI) (p : Program) (s : State) (m : MethodId) (args : Array Value) (meth : Method) (c : Code) : Prop :=
  p.tables.exec = Jvm.exec ∧ c.code = mB mi ∧ meth.sig.returnType = mR mi ∧ c.maxLocals = mL mi ∧ s.vm.findClass (mY mi).cls = some m.cls ∧ (∀ w ∈ lw_use, w.before args s = true) ∧ meth.locks = false ∧ base ≤ s.heap.size ∧ Gc X cst (xA base) s s.heap ∧ ((mC mi).all (eOk (mY mi) (mB mi)) = true) ∧ ((mY mi).name = "<init>" → meth.name = "<init>") ∧ ((mC mi).all gsOk = true)
def FR (cst : Nat → Value) (base : Nat) (D : va_G) (mi : MI) (s : State) (w : XW) (ls : XL) (st : List Value) (H : Heap) (locs : List Loc) (lsA : Array Slot) (stA : List Value) (ws : va_W) (tys : List (ClassId × FieldType)) : Prop :=
  Wr D s H (xA base) w ws tys ∧ va_S (xA base) s.heap H locs ∧ Lr ws cst ls lsA ∧ Sr ws cst st stA ∧ ls.length = mL mi
theorem Fx.at {X : Nat × (Nat → Int32)} {cst : Nat → Value} {base : Nat} {mi : MI} {p : Program} {s : State} {m : MethodId} {args : Array Value} {meth : Method} {c : Code} (F : Fx X cst base mi p s m args meth c) {pc : Nat} {en : XE} (h : cdx (mC mi) pc = some en) : en.1 = pc ∧ decode (mB mi) pc = .ok (en.2.1, en.2.2.1) ∧ lnkOk (mY mi) en = true := by
  obtain ⟨h1, h2⟩ := cdx_mem h
  have h3 := List.all_eq_true.mp F.2.2.2.2.2.2.2.2.2.1 en h2
  simp only [eOk, Bool.and_eq_true, decide_eq_true_eq] at h3
  rw [h1] at h3
  exact ⟨h1, h3⟩
section SND
variable {X : Nat × (Nat → Int32)} {cst : Nat → Value} {base : Nat} {D : va_G} {mi : MI} {p : Program} {l : Launch} {e : Env} {R : Room} {s : State} {m : MethodId} {args : Array Value} {below : List Frame} {meth : Method} {c : Code} {Q : State → Prop}
variable {w w' : XW} {ls ls' : XL} {st st' : List Value} {H : Heap} {locs : List Loc} {lsA : Array Slot} {stA : List Value} {ws : va_W} {tys : List (ClassId × FieldType)} {cells slots pc pc' : Nat}
theorem FR.pop {v : Value} (r : FR cst base D mi s w ls (v :: st) H locs lsA stA ws tys) : ∃ v' stA', stA = v' :: stA' ∧ Vr ws cst v v' ∧ FR cst base D mi s w ls st H locs lsA stA' ws tys := by
  obtain ⟨v', stA', h1, h2, h3⟩ := r.2.2.2.1.cons
  exact ⟨v', stA', h1, h2, r.1, r.2.1, r.2.2.1, h3, r.2.2.2.2⟩
theorem FR.push {v v' : Value} (r : FR cst base D mi s w ls st H locs lsA stA ws tys) (h : Vr ws cst v v') : FR cst base D mi s w ls (v :: st) H locs lsA (v' :: stA) ws tys := ⟨r.1, r.2.1, r.2.2.1, ⟨h, r.2.2.2.1⟩, r.2.2.2.2⟩
theorem FR.int {x : Int32} (r : FR cst base D mi s w ls (.int x :: st) H locs lsA stA ws tys) : ∃ stA', stA = .int x :: stA' ∧ FR cst base D mi s w ls st H locs lsA stA' ws tys := by
  obtain ⟨v', stA', h1, h2, h3⟩ := r.pop
  exact ⟨stA', by rw [h1, show v' = .int x from h2], h3⟩
theorem FR.long {x : Int64} (r : FR cst base D mi s w ls (.long x :: st) H locs lsA stA ws tys) : ∃ stA', stA = .long x :: stA' ∧ FR cst base D mi s w ls st H locs lsA stA' ws tys := by
  obtain ⟨v', stA', h1, h2, h3⟩ := r.pop
  exact ⟨stA', by rw [h1, show v' = .long x from h2], h3⟩
theorem FR.null (r : FR cst base D mi s w ls (.null :: st) H locs lsA stA ws tys) : ∃ stA', stA = .null :: stA' ∧ FR cst base D mi s w ls st H locs lsA stA' ws tys := by
  obtain ⟨v', stA', h1, h2, h3⟩ := r.pop
  exact ⟨stA', by rw [h1, show v' = .null from h2], h3⟩
/-- a cell of our own -/
theorem Wr.own {U : State} {A : Nat → Prop} (r : Wr D U H A w ws tys) {k : Nat} {v' : Value} (hk : k < w.1.length) (h : Vr ws cst (.ref k) v') : ∃ a en, ws[k]? = some (a, en) ∧ v' = .ref a := by
  rcases h with h | ⟨h, -⟩
  · exact h
  · have h1 : 1000000 ≤ k := h
    have h2 := r.2.2.2.2.1
    omega
theorem Wr.con {U : State} {A : Nat → Prop} (r : Wr D U H A w ws tys) {k : Nat} {v' : Value} (hk : w.1[k]? = none) (h : Vr ws cst (.ref k) v') : 1000000 ≤ k ∧ v' = cst k ∧ (v' = .null ∨ ∃ a, v' = .ref a) := by
  rcases h with ⟨a, en, h, -⟩ | h
  · have h1 := (List.getElem?_eq_some_iff.mp h).1
    have h2 := List.getElem?_eq_none_iff.mp hk
    have := r.2.2.2.1
    omega
  · exact h
set_option maxHeartbeats 4000000 in
theorem sJ (F : Fx X cst base mi p s m args meth c) {en : XE} (he : cdx (mC mi) pc = some en) (hst : stpJ en pc ls st w = some (pc', ls', st', w')) (r : FR cst base D mi s w ls st H locs lsA stA ws tys)
    (kk : ∀ stA' : List Value, FR cst base D mi s w' ls' st' H locs lsA stA' ws tys → W p l e R s m args below meth c H locs cells slots Q (F0 m pc' lsA stA')) : W p l e R s m args below meth c H locs cells slots Q (F0 m pc lsA stA) := by
  obtain ⟨h0, hd, hl⟩ := F.at he
  obtain ⟨hx, hb, -⟩ := id F
  obtain ⟨pc0, i, n, a, b, c0, pp, t⟩ := en
  dsimp only at h0 hd
  subst h0
  unfold stpJ at hst
  dsimp only at hst
  split at hst
  all_goals try (cases hst; done)
  · obtain ⟨rfl, rfl, rfl, rfl⟩ := xs_inj hst
    simp only [lnkOk, Bool.and_eq_true, beq_iff_eq, decide_eq_true_eq] at hl
    obtain ⟨rfl, ht⟩ := hl
    exact lv_goto hx hb hd ht (kk _ r)
  · obtain ⟨rfl, rfl, rfl, rfl⟩ := xs_inj hst
    simp only [lnkOk, Bool.and_eq_true, beq_iff_eq, decide_eq_true_eq] at hl
    obtain ⟨rfl, ht⟩ := hl
    obtain ⟨stA', rfl, r'⟩ := r.int
    have k1 := kk _ r'
    refine lv_if_eq hx hb hd ht (fun c1 => ?_) (fun c1 => ?_)
    · rw [if_pos c1] at k1; exact k1
    · rw [if_neg c1] at k1; exact k1
  · obtain ⟨rfl, rfl, rfl, rfl⟩ := xs_inj hst
    simp only [lnkOk, Bool.and_eq_true, beq_iff_eq, decide_eq_true_eq] at hl
    obtain ⟨rfl, ht⟩ := hl
    obtain ⟨stA', rfl, r'⟩ := r.int
    have k1 := kk _ r'
    refine lv_if_ne hx hb hd ht (fun c1 => ?_) (fun c1 => ?_)
    · rw [if_neg c1] at k1; exact k1
    · rw [if_pos c1] at k1; exact k1
  · obtain ⟨rfl, rfl, rfl, rfl⟩ := xs_inj hst
    simp only [lnkOk, Bool.and_eq_true, beq_iff_eq, decide_eq_true_eq] at hl
    obtain ⟨rfl, ht⟩ := hl
    obtain ⟨stA', rfl, r'⟩ := r.int
    have k1 := kk _ r'
    refine lv_if_lt hx hb hd ht (fun c1 => ?_) (fun c1 => ?_)
    · rw [if_pos c1] at k1; exact k1
    · rw [if_neg c1] at k1; exact k1
  · obtain ⟨rfl, rfl, rfl, rfl⟩ := xs_inj hst
    simp only [lnkOk, Bool.and_eq_true, beq_iff_eq, decide_eq_true_eq] at hl
    obtain ⟨rfl, ht⟩ := hl
    obtain ⟨stA', rfl, r'⟩ := r.int
    have k1 := kk _ r'
    refine lv_if_ge hx hb hd ht (fun c1 => ?_) (fun c1 => ?_)
    · rw [if_neg (Int32.not_lt.mpr c1)] at k1; exact k1
    · rw [if_pos (Int32.not_le.mp c1)] at k1; exact k1
  · obtain ⟨rfl, rfl, rfl, rfl⟩ := xs_inj hst
    simp only [lnkOk, Bool.and_eq_true, beq_iff_eq, decide_eq_true_eq] at hl
    obtain ⟨rfl, ht⟩ := hl
    obtain ⟨stA', rfl, r'⟩ := r.int
    have k1 := kk _ r'
    refine lv_if_gt hx hb hd ht (fun c1 => ?_) (fun c1 => ?_)
    · rw [if_pos c1] at k1; exact k1
    · rw [if_neg c1] at k1; exact k1
  · obtain ⟨rfl, rfl, rfl, rfl⟩ := xs_inj hst
    simp only [lnkOk, Bool.and_eq_true, beq_iff_eq, decide_eq_true_eq] at hl
    obtain ⟨rfl, ht⟩ := hl
    obtain ⟨stA', rfl, r'⟩ := r.int
    have k1 := kk _ r'
    refine lv_if_le hx hb hd ht (fun c1 => ?_) (fun c1 => ?_)
    · rw [if_neg (Int32.not_lt.mpr c1)] at k1; exact k1
    · rw [if_pos (Int32.not_le.mp c1)] at k1; exact k1
  · obtain ⟨rfl, rfl, rfl, rfl⟩ := xs_inj hst
    simp only [lnkOk, Bool.and_eq_true, beq_iff_eq, decide_eq_true_eq] at hl
    obtain ⟨rfl, ht⟩ := hl
    obtain ⟨stA1, rfl, r1⟩ := r.int
    obtain ⟨stA', rfl, r'⟩ := r1.int
    have k1 := kk _ r'
    refine lv_icmp_eq hx hb hd ht (fun c1 => ?_) (fun c1 => ?_)
    · rw [if_pos c1] at k1; exact k1
    · rw [if_neg c1] at k1; exact k1
  · obtain ⟨rfl, rfl, rfl, rfl⟩ := xs_inj hst
    simp only [lnkOk, Bool.and_eq_true, beq_iff_eq, decide_eq_true_eq] at hl
    obtain ⟨rfl, ht⟩ := hl
    obtain ⟨stA1, rfl, r1⟩ := r.int
    obtain ⟨stA', rfl, r'⟩ := r1.int
    have k1 := kk _ r'
    refine lv_icmp_ne hx hb hd ht (fun c1 => ?_) (fun c1 => ?_)
    · rw [if_neg c1] at k1; exact k1
    · rw [if_pos c1] at k1; exact k1
  · obtain ⟨rfl, rfl, rfl, rfl⟩ := xs_inj hst
    simp only [lnkOk, Bool.and_eq_true, beq_iff_eq, decide_eq_true_eq] at hl
    obtain ⟨rfl, ht⟩ := hl
    obtain ⟨stA1, rfl, r1⟩ := r.int
    obtain ⟨stA', rfl, r'⟩ := r1.int
    have k1 := kk _ r'
    refine lv_icmp_lt hx hb hd ht (fun c1 => ?_) (fun c1 => ?_)
    · rw [if_pos c1] at k1; exact k1
    · rw [if_neg c1] at k1; exact k1
  · obtain ⟨rfl, rfl, rfl, rfl⟩ := xs_inj hst
    simp only [lnkOk, Bool.and_eq_true, beq_iff_eq, decide_eq_true_eq] at hl
    obtain ⟨rfl, ht⟩ := hl
    obtain ⟨stA1, rfl, r1⟩ := r.int
    obtain ⟨stA', rfl, r'⟩ := r1.int
    have k1 := kk _ r'
    refine lv_icmp_ge hx hb hd ht (fun c1 => ?_) (fun c1 => ?_)
    · rw [if_neg (Int32.not_lt.mpr c1)] at k1; exact k1
    · rw [if_pos (Int32.not_le.mp c1)] at k1; exact k1
  · obtain ⟨rfl, rfl, rfl, rfl⟩ := xs_inj hst
    simp only [lnkOk, Bool.and_eq_true, beq_iff_eq, decide_eq_true_eq] at hl
    obtain ⟨rfl, ht⟩ := hl
    obtain ⟨stA1, rfl, r1⟩ := r.int
    obtain ⟨stA', rfl, r'⟩ := r1.int
    have k1 := kk _ r'
    refine lv_icmp_gt hx hb hd ht (fun c1 => ?_) (fun c1 => ?_)
    · rw [if_pos c1] at k1; exact k1
    · rw [if_neg c1] at k1; exact k1
  · obtain ⟨rfl, rfl, rfl, rfl⟩ := xs_inj hst
    simp only [lnkOk, Bool.and_eq_true, beq_iff_eq, decide_eq_true_eq] at hl
    obtain ⟨rfl, ht⟩ := hl
    obtain ⟨stA1, rfl, r1⟩ := r.int
    obtain ⟨stA', rfl, r'⟩ := r1.int
    have k1 := kk _ r'
    refine lv_icmp_le hx hb hd ht (fun c1 => ?_) (fun c1 => ?_)
    · rw [if_neg (Int32.not_lt.mpr c1)] at k1; exact k1
    · rw [if_pos (Int32.not_le.mp c1)] at k1; exact k1
  · obtain ⟨rfl, rfl, rfl, rfl⟩ := xs_inj hst
    simp only [lnkOk, Bool.and_eq_true, beq_iff_eq, decide_eq_true_eq] at hl
    obtain ⟨rfl, ht⟩ := hl
    obtain ⟨stA', rfl, r'⟩ := r.null
    exact lv_ifnullN hx hb hd ht (kk _ r')
  · split at hst
    · rename_i hk
      obtain ⟨rfl, rfl, rfl, rfl⟩ := xs_inj hst
      simp only [lnkOk, Bool.and_eq_true, beq_iff_eq, decide_eq_true_eq] at hl
      obtain ⟨rfl, ht⟩ := hl
      obtain ⟨v', stA', rfl, hv, r'⟩ := r.pop
      obtain ⟨a1, e1, -, rfl⟩ := r.1.own hk hv
      exact lv_ifnull hx hb hd (kk _ r')
    · cases hst
  · obtain ⟨rfl, rfl, rfl, rfl⟩ := xs_inj hst
    simp only [lnkOk, Bool.and_eq_true, beq_iff_eq, decide_eq_true_eq] at hl
    obtain ⟨rfl, ht⟩ := hl
    obtain ⟨stA', rfl, r'⟩ := r.null
    exact lv_ifnonnullN hx hb hd (kk _ r')
  · split at hst
    · rename_i hk
      obtain ⟨rfl, rfl, rfl, rfl⟩ := xs_inj hst
      simp only [lnkOk, Bool.and_eq_true, beq_iff_eq, decide_eq_true_eq] at hl
      obtain ⟨rfl, ht⟩ := hl
      obtain ⟨v', stA', rfl, hv, r'⟩ := r.pop
      obtain ⟨a1, e1, -, rfl⟩ := r.1.own hk hv
      exact lv_ifnonnull hx hb hd ht (kk _ r')
    · cases hst
  · rename_i df lo hi offs x st1
    obtain ⟨rfl, rfl, rfl, rfl⟩ := xs_inj hst
    simp only [lnkOk, Bool.and_eq_true, beq_iff_eq, decide_eq_true_eq] at hl
    obtain ⟨h1, h2, h3⟩ := hl
    obtain ⟨stA', rfl, r'⟩ := r.int
    have h4 := tsw_ok (a := a) (x := x.toInt) h3
    rw [Array.length_toList] at h4
    by_cases hin : lo ≤ x.toInt ∧ x.toInt < lo + offs.size
    · obtain ⟨off, h5, h6⟩ := h4.2 hin.1 hin.2
      exact lv_tableIn hx hb hd (by omega) (by omega) (by rw [← Array.getElem?_toList]; exact h5) h6 (kk _ r')
    · refine lv_tableOut (tgt := swT t a x.toInt) hx hb hd (by omega) ?_ (kk _ r')
      rw [h4.1 (by omega)]
      exact h1
  · rename_i df ps x st1
    obtain ⟨rfl, rfl, rfl, rfl⟩ := xs_inj hst
    simp only [lnkOk, Bool.and_eq_true, beq_iff_eq, decide_eq_true_eq] at hl
    obtain ⟨h1, h2, h3⟩ := hl
    obtain ⟨stA', rfl, r'⟩ := r.int
    exact lv_lookup hx hb hd h2 rfl (lsw_ok h3 h1) (kk _ r')
end SND
