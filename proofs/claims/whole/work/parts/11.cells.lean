/-! A step of the small machine is a step of the real one: cells read and written. -/
theorem u_use {C : String} {T : u_T} {N : Nat} (h : ∀ w ∈ u_ws C T N, w ∈ lw_tbl) : ∀ w ∈ u_ws C T N, w ∈ lw_use := by
  intro w hw
  refine List.mem_filter.mpr ⟨h w hw, ?_⟩
  obtain ⟨k, -, rfl⟩ := List.mem_map.mp hw
  unfold u_lay
  split <;> rfl
theorem cls_ok : ∀ {ci : Nat} {r : vw_C}, classes[ci]? = some r → (∀ w ∈ u_ws r.1 r.2.1 r.2.2, w ∈ lw_use) ∧ (∀ k, k < r.2.2 → parseFieldDescriptor (r.2.1 k).2.2.1 = some (clT ci k)) ∧ (∀ a, a < r.2.2 → ∀ b, b < r.2.2 → a ≠ b → (r.2.1 a).2.1 ≠ (r.2.1 b).2.1) ∧ clN ci = r.2.2 ∧ clR ci = r.1 ∧ ∀ j, clF ci j = r.2.1 j := by
  intro ci r h
  match ci, h with
  | 0, h => cases h; exact ⟨u_use inX0, tyX0_ok, nmX0, rfl, rfl, fun _ => rfl⟩
  | 1, h => cases h; exact ⟨u_use inX1, tyX1_ok, nmX1, rfl, rfl, fun _ => rfl⟩
  | 2, h => cases h; exact ⟨u_use inX2, tyX2_ok, nmX2, rfl, rfl, fun _ => rfl⟩
  | 3, h => cases h; exact ⟨u_use inX4, tyX4_ok, nmX4, rfl, rfl, fun _ => rfl⟩
  | 4, h => cases h; exact ⟨u_use inX4, tyX4_ok, nmX4, rfl, rfl, fun _ => rfl⟩
  | 5, h => cases h; exact ⟨u_use inX5, tyX5_ok, nmX5, rfl, rfl, fun _ => rfl⟩
  | 6, h => cases h; exact ⟨u_use inX6, tyX6_ok, nmX6, rfl, rfl, fun _ => rfl⟩
  | 7, h => cases h; exact ⟨u_use inX7, tyX7_ok, nmX7, rfl, rfl, fun _ => rfl⟩
  | 8, h => cases h; exact ⟨u_use inX8, tyX8_ok, nmX8, rfl, rfl, fun _ => rfl⟩
  | 9, h => cases h; exact ⟨u_use inX9, tyX9_ok, nmX9, rfl, rfl, fun _ => rfl⟩
  | 10, h => cases h; exact ⟨u_use inX10, tyX10_ok, nmX10, rfl, rfl, fun _ => rfl⟩
  | k + 11, h => simp [classes] at h
theorem cls_ex {ci : Nat} (h : ci < 11) : ∃ r : vw_C, classes[ci]? = some r := by
  match ci, h with
  | 0, _ => exact ⟨_, rfl⟩
  | 1, _ => exact ⟨_, rfl⟩
  | 2, _ => exact ⟨_, rfl⟩
  | 3, _ => exact ⟨_, rfl⟩
  | 4, _ => exact ⟨_, rfl⟩
  | 5, _ => exact ⟨_, rfl⟩
  | 6, _ => exact ⟨_, rfl⟩
  | 7, _ => exact ⟨_, rfl⟩
  | 8, _ => exact ⟨_, rfl⟩
  | 9, _ => exact ⟨_, rfl⟩
  | 10, _ => exact ⟨_, rfl⟩
  | k + 11, h => omega
theorem inA_in {i : Int32} {n : Nat} (h : inA i n = true) : vp_in i n := by
  unfold inA at h
  unfold vp_in
  simpa using h
theorem inA_lt {i : Int32} {n : Nat} (h : inA i n = true) : i.toNatClampNeg < n := Nat.not_le.mp fun q => inA_in h (Or.inr q)
theorem updR_ne {α : Type} {f : Nat → Nat → α} {k j a : Nat} {v : α} (h : a ≠ k) : updR f k j v a = f a := by
  funext b
  unfold updR
  rw [if_neg (fun q => h q.1)]
theorem updR_self {α : Type} {f : Nat → Nat → α} {k j : Nat} {v : α} : updR f k j v k j = v := by
  unfold updR
  rw [if_pos ⟨rfl, rfl⟩]
theorem updR_off {α : Type} {f : Nat → Nat → α} {k j b : Nat} {v : α} (h : b ≠ j) : updR f k j v k b = f k b := by
  unfold updR
  rw [if_neg (fun q => h q.2)]
theorem Cr.cong {ws : va_W} {tys : List (ClassId × FieldType)} {R R' : Nat → Nat → Option Nat} {I I' : Nat → Nat → Int32} {L L' : Nat → Nat → Int64} {k : Nat} {kd : (FieldType × Nat) ⊕ Nat} {e : va_E} (hR : R' k = R k) (hI : I' k = I k) (hL : L' k = L k) (h : Cr ws tys R I L k kd e) : Cr ws tys R' I' L' k kd e := by
  match kd, e, h with
  | .inr ci, .inr (ci', fs), h =>
    unfold Cr at h ⊢
    dsimp only at h ⊢
    rw [hR, hI, hL]
    exact h
  | .inl (ty, n), .inl (cA, n', x), h =>
    unfold Cr at h ⊢
    dsimp only at h ⊢
    rw [hR, hI, hL]
    exact h
  | .inl (_, _), .inr (_, _), h => exact h.elim
  | .inr _, .inl (_, _, _), h => exact h.elim
theorem Wr.upd {D : va_G} {U : State} {H H1 : Heap} {A : Nat → Prop} {K : XK} {R R' : Nat → Nat → Option Nat} {I I' : Nat → Nat → Int32} {L L' : Nat → Nat → Int64} {ws : va_W} {tys : List (ClassId × FieldType)} {k a : Nat} {e0 e1 : va_E} {kd : (FieldType × Nat) ⊕ Nat} (r : Wr D U H A (K, R, I, L) ws tys) (h0 : ws[k]? = some (a, e0)) (hP : va_P D classes (ws.set k (a, e1)) H1) (hD : va_D A (ws.set k (a, e1)))
    (hk : K[k]? = some kd) (hc : Cr (ws.set k (a, e1)) tys R' I' L' k kd e1) (hR : ∀ q, q ≠ k → R' q = R q) (hI : ∀ q, q ≠ k → I' q = I q) (hL : ∀ q, q ≠ k → L' q = L q) : Wr D U H1 A (K, R', I', L') (ws.set k (a, e1)) tys := by
  obtain ⟨h1, h2, h3, h4, h5, h6⟩ := r
  refine ⟨h1, hP, hD, by rw [List.length_set]; exact h4, h5, fun q kd' hq => ?_⟩
  by_cases hqk : q = k
  · subst hqk
    have hq' : K[q]? = some kd' := hq
    rw [hk] at hq'
    cases hq'
    exact ⟨a, e1, List.getElem?_set_self (List.getElem?_eq_some_iff.mp h0).1, hc⟩
  · obtain ⟨b, e2, g1, g2⟩ := h6 q kd' hq
    exact ⟨b, e2, by rw [List.getElem?_set_ne (fun z => hqk z.symm)]; exact g1, (g2.mono (Ext.set h0) (fun t0 z hz => ⟨t0, hz⟩)).cong (hR q hqk) (hI q hqk) (hL q hqk)⟩
theorem fval_int {ty : FieldType} {r : Option Nat} {i : Int32} {l : Int64} (h : isIntT ty = true) : fval ty r i l = .int i := by
  cases ty <;> first | rfl | (simp [isIntT] at h)
theorem fval_ref {ty : FieldType} {r : Option Nat} {i : Int32} {l : Int64} (h : isRefT ty = true) : fval ty r i l = rfv r := by
  cases ty <;> first | rfl | (simp [isRefT] at h)
theorem fval_noref {ty : FieldType} {r : Option Nat} {i : Int32} {l : Int64} (h : isRefT ty = false) : fval ty r i l = fval ty none i l := by
  cases ty <;> first | rfl | (simp [isRefT] at h)
theorem nar_int {ty : FieldType} {x : Int32} (h : isIntT ty = true) (hf : fits ty (.int x) = true) : narrow ty (.int x) = .int x := by
  cases ty with
  | int => rfl
  | boolean =>
    simp only [fits, Bool.or_eq_true, beq_iff_eq] at hf
    rcases hf with rfl | rfl <;> rfl
  | _ => simp [isIntT] at h
theorem nar_bool {x : Int32} (hf : fits .boolean (.int x) = true) : vp_nar .boolean x = x := by
  have h := nar_int (ty := .boolean) rfl hf
  unfold vp_nar
  rw [h]
theorem nat_off {k c : Nat} (h1 : c ≤ k) (h2 : k < c + 8) : ∃ i0, i0 < 8 ∧ k = c + i0 := ⟨k - c, by omega, by omega⟩
theorem big_1 (i : Nat) : 1000000 ≤ 1000000 + i := by omega
theorem big_2 (i : Nat) : 1000000 ≤ 1000000 + i + 20 := by omega
theorem big_3 (i : Nat) : 1000000 ≤ 1000040 + i := by omega
theorem big_4 (i : Nat) : 1000000 + i + 20 = 1000020 + i := by omega
theorem big_5 (i : Nat) : 1000020 + i - 1000020 = i := by omega
section SNH
variable {X : Nat × (Nat → Int32)} {cst : Nat → Value} {base : Nat} {D : va_G} {mi : MI} {p : Program} {l : Launch} {e : Env} {R : Room} {s : State} {m : MethodId} {args : Array Value} {below : List Frame} {meth : Method} {c : Code} {Q : State → Prop}
variable {w w' : XW} {ls ls' : XL} {st st' : List Value} {H : Heap} {locs : List Loc} {lsA : Array Slot} {stA : List Value} {ws : va_W} {tys : List (ClassId × FieldType)} {cells slots pc pc' : Nat}
theorem FR.sto {H1 : Heap} {locs1 : List Loc} {ws1 : va_W} (r : FR cst base D mi s w ls st H locs lsA stA ws tys) (hW : Wr D s H1 (xA base) w' ws1 tys) (hS : va_S (xA base) s.heap H1 locs1) (hE : Ext ws ws1) : FR cst base D mi s w' ls st H1 locs1 lsA stA ws1 tys := ⟨hW, hS, r.2.2.1.mono hE, r.2.2.2.1.mono hE, r.2.2.2.2⟩
set_option maxHeartbeats 8000000 in
theorem sH (F : Fx X cst base mi p s m args meth c) {en : XE} (he : cdx (mC mi) pc = some en) (hst : stpH X en pc ls st w = some (pc', ls', st', w')) (r : FR cst base D mi s w ls st H locs lsA stA ws tys)
    (kk : ∀ (H1 : Heap) (locs1 : List Loc) (stA' : List Value) (ws1 : va_W), w'.1 = w.1 → Ext ws ws1 → FR cst base D mi s w' ls' st' H1 locs1 lsA stA' ws1 tys → W p l e R s m args below meth c H1 locs1 cells slots Q (F0 m pc' lsA stA')) : W p l e R s m args below meth c H locs cells slots Q (F0 m pc lsA stA) := by
  obtain ⟨h0, hd, hl⟩ := F.at he
  obtain ⟨hx, hb, -, -, hown, hts, -, -, hG, -, hinit, hgs⟩ := id F
  have hgs := List.all_eq_true.mp hgs _ (cdx_mem he).2
  obtain ⟨pc0, i, n, a, b, c0, pp, t⟩ := en
  obtain ⟨K, RR, I, L⟩ := w
  dsimp only at h0 hd
  subst h0
  unfold stpH at hst
  dsimp only at hst
  have hK := r.1.1
  have hP := r.1.2.1
  have hD := r.1.2.2.1
  have hS := r.2.1
  have hcell : ∀ {k : Nat} {kd : (FieldType × Nat) ⊕ Nat}, K[k]? = some kd → ∃ a e, ws[k]? = some (a, e) ∧ Cr ws tys RR I L k kd e := fun {k kd} h => r.1.2.2.2.2.2 k kd h
  have hown1 : ∀ {k : Nat} {v' : Value} {kd : (FieldType × Nat) ⊕ Nat} {a1 : Nat} {e1 : va_E}, K[k]? = some kd → ws[k]? = some (a1, e1) → Vr ws cst (.ref k) v' → v' = .ref a1 := by
    intro k v' kd a1 e1 h1 h2 h3
    obtain ⟨a2, e2, h4, h5⟩ := r.1.own (List.getElem?_eq_some_iff.mp h1).1 h3
    rw [h2] at h4
    cases h4
    exact h5
  have hcon : ∀ {k : Nat} {v' : Value}, K[k]? = none → Vr ws cst (.ref k) v' → v' = cst k := fun h1 h2 => (r.1.con h1 h2).2.1
  split at hst
  all_goals try (cases hst; done)
  -- getfield
  · rename_i ix k st1
    split at hst
    · rename_i ci hk
      split at hst
      · rename_i hc
        obtain ⟨rfl, rfl, hbN⟩ := hc
        obtain ⟨rfl, rfl, rfl, rfl⟩ := xs_inj hst
        simp only [lnkOk, Bool.and_eq_true, beq_iff_eq, decide_eq_true_eq, if_true] at hl
        obtain ⟨rfl, ⟨ha11, -⟩, hw⟩ := hl
        obtain ⟨v', sA, rfl, hv, r1⟩ := r.pop
        obtain ⟨a1, e1, h1, h2⟩ := hcell hk
        cases hown1 hk h1 hv
        obtain ⟨rc, hrc⟩ := cls_ex ha11
        obtain ⟨q1, q2, q3, q4, q5, q6⟩ := cls_ok hrc
        obtain ⟨rC, rT, rN⟩ := rc
        dsimp only at q1 q2 q3 q4 q5 q6
        match e1, h1, h2 with
        | .inr (ci', fs), h1, h2 =>
          obtain ⟨rfl, -, hlen, hfs⟩ := h2
          obtain ⟨vv, hv1, hv2⟩ := hfs b hbN
          rw [q6] at hw
          exact va_get hx hb hts q1 hown hK hP k h1 hrc b (by rw [← q4]; exact hbN) (hts _ (wu hw rfl)) (fun _ h9 => h9) hv1 hd (kk _ _ _ _ rfl Ext.rf (r1.push hv2.r))
        | .inl _, h1, h2 => exact h2.elim
      · cases hst
    · cases hst
    · rename_i hk
      split at hst
      · rename_i hc
        obtain ⟨rfl, hk1, hk2⟩ := hc
        obtain ⟨rfl, rfl, rfl, rfl⟩ := xs_inj hst
        simp only [lnkOk, Bool.and_eq_true, beq_iff_eq, decide_eq_true_eq] at hl
        obtain ⟨rfl, hl⟩ := hl
        simp only [if_neg (show ¬ (1 : Nat) = 0 by decide), if_true, Bool.and_eq_true, decide_eq_true_eq] at hl
        obtain ⟨hb2, hw⟩ := hl
        obtain ⟨v', sA, rfl, hv, r1⟩ := r.pop
        obtain ⟨i0, hi0, rfl⟩ := nat_off (c := 1000000) hk1 hk2
        obtain ⟨aK, aV, g1, g2, g3, g4, g5, g6, g7⟩ := hG.2.2.2.1 i0 hi0
        rw [hcon hk hv, g1]
        have hb3 : b = 0 ∨ b = 1 := by omega
        rcases hb3 with rfl | rfl
        · exact vk_getf hx hb g5 hS hown (hts _ (wu hw rfl)) (fun _ h9 => h9) hd (kk _ _ _ _ rfl Ext.rf (r1.push rfl))
        · refine vk_getf hx hb g6 hS hown (hts _ (wu hw rfl)) (fun _ h9 => h9) hd (kk _ _ _ _ rfl Ext.rf (r1.push (Or.inr ⟨big_2 i0, ?_, Or.inr ⟨aV, rfl⟩⟩)))
          exact ((congrArg cst (big_4 i0)).trans g2).symm
      · cases hst
  -- putfield int
  · rename_i ix x k st1
    split at hst
    · rename_i ci hk
      split at hst
      · rename_i hc
        obtain ⟨rfl, hbN, hty, hfit⟩ := hc
        obtain ⟨rfl, rfl, rfl, rfl⟩ := xs_inj hst
        simp only [lnkOk, Bool.and_eq_true, beq_iff_eq, decide_eq_true_eq] at hl
        obtain ⟨rfl, ⟨ha11, -⟩, hw, hfin⟩ := hl
        obtain ⟨sA0, rfl, r0⟩ := r.int
        obtain ⟨v', sA, rfl, hv, r1⟩ := r0.pop
        obtain ⟨a1, e1, h1, h2⟩ := hcell hk
        cases hown1 hk h1 hv
        obtain ⟨rc, hrc⟩ := cls_ex ha11
        obtain ⟨q1, q2, q3, q4, q5, q6⟩ := cls_ok hrc
        obtain ⟨rC, rT, rN⟩ := rc
        dsimp only at q1 q2 q3 q4 q5 q6
        match e1, h1, h2 with
        | .inr (ci', fs), h1, h2 =>
          obtain ⟨rfl, -, hlen, hfs⟩ := h2
          rw [q6] at hw hfin
          have hb' : b < rN := by rw [← q4]; exact hbN
          have hbl : b < fs.length := by rw [hlen]; exact hbN
          have fin : ∀ (H1 : Heap) (locs1 : List Loc), va_P D classes (ws.set k (a1, .inr (ci', fs.set b (.int x)))) H1 → va_D (xA base) (ws.set k (a1, .inr (ci', fs.set b (.int x)))) → va_S (xA base) s.heap H1 locs1 → W p l e R s m args below meth c H1 locs1 cells slots Q (F0 m (pc0 + 3) lsA sA) := by
            intro H1 locs1 hP1 hD1 hS1
            refine kk H1 locs1 sA _ rfl (Ext.set h1) (r1.sto (Wr.upd r.1 h1 hP1 hD1 hk ⟨rfl, ha11, by rw [List.length_set]; exact hlen, fun j hj => ?_⟩ (fun _ _ => rfl) (fun q hq => updR_ne hq) (fun _ _ => rfl)) hS1 (Ext.set h1))
            by_cases hjb : j = b
            · subst hjb
              refine ⟨.int x, List.getElem?_set_self hbl, ?_⟩
              rw [fval_int hty, updR_self]
              rfl
            · obtain ⟨vv, g1, g2⟩ := hfs j hj
              refine ⟨vv, by rw [List.getElem?_set_ne (fun z => hjb z.symm)]; exact g1, ?_⟩
              rw [updR_off hjb]
              exact g2.mono (Ext.set h1)
          by_cases hc0 : c0 = 0
          · rw [if_pos hc0] at hfin
            exact va_put hx hb hts q1 (clT ci') q2 q3 hown hK hP hD hS k h1 hrc b hb' (hts _ (wu hw rfl)) (fun _ h9 => h9) (of_decide_eq_true hfin) (q2 b hb') (nar_int hty hfit) hfit hbl hd fin
          · rw [if_neg hc0] at hfin
            obtain ⟨f1, f2, f3⟩ := of_decide_eq_true hfin
            exact va_putF hx hb hts q1 (clT ci') q2 q3 hown hK hP hD hS k h1 hrc b hb' (hts _ (wu hw rfl)) (fun _ h9 => h9) f1 (hinit f2) f3 (q2 b hb') (nar_int hty hfit) hfit hbl hd fin
        | .inl _, h1, h2 => exact h2.elim
      · cases hst
    · cases hst
  -- putfield ref
  · rename_i ix x k st1
    split at hst
    · rename_i ci hk
      split at hst
      · rename_i hc
        obtain ⟨rfl, hbN, hty, hxK⟩ := hc
        obtain ⟨rfl, rfl, rfl, rfl⟩ := xs_inj hst
        simp only [lnkOk, Bool.and_eq_true, beq_iff_eq, decide_eq_true_eq] at hl
        obtain ⟨rfl, ⟨ha11, -⟩, hw, hfin⟩ := hl
        obtain ⟨vx, sA0, rfl, hvx, r0⟩ := r.pop
        obtain ⟨v', sA, rfl, hv, r1⟩ := r0.pop
        obtain ⟨ax, ex, hx1, rfl⟩ := r.1.own hxK hvx
        obtain ⟨a1, e1, h1, h2⟩ := hcell hk
        cases hown1 hk h1 hv
        obtain ⟨rc, hrc⟩ := cls_ex ha11
        obtain ⟨q1, q2, q3, q4, q5, q6⟩ := cls_ok hrc
        obtain ⟨rC, rT, rN⟩ := rc
        dsimp only at q1 q2 q3 q4 q5 q6
        match e1, h1, h2 with
        | .inr (ci', fs), h1, h2 =>
          obtain ⟨rfl, -, hlen, hfs⟩ := h2
          rw [q6] at hw hfin
          have hb' : b < rN := by rw [← q4]; exact hbN
          have hbl : b < fs.length := by rw [hlen]; exact hbN
          have hnar : narrow (clT ci' b) (.ref ax) = .ref ax := by
            generalize clT ci' b = ty at hty
            cases ty <;> rfl
          have hfit : fits (clT ci' b) (.ref ax) = true := by
            generalize clT ci' b = ty at hty
            cases ty <;> first | rfl | (simp [isRefT] at hty)
          have fin : ∀ (H1 : Heap) (locs1 : List Loc), va_P D classes (ws.set k (a1, .inr (ci', fs.set b (.ref ax)))) H1 → va_D (xA base) (ws.set k (a1, .inr (ci', fs.set b (.ref ax)))) → va_S (xA base) s.heap H1 locs1 → W p l e R s m args below meth c H1 locs1 cells slots Q (F0 m (pc0 + 3) lsA sA) := by
            intro H1 locs1 hP1 hD1 hS1
            refine kk H1 locs1 sA _ rfl (Ext.set h1) (r1.sto (Wr.upd r.1 h1 hP1 hD1 hk ⟨rfl, ha11, by rw [List.length_set]; exact hlen, fun j hj => ?_⟩ (fun q hq => updR_ne hq) (fun _ _ => rfl) (fun _ _ => rfl)) hS1 (Ext.set h1))
            by_cases hjb : j = b
            · subst hjb
              refine ⟨.ref ax, List.getElem?_set_self hbl, ?_⟩
              rw [fval_ref hty, updR_self]
              obtain ⟨e9, h9⟩ := (Ext.set h1 : Ext ws (ws.set k (a1, .inr (ci', fs.set j (.ref ax))))) x ax ex hx1
              exact ⟨ax, e9, h9, rfl⟩
            · obtain ⟨vv, g1, g2⟩ := hfs j hj
              refine ⟨vv, by rw [List.getElem?_set_ne (fun z => hjb z.symm)]; exact g1, ?_⟩
              rw [updR_off hjb]
              exact g2.mono (Ext.set h1)
          by_cases hc0 : c0 = 0
          · rw [if_pos hc0] at hfin
            exact va_put hx hb hts q1 (clT ci') q2 q3 hown hK hP hD hS k h1 hrc b hb' (hts _ (wu hw rfl)) (fun _ h9 => h9) (of_decide_eq_true hfin) (q2 b hb') hnar hfit hbl hd fin
          · rw [if_neg hc0] at hfin
            obtain ⟨f1, f2, f3⟩ := of_decide_eq_true hfin
            exact va_putF hx hb hts q1 (clT ci') q2 q3 hown hK hP hD hS k h1 hrc b hb' (hts _ (wu hw rfl)) (fun _ h9 => h9) f1 (hinit f2) f3 (q2 b hb') hnar hfit hbl hd fin
        | .inl _, h1, h2 => exact h2.elim
      · cases hst
    · cases hst
  -- getstatic
  · rename_i ix
    obtain ⟨rfl, rfl, rfl, rfl⟩ := xs_inj hst
    simp only [lnkOk, Bool.and_eq_true, beq_iff_eq, decide_eq_true_eq] at hl
    obtain ⟨rfl, hl⟩ := hl
    by_cases hc0 : c0 = 0
    · subst hc0
      rw [if_pos rfl] at hl
      simp only [Bool.and_eq_true, decide_eq_true_eq] at hl
      obtain ⟨hb3, hl⟩ := hl
      rw [if_neg (by decide)] at kk
      rcases hb3 with hb3 | rfl
      · obtain ⟨a1, g1, g2, g3⟩ := hG.1 b hb3
        have k1 := kk _ _ _ _ rfl Ext.rf (r.push (v' := .ref a1) (Or.inr ⟨big_3 b, g1.symm, Or.inr ⟨a1, rfl⟩⟩))
        cases t with
        | nil => exact va_gets hx hb g2 hS hown (hts _ (wu hl rfl)) (fun _ h9 => h9) hd k1
        | cons q tl =>
          simp only [Bool.and_eq_true, decide_eq_true_eq] at hl
          exact va_getsN hx hb g2 hS hown (hts _ (wu hl.2 rfl)) (fun _ h9 => h9) hd k1
      · obtain ⟨g1, g2⟩ := hG.2.2.1
        have k1 := kk _ _ _ _ rfl Ext.rf (r.push (v' := cst 1000060) (Or.inr ⟨big_3 20, rfl, g1⟩))
        cases t with
        | nil => exact va_gets hx hb g2 hS hown (hts _ (wu hl rfl)) (fun _ h9 => h9) hd k1
        | cons q tl =>
          simp only [Bool.and_eq_true, decide_eq_true_eq] at hl
          exact absurd hl.1 (by decide)
    · rw [if_neg hc0] at hl
      simp only [Bool.and_eq_true, decide_eq_true_eq] at hl
      obtain ⟨rfl, hw⟩ := hl
      have hc1 : c0 = 1 := by
        have h := of_decide_eq_true hgs
        omega
      rw [if_pos hc1] at kk
      exact va_gets hx hb hG.2.1 hS hown (hts _ (wu hw rfl)) (fun _ h9 => h9) hd (kk _ _ _ _ rfl Ext.rf (r.push rfl))
  -- ldc
  · rename_i ix
    obtain ⟨rfl, rfl, rfl, rfl⟩ := xs_inj hst
    simp only [lnkOk, Bool.and_eq_true, beq_iff_eq, decide_eq_true_eq] at hl
    obtain ⟨rfl, ha8, hcls, hsk, -⟩ := hl
    obtain ⟨aK, aV, g1, g2, g3, g4, g5, g6, g7⟩ := hG.2.2.2.1 a ha8
    rw [hcls] at hown
    rw [hsk] at g3
    exact va_ldcS hx hb hown g3 hd (kk _ _ _ _ rfl Ext.rf (r.push (Or.inr ⟨big_1 a, g1.symm, Or.inr ⟨aK, rfl⟩⟩)))
  -- iaload
  · rename_i i1 k st1
    split at hst
    · rename_i m1 hk
      split at hst
      · rename_i hin
        obtain ⟨rfl, rfl, rfl, rfl⟩ := xs_inj hst
        simp only [lnkOk, beq_iff_eq] at hl
        subst hl
        obtain ⟨sA0, rfl, r0⟩ := r.int
        obtain ⟨v', sA, rfl, hv, r1⟩ := r0.pop
        obtain ⟨a1, e1, h1, h2⟩ := hcell hk
        cases hown1 hk h1 hv
        match e1, h1, h2 with
        | .inl (cA, n', bd), h1, h2 =>
          obtain ⟨rfl, ⟨t0, ht0⟩, f, rfl, hf⟩ := h2
          have k1 := kk _ _ _ _ rfl Ext.rf (r1.push (v := .int (I k i1.toNatClampNeg)) (v' := .int (f i1.toNatClampNeg)) (by rw [hf _ (inA_lt hin)]; rfl))
          exact va_iald hx hb hK hP k t0 h1 ht0 (inA_in hin) hd k1
        | .inr _, h1, h2 => exact h2.elim
      · cases hst
    · cases hst
    · rename_i hk
      split at hst
      · rename_i m1 f1 hcf
        split at hst
        · rename_i hin
          obtain ⟨rfl, rfl, rfl, rfl⟩ := xs_inj hst
          simp only [lnkOk, beq_iff_eq] at hl
          subst hl
          obtain ⟨sA0, rfl, r0⟩ := r.int
          obtain ⟨v', sA, rfl, hv, r1⟩ := r0.pop
          have hvc := hcon hk hv
          have k1 := kk _ _ _ _ rfl Ext.rf (r1.push (v := .int (f1 i1.toNatClampNeg)) (v' := .int (f1 i1.toNatClampNeg)) rfl)
          have hkc : (∃ b, b < 3 ∧ k = 1000040 + b) ∨ k = 1000050 := by
            unfold cInts at hcf
            split at hcf
            · exact Or.inl ⟨0, by decide, by assumption⟩
            · split at hcf
              · exact Or.inl ⟨1, by decide, by assumption⟩
              · split at hcf
                · exact Or.inl ⟨2, by decide, by assumption⟩
                · split at hcf
                  · exact Or.inr (by assumption)
                  · cases hcf
          rcases hkc with ⟨b1, hb1, rfl⟩ | rfl
          · obtain ⟨a1, g1, g2, N, f2, g3, g4⟩ := hG.1 b1 hb1
            rw [g3] at hcf
            cases hcf
            rw [hvc, g1]
            exact va_ti hx hb g4 hS (inA_in hin) rfl hd k1
          · obtain ⟨x1, x2⟩ := X
            cases x1 with
            | zero => cases hcf
            | succ x1 =>
              cases hcf
              rcases hG.2.2.2.2.1 with hG0 | ⟨b1, g1, g2, g3, g4⟩
              · cases hG0
              · rw [hvc, g1]
                exact va_sld hx hb g2 g3 g4 hS (inA_in hin) hd k1
        · cases hst
      · cases hst
  -- baload
  · rename_i i1 k st1
    split at hst
    · rename_i m1 hk
      split at hst
      · rename_i hin
        obtain ⟨rfl, rfl, rfl, rfl⟩ := xs_inj hst
        simp only [lnkOk, beq_iff_eq] at hl
        subst hl
        obtain ⟨sA0, rfl, r0⟩ := r.int
        obtain ⟨v', sA, rfl, hv, r1⟩ := r0.pop
        obtain ⟨a1, e1, h1, h2⟩ := hcell hk
        cases hown1 hk h1 hv
        match e1, h1, h2 with
        | .inl (cA, n', bd), h1, h2 =>
          obtain ⟨rfl, ⟨t0, ht0⟩, f, rfl, hf⟩ := h2
          have k1 := kk _ _ _ _ rfl Ext.rf (r1.push (v := .int (I k i1.toNatClampNeg)) (v' := .int (f i1.toNatClampNeg)) (by rw [hf _ (inA_lt hin)]; rfl))
          exact va_zald hx hb hK hP k t0 h1 ht0 (inA_in hin) hd k1
        | .inr _, h1, h2 => exact h2.elim
      · cases hst
    · cases hst
    · rename_i hk
      split at hst
      · rename_i m1 f1 hcf
        split at hst
        · rename_i hin
          obtain ⟨rfl, rfl, rfl, rfl⟩ := xs_inj hst
          simp only [lnkOk, beq_iff_eq] at hl
          subst hl
          obtain ⟨sA0, rfl, r0⟩ := r.int
          obtain ⟨v', sA, rfl, hv, r1⟩ := r0.pop
          have hvc := hcon hk hv
          have k1 := kk _ _ _ _ rfl Ext.rf (r1.push (v := .int (f1 i1.toNatClampNeg)) (v' := .int (f1 i1.toNatClampNeg)) rfl)
          unfold cByts at hcf
          split at hcf
          · rename_i hkr
            obtain ⟨i0, hi0, rfl⟩ := nat_off (c := 1000020) hkr.1 hkr.2
            obtain ⟨aK, aV, g1, g2, g3, g4, g5, g6, g7⟩ := hG.2.2.2.1 i0 hi0
            rw [big_5] at hcf
            cases hcf
            rw [hvc, g2]
            exact va_tb hx hb g7 hS (inA_in hin) rfl hd k1
          · cases hcf
        · cases hst
      · cases hst
  -- laload
  · rename_i i1 k st1
    split at hst
    · rename_i m1 hk
      split at hst
      · rename_i hin
        obtain ⟨rfl, rfl, rfl, rfl⟩ := xs_inj hst
        simp only [lnkOk, beq_iff_eq] at hl
        subst hl
        obtain ⟨sA0, rfl, r0⟩ := r.int
        obtain ⟨v', sA, rfl, hv, r1⟩ := r0.pop
        obtain ⟨a1, e1, h1, h2⟩ := hcell hk
        cases hown1 hk h1 hv
        match e1, h1, h2 with
        | .inl (cA, n', bd), h1, h2 =>
          obtain ⟨rfl, ⟨t0, ht0⟩, f, rfl, hf⟩ := h2
          have k1 := kk _ _ _ _ rfl Ext.rf (r1.push (v := .long (L k i1.toNatClampNeg)) (v' := .long (f i1.toNatClampNeg)) (by rw [hf _ (inA_lt hin)]; rfl))
          exact va_lald hx hb hK hP k t0 h1 ht0 (inA_in hin) hd k1
        | .inr _, h1, h2 => exact h2.elim
      · cases hst
    · cases hst
  -- aaload
  · rename_i i1 k st1
    split at hst
    · rename_i C1 m1 hk
      split at hst
      · rename_i hin
        obtain ⟨rfl, rfl, rfl, rfl⟩ := xs_inj hst
        simp only [lnkOk, beq_iff_eq] at hl
        subst hl
        obtain ⟨sA0, rfl, r0⟩ := r.int
        obtain ⟨v', sA, rfl, hv, r1⟩ := r0.pop
        obtain ⟨a1, e1, h1, h2⟩ := hcell hk
        cases hown1 hk h1 hv
        match e1, h1, h2 with
        | .inl (cA, n', bd), h1, h2 =>
          obtain ⟨rfl, ⟨t0, ht0⟩, f, rfl, hf⟩ := h2
          have k1 := kk _ _ _ _ rfl Ext.rf (r1.push (v := rfv (RR k i1.toNatClampNeg)) (v' := va_rf (f i1.toNatClampNeg)) (hf _ (inA_lt hin)).r)
          exact va_aldq hx hb hK hP k t0 h1 ht0 (inA_in hin) hd k1
        | .inr _, h1, h2 => exact h2.elim
      · cases hst
    · cases hst
  -- iastore
  · rename_i x i1 k st1
    split at hst
    · rename_i m1 hk
      split at hst
      · rename_i hin
        obtain ⟨rfl, rfl, rfl, rfl⟩ := xs_inj hst
        simp only [lnkOk, beq_iff_eq] at hl
        subst hl
        obtain ⟨sAx, rfl, rx⟩ := r.int
        obtain ⟨sA0, rfl, r0⟩ := rx.int
        obtain ⟨v', sA, rfl, hv, r1⟩ := r0.pop
        obtain ⟨a1, e1, h1, h2⟩ := hcell hk
        cases hown1 hk h1 hv
        match e1, h1, h2 with
        | .inl (cA, n', bd), h1, h2 =>
          obtain ⟨rfl, ⟨t0, ht0⟩, f, rfl, hf⟩ := h2
          refine va_iast hx hb hK hP hD hS k t0 h1 ht0 (inA_in hin) hd (fun H1 locs1 hP1 hD1 hS1 => ?_)
          refine kk H1 locs1 sA _ rfl (Ext.set h1) (r1.sto (Wr.upd r.1 h1 hP1 hD1 hk ⟨rfl, ⟨t0, ht0⟩, _, rfl, fun j hj => ?_⟩ (fun _ _ => rfl) (fun q hq => updR_ne hq) (fun _ _ => rfl)) hS1 (Ext.set h1))
          by_cases hji : j = i1.toNatClampNeg
          · subst hji
            rw [updR_self]
            simp [upd]
          · rw [updR_off hji, ← hf j hj]
            simp [upd, hji]
        | .inr _, h1, h2 => exact h2.elim
      · cases hst
    · cases hst
  -- bastore
  · rename_i x i1 k st1
    split at hst
    · rename_i m1 hk
      split at hst
      · rename_i hin
        obtain ⟨hin, hfit⟩ := hin
        obtain ⟨rfl, rfl, rfl, rfl⟩ := xs_inj hst
        simp only [lnkOk, beq_iff_eq] at hl
        subst hl
        obtain ⟨sAx, rfl, rx⟩ := r.int
        obtain ⟨sA0, rfl, r0⟩ := rx.int
        obtain ⟨v', sA, rfl, hv, r1⟩ := r0.pop
        obtain ⟨a1, e1, h1, h2⟩ := hcell hk
        cases hown1 hk h1 hv
        match e1, h1, h2 with
        | .inl (cA, n', bd), h1, h2 =>
          obtain ⟨rfl, ⟨t0, ht0⟩, f, rfl, hf⟩ := h2
          refine va_zast hx hb hK hP hD hS k t0 h1 ht0 (inA_in hin) hd (fun H1 locs1 hP1 hD1 hS1 => ?_)
          rw [nar_bool hfit] at hP1 hD1
          refine kk H1 locs1 sA _ rfl (Ext.set h1) (r1.sto (Wr.upd r.1 h1 hP1 hD1 hk ⟨rfl, ⟨t0, ht0⟩, _, rfl, fun j hj => ?_⟩ (fun _ _ => rfl) (fun q hq => updR_ne hq) (fun _ _ => rfl)) hS1 (Ext.set h1))
          by_cases hji : j = i1.toNatClampNeg
          · subst hji
            rw [updR_self]
            simp [upd]
          · rw [updR_off hji, ← hf j hj]
            simp [upd, hji]
        | .inr _, h1, h2 => exact h2.elim
      · cases hst
    · cases hst
  -- lastore
  · rename_i x i1 k st1
    split at hst
    · rename_i m1 hk
      split at hst
      · rename_i hin
        obtain ⟨rfl, rfl, rfl, rfl⟩ := xs_inj hst
        simp only [lnkOk, beq_iff_eq] at hl
        subst hl
        obtain ⟨sAx, rfl, rx⟩ := r.long
        obtain ⟨sA0, rfl, r0⟩ := rx.int
        obtain ⟨v', sA, rfl, hv, r1⟩ := r0.pop
        obtain ⟨a1, e1, h1, h2⟩ := hcell hk
        cases hown1 hk h1 hv
        match e1, h1, h2 with
        | .inl (cA, n', bd), h1, h2 =>
          obtain ⟨rfl, ⟨t0, ht0⟩, f, rfl, hf⟩ := h2
          refine va_last hx hb hK hP hD hS k t0 h1 ht0 (inA_in hin) hd (fun H1 locs1 hP1 hD1 hS1 => ?_)
          refine kk H1 locs1 sA _ rfl (Ext.set h1) (r1.sto (Wr.upd r.1 h1 hP1 hD1 hk ⟨rfl, ⟨t0, ht0⟩, _, rfl, fun j hj => ?_⟩ (fun _ _ => rfl) (fun _ _ => rfl) (fun q hq => updR_ne hq)) hS1 (Ext.set h1))
          by_cases hji : j = i1.toNatClampNeg
          · subst hji
            rw [updR_self]
            simp [vp_updL]
          · rw [updR_off hji, ← hf j hj]
            simp [vp_updL, hji]
        | .inr _, h1, h2 => exact h2.elim
      · cases hst
    · cases hst
  -- aastore
  · rename_i x i1 k st1
    split at hst
    · rename_i C1 m1 ci hk hkx
      split at hst
      · rename_i hin
        obtain ⟨hin, hC⟩ := hin
        obtain ⟨rfl, rfl, rfl, rfl⟩ := xs_inj hst
        simp only [lnkOk, beq_iff_eq] at hl
        subst hl
        obtain ⟨vx, sAx, rfl, hvx, rx⟩ := r.pop
        obtain ⟨sA0, rfl, r0⟩ := rx.int
        obtain ⟨v', sA, rfl, hv, r1⟩ := r0.pop
        obtain ⟨ax, ex, hx1, hx2⟩ := hcell hkx
        cases hown1 hkx hx1 hvx
        obtain ⟨a1, e1, h1, h2⟩ := hcell hk
        cases hown1 hk h1 hv
        cases hcl : classes[ci]? with
        | none => rw [hcl] at hC; cases hC
        | some rc =>
          rw [hcl] at hC
          cases hC
          match e1, h1, h2, ex, hx1, hx2 with
          | .inl (cA, n', bd), h1, h2, .inr (ci', vs), hx1, hx2 =>
            obtain ⟨rfl, ⟨t0, ht0⟩, f, rfl, hf⟩ := h2
            obtain ⟨rfl, -⟩ := hx2
            refine va_astq hx hb hK hP hD hS k t0 x ci' h1 ht0 hx1 hcl (inA_in hin) hd (fun H1 locs1 hP1 hD1 hS1 => ?_)
            refine kk H1 locs1 sA _ rfl (Ext.set h1) (r1.sto (Wr.upd r.1 h1 hP1 hD1 hk ⟨rfl, ⟨t0, ht0⟩, _, rfl, fun j hj => ?_⟩ (fun q hq => updR_ne hq) (fun _ _ => rfl) (fun _ _ => rfl)) hS1 (Ext.set h1))
            by_cases hji : j = i1.toNatClampNeg
            · subst hji
              rw [updR_self, va_up_self]
              obtain ⟨e9, h9⟩ := (Ext.set h1 : Ext ws (ws.set k (a1, _))) x ax _ hx1
              exact ⟨ax, e9, h9, rfl⟩
            · rw [updR_off hji]
              unfold va_up
              rw [if_neg hji]
              exact (hf j hj).mono (Ext.set h1)
          | .inr _, h1, h2, _, _, _ => exact h2.elim
          | .inl (_, _, _), _, _, .inl _, _, hx2 => exact hx2.elim
      · cases hst
    · cases hst
  -- arraylength
  · rename_i k st1
    split at hst
    · rename_i ty1 m1 hk
      obtain ⟨rfl, rfl, rfl, rfl⟩ := xs_inj hst
      simp only [lnkOk, beq_iff_eq] at hl
      subst hl
      obtain ⟨v', sA, rfl, hv, r1⟩ := r.pop
      obtain ⟨a1, e1, h1, h2⟩ := hcell hk
      cases hown1 hk h1 hv
      match e1, h1, h2 with
      | .inl (cA, n', bd), h1, h2 =>
        obtain ⟨rfl, ⟨t0, ht0⟩, -⟩ := h2
        exact va_alen hx hb hK hP k t0 h1 ht0 rfl hd (kk _ _ _ _ rfl Ext.rf (r1.push rfl))
      | .inr _, h1, h2 => exact h2.elim
    · cases hst
    · rename_i hk
      split at hst
      · rename_i m1 f1 hcf
        obtain ⟨rfl, rfl, rfl, rfl⟩ := xs_inj hst
        simp only [lnkOk, beq_iff_eq] at hl
        subst hl
        obtain ⟨v', sA, rfl, hv, r1⟩ := r.pop
        have hvc := hcon hk hv
        have k1 := kk _ _ _ _ rfl Ext.rf (r1.push (v := .int (Int32.ofNat m1)) (v' := .int (Int32.ofNat m1)) rfl)
        have hkc : (∃ b, b < 3 ∧ k = 1000040 + b) ∨ k = 1000050 := by
          unfold cInts at hcf
          split at hcf
          · exact Or.inl ⟨0, by decide, by assumption⟩
          · split at hcf
            · exact Or.inl ⟨1, by decide, by assumption⟩
            · split at hcf
              · exact Or.inl ⟨2, by decide, by assumption⟩
              · split at hcf
                · exact Or.inr (by assumption)
                · cases hcf
        rcases hkc with ⟨b1, hb1, rfl⟩ | rfl
        · obtain ⟨a1, g1, g2, N, f2, g3, g4⟩ := hG.1 b1 hb1
          rw [g3] at hcf
          cases hcf
          rw [hvc, g1]
          exact va_tlen hx hb g4 hS rfl hd k1
        · obtain ⟨x1, x2⟩ := X
          cases x1 with
          | zero => cases hcf
          | succ x1 =>
            cases hcf
            rcases hG.2.2.2.2.1 with hG0 | ⟨b1, g1, g2, g3, g4⟩
            · cases hG0
            · rw [hvc, g1]
              exact va_slen hx hb g2 g3 g4 hS hd k1
      · split at hst
        · rename_i m1 f1 hcf
          obtain ⟨rfl, rfl, rfl, rfl⟩ := xs_inj hst
          simp only [lnkOk, beq_iff_eq] at hl
          subst hl
          obtain ⟨v', sA, rfl, hv, r1⟩ := r.pop
          have hvc := hcon hk hv
          have k1 := kk _ _ _ _ rfl Ext.rf (r1.push (v := .int (Int32.ofNat m1)) (v' := .int (Int32.ofNat m1)) rfl)
          unfold cByts at hcf
          split at hcf
          · rename_i hkr
            obtain ⟨i0, hi0, rfl⟩ := nat_off (c := 1000020) hkr.1 hkr.2
            obtain ⟨aK, aV, g1, g2, g3, g4, g5, g6, g7⟩ := hG.2.2.2.1 i0 hi0
            rw [big_5] at hcf
            cases hcf
            rw [hvc, g2]
            exact va_tlen hx hb g7 hS rfl hd k1
          · cases hcf
        · cases hst
end SNH
