/-! The whole: by the number of steps. -/
def KE (K K' : XK) : Prop := ∃ x, K' = K ++ x
theorem KE.rf {K : XK} : KE K K := ⟨[], by simp⟩
theorem KE.tr {a b c : XK} (h1 : KE a b) (h2 : KE b c) : KE a c := by
  obtain ⟨x, rfl⟩ := h1
  obtain ⟨y, rfl⟩ := h2
  exact ⟨x ++ y, by simp⟩
theorem stpJ_w {e : XE} {pc pc' : Nat} {ls ls' : XL} {st st' : List Value} {w w' : XW} (h : stpJ e pc ls st w = some (pc', ls', st', w')) : w' = w := by
  unfold stpJ at h
  dsimp only at h
  (repeat' split at h) <;> first | (cases h; done) | exact (xs_inj h).2.2.2.symm
theorem stpV_w {e : XE} {pc pc' : Nat} {ls ls' : XL} {st st' : List Value} {w w' : XW} (h : stpV e pc ls st w = some (pc', ls', st', w')) : w' = w := by
  unfold stpV at h
  dsimp only at h
  (repeat' split at h) <;> first | (cases h; done) | exact (xs_inj h).2.2.2.symm
theorem stpL_w {e : XE} {pc pc' : Nat} {ls ls' : XL} {st st' : List Value} {w w' : XW} (h : stpL e pc ls st w = some (pc', ls', st', w')) : w' = w := by
  unfold stpL at h
  dsimp only at h
  (repeat' split at h) <;> first | (cases h; done) | exact (xs_inj h).2.2.2.symm
theorem stpH_w {X : Nat × (Nat → Int32)} {e : XE} {pc pc' : Nat} {ls ls' : XL} {st st' : List Value} {w w' : XW} (h : stpH X e pc ls st w = some (pc', ls', st', w')) : w'.1 = w.1 := by
  obtain ⟨K, R, I, L⟩ := w
  unfold stpH at h
  dsimp only at h
  (repeat' split at h) <;> first | (cases h; done) | (rw [← (xs_inj h).2.2.2])
theorem stpN_w {e : XE} {pc pc' : Nat} {ls ls' : XL} {st st' : List Value} {w w' : XW} (h : stpN e pc ls st w = some (pc', ls', st', w')) : KE w.1 w'.1 := by
  obtain ⟨K, R, I, L⟩ := w
  unfold stpN at h
  dsimp only at h
  (repeat' split at h) <;> first | (cases h; done) | (rw [← (xs_inj h).2.2.2]; exact KE.rf) | (rw [← (xs_inj h).2.2.2]; exact ⟨_, rfl⟩)
theorem stp_w {X : Nat × (Nat → Int32)} {e : XE} {pc pc' : Nat} {ls ls' : XL} {st st' : List Value} {w w' : XW} (h : stp X e pc ls st w = some (pc', ls', st', w')) : KE w.1 w'.1 := by
  unfold stp at h
  split at h
  · rw [stpJ_w h]; exact KE.rf
  · rw [stpV_w h]; exact KE.rf
  · rw [stpL_w h]; exact KE.rf
  · rw [stpH_w h]; exact KE.rf
  · exact stpN_w h
  · cases h
theorem exec_grow {X : Nat × (Nat → Int32)} : ∀ {n d : Nat} {mi : MI} {pc : Nat} {ls : XL} {st : List Value} {w : XW} {r : Option Value} {w' : XW}, exec X n d mi pc ls st w = some (r, w') → KE w.1 w'.1 := by
  intro n
  induction n with
  | zero => intro d mi pc ls st w r w' h; cases h
  | succ n ih =>
    intro d mi pc ls st w r w' h
    unfold exec at h
    split at h
    · cases h
    · split at h
      · split at h
        · cases h; exact KE.rf
        · cases h
      · split at h
        · split at h
          · split at h
            · split at h
              · rename_i h1
                exact (ih h1).tr (ih h)
              · cases h
            · cases h
          · cases h
        · cases h
      · split at h
        · rename_i h1
          exact (stp_w h1).tr (ih h)
        · cases h
section SND2
variable {X : Nat × (Nat → Int32)} {cst : Nat → Value} {base : Nat} {D : va_G} {mi : MI} {p : Program} {l : Launch} {e : Env} {R : Room} {s : State} {m : MethodId} {args : Array Value} {below : List Frame} {meth : Method} {c : Code} {Q : State → Prop}
variable {w w' : XW} {ls ls' : XL} {st st' : List Value} {H : Heap} {locs : List Loc} {lsA : Array Slot} {stA : List Value} {ws : va_W} {tys : List (ClassId × FieldType)} {cells slots pc pc' : Nat}
theorem take_drop_rev {α : Type} (b : Nat) (l : List α) : l = ((l.take b).reverse).reverse ++ l.drop b := by
  rw [List.reverse_reverse, List.take_append_drop]
set_option maxHeartbeats 4000000 in
theorem xrun {en : XE} {a : Nat} {vs rest : List Value} {mj : MI} {d dc ds : Nat} {r1 : Option Value} {w1 : XW} (F : Fx X cst base mi p s m args meth c) (hcd : cdx (mC mi) pc = some en) (hg : grp en = 6) (hcl : cll en st w.1 = some (a, vs, rest)) (r0 : FR cst base D mi s w ls st H locs lsA stA ws tys) (hmj : mtab[a]? = some mj) (hok : mOk mj = true)
    (hMet : ∀ avs : List Value, Sr ws cst vs avs → Met l (mY mj) (mW mj) (rmd d dc ds) (xPc X cst base D w ws tys avs) (xQc cst base D r1 w1 ws) dc ds (xA base)) (hfr : d + 1 + 1 ≤ R.frames) (hlo : 60 + 60 * (d + 1) ≤ R.locals) (hc1 : cells + dc ≤ R.cells) (hc2 : slots + ds ≤ R.slots) :
    ∃ avs restA, Sr ws cst rest restA ∧ va_Run p l e R s m args below meth c H locs cells slots dc ds (F0 m pc lsA stA) restA (xQc cst base D r1 w1 ws (List.toArray avs)) (xA base) := by
  obtain ⟨h0, hd, hl⟩ := F.at hcd
  obtain ⟨hx, hb, -, hml, hown, hts, -, hbase, hG, -, hinit, hgs⟩ := id F
  have hgs := List.all_eq_true.mp hgs _ (cdx_mem hcd).2
  obtain ⟨m1, m2, m3, m4, m5, m6, m7⟩ := mok hok
  have hgood : GoodIn lw_use (mW mj) := fun w hw => by
    rcases List.mem_cons.mp hw with rfl | hw
    · exact ⟨m1, Or.inl rfl⟩
    · exact good_all w hw
  have hK := r0.1.1
  have hP := r0.1.2.1
  have hD := r0.1.2.2.1
  have hS := r0.2.1
  have hsz : lsA.size = mL mi := r0.size
  have hroom : (rmd d dc ds).frames + 1 ≤ R.frames ∧ 8 + (mL mj + 11) + (rmd d dc ds).locals ≤ R.locals := ⟨hfr, by show 8 + (mL mj + 11) + (60 + 60 * d) ≤ _; omega⟩
  have hpre : ∀ {avs : List Value}, ∀ U : State, U.heap = H → s.WarmedH U.vm → xPc X cst base D w ws tys avs avs.toArray U := fun U hU hW => ⟨rfl, by rw [hU]; exact Nat.le_trans hbase hS.1, by rw [hU]; exact r0.1.moved hW.alike, by rw [hU]; exact hG.go hW hS⟩
  have hfix : CallFix p m c (mB mi) (mL mi) s args lw_use (mY mi).cls := ⟨hx, hb, hml, hown, hts⟩
  have hnd : ∀ {n : Nat}, n = mN mj → (mY mj).cls ≠ "java/lang/invoke/MethodHandle" ∧ (mY mj).cls ≠ "java/lang/invoke/VarHandle" ∧ (parseMethodDescriptor (mY mj).desc).map (fun d => d.parameters.length) = some n := fun h => ⟨m6.1, m6.2, by rw [h]; exact m7⟩
  obtain ⟨pc0, i, n, a0, b, c0, pp, t⟩ := en
  dsimp only at h0 hd
  subst h0
  unfold cll at hcl
  dsimp only at hcl
  have hst := r0.2.2.2.1
  split at hcl
  · -- invokevirtual
    rename_i ix
    split at hcl
    · rename_i k rs hdrop
      split at hcl
      · rename_i hc
        obtain ⟨hbl, hsw, hrv⟩ := hc
        cases hcl
        have hdr := hst.drop b
        rw [hdrop] at hdr
        obtain ⟨v', restA, hdA, hv, hrest⟩ := hdr.cons
        have hta := (hst.take b).rev
        simp only [lnkOk, hmj, calOk, Bool.and_eq_true, beq_iff_eq, decide_eq_true_eq] at hl
        obtain ⟨rfl, hbn, hrc, hpv, hw⟩ := hl
        obtain ⟨hin, hse⟩ := m3 hpv
        have hrecv : ∃ a1, v' = .ref a1 ∧ ∃ cellB : Cell, H[a1]? = some cellB ∧ cellB.vm.isStatics = false ∧ s.vm.findClass (mY mj).cls = some cellB.cls := by
          unfold recvOk at hrv
          split at hrv
          · rename_i ci z y hk
            have hz : z = (ci : Int) := of_decide_eq_true hrv
            subst hz
            obtain ⟨a1, e1, g1, g2⟩ := r0.1.2.2.2.2.2 k _ hk
            obtain ⟨a2, e2, g3, rfl⟩ := r0.1.own (List.getElem?_eq_some_iff.mp hk).1 hv
            rw [g1] at g3
            cases g3
            match e1, g1, g2 with
            | .inr (ci', fs), g1, g2 =>
              obtain ⟨rfl, hci, -⟩ := g2
              obtain ⟨rc, hrc2⟩ := cls_ex hci
              have hq := (cls_ok hrc2).2.2.2.2.1
              obtain ⟨cell, f1, f2, f3⟩ := va_recv hK hP hrc2 g1
              refine ⟨a1, rfl, cell, f1, f2, ?_⟩
              have hrc : (decide ((ci' : Int) = 99) && decide ((mY mj).cls = "java/lang/String") || decide (0 ≤ (ci' : Int) ∧ (ci' : Int).toNat < 11) && decide (clR (ci' : Int).toNat = (mY mj).cls)) = true := hrc
              have hne : ¬ ((ci' : Int) = 99) := by omega
              simp only [hne, decide_false, Bool.false_and, Bool.false_or, Bool.and_eq_true, decide_eq_true_eq, Int.toNat_natCast] at hrc
              rw [← hrc.2, hq]
              exact f3
            | .inl _, g1, g2 => exact g2.elim
          · rename_i z y hk
            obtain ⟨hz, hk1, hk2⟩ := of_decide_eq_true hrv
            subst hz
            have hrc : (decide ((99 : Int) = 99) && decide ((mY mj).cls = "java/lang/String") || decide (0 ≤ (99 : Int) ∧ (99 : Int).toNat < 11) && decide (clR (99 : Int).toNat = (mY mj).cls)) = true := hrc
            have hcs : (mY mj).cls = "java/lang/String" := by
              simpa using hrc
            obtain ⟨i0, hi0, rfl⟩ := nat_off (c := 1000000) hk1 hk2
            obtain ⟨aK, aV, g1, g2, g3, g4, -⟩ := hG.2.2.2.1 i0 hi0
            have hvc := (r0.1.con hk hv).2.1
            refine ⟨aK, hvc.trans g1, ?_⟩
            rw [hcs]
            exact va_Orecv g4 hS
          · cases hrv
        obtain ⟨a1, rfl, hcellB⟩ := hrecv
        have hstack : stA = ((stA.take b).reverse).reverse ++ .ref a1 :: restA := by
          have := take_drop_rev b stA
          rw [hdA] at this
          exact this
        have hlenA : (stA.take b).reverse.length = b := by
          rw [List.length_reverse, List.length_take, hst.len]
          omega
        have hsum := of_decide_eq_true hsw
        rw [← hrest.sum] at hsum
        refine ⟨.ref a1 :: (stA.take b).reverse, restA, hrest, ?_⟩
        by_cases hc0 : c0 = 0
        · rw [if_pos hc0] at hw
          exact va_runV hfix (hMet (.ref a1 :: (stA.take b).reverse) ⟨hv, hta⟩) (C := (mY mj).cls) ⟨callB_of b hts hgood rfl rfl rfl (hts _ m2) (hts _ (wu hw rfl)) (hnd hbn) hroom, hts _ hin, hts _ hse⟩ ⟨blind _, hcellB, hpre⟩ rfl hlenA hsz hstack (lv_room hsum) hd ⟨hc1, hc2⟩
        · rw [if_neg hc0] at hw
          split at hw
          · exact va_runVN hfix (hMet (.ref a1 :: (stA.take b).reverse) ⟨hv, hta⟩) (C := (mY mj).cls) (host := "LeavesObject") ⟨va_cnB b hts hgood rfl rfl rfl (va_Nw.of rfl (hts _ (wu hw rfl))) (hts _ m2) (hnd hbn) hroom, hts _ hin, hts _ hse⟩ ⟨blind _, hcellB, hpre⟩ rfl hlenA hsz hstack (lv_room hsum) hd ⟨hc1, hc2⟩
          · cases hw
      · cases hcl
    · cases hcl
  · -- invokespecial
    rename_i ix
    have hc20 : c0 < 20 := by
      by_cases h : c0 < 20
      · exact h
      · simp [grp, h] at hg
    split at hcl
    · rename_i k rs hdrop
      split at hcl
      · rename_i hc
        obtain ⟨hbl, hsw, hkK⟩ := hc
        cases hcl
        have hdr := hst.drop b
        rw [hdrop] at hdr
        obtain ⟨v', restA, hdA, hv, hrest⟩ := hdr.cons
        have hta := (hst.take b).rev
        simp only [lnkOk, if_neg (show ¬ c0 = 99 by omega), if_neg (show ¬ c0 = 21 by omega), hmj, calOk, Bool.and_eq_true, beq_iff_eq, decide_eq_true_eq] at hl
        obtain ⟨rfl, hbn, hnm, hret, hw⟩ := hl
        simp only [gsOk, if_pos hc20, hmj] at hgs
        have hin := wu hgs rfl
        obtain ⟨a1, e1, g1, rfl⟩ := r0.1.own hkK hv
        have hstack : stA = ((stA.take b).reverse).reverse ++ .ref a1 :: restA := by
          have := take_drop_rev b stA
          rw [hdA] at this
          exact this
        have hlenA : (stA.take b).reverse.length = b := by
          rw [List.length_reverse, List.length_take, hst.len]
          omega
        have hsum := of_decide_eq_true hsw
        rw [← hrest.sum] at hsum
        have hWw : mW mj = Jvm.Cond.code (mY mj) (mB mj) (mL mj) none :: lw_gd := by
          unfold mW
          rw [hret]
        refine ⟨.ref a1 :: (stA.take b).reverse, restA, hrest, ?_⟩
        by_cases hc0 : c0 = 2
        · rw [if_pos hc0] at hw
          exact va_runI hfix (hMet (.ref a1 :: (stA.take b).reverse) ⟨hv, hta⟩) ⟨callB_of b hts hgood hWw rfl rfl (hts _ m2) (hts _ (wu hw rfl)) (hnd hbn) hroom, hnm, hts _ hin⟩ ⟨blind _, hpre⟩ rfl hlenA hsz hstack (lv_room hsum) hd ⟨hc1, hc2⟩
        · rw [if_neg hc0] at hw
          split at hw
          · exact va_runIN hfix (hMet (.ref a1 :: (stA.take b).reverse) ⟨hv, hta⟩) (host := "LeavesObject") ⟨va_cnB b hts hgood hWw rfl rfl (va_Nw.of rfl (hts _ (wu hw rfl))) (hts _ m2) (hnd hbn) hroom, hnm, hts _ hin⟩ ⟨blind _, hpre⟩ rfl hlenA hsz hstack (lv_room hsum) hd ⟨hc1, hc2⟩
          · cases hw
      · cases hcl
    · cases hcl
  · -- invokestatic
    rename_i ix
    have hc20 : c0 < 20 := by
      by_cases h : c0 < 20
      · exact h
      · simp [grp, h] at hg
    split at hcl
    · rename_i hc
      obtain ⟨hbl, hsw⟩ := hc
      cases hcl
      have hdr := hst.drop b
      have hta := (hst.take b).rev
      simp only [lnkOk, if_neg (show ¬ c0 = 99 by omega), if_neg (show ¬ c0 = 20 by omega), hmj, calOk, Bool.and_eq_true, beq_iff_eq, decide_eq_true_eq] at hl
      obtain ⟨rfl, hbn, hw⟩ := hl
      simp only [gsOk, if_pos hc20, hmj] at hgs
      have hstt := wu hgs rfl
      have hstack : stA = ((stA.take b).reverse).reverse ++ stA.drop b := take_drop_rev b stA
      have hlenA : (stA.take b).reverse.length = b := by
        rw [List.length_reverse, List.length_take, hst.len]
        omega
      have hsum := of_decide_eq_true hsw
      rw [← hdr.sum] at hsum
      refine ⟨(stA.take b).reverse, stA.drop b, hdr, ?_⟩
      have goS : wd pp (.methodLink (mY mi).cls ix (mY mj)) = true → va_Run p l e R s m args below meth c H locs cells slots dc ds (F0 m pc0 lsA stA) (stA.drop b) (xQc cst base D r1 w1 ws ((stA.take b).reverse).toArray) (xA base) := fun hw => va_runS hfix (hMet _ hta) ⟨callB_of b hts hgood rfl rfl rfl (hts _ m2) (hts _ (wu hw rfl)) (hnd hbn) hroom, hts _ hstt⟩ ⟨blind _, hpre⟩ rfl hlenA hsz hstack (lv_room hsum) hd ⟨hc1, hc2⟩
      split at hw
      · simp only [Bool.and_eq_true] at hw
        exact goS hw.2
      · split at hw
        · exact goS hw
        · split at hw
          · exact va_runSN hfix (hMet _ hta) (host := "LeavesObject") ⟨va_cnB b hts hgood rfl rfl rfl (va_Nw.of rfl (hts _ (wu hw rfl))) (hts _ m2) (hnd hbn) hroom, hts _ hstt, trivial⟩ ⟨blind _, hpre⟩ rfl hlenA hsz hstack (lv_room hsum) hd ⟨hc1, hc2⟩
          · cases hw
    · cases hcl
  · cases hcl
theorem sw_append (K x : XK) : sw (K ++ x) = sw K + sw x := by simp [sw]
set_option maxHeartbeats 4000000 in
theorem snd (hall : ∀ mj ∈ mtab, (mOk mj && (mC mj).all (eOk (mY mj) (mB mj))) = true ∧ (mC mj).all gsOk = true) : ∀ n d : Nat, Snd X n d := by
  intro n
  induction n with
  | zero => intro d mi pc ls st w r w' h; cases h
  | succ n ih =>
    intro d mi pc ls st w r w' hex cst base D p l e R s m args below meth c Q H locs lsA stA ws tys cells slots dc ds F r0 hfr hlo hdc hds hc1 hc2 kk
    unfold exec at hex
    split at hex
    · cases hex
    · rename_i en hcd
      split at hex
      · rename_i hg
        split at hex
        · rename_i r1 hrt
          cases hex
          have e1 : dc = 0 := by omega
          have e2 : ds = 0 := by omega
          subst e1
          subst e2
          exact kk pc en ls st lsA stA H locs ws tys hcd hg hrt Ext.rf r0
        · cases hex
      · rename_i hg
        split at hex
        · rename_i a vs rest d' hcl
          split at hex
          · rename_i mj hmj
            split at hex
            · rename_i hlen
              split at hex
              · rename_i r1 w1 hex1
                obtain ⟨x1, hx1⟩ := exec_grow hex1
                obtain ⟨x2, hx2⟩ := exec_grow hex
                have l1 : w1.1.length = w.1.length + x1.length := by rw [hx1, List.length_append]
                have l2 : w'.1.length = w1.1.length + x2.length := by rw [hx2, List.length_append]
                have s1 : sw w1.1 = sw w.1 + sw x1 := by rw [hx1, sw_append]
                have s2 : sw w'.1 = sw w1.1 + sw x2 := by rw [hx2, sw_append]
                have e1 : dc = x1.length + x2.length := by omega
                have e2 : ds = sw x1 + sw x2 := by omega
                subst e1
                subst e2
                obtain ⟨hk1, hk2⟩ := hall mj (List.mem_of_getElem? hmj)
                have hok : mOk mj = true := (Bool.and_eq_true _ _ ▸ hk1).1
                obtain ⟨avs, restA, hrest, hrun⟩ := xrun (l := l) (e := e) (below := below) (cells := cells) (slots := slots) (dc := x1.length) (ds := sw x1) F hcd hg hcl r0 hmj hok (fun avs hs => met_of (ih d') hk1 hk2 hex1 hlen hs l1 s1) hfr hlo (by omega) (by omega)
                refine xcall hrun r0.2.1 (fun r' ws' tys' H1 locs1 hR hE hW hS => ?_)
                have hrr : Sr ws' cst (r1.toList ++ rest) (r'.toList ++ restA) := by
                  refine Sr.app ?_ (hrest.mono hE)
                  match r1, r', hR with
                  | none, none, _ => trivial
                  | some v, some v', hR => exact ⟨hR, trivial⟩
                refine ih (d' + 1) mi (pc + 3) ls (r1.toList ++ rest) w1 r w' hex cst base D p l e R s m args below meth c Q H1 locs1 lsA (r'.toList ++ restA) ws' tys' (cells + x1.length) (slots + sw x1) x2.length (sw x2) F ⟨hW, hS, r0.2.2.1.mono hE, hrr, r0.2.2.2.2⟩ hfr hlo l2 s2 (by omega) (by omega) ?_
                intro pc1 en1 ls1 st1 lsA1 stA1 H2 locs2 ws2 tys2 q1 q2 q3 q4 q5
                rw [Nat.add_assoc, Nat.add_assoc]
                exact kk pc1 en1 ls1 st1 lsA1 stA1 H2 locs2 ws2 tys2 q1 q2 q3 (hE.tr q4) q5
              · cases hex
            · cases hex
          · cases hex
        · cases hex
      · rename_i hg1 hg2
        split at hex
        · rename_i pc' ls' st' w1 hst
          obtain ⟨x1, hx1⟩ := stp_w hst
          obtain ⟨x2, hx2⟩ := exec_grow hex
          have go : ∀ (dc2 ds2 : Nat), w'.1.length = w1.1.length + dc2 → sw w'.1 = sw w1.1 + ds2 → ∀ (cells2 slots2 : Nat), cells2 + dc2 = cells + dc → slots2 + ds2 = slots + ds → ∀ (H1 : Heap) (locs1 : List Loc) (lsA1 : Array Slot) (stA1 : List Value) (ws1 : va_W) (tys1 : List (ClassId × FieldType)), Ext ws ws1 → FR cst base D mi s w1 ls' st' H1 locs1 lsA1 stA1 ws1 tys1 → W p l e R s m args below meth c H1 locs1 cells2 slots2 Q (F0 m pc' lsA1 stA1) := by
            intro dc2 ds2 g1 g2 cells2 slots2 g3 g4 H1 locs1 lsA1 stA1 ws1 tys1 hE r1
            refine ih d mi pc' ls' st' w1 r w' hex cst base D p l e R s m args below meth c Q H1 locs1 lsA1 stA1 ws1 tys1 cells2 slots2 dc2 ds2 F r1 hfr hlo g1 g2 (by omega) (by omega) ?_
            intro pc1 en1 ls1 st1 lsA1 stA1 H2 locs2 ws2 tys2 q1 q2 q3 q4 q5
            rw [g3, g4]
            exact kk pc1 en1 ls1 st1 lsA1 stA1 H2 locs2 ws2 tys2 q1 q2 q3 (hE.tr q4) q5
          unfold stp at hst
          split at hst
          · have hw1 := stpJ_w hst
            subst hw1
            exact sJ F hcd hst r0 (fun stA' r1 => go dc ds hdc hds cells slots rfl rfl H locs lsA stA' ws tys Ext.rf r1)
          · have hw1 := stpV_w hst
            subst hw1
            exact sV F hcd hst r0 (fun lsA' stA' r1 => go dc ds hdc hds cells slots rfl rfl H locs lsA' stA' ws tys Ext.rf r1)
          · have hw1 := stpL_w hst
            subst hw1
            exact sL F hcd hst r0 (fun lsA' stA' r1 => go dc ds hdc hds cells slots rfl rfl H locs lsA' stA' ws tys Ext.rf r1)
          · have hw1 := stpH_w hst
            exact sH F hcd hst r0 (fun H1 locs1 stA' ws1 _ hE r1 => go dc ds (by rw [hw1]; exact hdc) (by rw [hw1]; exact hds) cells slots rfl rfl H1 locs1 lsA stA' ws1 tys hE r1)
          · obtain ⟨dc1, ds1, g1, g2, g3⟩ := sN (l := l) (e := e) (R := R) (below := below) (Q := Q) (cells := cells) (slots := slots) F hcd hst r0 ⟨by omega, by omega⟩
            have l2 : w'.1.length = w1.1.length + x2.length := by rw [hx2, List.length_append]
            have s2 : sw w'.1 = sw w1.1 + sw x2 := by rw [hx2, sw_append]
            exact g3 (by omega) (by omega) (fun H1 locs1 stA' ws1 tys1 hE r1 => go x2.length (sw x2) l2 s2 (cells + dc1) (slots + ds1) (by omega) (by omega) H1 locs1 lsA stA' ws1 tys1 hE r1)
          · cases hst
        · cases hex
end SND2
