/-! What holds at the law's start: the rows up to lw_At are the skeleton's. -/
def R_law : String := "LeavesObjectLaw"
def lw_P (b : Addr) (xs : List Int32) (args : Array Value) (s : State) : Prop := args = #[.ref b] ∧ s.IntsAt b xs ∧ xs.length ≤ 3072 ∧ (Jvm.Cond.and given_1 narrow_1).before args s = true
def lw_Q (_ : Array Value) (s : State) (o : Outcome) (t : State) : Prop := o = .returned (some (.int 1)) ∧ Framed s o t [] 600000 7302250
def lw_Z (below : List Frame) (a : Array Value) (s : State) : State → Prop := fun t => ∃ o, t.status = .running ∧ Ended t below o ∧ lw_Q a s o t
/-- the law's own end, with 1 on the stack, nothing written that was there before, its room as the claim has it -/
theorem lw_ret {p : Program} {l : Launch} {e : Env} {s : State} {m : MethodId} {below : List Frame} {meth : Method} {c : Code} {b : Nat} (hx : p.tables.exec = Jvm.exec) (hb : c.code = code) (hr : meth.sig.returnType = ret) (hlocks : meth.locks = false) {pc : Nat} {H : Heap} {ls : Array Slot} (hdg : decode code pc = .ok (.ireturn, 1)) : W p l e room_1 s m #[Value.ref b] below meth c H [] 600000 7302250 (lw_Z below #[Value.ref b] s) (F0 m pc ls [.int 1]) := by
  intro T hT X
  obtain ⟨fs, hret, hrun, hended, hW, hframe⟩ := X.leave (v := some (.int 1)) (hlocks := hlocks) (fun h => by rw [hr] at h; cases h)
  have hmeth' : T.vm.method? m = some meth := X.method'
  refine ⟨T.setFrames fs, ?_, .returned (some (.int 1)), hrun, hended, rfl, ⟨_, rfl⟩, hW, hframe⟩
  jvm_step X.here [X.here.top, hx, hb, hdg, hmeth', hr, ret, narrow_b1]
  (try refine ⟨rfl, ?_⟩); (try refine ⟨rfl, ?_⟩)
  first | (intro acts; rw [hret _ acts rfl rfl rfl]) | rw [hret _ _ rfl rfl rfl]
  exact Steps.refl _
/-- what holds at the law's entry: the machine, the code, the tables' words (any of lw_tbl by 'hts w (by decide +kernel)'), the script of L ints xs at the cell b, what the Statement gives of the start (any of its parts by flat_of_before) -/
def lw_At (p : Program) (s : State) (m : MethodId) (meth : Method) (c : Code) (b L : Nat) (xs : Nat → Int32) : Prop :=
  p.tables.exec = Jvm.exec ∧ c.code = code ∧ meth.sig.returnType = ret ∧ c.maxLocals = 4 ∧ s.vm.findClass R_law = some m.cls ∧ (∀ w ∈ lw_tbl, w.before #[Value.ref b] s = true) ∧ va_X b L xs s s.heap ∧ b < s.heap.size ∧ meth.locks = false ∧ (Jvm.Cond.and given_1 narrow_1).before #[Value.ref b] s = true
theorem str_of {args : Array Value} {s : State} {A : Nat → Prop} {tm : Term} {n : Nat} {byt : List Int32} (hn : n < 2 ^ 31) (hex : (Cond.exactly tm "java/lang/String").before args s = true) (hco : (Cond.eq (.field tm "java/lang/String" "coder" "B") (.int 0)).before args s = true)
    (har : (Cond.arrayOf (.field tm "java/lang/String" "value" "[B") .byte).before args s = true) (hle : (Cond.eq (.length (.field tm "java/lang/String" "value" "[B")) (.int (Int32.ofNat n))).before args s = true) (hel : ∀ j : Nat, j < n → (Cond.eq (.elem (.field tm "java/lang/String" "value" "[B") (.int (Int32.ofNat j))) (.int (byt.getD j 0))).before args s = true) (hA : ∀ a : Nat, a < s.heap.size → ¬ A a) :
    ∃ aK aV, tm.eval args s none [] s = some (.ref aK) ∧ va_O "java/lang/String" aK A s s.heap ∧ va_OF "java/lang/String" "coder" "B" (.int 0) aK A s s.heap ∧ va_OF "java/lang/String" "value" "[B" (.ref aV) aK A s s.heap ∧ va_T .byte aV n (fun j => .int (byt.getD j 0)) A s s.heap := by
  have z : ∀ {i : Nat}, i < 1 → i = 0 := fun h => by omega
  obtain ⟨adK, adV, h, ht⟩ := vk_Sof (args := args) (s := s) (N := 1) (tm := fun _ => tm) (len := [n]) (byt := [byt]) (A := A) (fun i hi => by rw [z hi]; exact hn) (fun _ _ => hex) (fun _ _ => hco) (fun _ _ => har) (fun i hi => by rw [z hi]; exact hle) (fun i hi j hj => by
    rw [z hi] at hj ⊢
    exact hel j hj) (fun i j hi hj hij => absurd ((z hi).trans (z hj).symm) hij) hA
  obtain ⟨h1, h2, h3, h4⟩ := h.1 0 (by decide)
  exact ⟨adK 0, adV 0, ht 0 (by decide), h1, h2, h3, h4⟩
set_option maxRecDepth 100000 in
theorem str_0 {args : Array Value} {s : State} {A : Nat → Prop} (hs : ∀ c ∈ flatC (Jvm.Cond.and given_1 narrow_1), c.before args s = true) (hA : ∀ a : Nat, a < s.heap.size → ¬ A a) : ∃ aK aV, (Jvm.Term.string "LeavesObject$Text" (strK 0)).eval args s none [] s = some (.ref aK) ∧ va_O "java/lang/String" aK A s s.heap ∧ va_OF "java/lang/String" "coder" "B" (.int 0) aK A s s.heap ∧ va_OF "java/lang/String" "value" "[B" (.ref aV) aK A s s.heap ∧ va_T .byte aV (strLen.getD 0 0) (fun j => .int ((strByt.getD 0 []).getD j 0)) A s s.heap := by
  refine str_of (n := 4) (byt := [98, 97, 108, 107]) (by decide) (hs _ (List.mem_of_getElem? (i := 82) (by decide +kernel))) (hs _ (List.mem_of_getElem? (i := 83) (by decide +kernel))) (hs _ (List.mem_of_getElem? (i := 84) (by decide +kernel))) (hs _ (List.mem_of_getElem? (i := 85) (by decide +kernel))) (fun j hj => ?_) hA
  match j, hj with
  | 0, _ => exact (hs _ (List.mem_of_getElem? (i := 86) (by decide +kernel)))
  | 1, _ => exact (hs _ (List.mem_of_getElem? (i := 87) (by decide +kernel)))
  | 2, _ => exact (hs _ (List.mem_of_getElem? (i := 88) (by decide +kernel)))
  | 3, _ => exact (hs _ (List.mem_of_getElem? (i := 89) (by decide +kernel)))
  | j + 4, hj => omega
set_option maxRecDepth 100000 in
theorem str_1 {args : Array Value} {s : State} {A : Nat → Prop} (hs : ∀ c ∈ flatC (Jvm.Cond.and given_1 narrow_1), c.before args s = true) (hA : ∀ a : Nat, a < s.heap.size → ¬ A a) : ∃ aK aV, (Jvm.Term.string "LeavesObject$Text" (strK 1)).eval args s none [] s = some (.ref aK) ∧ va_O "java/lang/String" aK A s s.heap ∧ va_OF "java/lang/String" "coder" "B" (.int 0) aK A s s.heap ∧ va_OF "java/lang/String" "value" "[B" (.ref aV) aK A s s.heap ∧ va_T .byte aV (strLen.getD 1 0) (fun j => .int ((strByt.getD 1 []).getD j 0)) A s s.heap := by
  refine str_of (n := 4) (byt := [114, 105, 115, 101]) (by decide) (hs _ (List.mem_of_getElem? (i := 90) (by decide +kernel))) (hs _ (List.mem_of_getElem? (i := 91) (by decide +kernel))) (hs _ (List.mem_of_getElem? (i := 92) (by decide +kernel))) (hs _ (List.mem_of_getElem? (i := 93) (by decide +kernel))) (fun j hj => ?_) hA
  match j, hj with
  | 0, _ => exact (hs _ (List.mem_of_getElem? (i := 94) (by decide +kernel)))
  | 1, _ => exact (hs _ (List.mem_of_getElem? (i := 95) (by decide +kernel)))
  | 2, _ => exact (hs _ (List.mem_of_getElem? (i := 96) (by decide +kernel)))
  | 3, _ => exact (hs _ (List.mem_of_getElem? (i := 97) (by decide +kernel)))
  | j + 4, hj => omega
set_option maxRecDepth 100000 in
theorem str_2 {args : Array Value} {s : State} {A : Nat → Prop} (hs : ∀ c ∈ flatC (Jvm.Cond.and given_1 narrow_1), c.before args s = true) (hA : ∀ a : Nat, a < s.heap.size → ¬ A a) : ∃ aK aV, (Jvm.Term.string "LeavesObject$Text" (strK 2)).eval args s none [] s = some (.ref aK) ∧ va_O "java/lang/String" aK A s s.heap ∧ va_OF "java/lang/String" "coder" "B" (.int 0) aK A s s.heap ∧ va_OF "java/lang/String" "value" "[B" (.ref aV) aK A s s.heap ∧ va_T .byte aV (strLen.getD 2 0) (fun j => .int ((strByt.getD 2 []).getD j 0)) A s s.heap := by
  refine str_of (n := 4) (byt := [102, 97, 108, 108]) (by decide) (hs _ (List.mem_of_getElem? (i := 99) (by decide +kernel))) (hs _ (List.mem_of_getElem? (i := 100) (by decide +kernel))) (hs _ (List.mem_of_getElem? (i := 101) (by decide +kernel))) (hs _ (List.mem_of_getElem? (i := 102) (by decide +kernel))) (fun j hj => ?_) hA
  match j, hj with
  | 0, _ => exact (hs _ (List.mem_of_getElem? (i := 103) (by decide +kernel)))
  | 1, _ => exact (hs _ (List.mem_of_getElem? (i := 104) (by decide +kernel)))
  | 2, _ => exact (hs _ (List.mem_of_getElem? (i := 105) (by decide +kernel)))
  | 3, _ => exact (hs _ (List.mem_of_getElem? (i := 106) (by decide +kernel)))
  | j + 4, hj => omega
set_option maxRecDepth 100000 in
theorem str_3 {args : Array Value} {s : State} {A : Nat → Prop} (hs : ∀ c ∈ flatC (Jvm.Cond.and given_1 narrow_1), c.before args s = true) (hA : ∀ a : Nat, a < s.heap.size → ¬ A a) : ∃ aK aV, (Jvm.Term.string "LeavesObject$Text" (strK 3)).eval args s none [] s = some (.ref aK) ∧ va_O "java/lang/String" aK A s s.heap ∧ va_OF "java/lang/String" "coder" "B" (.int 0) aK A s s.heap ∧ va_OF "java/lang/String" "value" "[B" (.ref aV) aK A s s.heap ∧ va_T .byte aV (strLen.getD 3 0) (fun j => .int ((strByt.getD 3 []).getD j 0)) A s s.heap := by
  refine str_of (n := 4) (byt := [119, 105, 108, 108]) (by decide) (hs _ (List.mem_of_getElem? (i := 109) (by decide +kernel))) (hs _ (List.mem_of_getElem? (i := 110) (by decide +kernel))) (hs _ (List.mem_of_getElem? (i := 111) (by decide +kernel))) (hs _ (List.mem_of_getElem? (i := 112) (by decide +kernel))) (fun j hj => ?_) hA
  match j, hj with
  | 0, _ => exact (hs _ (List.mem_of_getElem? (i := 113) (by decide +kernel)))
  | 1, _ => exact (hs _ (List.mem_of_getElem? (i := 114) (by decide +kernel)))
  | 2, _ => exact (hs _ (List.mem_of_getElem? (i := 115) (by decide +kernel)))
  | 3, _ => exact (hs _ (List.mem_of_getElem? (i := 116) (by decide +kernel)))
  | j + 4, hj => omega
set_option maxRecDepth 100000 in
theorem str_4 {args : Array Value} {s : State} {A : Nat → Prop} (hs : ∀ c ∈ flatC (Jvm.Cond.and given_1 narrow_1), c.before args s = true) (hA : ∀ a : Nat, a < s.heap.size → ¬ A a) : ∃ aK aV, (Jvm.Term.string "LeavesObject$Text" (strK 4)).eval args s none [] s = some (.ref aK) ∧ va_O "java/lang/String" aK A s s.heap ∧ va_OF "java/lang/String" "coder" "B" (.int 0) aK A s s.heap ∧ va_OF "java/lang/String" "value" "[B" (.ref aV) aK A s s.heap ∧ va_T .byte aV (strLen.getD 4 0) (fun j => .int ((strByt.getD 4 []).getD j 0)) A s s.heap := by
  refine str_of (n := 1) (byt := [32]) (by decide) (hs _ (List.mem_of_getElem? (i := 120) (by decide +kernel))) (hs _ (List.mem_of_getElem? (i := 121) (by decide +kernel))) (hs _ (List.mem_of_getElem? (i := 122) (by decide +kernel))) (hs _ (List.mem_of_getElem? (i := 123) (by decide +kernel))) (fun j hj => ?_) hA
  match j, hj with
  | 0, _ => exact (hs _ (List.mem_of_getElem? (i := 124) (by decide +kernel)))
  | j + 1, hj => omega
set_option maxRecDepth 100000 in
theorem str_5 {args : Array Value} {s : State} {A : Nat → Prop} (hs : ∀ c ∈ flatC (Jvm.Cond.and given_1 narrow_1), c.before args s = true) (hA : ∀ a : Nat, a < s.heap.size → ¬ A a) : ∃ aK aV, (Jvm.Term.string "LeavesObject$Text" (strK 5)).eval args s none [] s = some (.ref aK) ∧ va_O "java/lang/String" aK A s s.heap ∧ va_OF "java/lang/String" "coder" "B" (.int 0) aK A s s.heap ∧ va_OF "java/lang/String" "value" "[B" (.ref aV) aK A s s.heap ∧ va_T .byte aV (strLen.getD 5 0) (fun j => .int ((strByt.getD 5 []).getD j 0)) A s s.heap := by
  refine str_of (n := 6) (byt := [99, 119, 107, 118, 108, 110]) (by decide) (hs _ (List.mem_of_getElem? (i := 139) (by decide +kernel))) (hs _ (List.mem_of_getElem? (i := 140) (by decide +kernel))) (hs _ (List.mem_of_getElem? (i := 141) (by decide +kernel))) (hs _ (List.mem_of_getElem? (i := 142) (by decide +kernel))) (fun j hj => ?_) hA
  match j, hj with
  | 0, _ => exact (hs _ (List.mem_of_getElem? (i := 143) (by decide +kernel)))
  | 1, _ => exact (hs _ (List.mem_of_getElem? (i := 144) (by decide +kernel)))
  | 2, _ => exact (hs _ (List.mem_of_getElem? (i := 145) (by decide +kernel)))
  | 3, _ => exact (hs _ (List.mem_of_getElem? (i := 146) (by decide +kernel)))
  | 4, _ => exact (hs _ (List.mem_of_getElem? (i := 147) (by decide +kernel)))
  | 5, _ => exact (hs _ (List.mem_of_getElem? (i := 148) (by decide +kernel)))
  | j + 6, hj => omega
set_option maxRecDepth 100000 in
theorem str_6 {args : Array Value} {s : State} {A : Nat → Prop} (hs : ∀ c ∈ flatC (Jvm.Cond.and given_1 narrow_1), c.before args s = true) (hA : ∀ a : Nat, a < s.heap.size → ¬ A a) : ∃ aK aV, (Jvm.Term.string "LeavesObject$Text" (strK 6)).eval args s none [] s = some (.ref aK) ∧ va_O "java/lang/String" aK A s s.heap ∧ va_OF "java/lang/String" "coder" "B" (.int 0) aK A s s.heap ∧ va_OF "java/lang/String" "value" "[B" (.ref aV) aK A s s.heap ∧ va_T .byte aV (strLen.getD 6 0) (fun j => .int ((strByt.getD 6 []).getD j 0)) A s s.heap := by
  refine str_of (n := 3) (byt := [60, 61, 62]) (by decide) (hs _ (List.mem_of_getElem? (i := 155) (by decide +kernel))) (hs _ (List.mem_of_getElem? (i := 156) (by decide +kernel))) (hs _ (List.mem_of_getElem? (i := 157) (by decide +kernel))) (hs _ (List.mem_of_getElem? (i := 158) (by decide +kernel))) (fun j hj => ?_) hA
  match j, hj with
  | 0, _ => exact (hs _ (List.mem_of_getElem? (i := 159) (by decide +kernel)))
  | 1, _ => exact (hs _ (List.mem_of_getElem? (i := 160) (by decide +kernel)))
  | 2, _ => exact (hs _ (List.mem_of_getElem? (i := 161) (by decide +kernel)))
  | j + 3, hj => omega
set_option maxRecDepth 100000 in
theorem str_7 {args : Array Value} {s : State} {A : Nat → Prop} (hs : ∀ c ∈ flatC (Jvm.Cond.and given_1 narrow_1), c.before args s = true) (hA : ∀ a : Nat, a < s.heap.size → ¬ A a) : ∃ aK aV, (Jvm.Term.string "LeavesObject$Text" (strK 7)).eval args s none [] s = some (.ref aK) ∧ va_O "java/lang/String" aK A s s.heap ∧ va_OF "java/lang/String" "coder" "B" (.int 0) aK A s s.heap ∧ va_OF "java/lang/String" "value" "[B" (.ref aV) aK A s s.heap ∧ va_T .byte aV (strLen.getD 7 0) (fun j => .int ((strByt.getD 7 []).getD j 0)) A s s.heap := by
  refine str_of (n := 1) (byt := [41]) (by decide) (hs _ (List.mem_of_getElem? (i := 129) (by decide +kernel))) (hs _ (List.mem_of_getElem? (i := 130) (by decide +kernel))) (hs _ (List.mem_of_getElem? (i := 131) (by decide +kernel))) (hs _ (List.mem_of_getElem? (i := 132) (by decide +kernel))) (fun j hj => ?_) hA
  match j, hj with
  | 0, _ => exact (hs _ (List.mem_of_getElem? (i := 133) (by decide +kernel)))
  | j + 1, hj => omega
set_option maxRecDepth 100000 in
theorem tab_0 {args : Array Value} {s : State} {A : Nat → Prop} (hs : ∀ c ∈ flatC (Jvm.Cond.and given_1 narrow_1), c.before args s = true) (hA : ∀ a : Nat, a < s.heap.size → ¬ A a) : ∃ t : Nat, (Jvm.Term.static (sttT 0).1 (sttT 0).2.1 (sttT 0).2.2).eval args s none [] s = some (.ref t) ∧ va_T .int t 7 (fun j => .int (([-1, 0, 0, 0, 1, 2, 3] : List Int32).getD j 0)) A s s.heap := by
  refine va_Tof (by decide) (hs _ (List.mem_of_getElem? (i := 19) (by decide +kernel))) (va_eqt (hs _ (List.mem_of_getElem? (i := 20) (by decide +kernel)))) (fun j hj => ?_) hA
  match j, hj with
  | 0, _ => exact va_eqt (hs _ (List.mem_of_getElem? (i := 21) (by decide +kernel)))
  | 1, _ => exact va_eqt (hs _ (List.mem_of_getElem? (i := 22) (by decide +kernel)))
  | 2, _ => exact va_eqt (hs _ (List.mem_of_getElem? (i := 23) (by decide +kernel)))
  | 3, _ => exact va_eqt (hs _ (List.mem_of_getElem? (i := 24) (by decide +kernel)))
  | 4, _ => exact va_eqt (hs _ (List.mem_of_getElem? (i := 25) (by decide +kernel)))
  | 5, _ => exact va_eqt (hs _ (List.mem_of_getElem? (i := 26) (by decide +kernel)))
  | 6, _ => exact va_eqt (hs _ (List.mem_of_getElem? (i := 27) (by decide +kernel)))
  | j + 7, hj => omega
set_option maxRecDepth 100000 in
theorem tab_1 {args : Array Value} {s : State} {A : Nat → Prop} (hs : ∀ c ∈ flatC (Jvm.Cond.and given_1 narrow_1), c.before args s = true) (hA : ∀ a : Nat, a < s.heap.size → ¬ A a) : ∃ t : Nat, (Jvm.Term.static (sttT 1).1 (sttT 1).2.1 (sttT 1).2.2).eval args s none [] s = some (.ref t) ∧ va_T .int t 21 (fun j => .int (([10, 11, 12, 0, 20, 0, 30, 0, 0, 0, 0, 40, 50, 51, 0, 0, 0, 60, 71, 70, 0] : List Int32).getD j 0)) A s s.heap := by
  refine va_Tof (by decide) (hs _ (List.mem_of_getElem? (i := 29) (by decide +kernel))) (va_eqt (hs _ (List.mem_of_getElem? (i := 30) (by decide +kernel)))) (fun j hj => ?_) hA
  match j, hj with
  | 0, _ => exact va_eqt (hs _ (List.mem_of_getElem? (i := 31) (by decide +kernel)))
  | 1, _ => exact va_eqt (hs _ (List.mem_of_getElem? (i := 32) (by decide +kernel)))
  | 2, _ => exact va_eqt (hs _ (List.mem_of_getElem? (i := 33) (by decide +kernel)))
  | 3, _ => exact va_eqt (hs _ (List.mem_of_getElem? (i := 34) (by decide +kernel)))
  | 4, _ => exact va_eqt (hs _ (List.mem_of_getElem? (i := 35) (by decide +kernel)))
  | 5, _ => exact va_eqt (hs _ (List.mem_of_getElem? (i := 36) (by decide +kernel)))
  | 6, _ => exact va_eqt (hs _ (List.mem_of_getElem? (i := 37) (by decide +kernel)))
  | 7, _ => exact va_eqt (hs _ (List.mem_of_getElem? (i := 38) (by decide +kernel)))
  | 8, _ => exact va_eqt (hs _ (List.mem_of_getElem? (i := 39) (by decide +kernel)))
  | 9, _ => exact va_eqt (hs _ (List.mem_of_getElem? (i := 40) (by decide +kernel)))
  | 10, _ => exact va_eqt (hs _ (List.mem_of_getElem? (i := 41) (by decide +kernel)))
  | 11, _ => exact va_eqt (hs _ (List.mem_of_getElem? (i := 42) (by decide +kernel)))
  | 12, _ => exact va_eqt (hs _ (List.mem_of_getElem? (i := 43) (by decide +kernel)))
  | 13, _ => exact va_eqt (hs _ (List.mem_of_getElem? (i := 44) (by decide +kernel)))
  | 14, _ => exact va_eqt (hs _ (List.mem_of_getElem? (i := 45) (by decide +kernel)))
  | 15, _ => exact va_eqt (hs _ (List.mem_of_getElem? (i := 46) (by decide +kernel)))
  | 16, _ => exact va_eqt (hs _ (List.mem_of_getElem? (i := 47) (by decide +kernel)))
  | 17, _ => exact va_eqt (hs _ (List.mem_of_getElem? (i := 48) (by decide +kernel)))
  | 18, _ => exact va_eqt (hs _ (List.mem_of_getElem? (i := 49) (by decide +kernel)))
  | 19, _ => exact va_eqt (hs _ (List.mem_of_getElem? (i := 50) (by decide +kernel)))
  | 20, _ => exact va_eqt (hs _ (List.mem_of_getElem? (i := 51) (by decide +kernel)))
  | j + 21, hj => omega
set_option maxRecDepth 100000 in
theorem tab_2 {args : Array Value} {s : State} {A : Nat → Prop} (hs : ∀ c ∈ flatC (Jvm.Cond.and given_1 narrow_1), c.before args s = true) (hA : ∀ a : Nat, a < s.heap.size → ¬ A a) : ∃ t : Nat, (Jvm.Term.static (sttT 2).1 (sttT 2).2.1 (sttT 2).2.2).eval args s none [] s = some (.ref t) ∧ va_T .int t 6 (fun j => .int (([0, 1, 5, 21, 85, 341] : List Int32).getD j 0)) A s s.heap := by
  refine va_Tof (by decide) (hs _ (List.mem_of_getElem? (i := 10) (by decide +kernel))) (va_eqt (hs _ (List.mem_of_getElem? (i := 11) (by decide +kernel)))) (fun j hj => ?_) hA
  match j, hj with
  | 0, _ => exact va_eqt (hs _ (List.mem_of_getElem? (i := 12) (by decide +kernel)))
  | 1, _ => exact va_eqt (hs _ (List.mem_of_getElem? (i := 13) (by decide +kernel)))
  | 2, _ => exact va_eqt (hs _ (List.mem_of_getElem? (i := 14) (by decide +kernel)))
  | 3, _ => exact va_eqt (hs _ (List.mem_of_getElem? (i := 15) (by decide +kernel)))
  | 4, _ => exact va_eqt (hs _ (List.mem_of_getElem? (i := 16) (by decide +kernel)))
  | 5, _ => exact va_eqt (hs _ (List.mem_of_getElem? (i := 17) (by decide +kernel)))
  | j + 6, hj => omega
set_option maxRecDepth 100000 in
theorem gc_start {p : Program} {s : State} {m : MethodId} {meth : Method} {c : Code} {b L : Nat} {xs : Nat → Int32} (C0 : lw_At p s m meth c b L xs) : ∃ cst : Nat → Value, cst 1000050 = .ref b ∧ Gc (L + 1, xs) cst (xA s.heap.size) s s.heap := by
  obtain ⟨hx, hb, hr, hml, hown, hts, hX, hbl, hlocks, hgv⟩ := C0
  have hA : ∀ a : Nat, a < s.heap.size → ¬ xA s.heap.size a := fun a h => Nat.not_le.mpr h
  have hs := flat_of_before _ hgv
  have hstr : ∀ i : Nat, ∃ q : Nat × Nat, i < 8 → (Jvm.Term.string "LeavesObject$Text" (strK i)).eval #[Value.ref b] s none [] s = some (.ref q.1) ∧ va_O "java/lang/String" q.1 (xA s.heap.size) s s.heap ∧ va_OF "java/lang/String" "coder" "B" (.int 0) q.1 (xA s.heap.size) s s.heap ∧ va_OF "java/lang/String" "value" "[B" (.ref q.2) q.1 (xA s.heap.size) s s.heap ∧ va_T .byte q.2 (strLen.getD i 0) (fun j => .int ((strByt.getD i []).getD j 0)) (xA s.heap.size) s s.heap := by
    intro i
    match i with
    | 0 => obtain ⟨a1, a2, h⟩ := str_0 hs hA; exact ⟨(a1, a2), fun _ => h⟩
    | 1 => obtain ⟨a1, a2, h⟩ := str_1 hs hA; exact ⟨(a1, a2), fun _ => h⟩
    | 2 => obtain ⟨a1, a2, h⟩ := str_2 hs hA; exact ⟨(a1, a2), fun _ => h⟩
    | 3 => obtain ⟨a1, a2, h⟩ := str_3 hs hA; exact ⟨(a1, a2), fun _ => h⟩
    | 4 => obtain ⟨a1, a2, h⟩ := str_4 hs hA; exact ⟨(a1, a2), fun _ => h⟩
    | 5 => obtain ⟨a1, a2, h⟩ := str_5 hs hA; exact ⟨(a1, a2), fun _ => h⟩
    | 6 => obtain ⟨a1, a2, h⟩ := str_6 hs hA; exact ⟨(a1, a2), fun _ => h⟩
    | 7 => obtain ⟨a1, a2, h⟩ := str_7 hs hA; exact ⟨(a1, a2), fun _ => h⟩
    | i + 8 => exact ⟨(0, 0), fun h => absurd h (by omega)⟩
  obtain ⟨ad, had⟩ := Classical.axiomOfChoice hstr
  obtain ⟨t0, e0, f0⟩ := tab_0 hs hA
  obtain ⟨t1, e1, f1⟩ := tab_1 hs hA
  obtain ⟨t2, e2, f2⟩ := tab_2 hs hA
  have hfo : ∃ v : Value, (v = .null ∨ ∃ t, v = .ref t) ∧ va_Z (sttT 20).1 (sttT 20).2.1 (sttT 20).2.2 v (xA s.heap.size) s s.heap := by
    rcases va_Zqof (C := "jdk/internal/util/Preconditions") (n := "SIOOBE_FORMATTER") (d := "Ljava/util/function/BiFunction;") (hts _ (wd_in (p := 2206) (by decide +kernel))) (hts _ (wd_in (p := 1017) (by decide +kernel))) (hs _ (List.mem_of_getElem? (i := 5) (by decide +kernel))) hA with h | ⟨t, h⟩
    · exact ⟨_, Or.inl rfl, h⟩
    · exact ⟨_, Or.inr ⟨t, rfl⟩, h⟩
  obtain ⟨fo, hfo1, hfo2⟩ := hfo
  refine ⟨fun n => if n = 1000050 then .ref b else if n = 1000060 then fo else if n = 1000040 then .ref t0 else if n = 1000041 then .ref t1 else if n = 1000042 then .ref t2 else if 1000020 ≤ n then .ref (ad (n - 1000020)).2 else .ref (ad (n - 1000000)).1, rfl, ?_, ?_, ⟨hfo1, hfo2⟩, ?_, Or.inr ⟨b, rfl, hX, hbl, hA b hbl⟩, ?_⟩
  · intro q hq
    match q, hq with
    | 0, _ => exact ⟨t0, rfl, va_Zref (hts _ (wd_in (p := 4052) (by decide +kernel))) (hts _ (wd_in (p := 1001) (by decide +kernel))) e0 hA, _, _, rfl, f0⟩
    | 1, _ => exact ⟨t1, rfl, va_Zref (hts _ (wd_in (p := 4057) (by decide +kernel))) (hts _ (wd_in (p := 1001) (by decide +kernel))) e1 hA, _, _, rfl, f1⟩
    | 2, _ => exact ⟨t2, rfl, va_Zref (hts _ (wd_in (p := 3115) (by decide +kernel))) (hts _ (wd_in (p := 1001) (by decide +kernel))) e2 hA, _, _, rfl, f2⟩
    | q + 3, hq => omega
  · exact va_Zof (hts _ (wd_in (p := 2190) (by decide +kernel))) (hts _ (wd_in (p := 1015) (by decide +kernel))) (va_eqi (hs _ (List.mem_of_getElem? (i := 4) (by decide +kernel)))) hA
  · intro i hi
    obtain ⟨g1, g2, g3, g4, g5⟩ := had i hi
    have r1 : vk_R "LeavesObject$Text" (strK i) (strT i) (ad i).1 s := by
      refine vk_R.of (A := #[Value.ref b]) ?_ g1
      match i, hi with
      | 0, _ => exact hts _ (wd_in (p := 2173) (by decide +kernel))
      | 1, _ => exact hts _ (wd_in (p := 2174) (by decide +kernel))
      | 2, _ => exact hts _ (wd_in (p := 2175) (by decide +kernel))
      | 3, _ => exact hts _ (wd_in (p := 2176) (by decide +kernel))
      | 4, _ => exact hts _ (wd_in (p := 2229) (by decide +kernel))
      | 5, _ => exact hts _ (wd_in (p := 3013) (by decide +kernel))
      | 6, _ => exact hts _ (wd_in (p := 3018) (by decide +kernel))
      | 7, _ => exact hts _ (wd_in (p := 3008) (by decide +kernel))
      | i + 8, hi => omega
    refine ⟨(ad i).1, (ad i).2, ?_, ?_, r1, g2, g3, g4, g5⟩
    · dsimp only
      rw [if_neg (by omega), if_neg (by omega), if_neg (by omega), if_neg (by omega), if_neg (by omega), if_neg (by omega), Nat.add_sub_cancel_left]
    · dsimp only
      rw [if_neg (by omega), if_neg (by omega), if_neg (by omega), if_neg (by omega), if_neg (by omega), if_pos (by omega), Nat.add_sub_cancel_left]
  · intro w hw hn
    have h1 := hts w hw
    unfold isNest at hn
    split at hn
    · exact va_Nw.of rfl h1
    · exact va_Nw.of rfl h1
    · exact h1
    · cases hn
set_option maxRecDepth 100000 in
theorem va_K_start {args : Array Value} {s : State} (hts : ∀ w ∈ lw_tbl, w.before args s = true) : ∃ D : va_G, va_K D classes [] s := by
  obtain ⟨c0, i0, h0⟩ := u_known (C := RX0) (T := TX0) (N := 2) (n := 2) hts inX0 (hts (.instantiable RX0 2) (wd_in (p := 1206) (by decide +kernel)))
  obtain ⟨c1, i1, h1⟩ := u_known (C := RX1) (T := TX1) (N := 7) (n := 7) hts inX1 (hts (.instantiable RX1 7) (wd_in (p := 1057) (by decide +kernel)))
  obtain ⟨c2, i2, h2⟩ := u_known (C := RX2) (T := TX2) (N := 8) (n := 8) hts inX2 (hts (.instantiable RX2 8) (wd_in (p := 1149) (by decide +kernel)))
  obtain ⟨c4, i4, h4⟩ := u_known (C := RX4) (T := TX4) (N := 3) (n := 3) hts inX4 (hts (.instantiable RX4 3) (wd_in (p := 1037) (by decide +kernel)))
  obtain ⟨c5, i5, h5⟩ := u_known (C := RX5) (T := TX5) (N := 7) (n := 7) hts inX5 (hts (.instantiable RX5 7) (wd_in (p := 1029) (by decide +kernel)))
  obtain ⟨c6, i6, h6⟩ := u_known (C := RX6) (T := TX6) (N := 3) (n := 3) hts inX6 (hts (.instantiable RX6 3) (wd_in (p := 1221) (by decide +kernel)))
  obtain ⟨c7, i7, h7⟩ := u_known (C := RX7) (T := TX7) (N := 3) (n := 3) hts inX7 (hts (.instantiable RX7 3) (wd_in (p := 1130) (by decide +kernel)))
  obtain ⟨c8, i8, h8⟩ := u_known (C := RX8) (T := TX8) (N := 3) (n := 3) hts inX8 (hts (.instantiable RX8 3) (wd_in (p := 1188) (by decide +kernel)))
  obtain ⟨c9, i9, h9⟩ := u_known (C := RX9) (T := TX9) (N := 12) (n := 12) hts inX9 (hts (.instantiable RX9 12) (wd_in (p := 1021) (by decide +kernel)))
  obtain ⟨c10, i10, h10⟩ := u_known (C := RX10) (T := TX10) (N := 65) (n := 65) hts inX10 (hts (.instantiable RX10 65) (wd_in (p := 4121) (by decide +kernel)))
  refine ⟨(fun k => if k = 0 then c0 else if k = 1 then c1 else if k = 2 then c2 else if k = 3 then c4 else if k = 4 then c4 else if k = 5 then c5 else if k = 6 then c6 else if k = 7 then c7 else if k = 8 then c8 else if k = 9 then c9 else c10, fun k => if k = 0 then i0 else if k = 1 then i1 else if k = 2 then i2 else if k = 3 then i4 else if k = 4 then i4 else if k = 5 then i5 else if k = 6 then i6 else if k = 7 then i7 else if k = 8 then i8 else if k = 9 then i9 else i10), ?_, fun k q h => by simp at h⟩
  intro k q hq
  match k, hq with
  | 0, hq => cases hq; exact h0
  | 1, hq => cases hq; exact h1
  | 2, hq => cases hq; exact h2
  | 3, hq => cases hq; exact h4
  | 4, hq => cases hq; exact h4
  | 5, hq => cases hq; exact h5
  | 6, hq => cases hq; exact h6
  | 7, hq => cases hq; exact h7
  | 8, hq => cases hq; exact h8
  | 9, hq => cases hq; exact h9
  | 10, hq => cases hq; exact h10
  | k + 11, hq => simp [classes] at hq
/-- the law as a method of the small machine -/
def mLaw : MI := (x, code, 4, ret, kLaw, 1, [])
theorem gs_all : ∀ mj ∈ mtab, (mC mj).all gsOk = true := List.all_eq_true.mp (by decide +kernel : mtab.all (fun mj => (mC mj).all gsOk) = true)
theorem gs_law : kLaw.all gsOk = true := by decide +kernel
theorem mt_0 : ∀ mj ∈ [m0, m1, m2, m3, m4, m5, m6, m7, m8, m9, m10, m11, m12, m13, m14, m15], (mOk mj && (mC mj).all (eOk (mY mj) (mB mj))) = true := List.forall_mem_cons.mpr ⟨ok0, List.forall_mem_cons.mpr ⟨ok1, List.forall_mem_cons.mpr ⟨ok2, List.forall_mem_cons.mpr ⟨ok3, List.forall_mem_cons.mpr ⟨ok4, List.forall_mem_cons.mpr ⟨ok5, List.forall_mem_cons.mpr ⟨ok6, List.forall_mem_cons.mpr ⟨ok7, List.forall_mem_cons.mpr ⟨ok8, List.forall_mem_cons.mpr ⟨ok9, List.forall_mem_cons.mpr ⟨ok10, List.forall_mem_cons.mpr ⟨ok11, List.forall_mem_cons.mpr ⟨ok12, List.forall_mem_cons.mpr ⟨ok13, List.forall_mem_cons.mpr ⟨ok14, List.forall_mem_cons.mpr ⟨ok15, fun _ h => absurd h List.not_mem_nil⟩⟩⟩⟩⟩⟩⟩⟩⟩⟩⟩⟩⟩⟩⟩⟩
theorem mt_1 : ∀ mj ∈ [m16, m17, m18, m19, m20, m21, m22, m23, m24, m25, m26, m27, m28, m29, m30, m31], (mOk mj && (mC mj).all (eOk (mY mj) (mB mj))) = true := List.forall_mem_cons.mpr ⟨ok16, List.forall_mem_cons.mpr ⟨ok17, List.forall_mem_cons.mpr ⟨ok18, List.forall_mem_cons.mpr ⟨ok19, List.forall_mem_cons.mpr ⟨ok20, List.forall_mem_cons.mpr ⟨ok21, List.forall_mem_cons.mpr ⟨ok22, List.forall_mem_cons.mpr ⟨ok23, List.forall_mem_cons.mpr ⟨ok24, List.forall_mem_cons.mpr ⟨ok25, List.forall_mem_cons.mpr ⟨ok26, List.forall_mem_cons.mpr ⟨ok27, List.forall_mem_cons.mpr ⟨ok28, List.forall_mem_cons.mpr ⟨ok29, List.forall_mem_cons.mpr ⟨ok30, List.forall_mem_cons.mpr ⟨ok31, fun _ h => absurd h List.not_mem_nil⟩⟩⟩⟩⟩⟩⟩⟩⟩⟩⟩⟩⟩⟩⟩⟩
theorem mt_2 : ∀ mj ∈ [m32, m33, m34, m35, m36, m37, m38, m39, m40, m41, m42, m43, m44, m45, m46, m47], (mOk mj && (mC mj).all (eOk (mY mj) (mB mj))) = true := List.forall_mem_cons.mpr ⟨ok32, List.forall_mem_cons.mpr ⟨ok33, List.forall_mem_cons.mpr ⟨ok34, List.forall_mem_cons.mpr ⟨ok35, List.forall_mem_cons.mpr ⟨ok36, List.forall_mem_cons.mpr ⟨ok37, List.forall_mem_cons.mpr ⟨ok38, List.forall_mem_cons.mpr ⟨ok39, List.forall_mem_cons.mpr ⟨ok40, List.forall_mem_cons.mpr ⟨ok41, List.forall_mem_cons.mpr ⟨ok42, List.forall_mem_cons.mpr ⟨ok43, List.forall_mem_cons.mpr ⟨ok44, List.forall_mem_cons.mpr ⟨ok45, List.forall_mem_cons.mpr ⟨ok46, List.forall_mem_cons.mpr ⟨ok47, fun _ h => absurd h List.not_mem_nil⟩⟩⟩⟩⟩⟩⟩⟩⟩⟩⟩⟩⟩⟩⟩⟩
theorem mt_3 : ∀ mj ∈ [m48, m49, m50, m51, m52, m53, m54, m55, m56, m57, m58, m59, m60, m61, m62, m63], (mOk mj && (mC mj).all (eOk (mY mj) (mB mj))) = true := List.forall_mem_cons.mpr ⟨ok48, List.forall_mem_cons.mpr ⟨ok49, List.forall_mem_cons.mpr ⟨ok50, List.forall_mem_cons.mpr ⟨ok51, List.forall_mem_cons.mpr ⟨ok52, List.forall_mem_cons.mpr ⟨ok53, List.forall_mem_cons.mpr ⟨ok54, List.forall_mem_cons.mpr ⟨ok55, List.forall_mem_cons.mpr ⟨ok56, List.forall_mem_cons.mpr ⟨ok57, List.forall_mem_cons.mpr ⟨ok58, List.forall_mem_cons.mpr ⟨ok59, List.forall_mem_cons.mpr ⟨ok60, List.forall_mem_cons.mpr ⟨ok61, List.forall_mem_cons.mpr ⟨ok62, List.forall_mem_cons.mpr ⟨ok63, fun _ h => absurd h List.not_mem_nil⟩⟩⟩⟩⟩⟩⟩⟩⟩⟩⟩⟩⟩⟩⟩⟩
theorem mt_4 : ∀ mj ∈ [m64, m65, m66, m67, m68, m69, m70, m71, m72, m73, m74, m75, m76, m77, m78, m79], (mOk mj && (mC mj).all (eOk (mY mj) (mB mj))) = true := List.forall_mem_cons.mpr ⟨ok64, List.forall_mem_cons.mpr ⟨ok65, List.forall_mem_cons.mpr ⟨ok66, List.forall_mem_cons.mpr ⟨ok67, List.forall_mem_cons.mpr ⟨ok68, List.forall_mem_cons.mpr ⟨ok69, List.forall_mem_cons.mpr ⟨ok70, List.forall_mem_cons.mpr ⟨ok71, List.forall_mem_cons.mpr ⟨ok72, List.forall_mem_cons.mpr ⟨ok73, List.forall_mem_cons.mpr ⟨ok74, List.forall_mem_cons.mpr ⟨ok75, List.forall_mem_cons.mpr ⟨ok76, List.forall_mem_cons.mpr ⟨ok77, List.forall_mem_cons.mpr ⟨ok78, List.forall_mem_cons.mpr ⟨ok79, fun _ h => absurd h List.not_mem_nil⟩⟩⟩⟩⟩⟩⟩⟩⟩⟩⟩⟩⟩⟩⟩⟩
theorem mt_5 : ∀ mj ∈ [m80, m81, m82, m83, m84, m85, m86, m87, m88, m89, m90, m91, m92, m93, m94, m95], (mOk mj && (mC mj).all (eOk (mY mj) (mB mj))) = true := List.forall_mem_cons.mpr ⟨ok80, List.forall_mem_cons.mpr ⟨ok81, List.forall_mem_cons.mpr ⟨ok82, List.forall_mem_cons.mpr ⟨ok83, List.forall_mem_cons.mpr ⟨ok84, List.forall_mem_cons.mpr ⟨ok85, List.forall_mem_cons.mpr ⟨ok86, List.forall_mem_cons.mpr ⟨ok87, List.forall_mem_cons.mpr ⟨ok88, List.forall_mem_cons.mpr ⟨ok89, List.forall_mem_cons.mpr ⟨ok90, List.forall_mem_cons.mpr ⟨ok91, List.forall_mem_cons.mpr ⟨ok92, List.forall_mem_cons.mpr ⟨ok93, List.forall_mem_cons.mpr ⟨ok94, List.forall_mem_cons.mpr ⟨ok95, fun _ h => absurd h List.not_mem_nil⟩⟩⟩⟩⟩⟩⟩⟩⟩⟩⟩⟩⟩⟩⟩⟩
theorem mt_6 : ∀ mj ∈ [m96, m97, m98, m99, m100, m101, m102, m103, m104, m105, m106, m107, m108, m109, m110, m111], (mOk mj && (mC mj).all (eOk (mY mj) (mB mj))) = true := List.forall_mem_cons.mpr ⟨ok96, List.forall_mem_cons.mpr ⟨ok97, List.forall_mem_cons.mpr ⟨ok98, List.forall_mem_cons.mpr ⟨ok99, List.forall_mem_cons.mpr ⟨ok100, List.forall_mem_cons.mpr ⟨ok101, List.forall_mem_cons.mpr ⟨ok102, List.forall_mem_cons.mpr ⟨ok103, List.forall_mem_cons.mpr ⟨ok104, List.forall_mem_cons.mpr ⟨ok105, List.forall_mem_cons.mpr ⟨ok106, List.forall_mem_cons.mpr ⟨ok107, List.forall_mem_cons.mpr ⟨ok108, List.forall_mem_cons.mpr ⟨ok109, List.forall_mem_cons.mpr ⟨ok110, List.forall_mem_cons.mpr ⟨ok111, fun _ h => absurd h List.not_mem_nil⟩⟩⟩⟩⟩⟩⟩⟩⟩⟩⟩⟩⟩⟩⟩⟩
theorem mt_7 : ∀ mj ∈ [m112, m113, m114, m115, m116, m117, m118, m119, m120, m121, m122, m123, m124, m125, m126, m127], (mOk mj && (mC mj).all (eOk (mY mj) (mB mj))) = true := List.forall_mem_cons.mpr ⟨ok112, List.forall_mem_cons.mpr ⟨ok113, List.forall_mem_cons.mpr ⟨ok114, List.forall_mem_cons.mpr ⟨ok115, List.forall_mem_cons.mpr ⟨ok116, List.forall_mem_cons.mpr ⟨ok117, List.forall_mem_cons.mpr ⟨ok118, List.forall_mem_cons.mpr ⟨ok119, List.forall_mem_cons.mpr ⟨ok120, List.forall_mem_cons.mpr ⟨ok121, List.forall_mem_cons.mpr ⟨ok122, List.forall_mem_cons.mpr ⟨ok123, List.forall_mem_cons.mpr ⟨ok124, List.forall_mem_cons.mpr ⟨ok125, List.forall_mem_cons.mpr ⟨ok126, List.forall_mem_cons.mpr ⟨ok127, fun _ h => absurd h List.not_mem_nil⟩⟩⟩⟩⟩⟩⟩⟩⟩⟩⟩⟩⟩⟩⟩⟩
theorem mt_8 : ∀ mj ∈ [m128, m129, m130, m131, m132, m133, m134, m135, m136, m137, m138, m139, m140, m141, m142, m143], (mOk mj && (mC mj).all (eOk (mY mj) (mB mj))) = true := List.forall_mem_cons.mpr ⟨ok128, List.forall_mem_cons.mpr ⟨ok129, List.forall_mem_cons.mpr ⟨ok130, List.forall_mem_cons.mpr ⟨ok131, List.forall_mem_cons.mpr ⟨ok132, List.forall_mem_cons.mpr ⟨ok133, List.forall_mem_cons.mpr ⟨ok134, List.forall_mem_cons.mpr ⟨ok135, List.forall_mem_cons.mpr ⟨ok136, List.forall_mem_cons.mpr ⟨ok137, List.forall_mem_cons.mpr ⟨ok138, List.forall_mem_cons.mpr ⟨ok139, List.forall_mem_cons.mpr ⟨ok140, List.forall_mem_cons.mpr ⟨ok141, List.forall_mem_cons.mpr ⟨ok142, List.forall_mem_cons.mpr ⟨ok143, fun _ h => absurd h List.not_mem_nil⟩⟩⟩⟩⟩⟩⟩⟩⟩⟩⟩⟩⟩⟩⟩⟩
theorem mt_9 : ∀ mj ∈ [m144, m145, m146, m147, m148, m149, m150, m151, m152, m153, m154, m155, m156, m157, m158, m159], (mOk mj && (mC mj).all (eOk (mY mj) (mB mj))) = true := List.forall_mem_cons.mpr ⟨ok144, List.forall_mem_cons.mpr ⟨ok145, List.forall_mem_cons.mpr ⟨ok146, List.forall_mem_cons.mpr ⟨ok147, List.forall_mem_cons.mpr ⟨ok148, List.forall_mem_cons.mpr ⟨ok149, List.forall_mem_cons.mpr ⟨ok150, List.forall_mem_cons.mpr ⟨ok151, List.forall_mem_cons.mpr ⟨ok152, List.forall_mem_cons.mpr ⟨ok153, List.forall_mem_cons.mpr ⟨ok154, List.forall_mem_cons.mpr ⟨ok155, List.forall_mem_cons.mpr ⟨ok156, List.forall_mem_cons.mpr ⟨ok157, List.forall_mem_cons.mpr ⟨ok158, List.forall_mem_cons.mpr ⟨ok159, fun _ h => absurd h List.not_mem_nil⟩⟩⟩⟩⟩⟩⟩⟩⟩⟩⟩⟩⟩⟩⟩⟩
theorem mt_10 : ∀ mj ∈ [m160, m161, m162, m163, m164, m165, m166, m167, m168, m169, m170, m171, m172, m173, m174, m175], (mOk mj && (mC mj).all (eOk (mY mj) (mB mj))) = true := List.forall_mem_cons.mpr ⟨ok160, List.forall_mem_cons.mpr ⟨ok161, List.forall_mem_cons.mpr ⟨ok162, List.forall_mem_cons.mpr ⟨ok163, List.forall_mem_cons.mpr ⟨ok164, List.forall_mem_cons.mpr ⟨ok165, List.forall_mem_cons.mpr ⟨ok166, List.forall_mem_cons.mpr ⟨ok167, List.forall_mem_cons.mpr ⟨ok168, List.forall_mem_cons.mpr ⟨ok169, List.forall_mem_cons.mpr ⟨ok170, List.forall_mem_cons.mpr ⟨ok171, List.forall_mem_cons.mpr ⟨ok172, List.forall_mem_cons.mpr ⟨ok173, List.forall_mem_cons.mpr ⟨ok174, List.forall_mem_cons.mpr ⟨ok175, fun _ h => absurd h List.not_mem_nil⟩⟩⟩⟩⟩⟩⟩⟩⟩⟩⟩⟩⟩⟩⟩⟩
theorem mt_11 : ∀ mj ∈ [m176, m177, m178, m179, m180, m181, m182, m183, m184, m185, m186, m187, m188, m189, m190, m191], (mOk mj && (mC mj).all (eOk (mY mj) (mB mj))) = true := List.forall_mem_cons.mpr ⟨ok176, List.forall_mem_cons.mpr ⟨ok177, List.forall_mem_cons.mpr ⟨ok178, List.forall_mem_cons.mpr ⟨ok179, List.forall_mem_cons.mpr ⟨ok180, List.forall_mem_cons.mpr ⟨ok181, List.forall_mem_cons.mpr ⟨ok182, List.forall_mem_cons.mpr ⟨ok183, List.forall_mem_cons.mpr ⟨ok184, List.forall_mem_cons.mpr ⟨ok185, List.forall_mem_cons.mpr ⟨ok186, List.forall_mem_cons.mpr ⟨ok187, List.forall_mem_cons.mpr ⟨ok188, List.forall_mem_cons.mpr ⟨ok189, List.forall_mem_cons.mpr ⟨ok190, List.forall_mem_cons.mpr ⟨ok191, fun _ h => absurd h List.not_mem_nil⟩⟩⟩⟩⟩⟩⟩⟩⟩⟩⟩⟩⟩⟩⟩⟩
theorem mt_12 : ∀ mj ∈ [m192, m193, m194, m195, m196, m197, m198, m199, m200, m201, m202, m203, m204, m205, m206, m207], (mOk mj && (mC mj).all (eOk (mY mj) (mB mj))) = true := List.forall_mem_cons.mpr ⟨ok192, List.forall_mem_cons.mpr ⟨ok193, List.forall_mem_cons.mpr ⟨ok194, List.forall_mem_cons.mpr ⟨ok195, List.forall_mem_cons.mpr ⟨ok196, List.forall_mem_cons.mpr ⟨ok197, List.forall_mem_cons.mpr ⟨ok198, List.forall_mem_cons.mpr ⟨ok199, List.forall_mem_cons.mpr ⟨ok200, List.forall_mem_cons.mpr ⟨ok201, List.forall_mem_cons.mpr ⟨ok202, List.forall_mem_cons.mpr ⟨ok203, List.forall_mem_cons.mpr ⟨ok204, List.forall_mem_cons.mpr ⟨ok205, List.forall_mem_cons.mpr ⟨ok206, List.forall_mem_cons.mpr ⟨ok207, fun _ h => absurd h List.not_mem_nil⟩⟩⟩⟩⟩⟩⟩⟩⟩⟩⟩⟩⟩⟩⟩⟩
theorem mt_13 : ∀ mj ∈ [m208, m209, m210, m211, m212, m213, m214, m215, m216, m217, m218, m219, m220, m221, m222, m223], (mOk mj && (mC mj).all (eOk (mY mj) (mB mj))) = true := List.forall_mem_cons.mpr ⟨ok208, List.forall_mem_cons.mpr ⟨ok209, List.forall_mem_cons.mpr ⟨ok210, List.forall_mem_cons.mpr ⟨ok211, List.forall_mem_cons.mpr ⟨ok212, List.forall_mem_cons.mpr ⟨ok213, List.forall_mem_cons.mpr ⟨ok214, List.forall_mem_cons.mpr ⟨ok215, List.forall_mem_cons.mpr ⟨ok216, List.forall_mem_cons.mpr ⟨ok217, List.forall_mem_cons.mpr ⟨ok218, List.forall_mem_cons.mpr ⟨ok219, List.forall_mem_cons.mpr ⟨ok220, List.forall_mem_cons.mpr ⟨ok221, List.forall_mem_cons.mpr ⟨ok222, List.forall_mem_cons.mpr ⟨ok223, fun _ h => absurd h List.not_mem_nil⟩⟩⟩⟩⟩⟩⟩⟩⟩⟩⟩⟩⟩⟩⟩⟩
theorem mt_14 : ∀ mj ∈ [m224, m225, m226, m227, m228, m229, m230, m231, m232, m233, m234, m235, m236], (mOk mj && (mC mj).all (eOk (mY mj) (mB mj))) = true := List.forall_mem_cons.mpr ⟨ok224, List.forall_mem_cons.mpr ⟨ok225, List.forall_mem_cons.mpr ⟨ok226, List.forall_mem_cons.mpr ⟨ok227, List.forall_mem_cons.mpr ⟨ok228, List.forall_mem_cons.mpr ⟨ok229, List.forall_mem_cons.mpr ⟨ok230, List.forall_mem_cons.mpr ⟨ok231, List.forall_mem_cons.mpr ⟨ok232, List.forall_mem_cons.mpr ⟨ok233, List.forall_mem_cons.mpr ⟨ok234, List.forall_mem_cons.mpr ⟨ok235, List.forall_mem_cons.mpr ⟨ok236, fun _ h => absurd h List.not_mem_nil⟩⟩⟩⟩⟩⟩⟩⟩⟩⟩⟩⟩⟩
set_option maxRecDepth 100000 in
theorem mt_ok : ∀ mj ∈ mtab, (mOk mj && (mC mj).all (eOk (mY mj) (mB mj))) = true := by
  show ∀ mj ∈ [m0, m1, m2, m3, m4, m5, m6, m7, m8, m9, m10, m11, m12, m13, m14, m15] ++ ([m16, m17, m18, m19, m20, m21, m22, m23, m24, m25, m26, m27, m28, m29, m30, m31] ++ ([m32, m33, m34, m35, m36, m37, m38, m39, m40, m41, m42, m43, m44, m45, m46, m47] ++ ([m48, m49, m50, m51, m52, m53, m54, m55, m56, m57, m58, m59, m60, m61, m62, m63] ++ ([m64, m65, m66, m67, m68, m69, m70, m71, m72, m73, m74, m75, m76, m77, m78, m79] ++ ([m80, m81, m82, m83, m84, m85, m86, m87, m88, m89, m90, m91, m92, m93, m94, m95] ++ ([m96, m97, m98, m99, m100, m101, m102, m103, m104, m105, m106, m107, m108, m109, m110, m111] ++ ([m112, m113, m114, m115, m116, m117, m118, m119, m120, m121, m122, m123, m124, m125, m126, m127] ++ ([m128, m129, m130, m131, m132, m133, m134, m135, m136, m137, m138, m139, m140, m141, m142, m143] ++ ([m144, m145, m146, m147, m148, m149, m150, m151, m152, m153, m154, m155, m156, m157, m158, m159] ++ ([m160, m161, m162, m163, m164, m165, m166, m167, m168, m169, m170, m171, m172, m173, m174, m175] ++ ([m176, m177, m178, m179, m180, m181, m182, m183, m184, m185, m186, m187, m188, m189, m190, m191] ++ ([m192, m193, m194, m195, m196, m197, m198, m199, m200, m201, m202, m203, m204, m205, m206, m207] ++ ([m208, m209, m210, m211, m212, m213, m214, m215, m216, m217, m218, m219, m220, m221, m222, m223] ++ ([m224, m225, m226, m227, m228, m229, m230, m231, m232, m233, m234, m235, m236])))))))))))))), (mOk mj && (mC mj).all (eOk (mY mj) (mB mj))) = true
  exact List.forall_mem_append.mpr ⟨mt_0, List.forall_mem_append.mpr ⟨mt_1, List.forall_mem_append.mpr ⟨mt_2, List.forall_mem_append.mpr ⟨mt_3, List.forall_mem_append.mpr ⟨mt_4, List.forall_mem_append.mpr ⟨mt_5, List.forall_mem_append.mpr ⟨mt_6, List.forall_mem_append.mpr ⟨mt_7, List.forall_mem_append.mpr ⟨mt_8, List.forall_mem_append.mpr ⟨mt_9, List.forall_mem_append.mpr ⟨mt_10, List.forall_mem_append.mpr ⟨mt_11, List.forall_mem_append.mpr ⟨mt_12, List.forall_mem_append.mpr ⟨mt_13, mt_14⟩⟩⟩⟩⟩⟩⟩⟩⟩⟩⟩⟩⟩⟩
def w00 : XW := ([], fun _ _ => none, fun _ _ => 0, fun _ _ => 0)
/-- the claim comes down to the small machine's run of the law -/
theorem whole_of {p : Program} {e : Env} {s : State} {m : MethodId} {below : List Frame} {meth : Method} {c : Code} (l : Launch) {b L : Nat} {xs : Nat → Int32} (C0 : lw_At p s m meth c b L xs) {n : Nat} {w' : XW} (hex : exec (L + 1, xs) n 1000 mLaw 0 (entX 4 [.ref 1000050]) [] w00 = some (some (.int 1), w')) (hc : w'.1.length ≤ 600000) (hw : sw w'.1 ≤ 7302250) : W p l e room_1 s m #[Value.ref b] below meth c s.heap [] 0 0 (lw_Z below #[Value.ref b] s) (entryFrame m ([Value.ref b] : List Value).toArray 4) := by
  obtain ⟨hx, hb, hr, hml, hown, hts, hX, hbl, hlocks, hgv⟩ := id C0
  obtain ⟨cst, hcst, hG⟩ := gc_start C0
  obtain ⟨D, hK⟩ := va_K_start hts
  have F : Fx (L + 1, xs) cst s.heap.size mLaw p s m #[Value.ref b] meth c := ⟨hx, hb, hr, hml, hown, fun w hw => hts w (List.mem_filter.mp hw).1, hlocks, Nat.le_refl _, hG, okLaw, fun h => absurd h (by decide +kernel), gs_law⟩
  have hs : Sr [] cst [.ref 1000050] [.ref b] := ⟨Or.inr ⟨Nat.le.intro (k := 50) rfl, hcst.symm, Or.inr ⟨b, rfl⟩⟩, trivial⟩
  obtain ⟨h1, h2⟩ := ent_Lr (n := 4) hs (by decide)
  have hW : Wr D s s.heap (xA s.heap.size) w00 [] [] := ⟨hK, fun k q h => by simp at h, ⟨fun i j p q h => by simp at h, fun k q h => by simp at h⟩, rfl, Nat.zero_le _, fun k kd h => by simp [w00] at h⟩
  rw [lg_entry_eq]
  refine snd (fun mj hm => ⟨mt_ok mj hm, gs_all mj hm⟩) n 1000 mLaw 0 _ [] w00 _ w' hex cst s.heap.size D p l e room_1 s m #[Value.ref b] below meth c _ s.heap [] _ [] [] [] 0 0 w'.1.length (sw w'.1) F ⟨hW, va_S.rf, h1, trivial, h2⟩ (Nat.le_of_ble_eq_true rfl) (Nat.le_of_ble_eq_true rfl) (Nat.zero_add _).symm (Nat.zero_add _).symm (by rw [Nat.zero_add]; exact hc) (by rw [Nat.zero_add]; exact hw) ?_
  intro pc1 en ls1 st1 lsA1 stA1 H1 locs1 ws1 tys1 hcd hg hrt hE r1
  obtain ⟨h0, hd, hl⟩ := F.at hcd
  obtain ⟨pc0, i, n0, a, b0, c0, pp, t⟩ := en
  dsimp only at h0 hd
  subst h0
  refine va_forget r1.2.1.2.2 ?_
  refine W.widen (k := 600000) (n := 7302250) (by rw [Nat.zero_add]; exact hc) (by rw [Nat.zero_add]; exact hw) ?_
  have hmr : mR mLaw = some .boolean := rfl
  rw [hmr] at hrt
  unfold rtn at hrt
  dsimp only at hrt
  split at hrt
  · rename_i hq
    cases hq
  · split at hrt
    · cases hrt
      simp only [lnkOk, beq_iff_eq] at hl
      subst hl
      obtain ⟨sA, rfl, r2⟩ := r1.int
      cases r2.2.2.2.1.nil
      exact lw_ret hx hb hr hlocks hd
    · cases hrt
  · cases hrt
  · cases hrt
  · cases hrt
  · cases hrt
  · cases hrt
