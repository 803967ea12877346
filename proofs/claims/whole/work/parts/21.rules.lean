/-! The layout behind the two constructors (printed by a program of ours), and the rules of the small machine. -/
def K0 : XK := [.inr 9, .inr 5, .inl (.object "LeavesObject$Cup", 5), .inr 4, .inl (.int, 5), .inl (.int, 5), .inr 4, .inl (.int, 10), .inl (.int, 10), .inr 4, .inl (.int, 8), .inl (.int, 8), .inr 1, .inl (.int, 4), .inr 1, .inl (.int, 4), .inr 1, .inl (.int, 4), .inr 1, .inl (.int, 4), .inr 1, .inl (.int, 4), .inr 5, .inl (.object "LeavesObject$Cup", 5), .inr 4, .inl (.int, 5), .inl (.int, 5), .inr 4, .inl (.int, 10), .inl (.int, 10), .inr 4, .inl (.int, 8), .inl (.int, 8), .inr 1, .inl (.int, 4), .inr 1, .inl (.int, 4), .inr 1, .inl (.int, 4), .inr 1, .inl (.int, 4), .inr 1, .inl (.int, 4), .inr 5, .inl (.object "LeavesObject$Cup", 5), .inr 4, .inl (.int, 5), .inl (.int, 5), .inr 4, .inl (.int, 10), .inl (.int, 10), .inr 4, .inl (.int, 8), .inl (.int, 8), .inr 1, .inl (.int, 4), .inr 1, .inl (.int, 4), .inr 1, .inl (.int, 4), .inr 1, .inl (.int, 4), .inr 1, .inl (.int, 4), .inr 7, .inl (.int, 100), .inl (.object "LeavesObject$Inn", 6), .inr 2, .inl (.int, 10), .inl (.int, 10), .inl (.int, 100), .inl (.int, 6), .inr 1, .inl (.int, 4), .inr 8, .inl (.int, 341), .inl (.int, 341), .inr 1, .inl (.int, 4), .inr 0, .inl (.int, 20), .inl (.object "LeavesObject$Tape", 6), .inr 2, .inl (.int, 10), .inl (.int, 10), .inl (.int, 100), .inl (.int, 6), .inr 2, .inl (.int, 10), .inl (.int, 10), .inl (.int, 100), .inl (.int, 6), .inr 2, .inl (.int, 10), .inl (.int, 10), .inl (.int, 100), .inl (.int, 6), .inr 2, .inl (.int, 10), .inl (.int, 10), .inl (.int, 100), .inl (.int, 6), .inr 2, .inl (.int, 10), .inl (.int, 10), .inl (.int, 100), .inl (.int, 6), .inr 2, .inl (.int, 10), .inl (.int, 10), .inl (.int, 100), .inl (.int, 6), .inr 6, .inl (.long, 60), .inr 6, .inl (.long, 60), .inr 6, .inl (.long, 60), .inr 6, .inl (.long, 60), .inr 6, .inl (.long, 60), .inr 6, .inl (.long, 60), .inr 10, .inl (.int, 5), .inl (.int, 5), .inl (.int, 5), .inl (.int, 5), .inl (.int, 5), .inl (.int, 20), .inl (.int, 100), .inl (.int, 6), .inl (.int, 60), .inl (.int, 60), .inl (.int, 60), .inl (.int, 60), .inl (.int, 600), .inl (.int, 101), .inl (.int, 16), .inl (.boolean, 100), .inl (.int, 5), .inl (.int, 5), .inl (.int, 5), .inl (.int, 5), .inl (.int, 5), .inl (.int, 10), .inl (.int, 10), .inl (.int, 8), .inl (.int, 8), .inl (.int, 5), .inl (.int, 5), .inl (.int, 5), .inl (.int, 5), .inl (.int, 5), .inl (.int, 20), .inl (.int, 5), .inl (.int, 5), .inl (.int, 10), .inl (.int, 10), .inl (.int, 8), .inl (.int, 8), .inl (.int, 20), .inl (.int, 6), .inl (.int, 6), .inl (.long, 360), .inl (.long, 60)]
def refT : List (List (Nat × Nat)) := [[(0, 1), (1, 22), (2, 43), (4, 64), (5, 66), (7, 67), (8, 72), (9, 74), (10, 79), (11, 81)], [(0, 2), (4, 3), (5, 6), (6, 9)], [(0, 12), (1, 14), (2, 16), (3, 18), (4, 20)], [(0, 4), (1, 5)], [], [], [(0, 7), (1, 8)], [], [], [(0, 10), (1, 11)], [], [], [(6, 13)], [], [(6, 15)], [], [(6, 17)], [], [(6, 19)], [], [(6, 21)], [], [(0, 23), (4, 24), (5, 27), (6, 30)], [(0, 33), (1, 35), (2, 37), (3, 39), (4, 41)], [(0, 25), (1, 26)], [], [], [(0, 28), (1, 29)], [], [], [(0, 31), (1, 32)], [], [], [(6, 34)], [], [(6, 36)], [], [(6, 38)], [], [(6, 40)], [], [(6, 42)], [], [(0, 44), (4, 45), (5, 48), (6, 51)], [(0, 54), (1, 56), (2, 58), (3, 60), (4, 62)], [(0, 46), (1, 47)], [], [], [(0, 49), (1, 50)], [], [], [(0, 52), (1, 53)], [], [], [(6, 55)], [], [(6, 57)], [], [(6, 59)], [], [(6, 61)], [], [(6, 63)], [], [(0, 65)], [], [(0, 82), (1, 87), (2, 92), (3, 97), (4, 102), (5, 107)], [(3, 68), (4, 69), (6, 70), (7, 71)], [], [], [], [], [(6, 73)], [], [(0, 75), (1, 76), (2, 77)], [], [], [(6, 78)], [], [(0, 80)], [], [(0, 112), (1, 114), (2, 116), (3, 118), (4, 120), (5, 122)], [(3, 83), (4, 84), (6, 85), (7, 86)], [], [], [], [], [(3, 88), (4, 89), (6, 90), (7, 91)], [], [], [], [], [(3, 93), (4, 94), (6, 95), (7, 96)], [], [], [], [], [(3, 98), (4, 99), (6, 100), (7, 101)], [], [], [], [], [(3, 103), (4, 104), (6, 105), (7, 106)], [], [], [], [], [(3, 108), (4, 109), (6, 110), (7, 111)], [], [], [], [], [(2, 113)], [], [(2, 115)], [], [(2, 117)], [], [(2, 119)], [], [(2, 121)], [], [(2, 123)], [], [(2, 125), (3, 126), (4, 127), (5, 128), (6, 129), (7, 130), (13, 131), (14, 132), (15, 133), (16, 134), (17, 135), (18, 136), (19, 137), (20, 138), (24, 139), (25, 140), (28, 141), (29, 142), (30, 143), (32, 144), (33, 145), (36, 146), (37, 147), (38, 148), (39, 149), (47, 150), (48, 151), (49, 152), (50, 153), (51, 154), (52, 155), (53, 156), (54, 157), (55, 158), (56, 159), (57, 160), (58, 161), (60, 162), (61, 163), (62, 164), (63, 165), (64, 166)], [], [], [], [], [], [], [], [], [], [], [], [], [], [], [], [], [], [], [], [], [], [], [], [], [], [], [], [], [], [], [], [], [], [], [], [], [], [], [], [], [], []]
def R0 (k j : Nat) : Option Nat := match refT[k]? with
  | some l => l.lookup j
  | none => none
def iniT : List (List (Nat × Int32)) := [[], [(3, (-1))], [], [], [], [], [], [], [], [], [], [], [], [], [], [], [], [], [], [], [], [], [(3, (-1))], [], [], [], [], [], [], [], [], [], [], [], [], [], [], [], [], [], [], [], [], [(3, (-1))], [], [], [], [], [], [], [], [], [], [], [], [], [], [], [], [], [], [], [], [], [], [], [], [(0, 2), (1, 1)], [], [], [], [], [], [], [], [], [], [], [], [], [], [], [(0, 2), (1, 1)], [], [], [], [], [(0, 2), (1, 1)], [], [], [], [], [(0, 2), (1, 1)], [], [], [], [], [(0, 2), (1, 1)], [], [], [], [], [(0, 2), (1, 1)], [], [], [], [], [(0, 2), (1, 1)], [], [], [], [], [(0, (-1))], [], [(0, (-1))], [], [(0, (-1))], [], [(0, (-1))], [], [(0, (-1))], [], [(0, (-1))], [], [(9, (-1)), (26, 9999), (41, (-1))], [], [], [], [], [], [], [], [], [], [], [], [], [], [], [(0, 119), (1, 105), (2, 108), (3, 108), (4, 98), (5, 97), (6, 108), (7, 107), (8, 114), (9, 105), (10, 115), (11, 101), (12, 102), (13, 97), (14, 108), (15, 108)], [], [], [], [], [], [], [], [], [], [], [], [], [], [], [], [], [], [], [], [], [], [], [], [(0, (-1)), (1, (-1)), (2, (-1)), (3, (-1)), (4, (-1)), (5, (-1))], [], [], []]
def I0 (k j : Nat) : Int32 := match iniT[k]? with
  | some l => match l.lookup j with
    | some v => v
    | none => 0
  | none => 0
def L0 (_ _ : Nat) : Int64 := 0
theorem K0_len : K0.length = 167 := by decide +kernel
/-- the shapes of objects, by their numbers -/
def isCup (c : Nat) : Prop := K0[c]? = some (.inr 1) ∧ R0 c 6 = some (c + 1) ∧ K0[c + 1]? = some (.inl (.int, 4))
def isRows (r n : Nat) : Prop := K0[r]? = some (.inr 4) ∧ R0 r 0 = some (r + 1) ∧ R0 r 1 = some (r + 2) ∧ K0[r + 1]? = some (.inl (.int, n)) ∧ K0[r + 2]? = some (.inl (.int, n))
def isInn (q : Nat) : Prop := K0[q]? = some (.inr 2) ∧ R0 q 3 = some (q + 1) ∧ R0 q 4 = some (q + 2) ∧ R0 q 6 = some (q + 3) ∧ R0 q 7 = some (q + 4) ∧ K0[q + 1]? = some (.inl (.int, 10)) ∧ K0[q + 2]? = some (.inl (.int, 10)) ∧ K0[q + 3]? = some (.inl (.int, 100)) ∧ K0[q + 4]? = some (.inl (.int, 6))
def isTape (p : Nat) : Prop := K0[p]? = some (.inr 6) ∧ R0 p 2 = some (p + 1) ∧ K0[p + 1]? = some (.inl (.long, 60))
def isTable (t : Nat) : Prop := K0[t]? = some (.inr 5) ∧ R0 t 0 = some (t + 1) ∧ R0 t 4 = some (t + 2) ∧ R0 t 5 = some (t + 5) ∧ R0 t 6 = some (t + 8) ∧ K0[t + 1]? = some (.inl (.object "LeavesObject$Cup", 5)) ∧ isRows (t + 2) 5 ∧ isRows (t + 5) 10 ∧ isRows (t + 8) 8 ∧ ∀ i, i < 5 → R0 (t + 1) i = some (t + 11 + 2 * i) ∧ isCup (t + 11 + 2 * i)
def isStr (s n : Nat) (f : Nat → Int32) : Prop := K0[s]? = none ∧ (1000000 ≤ s ∧ s < 1000008) ∧ K0[s + 20]? = none ∧ cInts (0, fun _ => 0) (s + 20) = none ∧ cByts (s + 20) = some (n, f)
theorem tbl_1 : isTable 1 := ⟨rfl, rfl, rfl, rfl, rfl, rfl, ⟨rfl, rfl, rfl, rfl, rfl⟩, ⟨rfl, rfl, rfl, rfl, rfl⟩, ⟨rfl, rfl, rfl, rfl, rfl⟩, fun i hi => match i, hi with
  | 0, _ => ⟨rfl, rfl, rfl, rfl⟩
  | 1, _ => ⟨rfl, rfl, rfl, rfl⟩
  | 2, _ => ⟨rfl, rfl, rfl, rfl⟩
  | 3, _ => ⟨rfl, rfl, rfl, rfl⟩
  | 4, _ => ⟨rfl, rfl, rfl, rfl⟩⟩
theorem tbl_22 : isTable 22 := ⟨rfl, rfl, rfl, rfl, rfl, rfl, ⟨rfl, rfl, rfl, rfl, rfl⟩, ⟨rfl, rfl, rfl, rfl, rfl⟩, ⟨rfl, rfl, rfl, rfl, rfl⟩, fun i hi => match i, hi with
  | 0, _ => ⟨rfl, rfl, rfl, rfl⟩
  | 1, _ => ⟨rfl, rfl, rfl, rfl⟩
  | 2, _ => ⟨rfl, rfl, rfl, rfl⟩
  | 3, _ => ⟨rfl, rfl, rfl, rfl⟩
  | 4, _ => ⟨rfl, rfl, rfl, rfl⟩⟩
theorem tbl_43 : isTable 43 := ⟨rfl, rfl, rfl, rfl, rfl, rfl, ⟨rfl, rfl, rfl, rfl, rfl⟩, ⟨rfl, rfl, rfl, rfl, rfl⟩, ⟨rfl, rfl, rfl, rfl, rfl⟩, fun i hi => match i, hi with
  | 0, _ => ⟨rfl, rfl, rfl, rfl⟩
  | 1, _ => ⟨rfl, rfl, rfl, rfl⟩
  | 2, _ => ⟨rfl, rfl, rfl, rfl⟩
  | 3, _ => ⟨rfl, rfl, rfl, rfl⟩
  | 4, _ => ⟨rfl, rfl, rfl, rfl⟩⟩
theorem inn_67 : isInn 67 := ⟨rfl, rfl, rfl, rfl, rfl, rfl, rfl, rfl, rfl⟩
theorem inn_82 : isInn 82 := ⟨rfl, rfl, rfl, rfl, rfl, rfl, rfl, rfl, rfl⟩
theorem inn_87 : isInn 87 := ⟨rfl, rfl, rfl, rfl, rfl, rfl, rfl, rfl, rfl⟩
theorem inn_92 : isInn 92 := ⟨rfl, rfl, rfl, rfl, rfl, rfl, rfl, rfl, rfl⟩
theorem inn_97 : isInn 97 := ⟨rfl, rfl, rfl, rfl, rfl, rfl, rfl, rfl, rfl⟩
theorem inn_102 : isInn 102 := ⟨rfl, rfl, rfl, rfl, rfl, rfl, rfl, rfl, rfl⟩
theorem inn_107 : isInn 107 := ⟨rfl, rfl, rfl, rfl, rfl, rfl, rfl, rfl, rfl⟩
theorem cup_72 : isCup 72 := ⟨rfl, rfl, rfl⟩
theorem cup_77 : isCup 77 := ⟨rfl, rfl, rfl⟩
theorem tape_112 : isTape 112 := ⟨rfl, rfl, rfl⟩
theorem tape_114 : isTape 114 := ⟨rfl, rfl, rfl⟩
theorem tape_116 : isTape 116 := ⟨rfl, rfl, rfl⟩
theorem tape_118 : isTape 118 := ⟨rfl, rfl, rfl⟩
theorem tape_120 : isTape 120 := ⟨rfl, rfl, rfl⟩
theorem tape_122 : isTape 122 := ⟨rfl, rfl, rfl⟩
theorem inns_ok : ∀ i, i < 6 → R0 66 i = some (82 + 5 * i) ∧ isInn (82 + 5 * i) := fun i hi => match i, hi with
  | 0, _ => ⟨rfl, inn_82⟩
  | 1, _ => ⟨rfl, inn_87⟩
  | 2, _ => ⟨rfl, inn_92⟩
  | 3, _ => ⟨rfl, inn_97⟩
  | 4, _ => ⟨rfl, inn_102⟩
  | 5, _ => ⟨rfl, inn_107⟩
theorem tapes_ok : ∀ i, i < 6 → R0 81 i = some (112 + 2 * i) ∧ isTape (112 + 2 * i) := fun i hi => match i, hi with
  | 0, _ => ⟨rfl, tape_112⟩
  | 1, _ => ⟨rfl, tape_114⟩
  | 2, _ => ⟨rfl, tape_116⟩
  | 3, _ => ⟨rfl, tape_118⟩
  | 4, _ => ⟨rfl, tape_120⟩
  | 5, _ => ⟨rfl, tape_122⟩
theorem k_lt {k : Nat} {q : (FieldType × Nat) ⊕ Nat} (h : K0[k]? = some q) : k < K0.length := (List.getElem?_eq_some_iff.mp h).1
section RULES
variable {X : Nat × (Nat → Int32)} {d : Nat} {mi : MI} {pc pc' : Nat} {ls ls' : XL} {st : List Value} {w : XW} {K : XK} {R : Nat → Nat → Option Nat} {I : Nat → Nat → Int32} {L : Nat → Nat → Int64} {Q : Option Value → XW → Prop} {pc0 n a b c p : Nat} {t : List (Int × Nat)}
theorem wp_stuck {e : XE} (he : cdx (mC mi) pc = some e) (hg : grp e < 5) (hs : stp X e pc ls st w = none) : ¬ wp X d mi pc ls st w Q := by
  rintro ⟨n, r, w1, h, hq⟩
  cases n with
  | zero => cases h
  | succ n =>
    rw [exec, he] at h
    dsimp only at h
    split at h
    · omega
    · omega
    · rw [hs] at h
      cases h
theorem w_iconst {z : Int} {v : Int32} (he : cdx (mC mi) pc = some (pc0, .iconst z, n, a, b, c, p, t)) (hv : Int32.ofInt z = v) (hp : pc + n = pc') : wp X d mi pc ls (st) w Q ↔ wp X d mi pc' ls (.int v :: st) w Q := by
  subst hp
  exact wp_stp he (Nat.le_of_ble_eq_true rfl) (by subst hv; rfl)
theorem w_bipush {z : Int} {v : Int32} (he : cdx (mC mi) pc = some (pc0, .bipush z, n, a, b, c, p, t)) (hv : (Int8.ofInt z).toInt32 = v) (hp : pc + n = pc') : wp X d mi pc ls (st) w Q ↔ wp X d mi pc' ls (.int v :: st) w Q := by
  subst hp
  exact wp_stp he (Nat.le_of_ble_eq_true rfl) (by subst hv; rfl)
theorem w_sipush {z : Int} {v : Int32} (he : cdx (mC mi) pc = some (pc0, .sipush z, n, a, b, c, p, t)) (hv : (Int16.ofInt z).toInt32 = v) (hp : pc + n = pc') : wp X d mi pc ls (st) w Q ↔ wp X d mi pc' ls (.int v :: st) w Q := by
  subst hp
  exact wp_stp he (Nat.le_of_ble_eq_true rfl) (by subst hv; rfl)
theorem w_lconst {z : Fin 2} {v : Int64} (he : cdx (mC mi) pc = some (pc0, .lconst z, n, a, b, c, p, t)) (hv : Int64.ofNat z = v) (hp : pc + n = pc') : wp X d mi pc ls (st) w Q ↔ wp X d mi pc' ls (.long v :: st) w Q := by
  subst hp
  exact wp_stp he (Nat.le_of_ble_eq_true rfl) (by subst hv; rfl)
theorem w_ldc_w {ix : Nat} {z : Int} {y : Nat} {v : Int32} (he : cdx (mC mi) pc = some (pc0, .ldc_w ix, n, a, b, c, p, [(z, y)])) (hv : Int32.ofInt z = v) (hp : pc + n = pc') : wp X d mi pc ls st w Q ↔ wp X d mi pc' ls (.int v :: st) w Q := by
  subst hp; subst hv
  exact wp_stp he (Nat.le_of_ble_eq_true rfl) rfl
theorem w_ldc2_w {ix : Nat} {z : Int} {y : Nat} {v : Int64} (he : cdx (mC mi) pc = some (pc0, .ldc2_w ix, n, a, b, c, p, [(z, y)])) (hv : Int64.ofInt z = v) (hp : pc + n = pc') : wp X d mi pc ls st w Q ↔ wp X d mi pc' ls (.long v :: st) w Q := by
  subst hp; subst hv
  exact wp_stp he (Nat.le_of_ble_eq_true rfl) rfl
theorem w_aconst_null  (he : cdx (mC mi) pc = some (pc0, .aconst_null, n, a, b, c, p, t)) (hp : pc + n = pc') : wp X d mi pc ls (st) w Q ↔ wp X d mi pc' ls (.null :: st) w Q := by
  subst hp
  exact wp_stp he (Nat.le_of_ble_eq_true rfl) (by rfl)
theorem w_dup {v : Value} (he : cdx (mC mi) pc = some (pc0, .dup, n, a, b, c, p, t)) (hc : v.category = 1) (hp : pc + n = pc') : wp X d mi pc ls (v :: st) w Q ↔ wp X d mi pc' ls (v :: v :: st) w Q := by
  subst hp
  exact wp_stp he (Nat.le_of_ble_eq_true rfl) (by simp only [stp, grp, stpV, hc, if_true])
theorem w_pop {v : Value} (he : cdx (mC mi) pc = some (pc0, .pop, n, a, b, c, p, t)) (hc : v.category = 1) (hp : pc + n = pc') : wp X d mi pc ls (v :: st) w Q ↔ wp X d mi pc' ls (st) w Q := by
  subst hp
  exact wp_stp he (Nat.le_of_ble_eq_true rfl) (by simp only [stp, grp, stpV, hc, if_true])
theorem w_iadd {x y : Int32} (he : cdx (mC mi) pc = some (pc0, .iadd, n, a, b, c, p, t)) (hp : pc + n = pc') : wp X d mi pc ls (.int y :: .int x :: st) w Q ↔ wp X d mi pc' ls (.int (x + y) :: st) w Q := by
  subst hp
  exact wp_stp he (Nat.le_of_ble_eq_true rfl) (by rfl)
theorem w_isub {x y : Int32} (he : cdx (mC mi) pc = some (pc0, .isub, n, a, b, c, p, t)) (hp : pc + n = pc') : wp X d mi pc ls (.int y :: .int x :: st) w Q ↔ wp X d mi pc' ls (.int (x - y) :: st) w Q := by
  subst hp
  exact wp_stp he (Nat.le_of_ble_eq_true rfl) (by rfl)
theorem w_imul {x y : Int32} (he : cdx (mC mi) pc = some (pc0, .imul, n, a, b, c, p, t)) (hp : pc + n = pc') : wp X d mi pc ls (.int y :: .int x :: st) w Q ↔ wp X d mi pc' ls (.int (x * y) :: st) w Q := by
  subst hp
  exact wp_stp he (Nat.le_of_ble_eq_true rfl) (by rfl)
theorem w_iand {x y : Int32} (he : cdx (mC mi) pc = some (pc0, .iand, n, a, b, c, p, t)) (hp : pc + n = pc') : wp X d mi pc ls (.int y :: .int x :: st) w Q ↔ wp X d mi pc' ls (.int (x &&& y) :: st) w Q := by
  subst hp
  exact wp_stp he (Nat.le_of_ble_eq_true rfl) (by rfl)
theorem w_ior {x y : Int32} (he : cdx (mC mi) pc = some (pc0, .ior, n, a, b, c, p, t)) (hp : pc + n = pc') : wp X d mi pc ls (.int y :: .int x :: st) w Q ↔ wp X d mi pc' ls (.int (x ||| y) :: st) w Q := by
  subst hp
  exact wp_stp he (Nat.le_of_ble_eq_true rfl) (by rfl)
theorem w_ixor {x y : Int32} (he : cdx (mC mi) pc = some (pc0, .ixor, n, a, b, c, p, t)) (hp : pc + n = pc') : wp X d mi pc ls (.int y :: .int x :: st) w Q ↔ wp X d mi pc' ls (.int (x ^^^ y) :: st) w Q := by
  subst hp
  exact wp_stp he (Nat.le_of_ble_eq_true rfl) (by rfl)
theorem w_ishl {x y : Int32} (he : cdx (mC mi) pc = some (pc0, .ishl, n, a, b, c, p, t)) (hp : pc + n = pc') : wp X d mi pc ls (.int y :: .int x :: st) w Q ↔ wp X d mi pc' ls (.int (x <<< (y &&& 31)) :: st) w Q := by
  subst hp
  exact wp_stp he (Nat.le_of_ble_eq_true rfl) (by rfl)
theorem w_ishr {x y : Int32} (he : cdx (mC mi) pc = some (pc0, .ishr, n, a, b, c, p, t)) (hp : pc + n = pc') : wp X d mi pc ls (.int y :: .int x :: st) w Q ↔ wp X d mi pc' ls (.int (x >>> (y &&& 31)) :: st) w Q := by
  subst hp
  exact wp_stp he (Nat.le_of_ble_eq_true rfl) (by rfl)
theorem w_iushr {x y : Int32} (he : cdx (mC mi) pc = some (pc0, .iushr, n, a, b, c, p, t)) (hp : pc + n = pc') : wp X d mi pc ls (.int y :: .int x :: st) w Q ↔ wp X d mi pc' ls (.int ((x.toUInt32 >>> (y.toUInt32 &&& Int32.toUInt32 31)).toInt32) :: st) w Q := by
  subst hp
  exact wp_stp he (Nat.le_of_ble_eq_true rfl) (by rfl)
theorem w_idiv {x y : Int32} (he : cdx (mC mi) pc = some (pc0, .idiv, n, a, b, c, p, t)) (hp : pc + n = pc') : wp X d mi pc ls (.int y :: .int x :: st) w Q ↔ (¬ y = 0 ∧ wp X d mi pc' ls (.int (x / y) :: st) w Q) := by
  subst hp
  by_cases h : y = 0
  · exact ⟨fun q => absurd q (wp_stuck he (Nat.le_of_ble_eq_true rfl) (by simp only [stp, grp, stpV, h, if_true])), fun q => absurd h q.1⟩
  · rw [wp_stp he (Nat.le_of_ble_eq_true rfl) (show stp X _ pc ls _ w = some (pc + n, ls, .int (x / y) :: st, w) by simp only [stp, grp, stpV, h, if_false])]
    exact ⟨fun q => ⟨h, q⟩, fun q => q.2⟩
theorem w_irem {x y : Int32} (he : cdx (mC mi) pc = some (pc0, .irem, n, a, b, c, p, t)) (hp : pc + n = pc') : wp X d mi pc ls (.int y :: .int x :: st) w Q ↔ (¬ y = 0 ∧ wp X d mi pc' ls (.int (x - x / y * y) :: st) w Q) := by
  subst hp
  by_cases h : y = 0
  · exact ⟨fun q => absurd q (wp_stuck he (Nat.le_of_ble_eq_true rfl) (by simp only [stp, grp, stpV, h, if_true])), fun q => absurd h q.1⟩
  · rw [wp_stp he (Nat.le_of_ble_eq_true rfl) (show stp X _ pc ls _ w = some (pc + n, ls, .int (x - x / y * y) :: st, w) by simp only [stp, grp, stpV, h, if_false])]
    exact ⟨fun q => ⟨h, q⟩, fun q => q.2⟩
theorem w_ineg {x : Int32} (he : cdx (mC mi) pc = some (pc0, .ineg, n, a, b, c, p, t)) (hp : pc + n = pc') : wp X d mi pc ls (.int x :: st) w Q ↔ wp X d mi pc' ls (.int (-x) :: st) w Q := by
  subst hp
  exact wp_stp he (Nat.le_of_ble_eq_true rfl) (by rfl)
theorem w_i2l {x : Int32} (he : cdx (mC mi) pc = some (pc0, .i2l, n, a, b, c, p, t)) (hp : pc + n = pc') : wp X d mi pc ls (.int x :: st) w Q ↔ wp X d mi pc' ls (.long x.toInt64 :: st) w Q := by
  subst hp
  exact wp_stp he (Nat.le_of_ble_eq_true rfl) (by rfl)
theorem w_i2b {x : Int32} (he : cdx (mC mi) pc = some (pc0, .i2b, n, a, b, c, p, t)) (hp : pc + n = pc') : wp X d mi pc ls (.int x :: st) w Q ↔ wp X d mi pc' ls (.int x.toInt8.toInt32 :: st) w Q := by
  subst hp
  exact wp_stp he (Nat.le_of_ble_eq_true rfl) (by rfl)
theorem w_i2s {x : Int32} (he : cdx (mC mi) pc = some (pc0, .i2s, n, a, b, c, p, t)) (hp : pc + n = pc') : wp X d mi pc ls (.int x :: st) w Q ↔ wp X d mi pc' ls (.int x.toInt16.toInt32 :: st) w Q := by
  subst hp
  exact wp_stp he (Nat.le_of_ble_eq_true rfl) (by rfl)
theorem w_i2c {x : Int32} (he : cdx (mC mi) pc = some (pc0, .i2c, n, a, b, c, p, t)) (hp : pc + n = pc') : wp X d mi pc ls (.int x :: st) w Q ↔ wp X d mi pc' ls (.int (x.toUInt32 % 65536).toInt32 :: st) w Q := by
  subst hp
  exact wp_stp he (Nat.le_of_ble_eq_true rfl) (by rfl)
theorem w_l2i {x : Int64} (he : cdx (mC mi) pc = some (pc0, .l2i, n, a, b, c, p, t)) (hp : pc + n = pc') : wp X d mi pc ls (.long x :: st) w Q ↔ wp X d mi pc' ls (.int x.toInt32 :: st) w Q := by
  subst hp
  exact wp_stp he (Nat.le_of_ble_eq_true rfl) (by rfl)
theorem w_lcmp {x y : Int64} (he : cdx (mC mi) pc = some (pc0, .lcmp, n, a, b, c, p, t)) (hp : pc + n = pc') : wp X d mi pc ls (.long y :: .long x :: st) w Q ↔ wp X d mi pc' ls (.int (lg_cmp x y) :: st) w Q := by
  subst hp
  exact wp_stp he (Nat.le_of_ble_eq_true rfl) (by rfl)
theorem w_lshl {x : Int64} {y : Int32} (he : cdx (mC mi) pc = some (pc0, .lshl, n, a, b, c, p, t)) (hp : pc + n = pc') : wp X d mi pc ls (.int y :: .long x :: st) w Q ↔ wp X d mi pc' ls (.long (x <<< (y.toInt64 &&& 63)) :: st) w Q := by
  subst hp
  exact wp_stp he (Nat.le_of_ble_eq_true rfl) (by rfl)
theorem w_land {x y : Int64} (he : cdx (mC mi) pc = some (pc0, .land, n, a, b, c, p, t)) (hp : pc + n = pc') : wp X d mi pc ls (.long y :: .long x :: st) w Q ↔ wp X d mi pc' ls (.long (x &&& y) :: st) w Q := by
  subst hp
  exact wp_stp he (Nat.le_of_ble_eq_true rfl) (by rfl)
theorem w_lor {x y : Int64} (he : cdx (mC mi) pc = some (pc0, .lor, n, a, b, c, p, t)) (hp : pc + n = pc') : wp X d mi pc ls (.long y :: .long x :: st) w Q ↔ wp X d mi pc' ls (.long (x ||| y) :: st) w Q := by
  subst hp
  exact wp_stp he (Nat.le_of_ble_eq_true rfl) (by rfl)
theorem w_iload_n {k : Fin 4} {x : Int32} (he : cdx (mC mi) pc = some (pc0, .iload_n k, n, a, b, c, p, t)) (hl : lget ls a = some (.int x)) (hp : pc + n = pc') : wp X d mi pc ls (st) w Q ↔ wp X d mi pc' ls (.int x :: st) w Q := by
  subst hp
  exact wp_stp he (Nat.le_of_ble_eq_true rfl) (by simp only [stp, grp, stpL, hl])
theorem w_iload {k : Nat} {x : Int32} (he : cdx (mC mi) pc = some (pc0, .iload k, n, a, b, c, p, t)) (hl : lget ls a = some (.int x)) (hp : pc + n = pc') : wp X d mi pc ls (st) w Q ↔ wp X d mi pc' ls (.int x :: st) w Q := by
  subst hp
  exact wp_stp he (Nat.le_of_ble_eq_true rfl) (by simp only [stp, grp, stpL, hl])
theorem w_lload_n {k : Fin 4} {x : Int64} (he : cdx (mC mi) pc = some (pc0, .lload_n k, n, a, b, c, p, t)) (hl : lget ls a = some (.long x)) (hp : pc + n = pc') : wp X d mi pc ls (st) w Q ↔ wp X d mi pc' ls (.long x :: st) w Q := by
  subst hp
  exact wp_stp he (Nat.le_of_ble_eq_true rfl) (by simp only [stp, grp, stpL, hl])
theorem w_aload_n {k : Fin 4} {x : Nat} (he : cdx (mC mi) pc = some (pc0, .aload_n k, n, a, b, c, p, t)) (hl : lget ls a = some (.ref x)) (hp : pc + n = pc') : wp X d mi pc ls (st) w Q ↔ wp X d mi pc' ls (.ref x :: st) w Q := by
  subst hp
  exact wp_stp he (Nat.le_of_ble_eq_true rfl) (by simp only [stp, grp, stpL, hl])
theorem w_aload {k : Nat} {x : Nat} (he : cdx (mC mi) pc = some (pc0, .aload k, n, a, b, c, p, t)) (hl : lget ls a = some (.ref x)) (hp : pc + n = pc') : wp X d mi pc ls (st) w Q ↔ wp X d mi pc' ls (.ref x :: st) w Q := by
  subst hp
  exact wp_stp he (Nat.le_of_ble_eq_true rfl) (by simp only [stp, grp, stpL, hl])
theorem w_aload_nN {k : Fin 4} (he : cdx (mC mi) pc = some (pc0, .aload_n k, n, a, b, c, p, t)) (hl : lget ls a = some (.null)) (hp : pc + n = pc') : wp X d mi pc ls (st) w Q ↔ wp X d mi pc' ls (.null :: st) w Q := by
  subst hp
  exact wp_stp he (Nat.le_of_ble_eq_true rfl) (by simp only [stp, grp, stpL, hl])
theorem w_aloadN {k : Nat} (he : cdx (mC mi) pc = some (pc0, .aload k, n, a, b, c, p, t)) (hl : lget ls a = some (.null)) (hp : pc + n = pc') : wp X d mi pc ls (st) w Q ↔ wp X d mi pc' ls (.null :: st) w Q := by
  subst hp
  exact wp_stp he (Nat.le_of_ble_eq_true rfl) (by simp only [stp, grp, stpL, hl])
theorem w_istore_n {k : Fin 4} {x : Int32} (he : cdx (mC mi) pc = some (pc0, .istore_n k, n, a, b, c, p, t)) (hi : a < ls.length) (hl : lset1 ls a (.int x) = ls') (hp : pc + n = pc') : wp X d mi pc ls (.int x :: st) w Q ↔ wp X d mi pc' ls' st w Q := by
  subst hp; subst hl
  exact wp_stp he (Nat.le_of_ble_eq_true rfl) (by simp only [stp, grp, stpL, hi, if_true])
theorem w_istore {k : Nat} {x : Int32} (he : cdx (mC mi) pc = some (pc0, .istore k, n, a, b, c, p, t)) (hi : a < ls.length) (hl : lset1 ls a (.int x) = ls') (hp : pc + n = pc') : wp X d mi pc ls (.int x :: st) w Q ↔ wp X d mi pc' ls' st w Q := by
  subst hp; subst hl
  exact wp_stp he (Nat.le_of_ble_eq_true rfl) (by simp only [stp, grp, stpL, hi, if_true])
theorem w_astore_n {k : Fin 4} {x : Nat} (he : cdx (mC mi) pc = some (pc0, .astore_n k, n, a, b, c, p, t)) (hi : a < ls.length) (hl : lset1 ls a (.ref x) = ls') (hp : pc + n = pc') : wp X d mi pc ls (.ref x :: st) w Q ↔ wp X d mi pc' ls' st w Q := by
  subst hp; subst hl
  exact wp_stp he (Nat.le_of_ble_eq_true rfl) (by simp only [stp, grp, stpL, hi, if_true])
theorem w_astore {k : Nat} {x : Nat} (he : cdx (mC mi) pc = some (pc0, .astore k, n, a, b, c, p, t)) (hi : a < ls.length) (hl : lset1 ls a (.ref x) = ls') (hp : pc + n = pc') : wp X d mi pc ls (.ref x :: st) w Q ↔ wp X d mi pc' ls' st w Q := by
  subst hp; subst hl
  exact wp_stp he (Nat.le_of_ble_eq_true rfl) (by simp only [stp, grp, stpL, hi, if_true])
theorem w_astore_nN {k : Fin 4} (he : cdx (mC mi) pc = some (pc0, .astore_n k, n, a, b, c, p, t)) (hi : a < ls.length) (hl : lset1 ls a (.null) = ls') (hp : pc + n = pc') : wp X d mi pc ls (.null :: st) w Q ↔ wp X d mi pc' ls' st w Q := by
  subst hp; subst hl
  exact wp_stp he (Nat.le_of_ble_eq_true rfl) (by simp only [stp, grp, stpL, hi, if_true])
theorem w_astoreN {k : Nat} (he : cdx (mC mi) pc = some (pc0, .astore k, n, a, b, c, p, t)) (hi : a < ls.length) (hl : lset1 ls a (.null) = ls') (hp : pc + n = pc') : wp X d mi pc ls (.null :: st) w Q ↔ wp X d mi pc' ls' st w Q := by
  subst hp; subst hl
  exact wp_stp he (Nat.le_of_ble_eq_true rfl) (by simp only [stp, grp, stpL, hi, if_true])
theorem w_lstore_n {k : Fin 4} {x : Int64} (he : cdx (mC mi) pc = some (pc0, .lstore_n k, n, a, b, c, p, t)) (hi : a + 1 < ls.length) (hl : lset2 ls a (.long x) = ls') (hp : pc + n = pc') : wp X d mi pc ls (.long x :: st) w Q ↔ wp X d mi pc' ls' st w Q := by
  subst hp; subst hl
  exact wp_stp he (Nat.le_of_ble_eq_true rfl) (by simp only [stp, grp, stpL, hi, if_true])
theorem w_iinc {k : Nat} {z : Int} {x v : Int32} (he : cdx (mC mi) pc = some (pc0, .iinc k z, n, a, b, c, p, t)) (hi : a < ls.length) (hg : lget ls a = some (.int x)) (hv : x + Int32.ofInt z = v) (hl : lset1 ls a (.int v) = ls') (hp : pc + n = pc') : wp X d mi pc ls st w Q ↔ wp X d mi pc' ls' st w Q := by
  subst hp; subst hl; subst hv
  exact wp_stp he (Nat.le_of_ble_eq_true rfl) (by simp only [stp, grp, stpL, hi, hg, if_true])
theorem w_goto {k : Int} (he : cdx (mC mi) pc = some (pc0, .goto k, n, a, b, c, p, t)) : wp X d mi pc ls st w Q ↔ wp X d mi a ls st w Q := wp_stp he (Nat.le_of_ble_eq_true rfl) rfl
theorem w_if_eq {x : Int32} {k : Int} (he : cdx (mC mi) pc = some (pc0, .ifCond .eq k, n, a, b, c, p, t)) (hp : pc + 3 = pc') : wp X d mi pc ls (.int x :: st) w Q ↔ (if x = 0 then wp X d mi a ls st w Q else wp X d mi pc' ls st w Q) := by
  subst hp
  rw [wp_stp he (Nat.le_of_ble_eq_true rfl) (show stp X _ pc ls _ w = some (if x = 0 then a else pc + 3, ls, st, w) from rfl)]
  exact wp_if
theorem w_if_ne {x : Int32} {k : Int} (he : cdx (mC mi) pc = some (pc0, .ifCond .ne k, n, a, b, c, p, t)) (hp : pc + 3 = pc') : wp X d mi pc ls (.int x :: st) w Q ↔ (if x = 0 then wp X d mi pc' ls st w Q else wp X d mi a ls st w Q) := by
  subst hp
  rw [wp_stp he (Nat.le_of_ble_eq_true rfl) (show stp X _ pc ls _ w = some (if x = 0 then pc + 3 else a, ls, st, w) from rfl)]
  exact wp_if
theorem w_if_lt {x : Int32} {k : Int} (he : cdx (mC mi) pc = some (pc0, .ifCond .lt k, n, a, b, c, p, t)) (hp : pc + 3 = pc') : wp X d mi pc ls (.int x :: st) w Q ↔ (if x < 0 then wp X d mi a ls st w Q else wp X d mi pc' ls st w Q) := by
  subst hp
  rw [wp_stp he (Nat.le_of_ble_eq_true rfl) (show stp X _ pc ls _ w = some (if x < 0 then a else pc + 3, ls, st, w) from rfl)]
  exact wp_if
theorem w_if_ge {x : Int32} {k : Int} (he : cdx (mC mi) pc = some (pc0, .ifCond .ge k, n, a, b, c, p, t)) (hp : pc + 3 = pc') : wp X d mi pc ls (.int x :: st) w Q ↔ (if x < 0 then wp X d mi pc' ls st w Q else wp X d mi a ls st w Q) := by
  subst hp
  rw [wp_stp he (Nat.le_of_ble_eq_true rfl) (show stp X _ pc ls _ w = some (if x < 0 then pc + 3 else a, ls, st, w) from rfl)]
  exact wp_if
theorem w_if_gt {x : Int32} {k : Int} (he : cdx (mC mi) pc = some (pc0, .ifCond .gt k, n, a, b, c, p, t)) (hp : pc + 3 = pc') : wp X d mi pc ls (.int x :: st) w Q ↔ (if 0 < x then wp X d mi a ls st w Q else wp X d mi pc' ls st w Q) := by
  subst hp
  rw [wp_stp he (Nat.le_of_ble_eq_true rfl) (show stp X _ pc ls _ w = some (if 0 < x then a else pc + 3, ls, st, w) from rfl)]
  exact wp_if
theorem w_if_le {x : Int32} {k : Int} (he : cdx (mC mi) pc = some (pc0, .ifCond .le k, n, a, b, c, p, t)) (hp : pc + 3 = pc') : wp X d mi pc ls (.int x :: st) w Q ↔ (if 0 < x then wp X d mi pc' ls st w Q else wp X d mi a ls st w Q) := by
  subst hp
  rw [wp_stp he (Nat.le_of_ble_eq_true rfl) (show stp X _ pc ls _ w = some (if 0 < x then pc + 3 else a, ls, st, w) from rfl)]
  exact wp_if
theorem w_icmp_eq {x y : Int32} {k : Int} (he : cdx (mC mi) pc = some (pc0, .if_icmp .eq k, n, a, b, c, p, t)) (hp : pc + 3 = pc') : wp X d mi pc ls (.int y :: .int x :: st) w Q ↔ (if x = y then wp X d mi a ls st w Q else wp X d mi pc' ls st w Q) := by
  subst hp
  rw [wp_stp he (Nat.le_of_ble_eq_true rfl) (show stp X _ pc ls _ w = some (if x = y then a else pc + 3, ls, st, w) from rfl)]
  exact wp_if
theorem w_icmp_ne {x y : Int32} {k : Int} (he : cdx (mC mi) pc = some (pc0, .if_icmp .ne k, n, a, b, c, p, t)) (hp : pc + 3 = pc') : wp X d mi pc ls (.int y :: .int x :: st) w Q ↔ (if x = y then wp X d mi pc' ls st w Q else wp X d mi a ls st w Q) := by
  subst hp
  rw [wp_stp he (Nat.le_of_ble_eq_true rfl) (show stp X _ pc ls _ w = some (if x = y then pc + 3 else a, ls, st, w) from rfl)]
  exact wp_if
theorem w_icmp_lt {x y : Int32} {k : Int} (he : cdx (mC mi) pc = some (pc0, .if_icmp .lt k, n, a, b, c, p, t)) (hp : pc + 3 = pc') : wp X d mi pc ls (.int y :: .int x :: st) w Q ↔ (if x < y then wp X d mi a ls st w Q else wp X d mi pc' ls st w Q) := by
  subst hp
  rw [wp_stp he (Nat.le_of_ble_eq_true rfl) (show stp X _ pc ls _ w = some (if x < y then a else pc + 3, ls, st, w) from rfl)]
  exact wp_if
theorem w_icmp_ge {x y : Int32} {k : Int} (he : cdx (mC mi) pc = some (pc0, .if_icmp .ge k, n, a, b, c, p, t)) (hp : pc + 3 = pc') : wp X d mi pc ls (.int y :: .int x :: st) w Q ↔ (if x < y then wp X d mi pc' ls st w Q else wp X d mi a ls st w Q) := by
  subst hp
  rw [wp_stp he (Nat.le_of_ble_eq_true rfl) (show stp X _ pc ls _ w = some (if x < y then pc + 3 else a, ls, st, w) from rfl)]
  exact wp_if
theorem w_icmp_gt {x y : Int32} {k : Int} (he : cdx (mC mi) pc = some (pc0, .if_icmp .gt k, n, a, b, c, p, t)) (hp : pc + 3 = pc') : wp X d mi pc ls (.int y :: .int x :: st) w Q ↔ (if y < x then wp X d mi a ls st w Q else wp X d mi pc' ls st w Q) := by
  subst hp
  rw [wp_stp he (Nat.le_of_ble_eq_true rfl) (show stp X _ pc ls _ w = some (if y < x then a else pc + 3, ls, st, w) from rfl)]
  exact wp_if
theorem w_icmp_le {x y : Int32} {k : Int} (he : cdx (mC mi) pc = some (pc0, .if_icmp .le k, n, a, b, c, p, t)) (hp : pc + 3 = pc') : wp X d mi pc ls (.int y :: .int x :: st) w Q ↔ (if y < x then wp X d mi pc' ls st w Q else wp X d mi a ls st w Q) := by
  subst hp
  rw [wp_stp he (Nat.le_of_ble_eq_true rfl) (show stp X _ pc ls _ w = some (if y < x then pc + 3 else a, ls, st, w) from rfl)]
  exact wp_if
theorem w_ifnullN {k : Int} (he : cdx (mC mi) pc = some (pc0, .ifnull k, n, a, b, c, p, t)) : wp X d mi pc ls (.null :: st) w Q ↔ wp X d mi a ls st w Q := wp_stp he (Nat.le_of_ble_eq_true rfl) rfl
theorem w_ifnonnullN {k : Int} (he : cdx (mC mi) pc = some (pc0, .ifnonnull k, n, a, b, c, p, t)) (hp : pc + 3 = pc') : wp X d mi pc ls (.null :: st) w Q ↔ wp X d mi pc' ls st w Q := by
  subst hp
  exact wp_stp he (Nat.le_of_ble_eq_true rfl) rfl
theorem w_ifnull {k : Int} {x : Nat} (he : cdx (mC mi) pc = some (pc0, .ifnull k, n, a, b, c, p, t)) (hx : x < w.1.length) (hp : pc + 3 = pc') : wp X d mi pc ls (.ref x :: st) w Q ↔ wp X d mi pc' ls st w Q := by
  subst hp
  exact wp_stp he (Nat.le_of_ble_eq_true rfl) (by simp only [stp, grp, stpJ, hx, if_true])
theorem w_ifnonnull {k : Int} {x : Nat} (he : cdx (mC mi) pc = some (pc0, .ifnonnull k, n, a, b, c, p, t)) (hx : x < w.1.length) : wp X d mi pc ls (.ref x :: st) w Q ↔ wp X d mi a ls st w Q := wp_stp he (Nat.le_of_ble_eq_true rfl) (by simp only [stp, grp, stpJ, hx, if_true])
theorem w_swcons {k : Int} {x v : Int32} {q g : Nat} (hv : v.toInt = k) : wp X d mi (swT ((k, g) :: t) q x.toInt) ls st w Q ↔ (if x = v then wp X d mi g ls st w Q else wp X d mi (swT t q x.toInt) ls st w Q) := by
  have e : swT ((k, g) :: t) q x.toInt = if x.toInt = k then g else swT t q x.toInt := rfl
  rw [e]
  by_cases h : x = v
  · subst h
    rw [if_pos hv, if_pos rfl]
  · rw [if_neg h, if_neg (fun z => h (Int32.toInt_inj.mp (z.trans hv.symm)))]
theorem w_swnil {x : Int32} {q : Nat} : wp X d mi (swT [] q x.toInt) ls st w Q ↔ wp X d mi q ls st w Q := Iff.rfl
theorem w_tswitch {df lo hi : Int} {offs : Array Int} {x : Int32} (he : cdx (mC mi) pc = some (pc0, .tableswitch df lo hi offs, n, a, b, c, p, t)) : wp X d mi pc ls (.int x :: st) w Q ↔ wp X d mi (swT t a x.toInt) ls st w Q := wp_stp he (Nat.le_of_ble_eq_true rfl) rfl
theorem w_lswitch {df : Int} {ps : Array (Int × Int)} {x : Int32} (he : cdx (mC mi) pc = some (pc0, .lookupswitch df ps, n, a, b, c, p, t)) : wp X d mi pc ls (.int x :: st) w Q ↔ wp X d mi (swT t a x.toInt) ls st w Q := wp_stp he (Nat.le_of_ble_eq_true rfl) rfl
theorem w_getI {ix k : Nat} (he : cdx (mC mi) pc = some (pc0, .getfield ix, n, a, b, 0, p, t)) (hk : K[k]? = some (.inr a)) (hb : b < clN a) (ht : isIntT (clT a b) = true) (hp : pc + n = pc') : wp X d mi pc ls (.ref k :: st) (K, R, I, L) Q ↔ wp X d mi pc' ls (.int (I k b) :: st) (K, R, I, L) Q := by
  subst hp
  exact wp_stp he (Nat.le_of_ble_eq_true rfl) (by simp only [stp, grp, stpH, hk, hb, and_self, if_true, fval_int ht])
theorem w_getR {ix k q : Nat} (he : cdx (mC mi) pc = some (pc0, .getfield ix, n, a, b, 0, p, t)) (hk : K[k]? = some (.inr a)) (hb : b < clN a) (ht : isRefT (clT a b) = true) (hr : R k b = some q) (hp : pc + n = pc') : wp X d mi pc ls (.ref k :: st) (K, R, I, L) Q ↔ wp X d mi pc' ls (.ref q :: st) (K, R, I, L) Q := by
  subst hp
  exact wp_stp he (Nat.le_of_ble_eq_true rfl) (by simp only [stp, grp, stpH, hk, hb, and_self, if_true, fval_ref ht, hr, rfv])
theorem w_getS0 {ix k : Nat} (he : cdx (mC mi) pc = some (pc0, .getfield ix, n, a, b, 1, p, t)) (hk : K[k]? = none) (hr : 1000000 ≤ k ∧ k < 1000008) (hb : b = 0) (hp : pc + n = pc') : wp X d mi pc ls (.ref k :: st) (K, R, I, L) Q ↔ wp X d mi pc' ls (.int 0 :: st) (K, R, I, L) Q := by
  subst hp
  exact wp_stp he (Nat.le_of_ble_eq_true rfl) (by simp only [stp, grp, stpH, hk, hr.1, hr.2, hb, and_self, if_true])
theorem w_getS1 {ix k : Nat} (he : cdx (mC mi) pc = some (pc0, .getfield ix, n, a, b, 1, p, t)) (hk : K[k]? = none) (hr : 1000000 ≤ k ∧ k < 1000008) (hb : b = 1) (hp : pc + n = pc') : wp X d mi pc ls (.ref k :: st) (K, R, I, L) Q ↔ wp X d mi pc' ls (.ref (k + 20) :: st) (K, R, I, L) Q := by
  subst hp
  exact wp_stp he (Nat.le_of_ble_eq_true rfl) (by simp only [stp, grp, stpH, hk, hr.1, hr.2, hb, and_self, if_true, if_neg (show ¬ (1 : Nat) = 0 by decide)])
theorem w_putI {ix k : Nat} {x : Int32} (he : cdx (mC mi) pc = some (pc0, .putfield ix, n, a, b, c, p, t)) (hk : K[k]? = some (.inr a)) (hb : b < clN a) (ht : isIntT (clT a b) = true) (hf : fits (clT a b) (.int x) = true) (hp : pc + n = pc') : wp X d mi pc ls (.int x :: .ref k :: st) (K, R, I, L) Q ↔ wp X d mi pc' ls (st) (K, R, updR I k b x, L) Q := by
  subst hp
  exact wp_stp he (Nat.le_of_ble_eq_true rfl) (by simp only [stp, grp, stpH, hk, hb, ht, hf, and_self, if_true])
theorem w_gets_i {ix : Nat} {v : Int32} (he : cdx (mC mi) pc = some (pc0, .getstatic ix, n, a, b, 1, p, t)) (hv : Int32.ofNat b = v) (hp : pc + n = pc') : wp X d mi pc ls (st) (K, R, I, L) Q ↔ wp X d mi pc' ls (.int v :: st) (K, R, I, L) Q := by
  subst hp
  exact wp_stp he (Nat.le_of_ble_eq_true rfl) (by simp only [stp, grp, stpH, hv, if_true])
theorem w_gets_r {ix q : Nat} (he : cdx (mC mi) pc = some (pc0, .getstatic ix, n, a, b, 0, p, t)) (hv : 1000040 + b = q) (hp : pc + n = pc') : wp X d mi pc ls (st) (K, R, I, L) Q ↔ wp X d mi pc' ls (.ref q :: st) (K, R, I, L) Q := by
  subst hp
  exact wp_stp he (Nat.le_of_ble_eq_true rfl) (by simp only [stp, grp, stpH, hv, if_neg (show ¬ (0 : Nat) = 1 by decide)])
theorem w_ldc {ix q : Nat} (he : cdx (mC mi) pc = some (pc0, .ldc ix, n, a, b, c, p, t)) (hv : 1000000 + a = q) (hp : pc + n = pc') : wp X d mi pc ls (st) (K, R, I, L) Q ↔ wp X d mi pc' ls (.ref q :: st) (K, R, I, L) Q := by
  subst hp
  exact wp_stp he (Nat.le_of_ble_eq_true rfl) (by simp only [stp, grp, stpH, hv])
theorem w_iald {i : Int32} {k m : Nat} (he : cdx (mC mi) pc = some (pc0, .iaload, n, a, b, c, p, t)) (hk : K[k]? = some (.inl (.int, m))) (hp : pc + n = pc') : wp X d mi pc ls (.int i :: .ref k :: st) (K, R, I, L) Q ↔ (inA i m = true ∧ wp X d mi pc' ls (.int (I k i.toNatClampNeg) :: st) (K, R, I, L) Q) := by
  subst hp
  by_cases h : inA i m = true
  · rw [wp_stp he (Nat.le_of_ble_eq_true rfl) (show stp X _ pc ls _ (K, R, I, L) = some (pc + n, ls, .int (I k i.toNatClampNeg) :: st, (K, R, I, L)) by simp only [stp, grp, stpH, hk, h, if_true])]
    exact ⟨fun q => ⟨h, q⟩, fun q => q.2⟩
  · exact ⟨fun q => absurd q (wp_stuck he (Nat.le_of_ble_eq_true rfl) (by simp only [stp, grp, stpH, hk, h, if_false, Bool.false_eq_true])), fun q => absurd q.1 h⟩
theorem w_zald {i : Int32} {k m : Nat} (he : cdx (mC mi) pc = some (pc0, .baload, n, a, b, c, p, t)) (hk : K[k]? = some (.inl (.boolean, m))) (hp : pc + n = pc') : wp X d mi pc ls (.int i :: .ref k :: st) (K, R, I, L) Q ↔ (inA i m = true ∧ wp X d mi pc' ls (.int (I k i.toNatClampNeg) :: st) (K, R, I, L) Q) := by
  subst hp
  by_cases h : inA i m = true
  · rw [wp_stp he (Nat.le_of_ble_eq_true rfl) (show stp X _ pc ls _ (K, R, I, L) = some (pc + n, ls, .int (I k i.toNatClampNeg) :: st, (K, R, I, L)) by simp only [stp, grp, stpH, hk, h, if_true])]
    exact ⟨fun q => ⟨h, q⟩, fun q => q.2⟩
  · exact ⟨fun q => absurd q (wp_stuck he (Nat.le_of_ble_eq_true rfl) (by simp only [stp, grp, stpH, hk, h, if_false, Bool.false_eq_true])), fun q => absurd q.1 h⟩
theorem w_lald {i : Int32} {k m : Nat} (he : cdx (mC mi) pc = some (pc0, .laload, n, a, b, c, p, t)) (hk : K[k]? = some (.inl (.long, m))) (hp : pc + n = pc') : wp X d mi pc ls (.int i :: .ref k :: st) (K, R, I, L) Q ↔ (inA i m = true ∧ wp X d mi pc' ls (.long (L k i.toNatClampNeg) :: st) (K, R, I, L) Q) := by
  subst hp
  by_cases h : inA i m = true
  · rw [wp_stp he (Nat.le_of_ble_eq_true rfl) (show stp X _ pc ls _ (K, R, I, L) = some (pc + n, ls, .long (L k i.toNatClampNeg) :: st, (K, R, I, L)) by simp only [stp, grp, stpH, hk, h, if_true])]
    exact ⟨fun q => ⟨h, q⟩, fun q => q.2⟩
  · exact ⟨fun q => absurd q (wp_stuck he (Nat.le_of_ble_eq_true rfl) (by simp only [stp, grp, stpH, hk, h, if_false, Bool.false_eq_true])), fun q => absurd q.1 h⟩
theorem w_iald_c {i : Int32} {k m : Nat} {f : Nat → Int32} (he : cdx (mC mi) pc = some (pc0, .iaload, n, a, b, c, p, t)) (hk : K[k]? = none) (hc : cInts X k = some (m, f)) (hp : pc + n = pc') : wp X d mi pc ls (.int i :: .ref k :: st) (K, R, I, L) Q ↔ (inA i m = true ∧ wp X d mi pc' ls (.int (f i.toNatClampNeg) :: st) (K, R, I, L) Q) := by
  subst hp
  by_cases h : inA i m = true
  · rw [wp_stp he (Nat.le_of_ble_eq_true rfl) (show stp X _ pc ls _ (K, R, I, L) = some (pc + n, ls, .int (f i.toNatClampNeg) :: st, (K, R, I, L)) by simp only [stp, grp, stpH, hk, hc, h, if_true])]
    exact ⟨fun q => ⟨h, q⟩, fun q => q.2⟩
  · exact ⟨fun q => absurd q (wp_stuck he (Nat.le_of_ble_eq_true rfl) (by simp only [stp, grp, stpH, hk, hc, h, if_false, Bool.false_eq_true])), fun q => absurd q.1 h⟩
theorem w_bald_c {i : Int32} {k m : Nat} {f : Nat → Int32} (he : cdx (mC mi) pc = some (pc0, .baload, n, a, b, c, p, t)) (hk : K[k]? = none) (hc : cByts k = some (m, f)) (hp : pc + n = pc') : wp X d mi pc ls (.int i :: .ref k :: st) (K, R, I, L) Q ↔ (inA i m = true ∧ wp X d mi pc' ls (.int (f i.toNatClampNeg) :: st) (K, R, I, L) Q) := by
  subst hp
  by_cases h : inA i m = true
  · rw [wp_stp he (Nat.le_of_ble_eq_true rfl) (show stp X _ pc ls _ (K, R, I, L) = some (pc + n, ls, .int (f i.toNatClampNeg) :: st, (K, R, I, L)) by simp only [stp, grp, stpH, hk, hc, h, if_true])]
    exact ⟨fun q => ⟨h, q⟩, fun q => q.2⟩
  · exact ⟨fun q => absurd q (wp_stuck he (Nat.le_of_ble_eq_true rfl) (by simp only [stp, grp, stpH, hk, hc, h, if_false, Bool.false_eq_true])), fun q => absurd q.1 h⟩
theorem w_aald {i : Int32} {k m : Nat} {C : String} (he : cdx (mC mi) pc = some (pc0, .aaload, n, a, b, c, p, t)) (hk : K[k]? = some (.inl (.object C, m))) (hp : pc + n = pc') : wp X d mi pc ls (.int i :: .ref k :: st) (K, R, I, L) Q ↔ (inA i m = true ∧ wp X d mi pc' ls (rfv (R k i.toNatClampNeg) :: st) (K, R, I, L) Q) := by
  subst hp
  by_cases h : inA i m = true
  · rw [wp_stp he (Nat.le_of_ble_eq_true rfl) (show stp X _ pc ls _ (K, R, I, L) = some (pc + n, ls, rfv (R k i.toNatClampNeg) :: st, (K, R, I, L)) by simp only [stp, grp, stpH, hk, h, if_true])]
    exact ⟨fun q => ⟨h, q⟩, fun q => q.2⟩
  · exact ⟨fun q => absurd q (wp_stuck he (Nat.le_of_ble_eq_true rfl) (by simp only [stp, grp, stpH, hk, h, if_false, Bool.false_eq_true])), fun q => absurd q.1 h⟩
theorem w_iast {i x : Int32} {k m : Nat} (he : cdx (mC mi) pc = some (pc0, .iastore, n, a, b, c, p, t)) (hk : K[k]? = some (.inl (.int, m))) (hp : pc + n = pc') : wp X d mi pc ls (.int x :: .int i :: .ref k :: st) (K, R, I, L) Q ↔ (inA i m = true ∧ wp X d mi pc' ls (st) (K, R, updR I k i.toNatClampNeg x, L) Q) := by
  subst hp
  by_cases h : inA i m = true
  · rw [wp_stp he (Nat.le_of_ble_eq_true rfl) (show stp X _ pc ls _ (K, R, I, L) = some (pc + n, ls, st, (K, R, updR I k i.toNatClampNeg x, L)) by simp only [stp, grp, stpH, hk, h, if_true])]
    exact ⟨fun q => ⟨h, q⟩, fun q => q.2⟩
  · exact ⟨fun q => absurd q (wp_stuck he (Nat.le_of_ble_eq_true rfl) (by simp only [stp, grp, stpH, hk, h, if_false, Bool.false_eq_true])), fun q => absurd q.1 h⟩
theorem w_zast {i x : Int32} {k m : Nat} (he : cdx (mC mi) pc = some (pc0, .bastore, n, a, b, c, p, t)) (hk : K[k]? = some (.inl (.boolean, m))) (hp : pc + n = pc') : wp X d mi pc ls (.int x :: .int i :: .ref k :: st) (K, R, I, L) Q ↔ ((inA i m = true ∧ fits .boolean (.int x) = true) ∧ wp X d mi pc' ls (st) (K, R, updR I k i.toNatClampNeg x, L) Q) := by
  subst hp
  by_cases h : (inA i m = true ∧ fits .boolean (.int x) = true)
  · rw [wp_stp he (Nat.le_of_ble_eq_true rfl) (show stp X _ pc ls _ (K, R, I, L) = some (pc + n, ls, st, (K, R, updR I k i.toNatClampNeg x, L)) by simp only [stp, grp, stpH, hk, h, and_self, if_true])]
    exact ⟨fun q => ⟨h, q⟩, fun q => q.2⟩
  · exact ⟨fun q => absurd q (wp_stuck he (Nat.le_of_ble_eq_true rfl) (by simp only [stp, grp, stpH, hk, h, if_false])), fun q => absurd q.1 h⟩
theorem w_last {i : Int32} {x : Int64} {k m : Nat} (he : cdx (mC mi) pc = some (pc0, .lastore, n, a, b, c, p, t)) (hk : K[k]? = some (.inl (.long, m))) (hp : pc + n = pc') : wp X d mi pc ls (.long x :: .int i :: .ref k :: st) (K, R, I, L) Q ↔ (inA i m = true ∧ wp X d mi pc' ls (st) (K, R, I, updR L k i.toNatClampNeg x) Q) := by
  subst hp
  by_cases h : inA i m = true
  · rw [wp_stp he (Nat.le_of_ble_eq_true rfl) (show stp X _ pc ls _ (K, R, I, L) = some (pc + n, ls, st, (K, R, I, updR L k i.toNatClampNeg x)) by simp only [stp, grp, stpH, hk, h, if_true])]
    exact ⟨fun q => ⟨h, q⟩, fun q => q.2⟩
  · exact ⟨fun q => absurd q (wp_stuck he (Nat.le_of_ble_eq_true rfl) (by simp only [stp, grp, stpH, hk, h, if_false, Bool.false_eq_true])), fun q => absurd q.1 h⟩
theorem w_alen {k m : Nat} {ty : FieldType} {v : Int32} (he : cdx (mC mi) pc = some (pc0, .arraylength, n, a, b, c, p, t)) (hk : K[k]? = some (.inl (ty, m))) (hv : Int32.ofNat m = v) (hp : pc + n = pc') : wp X d mi pc ls (.ref k :: st) (K, R, I, L) Q ↔ wp X d mi pc' ls (.int v :: st) (K, R, I, L) Q := by
  subst hp
  exact wp_stp he (Nat.le_of_ble_eq_true rfl) (by simp only [stp, grp, stpH, hk, hv])
theorem w_alen_c {k m : Nat} {f : Nat → Int32} {v : Int32} (he : cdx (mC mi) pc = some (pc0, .arraylength, n, a, b, c, p, t)) (hk : K[k]? = none) (hc : cInts X k = some (m, f)) (hv : Int32.ofNat m = v) (hp : pc + n = pc') : wp X d mi pc ls (.ref k :: st) (K, R, I, L) Q ↔ wp X d mi pc' ls (.int v :: st) (K, R, I, L) Q := by
  subst hp
  exact wp_stp he (Nat.le_of_ble_eq_true rfl) (by simp only [stp, grp, stpH, hk, hc, hv])
theorem w_alen_b {k m : Nat} {f : Nat → Int32} {v : Int32} (he : cdx (mC mi) pc = some (pc0, .arraylength, n, a, b, c, p, t)) (hk : K[k]? = none) (hi : cInts X k = none) (hc : cByts k = some (m, f)) (hv : Int32.ofNat m = v) (hp : pc + n = pc') : wp X d mi pc ls (.ref k :: st) (K, R, I, L) Q ↔ wp X d mi pc' ls (.int v :: st) (K, R, I, L) Q := by
  subst hp
  exact wp_stp he (Nat.le_of_ble_eq_true rfl) (by simp only [stp, grp, stpH, hk, hi, hc, hv])
theorem w_copy_i {ix k0 k1 m0 m1 : Nat} {sp dp z : Int32} (he : cdx (mC mi) pc = some (pc0, .invokestatic ix, n, a, b, 20, p, t)) (hk0 : K[k0]? = some (.inl (.int, m0))) (hk1 : K[k1]? = some (.inl (.int, m1))) (hs : sWord st = true) (hp : pc + n = pc') : wp X d mi pc ls (.int z :: .int dp :: .ref k1 :: .int sp :: .ref k0 :: st) (K, R, I, L) Q ↔ ((¬ sp < 0 ∧ ¬ dp < 0 ∧ ¬ z < 0 ∧ sp.toNatClampNeg + z.toNatClampNeg ≤ m0 ∧ dp.toNatClampNeg + z.toNatClampNeg ≤ m1) ∧ wp X d mi pc' ls st (K, R, cpyR I k0 sp.toNatClampNeg k1 dp.toNatClampNeg z.toNatClampNeg, L) Q) := by
  subst hp
  by_cases h : (¬ sp < 0 ∧ ¬ dp < 0 ∧ ¬ z < 0 ∧ sp.toNatClampNeg + z.toNatClampNeg ≤ m0 ∧ dp.toNatClampNeg + z.toNatClampNeg ≤ m1)
  · rw [wp_stp he (Nat.le_of_ble_eq_true rfl) (show stp X _ pc ls _ (K, R, I, L) = some (pc + n, ls, st, (K, R, cpyR I k0 sp.toNatClampNeg k1 dp.toNatClampNeg z.toNatClampNeg, L)) by simp only [stp, grp, stpN, if_neg (show ¬ (20 : Nat) < 20 by decide), hk0, hk1, hs, h, and_self, not_false_eq_true, if_true])]
    exact ⟨fun q => ⟨h, q⟩, fun q => q.2⟩
  · exact ⟨fun q => absurd q (wp_stuck he (Nat.le_of_ble_eq_true rfl) (by simp only [stp, grp, stpN, if_neg (show ¬ (20 : Nat) < 20 by decide), hk0, hk1, hs, h, true_and, if_false])), fun q => absurd q.1 h⟩
theorem w_copy_l {ix k0 k1 m0 m1 : Nat} {sp dp z : Int32} (he : cdx (mC mi) pc = some (pc0, .invokestatic ix, n, a, b, 20, p, t)) (hk0 : K[k0]? = some (.inl (.long, m0))) (hk1 : K[k1]? = some (.inl (.long, m1))) (hs : sWord st = true) (hp : pc + n = pc') : wp X d mi pc ls (.int z :: .int dp :: .ref k1 :: .int sp :: .ref k0 :: st) (K, R, I, L) Q ↔ ((¬ sp < 0 ∧ ¬ dp < 0 ∧ ¬ z < 0 ∧ sp.toNatClampNeg + z.toNatClampNeg ≤ m0 ∧ dp.toNatClampNeg + z.toNatClampNeg ≤ m1) ∧ wp X d mi pc' ls st (K, R, I, cpyR L k0 sp.toNatClampNeg k1 dp.toNatClampNeg z.toNatClampNeg) Q) := by
  subst hp
  by_cases h : (¬ sp < 0 ∧ ¬ dp < 0 ∧ ¬ z < 0 ∧ sp.toNatClampNeg + z.toNatClampNeg ≤ m0 ∧ dp.toNatClampNeg + z.toNatClampNeg ≤ m1)
  · rw [wp_stp he (Nat.le_of_ble_eq_true rfl) (show stp X _ pc ls _ (K, R, I, L) = some (pc + n, ls, st, (K, R, I, cpyR L k0 sp.toNatClampNeg k1 dp.toNatClampNeg z.toNatClampNeg)) by simp only [stp, grp, stpN, if_neg (show ¬ (20 : Nat) < 20 by decide), hk0, hk1, hs, h, and_self, not_false_eq_true, if_true])]
    exact ⟨fun q => ⟨h, q⟩, fun q => q.2⟩
  · exact ⟨fun q => absurd q (wp_stuck he (Nat.le_of_ble_eq_true rfl) (by simp only [stp, grp, stpN, if_neg (show ¬ (20 : Nat) < 20 by decide), hk0, hk1, hs, h, true_and, if_false])), fun q => absurd q.1 h⟩
theorem w_callv {ix k ci y : Nat} {z : Int} {vs rest : List Value} {mj : MI} {ls0 : XL} (he : cdx (mC mi) pc = some (pc0, .invokevirtual ix, n, a, b, c, p, [(z, y)])) (hm : mtab[a]? = some mj) (hd : st.drop b = .ref k :: rest) (hb : b < st.length) (hw : sWord rest = true) (hk : w.1[k]? = some (.inr ci)) (hz : z = (ci : Int)) (hv : .ref k :: (st.take b).reverse = vs) (hl : (entL vs).length ≤ mL mj) (h0 : entX (mL mj) vs = ls0) (hp : pc + 3 = pc') : wp X (d + 1) mi pc ls st w Q ↔ wp X d mj 0 ls0 [] w (fun r w1 => wp X (d + 1) mi pc' ls (r.toList ++ rest) w1 Q) := by
  subst hp; subst h0; subst hv
  exact wp_call he rfl (by simp only [cll, hd, hb, hw, recvOk, hk, hz, decide_true, and_self, if_true]) hm hl
theorem w_calls {ix k y : Nat} {vs rest : List Value} {mj : MI} {ls0 : XL} (he : cdx (mC mi) pc = some (pc0, .invokevirtual ix, n, a, b, c, p, [(99, y)])) (hm : mtab[a]? = some mj) (hd : st.drop b = .ref k :: rest) (hb : b < st.length) (hw : sWord rest = true) (hk : w.1[k]? = none) (hr : 1000000 ≤ k ∧ k < 1000008) (hv : .ref k :: (st.take b).reverse = vs) (hl : (entL vs).length ≤ mL mj) (h0 : entX (mL mj) vs = ls0) (hp : pc + 3 = pc') : wp X (d + 1) mi pc ls st w Q ↔ wp X d mj 0 ls0 [] w (fun r w1 => wp X (d + 1) mi pc' ls (r.toList ++ rest) w1 Q) := by
  subst hp; subst h0; subst hv
  exact wp_call he rfl (by simp only [cll, hd, hb, hw, recvOk, hk, hr.1, hr.2, decide_true, and_self, if_true]) hm hl
theorem w_callst {ix : Nat} {vs rest : List Value} {mj : MI} {ls0 : XL} (he : cdx (mC mi) pc = some (pc0, .invokestatic ix, n, a, b, c, p, t)) (hc : c < 20) (hm : mtab[a]? = some mj) (hd : st.drop b = rest) (hb : b ≤ st.length) (hw : sWord rest = true) (hv : (st.take b).reverse = vs) (hl : (entL vs).length ≤ mL mj) (h0 : entX (mL mj) vs = ls0) (hp : pc + 3 = pc') : wp X (d + 1) mi pc ls st w Q ↔ wp X d mj 0 ls0 [] w (fun r w1 => wp X (d + 1) mi pc' ls (r.toList ++ rest) w1 Q) := by
  subst hp; subst h0; subst hv; subst hd
  exact wp_call he (by simp only [grp, hc, if_true]) (by simp only [cll, hb, hw, and_self, if_true]) hm hl
theorem w_iret {x : Int32} (he : cdx (mC mi) pc = some (pc0, .ireturn, n, a, b, c, p, t)) (hr : mR mi = some .int) : wp X d mi pc ls [.int x] w Q ↔ Q (some (.int x)) w := wp_ret he rfl (by simp only [rtn, hr])
theorem w_zret {x : Int32} {ty : FieldType} (he : cdx (mC mi) pc = some (pc0, .ireturn, n, a, b, c, p, t)) (hr : mR mi = some ty) (hi : ty ≠ .int) : wp X d mi pc ls [.int x] w Q ↔ (fits ty (.int x) = true ∧ Q (some (.int x)) w) := by
  have hq : rtn (mR mi) (pc0, .ireturn, n, a, b, c, p, t) [.int x] = if fits ty (.int x) = true then some (some (.int x)) else none := by
    rw [hr]
    cases ty <;> first | rfl | exact absurd rfl hi
  by_cases h : fits ty (.int x) = true
  · rw [if_pos h] at hq
    rw [wp_ret he rfl hq]
    exact ⟨fun q => ⟨h, q⟩, fun q => q.2⟩
  · rw [if_neg h] at hq
    refine ⟨fun ⟨n1, r, w1, h1, h2⟩ => ?_, fun q => absurd q.1 h⟩
    cases n1 with
    | zero => cases h1
    | succ n1 =>
      rw [exec, he] at h1
      dsimp only at h1
      rw [show grp (pc0, Instr.ireturn, n, a, b, c, p, t) = 5 from rfl, hq] at h1
      cases h1
theorem w_lret {x : Int64} (he : cdx (mC mi) pc = some (pc0, .lreturn, n, a, b, c, p, t)) (hr : mR mi = some .long) : wp X d mi pc ls [.long x] w Q ↔ Q (some (.long x)) w := wp_ret he rfl (by simp only [rtn, hr])
theorem w_aret {x : Nat} {C : String} (he : cdx (mC mi) pc = some (pc0, .areturn, n, a, b, c, p, t)) (hr : mR mi = some (.object C)) : wp X d mi pc ls [.ref x] w Q ↔ Q (some (.ref x)) w := wp_ret he rfl (by simp only [rtn, hr])
theorem w_aretN {C : String} (he : cdx (mC mi) pc = some (pc0, .areturn, n, a, b, c, p, t)) (hr : mR mi = some (.object C)) : wp X d mi pc ls [.null] w Q ↔ Q (some .null) w := wp_ret he rfl (by simp only [rtn, hr])
theorem w_vret (he : cdx (mC mi) pc = some (pc0, .return_, n, a, b, c, p, t)) (hr : mR mi = none) : wp X d mi pc ls [] w Q ↔ Q none w := wp_ret he rfl (by simp only [rtn, hr])
end RULES
