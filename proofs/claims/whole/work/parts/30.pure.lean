/-! Plain facts: counted loops, small numbers, what leaves do. -/
def itr {σ : Type} (F : Nat → σ → σ) : Nat → σ → σ
  | 0, s => s
  | n + 1, s => F n (itr F n s)
theorem for_iff {σ : Type} {P : Nat → σ → Prop} {F : Nat → σ → σ} (N : Nat) (h : ∀ k s, k < N → (P k s ↔ P (k + 1) (F k s))) (s : σ) : P 0 s ↔ P N (itr F N s) := by
  induction N with
  | zero => exact Iff.rfl
  | succ N ih => exact (ih (fun k s hk => h k s (by omega))).trans (h N _ (by omega))
theorem i32_10 : ((1 : Int32) = 0) = False := by decide
theorem i32_01 : ((0 : Int32) = 1) = False := by decide
/-- a truth as an int -/
def bi (p : Prop) [Decidable p] : Int32 := if p then 1 else 0
theorem bi_0 {p : Prop} [Decidable p] : (bi p = 0) = ¬ p := by
  unfold bi
  split <;> simp [*] <;> decide
theorem fits_bi {p : Prop} [Decidable p] : fits .boolean (.int (bi p)) = true := by
  unfold bi
  split <;> rfl
theorem bi_t {p : Prop} [Decidable p] (h : p) : bi p = 1 := by unfold bi; rw [if_pos h]
theorem bi_f {p : Prop} [Decidable p] (h : ¬ p) : bi p = 0 := by unfold bi; rw [if_neg h]
/-- cell k of leaves s -/
def hasI (s k : Int32) : Int32 := if ((s >>> (k &&& 31)) &&& (1 : Int32)) = 1 then 1 else 0
def bitsF (k : Nat) (s n : Int32) : Int32 := if hasI s (nI k) = 0 then (n + 0) else (n + 1)
def bitsI (s : Int32) : Int32 := itr (fun k n => bitsF k s n) 12 0
def rightI (x : Int32) : Int32 := (x &&& ((-2185) : Int32)) <<< ((1 : Int32) &&& 31)
def leftI (x : Int32) : Int32 := (x &&& ((-274) : Int32)) >>> ((1 : Int32) &&& 31)
def downI (x : Int32) : Int32 := (x <<< ((4 : Int32) &&& 31)) &&& (4095 : Int32)
def upI (x : Int32) : Int32 := x >>> ((4 : Int32) &&& 31)
def forthI (w s : Int32) : Int32 := if w = 0 then s ||| rightI s else if w = 1 then s &&& (((rightI s ||| leftI s) ||| downI s) ||| upI s) else if w = 2 then rightI s ||| ((s &&& (2184 : Int32)) >>> ((3 : Int32) &&& 31)) else downI s ||| ((s &&& (3840 : Int32)) >>> ((8 : Int32) &&& 31))
def backI (w s : Int32) : Int32 := if w = 0 then s ||| leftI s else if w = 1 then (((s ||| (rightI s &&& leftI s)) ||| (downI s &&& upI s)) ||| ((rightI s ||| leftI s) &&& (downI s ||| upI s))) else if w = 2 then leftI s ||| ((s &&& (273 : Int32)) <<< ((3 : Int32) &&& 31)) else upI s ||| ((s &&& (15 : Int32)) <<< ((8 : Int32) &&& 31))
def remI (x y : Int32) : Int32 := x - x / y * y
/-- the reference's -/
def spreadF (s b : Int32) (k : Nat) (t : Int32) : Int32 := if hasI s (nI k) = 0 then t else
  (if b = 0 then (if b = 0 then (if remI (nI k) 4 < 3 then (t ||| ((1 : Int32) <<< ((nI k + 1) &&& 31))) else t) else t) else (if 0 < remI (nI k) 4 then ((if b = 0 then (if remI (nI k) 4 < 3 then (t ||| ((1 : Int32) <<< ((nI k + 1) &&& 31))) else t) else t) ||| ((1 : Int32) <<< ((nI k - 1) &&& 31))) else (if b = 0 then (if remI (nI k) 4 < 3 then (t ||| ((1 : Int32) <<< ((nI k + 1) &&& 31))) else t) else t)))
def spreadM (s b : Int32) : Int32 := itr (spreadF s b) 12 s
def besideM (s k : Int32) : Int32 :=
  let a := if 0 < remI k 4 then (if hasI s (k - 1) = 0 then 0 else 1) else 0
  let b := if remI k 4 < 3 then (if hasI s (k + 1) = 0 then 0 else 1) else 0
  let c := if 3 < k then (if hasI s (k - 4) = 0 then 0 else 1) else 0
  let d := if k < 8 then (if hasI s (k + 4) = 0 then 0 else 1) else 0
  ((((0 : Int32) + a) + b) + c) + d
def thinF (s b : Int32) (k : Nat) (t : Int32) : Int32 :=
  let z : Int32 := if b = 0 then (if hasI s (nI k) = 0 then 0 else (if 0 < besideM s (nI k) then 1 else 0)) else (if hasI s (nI k) = 0 then (if 1 < besideM s (nI k) then 1 else 0) else 1)
  if z = 0 then (t ||| (0 : Int32)) else (t ||| ((1 : Int32) <<< (nI k &&& 31)))
def thinM (s b : Int32) : Int32 := itr (thinF s b) 12 0
def movF (s r c : Int32) (k : Nat) (t : Int32) : Int32 := if hasI s (nI k) = 0 then (t ||| (0 : Int32)) else (t ||| ((1 : Int32) <<< (((remI (nI k / 4 + r) 3 * 4) + remI (remI (nI k) 4 + c) 4) &&& 31)))
def movM (s r c : Int32) : Int32 := itr (movF s r c) 12 0
def plainM (s w b : Int32) : Int32 := if w = 0 then spreadM s b else if w = 1 then thinM s b else if w = 2 then (if b = 0 then movM s 0 1 else movM s 0 3) else (if b = 0 then movM s 1 0 else movM s 2 0)
def bcI (x0 : Int32) : Int32 := ((((((((x0 - ((((x0 : Int32).toUInt32 >>> ((1 : Int32).toUInt32 &&& Int32.toUInt32 31)).toInt32) &&& (1431655765 : Int32))) &&& (858993459 : Int32)) + (((((x0 - ((((x0 : Int32).toUInt32 >>> ((1 : Int32).toUInt32 &&& Int32.toUInt32 31)).toInt32) &&& (1431655765 : Int32))) : Int32).toUInt32 >>> ((2 : Int32).toUInt32 &&& Int32.toUInt32 31)).toInt32) &&& (858993459 : Int32))) + ((((((x0 - ((((x0 : Int32).toUInt32 >>> ((1 : Int32).toUInt32 &&& Int32.toUInt32 31)).toInt32) &&& (1431655765 : Int32))) &&& (858993459 : Int32)) + (((((x0 - ((((x0 : Int32).toUInt32 >>> ((1 : Int32).toUInt32 &&& Int32.toUInt32 31)).toInt32) &&& (1431655765 : Int32))) : Int32).toUInt32 >>> ((2 : Int32).toUInt32 &&& Int32.toUInt32 31)).toInt32) &&& (858993459 : Int32))) : Int32).toUInt32 >>> ((4 : Int32).toUInt32 &&& Int32.toUInt32 31)).toInt32)) &&& (252645135 : Int32)) + ((((((((x0 - ((((x0 : Int32).toUInt32 >>> ((1 : Int32).toUInt32 &&& Int32.toUInt32 31)).toInt32) &&& (1431655765 : Int32))) &&& (858993459 : Int32)) + (((((x0 - ((((x0 : Int32).toUInt32 >>> ((1 : Int32).toUInt32 &&& Int32.toUInt32 31)).toInt32) &&& (1431655765 : Int32))) : Int32).toUInt32 >>> ((2 : Int32).toUInt32 &&& Int32.toUInt32 31)).toInt32) &&& (858993459 : Int32))) + ((((((x0 - ((((x0 : Int32).toUInt32 >>> ((1 : Int32).toUInt32 &&& Int32.toUInt32 31)).toInt32) &&& (1431655765 : Int32))) &&& (858993459 : Int32)) + (((((x0 - ((((x0 : Int32).toUInt32 >>> ((1 : Int32).toUInt32 &&& Int32.toUInt32 31)).toInt32) &&& (1431655765 : Int32))) : Int32).toUInt32 >>> ((2 : Int32).toUInt32 &&& Int32.toUInt32 31)).toInt32) &&& (858993459 : Int32))) : Int32).toUInt32 >>> ((4 : Int32).toUInt32 &&& Int32.toUInt32 31)).toInt32)) &&& (252645135 : Int32)) : Int32).toUInt32 >>> ((8 : Int32).toUInt32 &&& Int32.toUInt32 31)).toInt32)) + (((((((((x0 - ((((x0 : Int32).toUInt32 >>> ((1 : Int32).toUInt32 &&& Int32.toUInt32 31)).toInt32) &&& (1431655765 : Int32))) &&& (858993459 : Int32)) + (((((x0 - ((((x0 : Int32).toUInt32 >>> ((1 : Int32).toUInt32 &&& Int32.toUInt32 31)).toInt32) &&& (1431655765 : Int32))) : Int32).toUInt32 >>> ((2 : Int32).toUInt32 &&& Int32.toUInt32 31)).toInt32) &&& (858993459 : Int32))) + ((((((x0 - ((((x0 : Int32).toUInt32 >>> ((1 : Int32).toUInt32 &&& Int32.toUInt32 31)).toInt32) &&& (1431655765 : Int32))) &&& (858993459 : Int32)) + (((((x0 - ((((x0 : Int32).toUInt32 >>> ((1 : Int32).toUInt32 &&& Int32.toUInt32 31)).toInt32) &&& (1431655765 : Int32))) : Int32).toUInt32 >>> ((2 : Int32).toUInt32 &&& Int32.toUInt32 31)).toInt32) &&& (858993459 : Int32))) : Int32).toUInt32 >>> ((4 : Int32).toUInt32 &&& Int32.toUInt32 31)).toInt32)) &&& (252645135 : Int32)) + ((((((((x0 - ((((x0 : Int32).toUInt32 >>> ((1 : Int32).toUInt32 &&& Int32.toUInt32 31)).toInt32) &&& (1431655765 : Int32))) &&& (858993459 : Int32)) + (((((x0 - ((((x0 : Int32).toUInt32 >>> ((1 : Int32).toUInt32 &&& Int32.toUInt32 31)).toInt32) &&& (1431655765 : Int32))) : Int32).toUInt32 >>> ((2 : Int32).toUInt32 &&& Int32.toUInt32 31)).toInt32) &&& (858993459 : Int32))) + ((((((x0 - ((((x0 : Int32).toUInt32 >>> ((1 : Int32).toUInt32 &&& Int32.toUInt32 31)).toInt32) &&& (1431655765 : Int32))) &&& (858993459 : Int32)) + (((((x0 - ((((x0 : Int32).toUInt32 >>> ((1 : Int32).toUInt32 &&& Int32.toUInt32 31)).toInt32) &&& (1431655765 : Int32))) : Int32).toUInt32 >>> ((2 : Int32).toUInt32 &&& Int32.toUInt32 31)).toInt32) &&& (858993459 : Int32))) : Int32).toUInt32 >>> ((4 : Int32).toUInt32 &&& Int32.toUInt32 31)).toInt32)) &&& (252645135 : Int32)) : Int32).toUInt32 >>> ((8 : Int32).toUInt32 &&& Int32.toUInt32 31)).toInt32)) : Int32).toUInt32 >>> ((16 : Int32).toUInt32 &&& Int32.toUInt32 31)).toInt32)) &&& (63 : Int32))
def mirF (s : Int32) (k : Nat) (t : Int32) : Int32 := if hasI s (nI k) = 0 then (t ||| (0 : Int32)) else (t ||| ((1 : Int32) <<< (((nI k / 4 * 4 + 3) - remI (nI k) 4) &&& 31)))
def mirM (s : Int32) : Int32 := itr (mirF s) 12 0
def mirI (x0 : Int32) : Int32 := (((((x0 &&& (273 : Int32)) <<< ((3 : Int32) &&& 31)) ||| ((x0 &&& (546 : Int32)) <<< ((1 : Int32) &&& 31))) ||| ((x0 &&& (1092 : Int32)) >>> ((1 : Int32) &&& 31))) ||| ((x0 &&& (2184 : Int32)) >>> ((3 : Int32) &&& 31)))
def pop (x : Nat) : Nat := (List.range 12).foldl (fun n k => n + (x >>> k) % 2) 0
