def mY (mi : MI) : MethodName := mi.1
def mB (mi : MI) : ByteArray := mi.2.1
def mL (mi : MI) : Nat := mi.2.2.1
def mR (mi : MI) : Option FieldType := mi.2.2.2.1
def mC (mi : MI) : List XE := mi.2.2.2.2.1
def mN (mi : MI) : Nat := mi.2.2.2.2.2.1
def mP (mi : MI) : List Nat := mi.2.2.2.2.2.2
def recvOk (K : XK) (k : Nat) (t : List (Int × Nat)) : Bool := match K[k]?, t with
  | some (.inr ci), [(z, _)] => decide (z = (ci : Int))
  | none, [(z, _)] => decide (z = 99 ∧ 1000000 ≤ k ∧ k < 1000008)
  | _, _ => false
/-- a call: which method, what it is given, what stays -/
def cll (e : XE) (st : List Value) (K : XK) : Option (Nat × List Value × List Value) := match e with
  | (_, i, _, a, b, _, _, t) => match i with
    | .invokevirtual _ => match st.drop b with
      | .ref k :: rest => if b < st.length ∧ sWord rest = true ∧ recvOk K k t = true then some (a, .ref k :: (st.take b).reverse, rest) else none
      | _ => none
    | .invokespecial _ => match st.drop b with
      | .ref k :: rest => if b < st.length ∧ sWord rest = true ∧ k < K.length then some (a, .ref k :: (st.take b).reverse, rest) else none
      | _ => none
    | .invokestatic _ => if b ≤ st.length ∧ sWord (st.drop b) = true then some (a, (st.take b).reverse, st.drop b) else none
    | _ => none
/-- n steps at most, d calls deep at most: what the method answers, and the world behind it -/
def exec (X : Nat × (Nat → Int32)) : Nat → Nat → MI → Nat → XL → List Value → XW → Option (Option Value × XW)
  | 0, _, _, _, _, _, _ => none
  | n + 1, d, mi, pc, ls, st, w => match cdx (mC mi) pc with
    | none => none
    | some e => match grp e with
      | 5 => match rtn (mR mi) e st with
        | some r => some (r, w)
        | none => none
      | 6 => match cll e st w.1, d with
        | some (a, args, rest), d' + 1 => match mtab[a]? with
          | some mj => if (entL args).length ≤ mL mj then (match exec X n d' mj 0 (entX (mL mj) args) [] w with
            | some (r, w1) => exec X n (d' + 1) mi (pc + 3) ls (r.toList ++ rest) w1
            | none => none) else none
          | none => none
        | _, _ => none
      | _ => match stp X e pc ls st w with
        | some (pc', ls', st', w') => exec X n d mi pc' ls' st' w'
        | none => none
/-! What is checked of each method once: its bytes decode to its entries, its links are in lw_tbl. -/
def tbk (k : Nat) : List Jvm.Cond := match k with
  | 0 => k2_sels lw_privs
  | 1 => tables_1_1
  | 2 => tables_1_2
  | 3 => tables_1_3
  | 4 => tables_1_4
  | 5 => tables_1_5
  | _ => tables_1_6
def wd (p : Nat) (c : Jvm.Cond) : Bool := decide ((tbk (p / 1000))[p % 1000]? = some c)
theorem wd_in {p : Nat} {c : Jvm.Cond} (h : wd p c = true) : c ∈ lw_tbl := by
  have h1 : (tbk (p / 1000))[p % 1000]? = some c := of_decide_eq_true h
  have h2 : c ∈ tbk (p / 1000) := List.mem_of_getElem? h1
  unfold lw_tbl tables_1
  generalize p / 1000 = k at h2
  simp only [List.mem_append]
  match k, h2 with
  | 0, h2 => exact Or.inl h2
  | 1, h2 => exact Or.inr (Or.inl h2)
  | 2, h2 => exact Or.inr (Or.inr (Or.inl h2))
  | 3, h2 => exact Or.inr (Or.inr (Or.inr (Or.inl h2)))
  | 4, h2 => exact Or.inr (Or.inr (Or.inr (Or.inr (Or.inl h2))))
  | 5, h2 => exact Or.inr (Or.inr (Or.inr (Or.inr (Or.inr (Or.inl h2)))))
  | k + 6, h2 => exact Or.inr (Or.inr (Or.inr (Or.inr (Or.inr (Or.inr h2)))))
def tswOk (pc : Nat) (lo : Int) : List Int → List (Int × Nat) → Bool
  | [], [] => true
  | o :: os, q :: ts => decide (q.1 = lo) && (decide ((pc : Int) + o = (q.2 : Int)) && tswOk pc (lo + 1) os ts)
  | _, _ => false
def lswOk (pc : Nat) : List (Int × Int) → List (Int × Nat) → Bool
  | [], [] => true
  | o :: os, q :: ts => decide (o.1 = q.1) && (decide ((pc : Int) + o.2 = (q.2 : Int)) && lswOk pc os ts)
  | _, _ => false
def clR (ci : Nat) : String := match classes[ci]? with
  | some r => r.1
  | none => ""
def clF (ci j : Nat) : String × String × String × Bool := match classes[ci]? with
  | some r => r.2.1 j
  | none => ("", "", "", false)
def strT (i : Nat) : String := (["balk", "rise", "fall", "will", " ", "cwkvln", "<=>", ")"] : List String).getD i ""
def strK (i : Nat) : Nat := ([62, 64, 65, 66, 43, 98, 104, 96] : List Nat).getD i 0
def sttT (b : Nat) : String × String × String := if b = 0 then ("LeavesObject", "KIND_ABOVE", "[I") else if b = 1 then ("LeavesObject", "BODIES", "[I") else if b = 2 then ("LeavesObject", "ROWS_BEGIN", "[I") else ("jdk/internal/util/Preconditions", "SIOOBE_FORMATTER", "Ljava/util/function/BiFunction;")
def calOk (y : MethodName) (ix : Nat) (e : XE) (mj : MI) : Bool := match e with
  | (_, i, n, _, b, c, p, t) => n == 3 && (b == mN mj && (match i with
    | .invokevirtual _ => (match t with
        | [(z, _)] => (decide (z = 99) && decide ((mY mj).cls = "java/lang/String")) || (decide (0 ≤ z ∧ z.toNat < 11) && decide (clR z.toNat = (mY mj).cls))
        | _ => false) && (decide ((mP mj)[3]? ≠ some 9999) && ((if c = 0 then wd p (.methodLink y.cls ix (mY mj)) else if c = 1 then wd p (.methodLinkNest y.cls ix (mY mj) "LeavesObject") else false)))
    | .invokespecial _ => decide ((mY mj).name = "<init>") && (decide (mR mj = none) && (if c = 2 then wd p (.methodLink y.cls ix (mY mj)) else if c = 3 then wd p (.methodLinkNest y.cls ix (mY mj) "LeavesObject") else false))
    | .invokestatic _ => if c = 4 then (decide ((mY mj).cls = y.cls) && wd p (.methodLink y.cls ix (mY mj))) else if c = 5 then wd p (.methodLink y.cls ix (mY mj)) else if c = 6 then wd p (.methodLinkNest y.cls ix (mY mj) "LeavesObject") else false
    | _ => false))
def lnkOk (y : MethodName) (e : XE) : Bool := match e with
  | (pc, i, n, a, b, c, p, t) => match i with
    | .goto off => n == 3 && decide ((pc : Int) + off = (a : Int))
    | .ifCond _ off => n == 3 && decide ((pc : Int) + off = (a : Int))
    | .if_icmp _ off => n == 3 && decide ((pc : Int) + off = (a : Int))
    | .ifnull off => n == 3 && decide ((pc : Int) + off = (a : Int))
    | .ifnonnull off => n == 3 && decide ((pc : Int) + off = (a : Int))
    | .tableswitch d lo hi offs => decide ((pc : Int) + d = (a : Int)) && (decide (hi = lo + (offs.size : Int) - 1) && tswOk pc lo offs.toList t)
    | .lookupswitch d ps => decide ((pc : Int) + d = (a : Int)) && (((ps.toList.zip (ps.toList.drop 1)).all (fun (a, next) => a.1 < next.1)) && lswOk pc ps.toList t)
    | .iload_n k => n == 1 && (k : Nat) == a
    | .lload_n k => n == 1 && (k : Nat) == a
    | .aload_n k => n == 1 && (k : Nat) == a
    | .istore_n k => n == 1 && (k : Nat) == a
    | .lstore_n k => n == 1 && (k : Nat) == a
    | .astore_n k => n == 1 && (k : Nat) == a
    | .iload k => n == 2 && k == a
    | .aload k => n == 2 && k == a
    | .istore k => n == 2 && k == a
    | .astore k => n == 2 && k == a
    | .iinc k _ => n == 3 && k == a
    | .bipush _ => n == 2
    | .sipush _ => n == 3
    | .ldc_w ix => n == 3 && (match t with
      | [(z, _)] => wd p (.constant y.cls ix (Int32.ofInt z))
      | _ => false)
    | .ldc2_w ix => n == 3 && (match t with
      | [(z, _)] => wd p (.constantLong y.cls ix (Int64.ofInt z))
      | _ => false)
    | .ldc ix => n == 2 && (decide (a < 8) && (decide (y.cls = "LeavesObject$Text") && (decide (strK a = ix) && wd p (.stringRef "LeavesObject$Text" ix (strT a)))))
    | .getfield ix => n == 3 && (if c = 0 then decide (a < 11 ∧ b < clN a) && wd p (.fieldLink y.cls ix (clF a b).1 (clF a b).2.1 (clF a b).2.2.1)
        else if c = 1 then decide (b < 2) && wd p (.fieldLink y.cls ix "java/lang/String" (if b = 0 then "coder" else "value") (if b = 0 then "B" else "[B")) else false)
    | .putfield ix => n == 3 && (decide (a < 11 ∧ b < clN a) && (wd p (.fieldLink y.cls ix (clF a b).1 (clF a b).2.1 (clF a b).2.2.1) &&
        (if c = 0 then decide ((clF a b).2.2.2 = false) else decide ((clF a b).2.2.2 = true ∧ y.name = "<init>" ∧ (clF a b).1 = y.cls))))
    | .getstatic ix => n == 3 && (if c = 0 then decide (b < 3 ∨ b = 20) && (match t with
          | [] => wd p (.fieldLink y.cls ix (sttT b).1 (sttT b).2.1 (sttT b).2.2)
          | _ => decide (b < 3) && wd p (.fieldLinkNest y.cls ix (sttT b).1 (sttT b).2.1 (sttT b).2.2 "LeavesObject"))
        else decide (b = 1) && wd p (.fieldLink y.cls ix "java/lang/String" "COMPACT_STRINGS" "Z"))
    | .new ix => n == 3 && (decide (a < 11) && wd p (.classLink y.cls ix (clR a)))
    | .anewarray ix => n == 3 && (decide (a < 11) && (wd p (.classLink y.cls ix (clR a)) && decide (a = 1 ∨ a = 2 ∨ a = 6)))
    | .newarray _ => n == 2
    | .invokevirtual ix => (match mtab[a]? with
      | some mj => calOk y ix e mj
      | none => false)
    | .invokespecial ix => if c = 99 then true else if c = 21 then n == 3 && wd p (.methodLink y.cls ix Lib.objectInit) else (match mtab[a]? with
      | some mj => calOk y ix e mj
      | none => false)
    | .invokestatic ix => if c = 99 then true else if c = 20 then n == 3 && wd p (.methodLink y.cls ix arraycopyName) else (match mtab[a]? with
      | some mj => calOk y ix e mj
      | none => false)
    | _ => n == 1
def eOk (y : MethodName) (bytes : ByteArray) (e : XE) : Bool := decide (decode bytes e.1 = .ok (e.2.1, e.2.2.1)) && lnkOk y e
/-- of a method itself: its words -/
def mOk (mi : MI) : Bool := match mP mi with
  | [pc, pi, ps, pv] => wd pc (.code (mY mi) (mB mi) (mL mi) (mR mi)) && (wd pi (.initialized (mY mi).cls) && ((if pv = 9999 then wd ps (.static (mY mi)) || ((decide ((mY mi).name = "<init>")) && wd ps (.instanceMethod (mY mi))) else wd ps (.instanceMethod (mY mi)) && wd pv (.selects (mY mi).cls (mY mi) (mY mi))) &&
      (decide (mL mi ≤ 20) && (plainFor (mY mi) && (decide ((mY mi).cls ≠ "java/lang/invoke/MethodHandle" ∧ (mY mi).cls ≠ "java/lang/invoke/VarHandle") && decide ((parseMethodDescriptor (mY mi).desc).map (fun d => d.parameters.length) = some (mN mi)))))))
  | _ => false
