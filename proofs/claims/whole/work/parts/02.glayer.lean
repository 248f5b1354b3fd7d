/-- the tables' words that a call keeps -/
def gtb : List Cond := lw_tbl.filter goodWord
/-! THE G LAYER: the machine's state as plain data (numbers are Int, references are numbers of cells, arrays are functions of Int),
and a function 'gstep' that does the straight instructions on it; 'G' says that from such a state the machine comes to its goal. -/
abbrev gV : Type := Int ⊕ (Int ⊕ Option Nat)
abbrev gi (z : Int) : gV := Sum.inl z
abbrev gl (z : Int) : gV := Sum.inr (Sum.inl z)
abbrev gr (k : Nat) : gV := Sum.inr (Sum.inr (some k))
abbrev gn : gV := Sum.inr (Sum.inr none)
/-- what a value is in the machine; ad: where each cell lies -/
def gv (ad : Nat → Nat) (v : gV) : Value := match v with
  | .inl z => .int (Int32.ofInt z)
  | .inr (.inl z) => .long (Int64.ofInt z)
  | .inr (.inr none) => .null
  | .inr (.inr (some k)) => .ref (ad k)
/-- a cell: an object (its class's place, its fields), or an array (its kind's place, its length, what it holds: ints, references, longs) -/
abbrev gE : Type := (Nat × List gV) ⊕ (Nat × Nat × ((Int → Int) ⊕ ((Int → Option Nat) ⊕ (Int → Int))))
abbrev gob (ci : Nat) (fs : List gV) : gE := Sum.inl (ci, fs)
abbrev gai (t n : Nat) (f : Int → Int) : gE := Sum.inr (t, n, Sum.inl f)
abbrev gar (t n : Nat) (f : Int → Option Nat) : gE := Sum.inr (t, n, Sum.inr (Sum.inl f))
abbrev gal (t n : Nat) (f : Int → Int) : gE := Sum.inr (t, n, Sum.inr (Sum.inr f))
def ge (cA : Nat → ClassId) (ad : Nat → Nat) (x : gE) : va_E := match x with
  | .inl (ci, fs) => .inr (ci, fs.map (gv ad))
  | .inr (t, n, .inl f) => .inl (cA t, n, .inl (fun j => Int32.ofInt (f (j : Int))))
  | .inr (t, n, .inr (.inl f)) => .inl (cA t, n, .inr (.inr (.inr (.inr (fun j => (f (j : Int)).map ad)))))
  | .inr (t, n, .inr (.inr f)) => .inl (cA t, n, .inr (.inl (fun j => Int64.ofInt (f (j : Int)))))
abbrev gW : Type := List (Nat × gE)
def gw (cA : Nat → ClassId) (ad : Nat → Nat) (w : gW) : va_W := w.map (fun q => (ad q.1, ge cA ad q.2))
/-- lookups that compute -/
def glook (i : Nat) : List (Nat × gV) → Option gV
  | [] => none
  | q :: t => match Nat.beq q.1 i with
    | true => some q.2
    | false => glook i t
def gdel (i : Nat) : List (Nat × gV) → List (Nat × gV)
  | [] => []
  | q :: t => match Nat.beq q.1 i with
    | true => gdel i t
    | false => q :: gdel i t
def gset (i : Nat) (v : gV) : List (Nat × gV) → List (Nat × gV)
  | [] => [(i, v)]
  | q :: t => match Nat.beq q.1 i with
    | true => (i, v) :: gdel i t
    | false => q :: gset i v t
def gwl (k : Nat) : gW → Option gE
  | [] => none
  | q :: t => match Nat.beq q.1 k with
    | true => some q.2
    | false => gwl k t
def gws (k : Nat) (e : gE) : gW → gW
  | [] => []
  | q :: t => match Nat.beq q.1 k with
    | true => (k, e) :: t
    | false => q :: gws k e t
abbrev gFt : Type := Nat × Nat × Nat × Nat
def gft (idx : Nat) : List gFt → Option (Nat × Nat × Nat)
  | [] => none
  | q :: t => match Nat.beq q.1 idx with
    | true => some q.2
    | false => gft idx t
def gnl : List (Nat × gV) → Bool
  | [] => true
  | q :: t => match q.2 with
    | .inr (.inl _) => false
    | _ => gnl t
def gu (f : Int → Int) (k v : Int) : Int → Int := fun j => if j = k then v else f j
theorem gu_s (f : Int → Int) (k v : Int) : gu f k v k = v := if_pos rfl
theorem gu_n (f : Int → Int) {k j : Int} (v : Int) (h : j ≠ k) : gu f k v j = f j := if_neg h
/-- a number that an int holds -/
abbrev inR (z : Int) : Prop := -2147483648 ≤ z ∧ z ≤ 2147483647
abbrev gS : Type := gW × Nat × List (Nat × gV) × List gV
def gstep (ft : List gFt) (i : Instr) (n : Nat) (S : gS) : Option (gS × Option Prop) :=
  match S with
  | (w, pc, lv, st) =>
  match i with
  | .iload_n k => match glook k.val lv with
    | some (.inl z) => some ((w, pc + n, lv, .inl z :: st), none)
    | _ => none
  | .iload k => match glook k lv with
    | some (.inl z) => some ((w, pc + n, lv, .inl z :: st), none)
    | _ => none
  | .aload_n k => match glook k.val lv with
    | some (.inr (.inr (some r))) => some ((w, pc + n, lv, .inr (.inr (some r)) :: st), none)
    | _ => none
  | .aload k => match glook k lv with
    | some (.inr (.inr (some r))) => some ((w, pc + n, lv, .inr (.inr (some r)) :: st), none)
    | _ => none
  | .istore_n k => match gnl lv, st with
    | true, .inl z :: st => some ((w, pc + n, gset k.val (.inl z) lv, st), none)
    | _, _ => none
  | .istore k => match gnl lv, st with
    | true, .inl z :: st => some ((w, pc + n, gset k (.inl z) lv, st), none)
    | _, _ => none
  | .astore_n k => match gnl lv, st with
    | true, .inr (.inr (some r)) :: st => some ((w, pc + n, gset k.val (.inr (.inr (some r))) lv, st), none)
    | _, _ => none
  | .astore k => match gnl lv, st with
    | true, .inr (.inr (some r)) :: st => some ((w, pc + n, gset k (.inr (.inr (some r))) lv, st), none)
    | _, _ => none
  | .iinc k c => match gnl lv, glook k lv with
    | true, some (.inl z) => some ((w, pc + n, gset k (.inl (z + c)) lv, st), none)
    | _, _ => none
  | .iconst z => some ((w, pc + n, lv, .inl z :: st), none)
  | .bipush z => some ((w, pc + n, lv, .inl z :: st), none)
  | .sipush z => some ((w, pc + n, lv, .inl z :: st), none)
  | .iadd => match st with
    | .inl y :: .inl x :: st => some ((w, pc + n, lv, .inl (x + y) :: st), none)
    | _ => none
  | .isub => match st with
    | .inl y :: .inl x :: st => some ((w, pc + n, lv, .inl (x - y) :: st), none)
    | _ => none
  | .imul => match st with
    | .inl y :: .inl x :: st => some ((w, pc + n, lv, .inl (x * y) :: st), none)
    | _ => none
  | .ineg => match st with
    | .inl x :: st => some ((w, pc + n, lv, .inl (-x) :: st), none)
    | _ => none
  | .iand => match st with
    | .inl y :: .inl x :: st => some ((w, pc + n, lv, .inl (Int32.ofInt x &&& Int32.ofInt y).toInt :: st), none)
    | _ => none
  | .idiv => match st with
    | .inl y :: .inl x :: st => some ((w, pc + n, lv, .inl (x / y) :: st), some (0 ≤ x ∧ x < 2147483648 ∧ 0 < y ∧ y < 2147483648))
    | _ => none
  | .irem => match st with
    | .inl y :: .inl x :: st => some ((w, pc + n, lv, .inl (x % y) :: st), some (0 ≤ x ∧ x < 2147483648 ∧ 0 < y ∧ y < 2147483648))
    | _ => none
  | .dup => match st with
    | .inl x :: st => some ((w, pc + n, lv, .inl x :: .inl x :: st), none)
    | .inr (.inr r) :: st => some ((w, pc + n, lv, .inr (.inr r) :: .inr (.inr r) :: st), none)
    | _ => none
  | .pop => match st with
    | .inl _ :: st => some ((w, pc + n, lv, st), none)
    | .inr (.inr _) :: st => some ((w, pc + n, lv, st), none)
    | _ => none
  | .dup2 => match st with
    | .inl x :: .inr (.inr r) :: st => some ((w, pc + n, lv, .inl x :: .inr (.inr r) :: .inl x :: .inr (.inr r) :: st), none)
    | _ => none
  | .dup_x1 => match st with
    | .inl x :: .inr (.inr r) :: st => some ((w, pc + n, lv, .inl x :: .inr (.inr r) :: .inl x :: st), none)
    | _ => none
  | .goto off => some ((w, ((pc : Int) + off).toNat, lv, st), none)
  | .getfield idx => match st with
    | .inr (.inr (some o)) :: st => match gft idx ft, gwl o w with
      | some (ci, k, _), some (.inl (cj, fs)) => match Nat.beq ci cj, fs[k]? with
        | true, some v => some ((w, pc + n, lv, v :: st), none)
        | _, _ => none
      | _, _ => none
    | _ => none
  | .putfield idx => match st with
    | .inl z :: .inr (.inr (some o)) :: st => match gft idx ft, gwl o w with
      | some (ci, k, 0), some (.inl (cj, fs)) => match Nat.beq ci cj, fs[k]? with
        | true, some _ => some ((gws o (.inl (cj, fs.set k (.inl z))) w, pc + n, lv, st), none)
        | _, _ => none
      | some (ci, k, 1), some (.inl (cj, fs)) => match Nat.beq ci cj, fs[k]? with
        | true, some _ => some ((gws o (.inl (cj, fs.set k (.inl z))) w, pc + n, lv, st), some (z = 0 ∨ z = 1))
        | _, _ => none
      | _, _ => none
    | _ => none
  | .iaload => match st with
    | .inl z :: .inr (.inr (some o)) :: st => match gwl o w with
      | some (.inr (0, len, .inl f)) => some ((w, pc + n, lv, .inl (f z) :: st), some (0 ≤ z ∧ z < (len : Int) ∧ (len : Int) ≤ 2147483647))
      | _ => none
    | _ => none
  | .baload => match st with
    | .inl z :: .inr (.inr (some o)) :: st => match gwl o w with
      | some (.inr (1, len, .inl f)) => some ((w, pc + n, lv, .inl (f z) :: st), some (0 ≤ z ∧ z < (len : Int) ∧ (len : Int) ≤ 2147483647))
      | _ => none
    | _ => none
  | .iastore => match st with
    | .inl v :: .inl z :: .inr (.inr (some o)) :: st => match gwl o w with
      | some (.inr (0, len, .inl f)) => some ((gws o (.inr (0, len, .inl (gu f z v))) w, pc + n, lv, st), some (0 ≤ z ∧ z < (len : Int) ∧ (len : Int) ≤ 2147483647))
      | _ => none
    | _ => none
  | .bastore => match st with
    | .inl v :: .inl z :: .inr (.inr (some o)) :: st => match gwl o w with
      | some (.inr (1, len, .inl f)) => some ((gws o (.inr (1, len, .inl (gu f z v))) w, pc + n, lv, st), some ((0 ≤ z ∧ z < (len : Int) ∧ (len : Int) ≤ 2147483647) ∧ (v = 0 ∨ v = 1)))
      | _ => none
    | _ => none
  | .arraylength => match st with
    | .inr (.inr (some o)) :: st => match gwl o w with
      | some (.inr (0, len, .inl _)) => some ((w, pc + n, lv, .inl (len : Int) :: st), none)
      | some (.inr (1, len, .inl _)) => some ((w, pc + n, lv, .inl (len : Int) :: st), none)
      | _ => none
    | _ => none
  | _ => none
/-- a word of the table says more than its bytes: its operand is in range, its jump isn't below 0 -/
def gwell (nL : Nat) (pc : Nat) (i : Instr) (n : Nat) : Bool := match i with
  | .iload_n _ => Nat.beq n 1
  | .iload _ => Nat.beq n 2
  | .aload_n _ => Nat.beq n 1
  | .aload _ => Nat.beq n 2
  | .istore_n k => Nat.beq n 1 && Nat.blt k.val nL
  | .istore k => Nat.beq n 2 && Nat.blt k nL
  | .astore_n k => Nat.beq n 1 && Nat.blt k.val nL
  | .astore k => Nat.beq n 2 && Nat.blt k nL
  | .iinc k _ => Nat.beq n 3 && Nat.blt k nL
  | .iconst _ => Nat.beq n 1
  | .bipush z => Nat.beq n 2 && decide ((Int8.ofInt z).toInt32 = Int32.ofInt z)
  | .sipush z => Nat.beq n 3 && decide ((Int16.ofInt z).toInt32 = Int32.ofInt z)
  | .goto off => Nat.beq n 3 && decide (0 ≤ (pc : Int) + off)
  | .getfield _ => Nat.beq n 3
  | .putfield _ => Nat.beq n 3
  | .if_icmp _ off => Nat.beq n 3 && decide (0 ≤ (pc : Int) + off)
  | .ifCond _ off => Nat.beq n 3 && decide (0 ≤ (pc : Int) + off)
  | .invokevirtual _ => Nat.beq n 3
  | .invokestatic _ => Nat.beq n 3
  | .invokespecial _ => Nat.beq n 3
  | .new _ => Nat.beq n 3
  | .newarray _ => Nat.beq n 2
  | .tableswitch .. => true
  | .ldc _ => true
  | .anewarray _ => true
  | .multianewarray .. => true
  | _ => Nat.beq n 1
