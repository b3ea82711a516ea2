/-! The pure machine: states as functions, straight stretches as a program that runs by rfl. -/
/-- ints and longs, by the place of the cell and the slot (or the index) in it -/
abbrev zx_D : Type := (Nat → Nat → Int32) × (Nat → Nat → Int64)
/-- a state: the references that change (each a place), and the numbers -/
abbrev zx_S : Type := List Nat × zx_D
def zg_i (D : zx_D) (p k : Nat) : Int32 := D.1 p k
def zg_l (D : zx_D) (p k : Nat) : Int64 := D.2 p k
def zp_i (D : zx_D) (p k : Nat) (x : Int32) : zx_D := (va_up D.1 p (va_up (D.1 p) k x), D.2)
def zp_l (D : zx_D) (p k : Nat) (x : Int64) : zx_D := (D.1, va_up D.2 p (va_up (D.2 p) k x))
/-- a whole int array at once -/
def zp_a (D : zx_D) (p : Nat) (f : Nat → Int32) : zx_D := (va_up D.1 p f, D.2)
def zn (i : Int32) : Nat := i.toNatClampNeg
-- the operations by name
def zo_shl (x y : Int32) : Int32 := x <<< (y &&& 31)
def zo_shr (x y : Int32) : Int32 := x >>> (y &&& 31)
def zo_ushr (x y : Int32) : Int32 := (x.toUInt32 >>> (y.toUInt32 &&& Int32.toUInt32 31)).toInt32
def zo_lshl (x : Int64) (y : Int32) : Int64 := x <<< (y.toInt64 &&& 63)
def zo_lshr (x : Int64) (y : Int32) : Int64 := x >>> (y.toInt64 &&& 63)
def zo_lushr (x : Int64) (y : Int32) : Int64 := (x.toUInt64 >>> (y.toInt64.toUInt64 &&& Int64.toUInt64 63)).toInt64
def zo_rem (x y : Int32) : Int32 := x - x / y * y
/-- a place: an object (its class's number, the kinds of its slots: 0 int, 1 long, 3 boolean, 50 and on: a reference that changes, by its number; 100 and on: a reference that stays, to that place) or an array (its length; of longs or of ints) -/
abbrev zx_C : Type := (Nat × List Nat) ⊕ (Nat × Bool)
/-- an instruction: what it does, two numbers, a value, pairs of a class's number and a slot (or a method's number) -/
abbrev zx_I : Type := Nat × Nat × Nat × Value × List (Nat × Nat)
abbrev zx_K : Type := List (Nat × List (Nat × Nat × zx_I))
/-- where the machine is: the place in the code, the locals, the stack, the state -/
abbrev zx_X : Type := Nat × List (Option Value) × List Value × zx_S
def zx_at1 : List (Nat × Nat × zx_I) → Nat → Option (Nat × zx_I)
  | [], _ => none
  | e :: r, pc => if e.1 = pc then some e.2 else zx_at1 r pc
def zx_at : zx_K → Nat → Option (Nat × zx_I)
  | [], _ => none
  | g :: r, pc => if pc < g.1 then zx_at1 g.2 pc else zx_at r pc
/-- storing to a local -/
def zx_kill (L : List (Option Value)) : Nat → List (Option Value)
  | 0 => L
  | a + 1 => match L[a]? with
    | some (some (.long _)) => L.set a none
    | some (some (.double _)) => L.set a none
    | _ => L
def zx_sto (L : List (Option Value)) (a : Nat) (w : Value) : Option (List (Option Value)) :=
  match w with
  | .int x => if a < L.length then some ((zx_kill L a).set a (some (.int x))) else none
  | .ref x => if a < L.length then some ((zx_kill L a).set a (some (.ref x))) else none
  | .long x => if a + 1 < L.length then some (((zx_kill L a).set a (some (.long x))).set (a + 1) none) else none
  | _ => none
def zx_find : List (Nat × Nat) → Nat → Option Nat
  | [], _ => none
  | e :: r, c => if e.1 = c then some e.2 else zx_find r c
/-- reading a field, and writing it -/
def zx_gf (lay : List zx_C) (S : zx_S) (as : List (Nat × Nat)) (p : Nat) : Option Value :=
  match lay[p]? with
  | some (.inl (ci, ks)) => match zx_find as ci with
    | some k => match ks[k]? with
      | some 0 => some (.int (zg_i S.2 p k))
      | some 1 => some (.long (zg_l S.2 p k))
      | some 3 => some (.int (zg_i S.2 p k))
      | some kd => if 100 ≤ kd then some (.ref (kd - 100)) else if 50 ≤ kd then (match S.1[kd - 50]? with
        | some q => some (.ref q)
        | none => none) else none
      | none => none
    | none => none
  | _ => none
def zx_pf (lay : List zx_C) (S : zx_S) (as : List (Nat × Nat)) (p : Nat) (w : Value) : Option (Option Prop × zx_S) :=
  match lay[p]? with
  | some (.inl (ci, ks)) => match zx_find as ci with
    | some k => match ks[k]?, w with
      | some 0, .int x => some (none, S.1, zp_i S.2 p k x)
      | some 1, .long x => some (none, S.1, zp_l S.2 p k x)
      | some 3, .int x => some (some (x = 0 ∨ x = 1), S.1, zp_i S.2 p k x)
      | some kd, .ref q => if 50 ≤ kd ∧ kd < 100 ∧ kd - 50 < S.1.length then some (none, S.1.set (kd - 50) q, S.2) else none
      | _, _ => none
    | none => none
  | _ => none
/-- reading an array (beyond the places: the class's own table), and writing it -/
def zx_ald (lay : List zx_C) (ro : Nat × (Nat → Int32)) (S : zx_S) (b p : Nat) (i : Int32) : Option (Prop × Value) :=
  match b, lay[p]? with
  | 0, some (.inr (n, false)) => some (vp_in i n, .int (zg_i S.2 p (zn i)))
  | 1, some (.inr (n, true)) => some (vp_in i n, .long (zg_l S.2 p (zn i)))
  | 0, none => if p = lay.length then some (vp_in i ro.1, .int (ro.2 (zn i))) else none
  | _, _ => none
def zx_ast (lay : List zx_C) (S : zx_S) (b p : Nat) (i : Int32) (w : Value) : Option (Prop × zx_S) :=
  match b, lay[p]?, w with
  | 0, some (.inr (n, false)), .int x => some (vp_in i n, S.1, zp_i S.2 p (zn i) x)
  | 1, some (.inr (n, true)), .long x => some (vp_in i n, S.1, zp_l S.2 p (zn i) x)
  | _, _, _ => none
def zx_aln (lay : List zx_C) (ro : Nat × (Nat → Int32)) (p : Nat) : Option Int32 :=
  match lay[p]? with
  | some (.inr (n, _)) => some (Int32.ofNat n)
  | some _ => none
  | none => if p = lay.length then some (Int32.ofNat ro.1) else none
/-- two values, one comes back -/
def zx_bin (b : Nat) (x y : Value) : Option Value :=
  match b, x, y with
  | 0, .int x, .int y => some (.int (x + y))
  | 1, .int x, .int y => some (.int (x - y))
  | 2, .int x, .int y => some (.int (x * y))
  | 3, .int x, .int y => if y = 0 then none else some (.int (x / y))
  | 4, .int x, .int y => if y = 0 then none else some (.int (zo_rem x y))
  | 5, .int x, .int y => some (.int (x &&& y))
  | 6, .int x, .int y => some (.int (x ||| y))
  | 7, .int x, .int y => some (.int (zo_shl x y))
  | 8, .int x, .int y => some (.int (zo_shr x y))
  | 9, .int x, .int y => some (.int (zo_ushr x y))
  | 10, .long x, .long y => some (.long (x + y))
  | 11, .long x, .long y => some (.long (x - y))
  | 12, .long x, .long y => some (.long (x * y))
  | 13, .long x, .long y => if y = 0 then none else some (.long (x / y))
  | 14, .long x, .long y => some (.long (x &&& y))
  | 15, .long x, .long y => some (.long (x ||| y))
  | 16, .long x, .long y => some (.long (x ^^^ y))
  | 17, .long x, .int y => some (.long (zo_lshl x y))
  | 18, .long x, .int y => some (.long (zo_lshr x y))
  | 19, .long x, .int y => some (.long (zo_lushr x y))
  | _, _, _ => none
def zx_ld (b : Nat) (w : Option (Option Value)) : Option Value :=
  match b, w with
  | 0, some (some (.int x)) => some (.int x)
  | 1, some (some (.long x)) => some (.long x)
  | 2, some (some (.ref x)) => some (.ref x)
  | _, _ => none
/-- the words on a stack -/
def zx_wd : List Value → Nat
  | [] => 0
  | .long _ :: r => zx_wd r + 2
  | .double _ :: r => zx_wd r + 2
  | _ :: r => zx_wd r + 1
/-- one step on a straight stretch: what must hold, and where it leads -/
def zx_stp (lay : List zx_C) (ro : Nat × (Nat → Int32)) (n : Nat) (e : zx_I) (X : zx_X) : Option (Option Prop × zx_X) :=
  match e, X with
  | (op, a, b, v, as), (pc, L, st, S) => match op with
    | 0 => some (none, (pc + n, L, v :: st, S))
    | 1 => match zx_ld b L[a]? with
      | some w => some (none, (pc + n, L, w :: st, S))
      | _ => none
    | 2 => match st with
      | w :: st => match zx_ld b (some (some w)) with
        | some w => match zx_sto L a w with
          | some L' => some (none, (pc + n, L', st, S))
          | none => none
        | none => none
      | _ => none
    | 3 => match L[a]?, v with
      | some (some (.int x)), .int d => match zx_sto L a (.int (x + d)) with
        | some L' => some (none, (pc + n, L', st, S))
        | none => none
      | _, _ => none
    | 4 => match st with
      | y :: x :: st => match zx_bin b x y with
        | some w => some (none, (pc + n, L, w :: st, S))
        | none => none
      | _ => none
    | 5 => match b, st with
      | 0, .int x :: st => some (none, (pc + n, L, .long x.toInt64 :: st, S))
      | 1, .long x :: st => some (none, (pc + n, L, .int x.toInt32 :: st, S))
      | _, _ => none
    | 6 => some (none, (a, L, st, S))
    | 7 => match st with
      | .ref p :: st => match zx_gf lay S as p with
        | some w => some (none, (pc + n, L, w :: st, S))
        | none => none
      | _ => none
    | 8 => match st with
      | w :: .ref p :: st => match zx_pf lay S as p w with
        | some (c, S') => some (c, (pc + n, L, st, S'))
        | none => none
      | _ => none
    | 9 => match st with
      | .int i :: .ref p :: st => match zx_ald lay ro S b p i with
        | some (c, w) => some (some c, (pc + n, L, w :: st, S))
        | none => none
      | _ => none
    | 10 => match st with
      | w :: .int i :: .ref p :: st => match zx_ast lay S b p i w with
        | some (c, S') => some (some c, (pc + n, L, st, S'))
        | none => none
      | _ => none
    | 11 => match st with
      | .ref p :: st => match zx_aln lay ro p with
        | some x => some (none, (pc + n, L, .int x :: st, S))
        | none => none
      | _ => none
    | 12 => match st with
      | .int x :: st => some (none, (pc + n, L, .int x :: .int x :: st, S))
      | .ref x :: st => some (none, (pc + n, L, .ref x :: .ref x :: st, S))
      | _ => none
    | 13 => match st with
      | .int x :: .ref y :: st => some (none, (pc + n, L, .int x :: .ref y :: .int x :: .ref y :: st, S))
      | _ => none
    | 14 => some (none, (pc + n, L, .ref lay.length :: st, S))
    | 15 => match b, st with
      | 0, .int y :: .int x :: st => if zx_wd st ≤ 8 then some (none, (pc + n, L, .int (if y < x then y else x) :: st, S)) else none
      | 1, .int y :: .int x :: st => if zx_wd st ≤ 8 then some (none, (pc + n, L, .int (if x < y then y else x) :: st, S)) else none
      | _, _ => none
    | 16 => match st with
      | .int k :: .int dp :: .ref q :: .int sp :: .ref p :: st => match lay[p]?, lay[q]? with
        | some (.inr (n0, false)), some (.inr (n1, false)) => if zx_wd st ≤ 8 then some (some (¬ sp < 0 ∧ ¬ dp < 0 ∧ ¬ k < 0 ∧ zn sp + zn k ≤ n0 ∧ zn dp + zn k ≤ n1), (pc + n, L, st, S.1, zp_a S.2 q (va_cpy (S.2.1 p) (S.2.1 q) (zn sp) (zn dp) (zn k)))) else none
        | _, _ => none
      | _ => none
    | _ => none
/-- a straight stretch of k steps: what must hold, and where it leads -/
def zx_run (lay : List zx_C) (ro : Nat × (Nat → Int32)) (K : zx_K) : Nat → Prop → zx_X → Option (Prop × zx_X)
  | 0, P, X => some (P, X)
  | k + 1, P, X => match zx_at K X.1 with
    | some (n, e) => match zx_stp lay ro n e X with
      | some (none, X') => zx_run lay ro K k P X'
      | some (some c, X') => zx_run lay ro K k (P ∧ c) X'
      | none => none
    | none => none
/-- a fork: the condition, where it leads if it holds, and if not -/
def zx_ci (b : Nat) (x y : Int32) : Prop := match b with
  | 0 => x = y
  | 1 => ¬ x = y
  | 2 => x < y
  | 3 => y ≤ x
  | 4 => y < x
  | _ => x ≤ y
def zx_cl' (b : Nat) (x y : Int64) : Prop := match b with
  | 0 => x = y
  | 1 => ¬ x = y
  | 2 => x < y
  | 3 => y ≤ x
  | 4 => y < x
  | _ => x ≤ y
def zx_brn (n : Nat) (e : zx_I) (X : zx_X) : Option (Prop × zx_X × zx_X) :=
  match e, X with
  | (op, a, b, _, _), (pc, L, st, S) => match op, st with
    | 20, .int y :: .int x :: st => some (zx_ci b x y, (a, L, st, S), (pc + n, L, st, S))
    | 21, .int x :: st => some (zx_ci b x 0, (a, L, st, S), (pc + n, L, st, S))
    | 22, .long y :: .long x :: st => some (zx_cl' b x y, (a, L, st, S), (pc + n, L, st, S))
    | _, _ => none
/-- a call: the method's number, what it is given, and where it comes back (its answer is laid on the stack there) -/
def zx_cal (lay : List zx_C) (n : Nat) (e : zx_I) (X : zx_X) : Option (Nat × List Value × zx_X) :=
  match e, X with
  | (op, _, b, _, as), (pc, L, st, S) => match op with
    | 30 => match st.drop b with
      | .ref p :: rest => match lay[p]? with
        | some (.inl (ci, _)) => match zx_find as ci with
          | some k => if zx_wd rest ≤ 8 then some (k, .ref p :: (st.take b).reverse, (pc + n, L, rest, S)) else none
          | none => none
        | _ => none
      | _ => none
    | 31 => match as with
      | [(_, k)] => if zx_wd (st.drop b) ≤ 8 ∧ b ≤ st.length then some (k, (st.take b).reverse, (pc + n, L, st.drop b, S)) else none
      | _ => none
    | _ => none
/-- the end: what must hold, and the answer -/
def zx_rtn (e : zx_I) (X : zx_X) : Option (Prop × Option Value) :=
  match e, X with
  | (op, _, b, _, _), (_, _, st, _) => match op, b, st with
    | 40, 0, [] => some (True, none)
    | 40, 1, [.int x] => some (True, some (.int x))
    | 40, 2, [.long x] => some (True, some (.long x))
    | 40, 3, [.ref x] => some (True, some (.ref x))
    | 40, 4, [.int x] => some (x = 0 ∨ x = 1, some (.int x))
    | _, _, _ => none
