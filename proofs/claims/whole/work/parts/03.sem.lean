/-! the small machine: values, memory by regions, what an instruction asks (weakest preconditions), blocks -/
abbrev Vv : Type := Int ⊕ (Int64 ⊕ (Nat × Int))
abbrev vI (x : Int) : Vv := Sum.inl x
abbrev vG (x : Int64) : Vv := Sum.inr (Sum.inl x)
abbrev vR (r : Nat) (j : Int) : Vv := Sum.inr (Sum.inr (r, j))
/-- memory: ints, longs, references (region, cell, place); lengths of the made rows (and, at -1, of the script); how many rows were made; where they are -/
abbrev Mm : Type := (Nat → Int → Int → Int) × (Nat → Int → Int → Int64) × (Nat → Int → Int → Nat × Int) × (Int → Nat) × Nat × (Int → Nat × Nat)
def Mi (σ : Mm) : Nat → Int → Int → Int := σ.1
def Ml (σ : Mm) : Nat → Int → Int → Int64 := σ.2.1
def Mr (σ : Mm) : Nat → Int → Int → Nat × Int := σ.2.2.1
def Mn (σ : Mm) : Int → Nat := σ.2.2.2.1
def Mc (σ : Mm) : Nat := σ.2.2.2.2.1
def Ma (σ : Mm) : Int → Nat × Nat := σ.2.2.2.2.2
def up3 {α : Type} (f : Nat → Int → Int → α) (r : Nat) (j k : Int) (v : α) : Nat → Int → Int → α := fun a b c => if a = r ∧ b = j ∧ c = k then v else f a b c
def sI (σ : Mm) (r : Nat) (j k : Int) (v : Int) : Mm := (up3 (Mi σ) r j k v, σ.2)
def sL (σ : Mm) (r : Nat) (j k : Int) (v : Int64) : Mm := (σ.1, up3 (Ml σ) r j k v, σ.2.2)
def sR (σ : Mm) (r : Nat) (j k : Int) (v : Nat × Int) : Mm := (σ.1, σ.2.1, up3 (Mr σ) r j k v, σ.2.2.2)
def cpI (σ : Mm) (rs : Nat) (js sp : Int) (rd : Nat) (jd dp n : Int) : Mm := ((fun a b c => if a = rd ∧ b = jd ∧ dp ≤ c ∧ c < dp + n then Mi σ rs js (sp + (c - dp)) else Mi σ a b c), σ.2)
def alen (σ : Mm) (r : Nat) (j : Int) : Int := if r / 8 % 16384 = 16383 then (Mn σ j : Int) else if r / 8 % 16384 = 16382 then (Mn σ (-1) : Int) else ((r / 8 % 16384 : Nat) : Int)
def clsOf (r : Nat) : Nat := if r % 8 = 7 then 6 else r / 8 % 16384
def isCls (ci r : Nat) : Prop := (ci = 6 ∧ r % 8 = 7) ∨ (ci ≠ 6 ∧ r % 8 = 0 ∧ r / 8 % 16384 = ci)
def elemR (r : Nat) : Nat := if r = rg_x_pads then rg_row_pads else if r = rg_log_words then rg_row_words else rg_row_led
def jand (x y : Int) : Int := (Int32.ofInt x &&& Int32.ofInt y).toInt
def jor (x y : Int) : Int := (Int32.ofInt x ||| Int32.ofInt y).toInt
def jxor (x y : Int) : Int := (Int32.ofInt x ^^^ Int32.ofInt y).toInt
def jshl (x y : Int) : Int := (Int32.ofInt x <<< (Int32.ofInt y &&& 31)).toInt
def jshr (x y : Int) : Int := (Int32.ofInt x >>> (Int32.ofInt y &&& 31)).toInt
def jushr (x y : Int) : Int := (((Int32.ofInt x).toUInt32 >>> ((Int32.ofInt y).toUInt32 &&& Int32.toUInt32 31)).toInt32).toInt
def qshl (x : Int64) (y : Int) : Int64 := x <<< ((Int32.ofInt y).toInt64 &&& 63)
def qshr (x : Int64) (y : Int) : Int64 := x >>> ((Int32.ofInt y).toInt64 &&& 63)
def qushr (x : Int64) (y : Int) : Int64 := (x.toUInt64 >>> ((Int32.ofInt y).toInt64.toUInt64 &&& Int64.toUInt64 63)).toInt64
/-- a method's state: locals, operand stack (top first), memory -/
abbrev Sx : Type := List (Option Vv) → List Vv → Mm → Prop
/-- an instruction: its place, its kind, two numbers, a name, targets -/
abbrev In : Type := Nat × Nat × Int × Int × Nat × List Nat
def pI : List Vv → (Int → List Vv → Prop) → Prop
  | .inl x :: st, k => k x st
  | _, _ => False
def pG : List Vv → (Int64 → List Vv → Prop) → Prop
  | .inr (.inl x) :: st, k => k x st
  | _, _ => False
def pR : List Vv → (Nat → Int → List Vv → Prop) → Prop
  | .inr (.inr (r, j)) :: st, k => k r j st
  | _, _ => False
def pN : Nat → List Vv → List Vv → (List Vv → List Vv → Prop) → Prop
  | 0, st, acc, K => K acc st
  | n + 1, v :: st, acc, K => pN n st (v :: acc) K
  | _ + 1, [], _, _ => False
def ldI : List (Option Vv) → Nat → (Int → Prop) → Prop
  | [], _, _ => False
  | a :: _, 0, k => (match a with | some (.inl x) => k x | _ => False)
  | _ :: l, n + 1, k => ldI l n k
def ldG : List (Option Vv) → Nat → (Int64 → Prop) → Prop
  | [], _, _ => False
  | a :: _, 0, k => (match a with | some (.inr (.inl x)) => k x | _ => False)
  | _ :: l, n + 1, k => ldG l n k
def ldR : List (Option Vv) → Nat → (Nat → Int → Prop) → Prop
  | [], _, _ => False
  | a :: _, 0, k => (match a with | some (.inr (.inr (r, j))) => k r j | _ => False)
  | _ :: l, n + 1, k => ldR l n k
def cut2 : Option Vv → Option Vv
  | some (.inr (.inl _)) => none
  | a => a
/-- a value of one slot into place n -/
def set1 : List (Option Vv) → Nat → Vv → List (Option Vv)
  | [], _, _ => []
  | _ :: l, 0, v => some v :: l
  | a :: l, n + 1, v => (if n = 0 then cut2 a else a) :: set1 l n v
/-- a long into places n, n + 1 -/
def set2 : List (Option Vv) → Nat → Vv → List (Option Vv)
  | [], _, _ => []
  | _ :: l, 0, v => some v :: (match l with | [] => [] | _ :: l' => none :: l')
  | a :: l, n + 1, v => (if n = 0 then cut2 a else a) :: set2 l n v
def rvK : List (Option Vv) → List (Option Vv) → (List (Option Vv) → Prop) → Prop
  | [], l, K => K l
  | a :: acc, l, K => rvK acc (a :: l) K
def stK (l : List (Option Vv)) (n : Nat) (v : Vv) (acc : List (Option Vv)) (K : List (Option Vv) → Prop) : Prop := rvK acc (set1 l n v) K
def stK2 (l : List (Option Vv)) (n : Nat) (v : Vv) (acc : List (Option Vv)) (K : List (Option Vv) → Prop) : Prop := rvK acc (set2 l n v) K
def csum : List Vv → Nat
  | [] => 0
  | .inr (.inl _) :: l => 2 + csum l
  | _ :: l => 1 + csum l
/-- comparing: what holds when the branch is taken, and when not -/
def cmT (c : Nat) (x y : Int) : Prop := match c with
  | 0 => x = y
  | 1 => x ≠ y
  | 2 => x < y
  | 3 => y ≤ x
  | 4 => y < x
  | _ => x ≤ y
def cmF (c : Nat) (x y : Int) : Prop := match c with
  | 0 => x ≠ y
  | 1 => x = y
  | 2 => y ≤ x
  | 3 => x < y
  | 4 => x ≤ y
  | _ => y < x
def IR (x : Int) : Prop := -2147483648 ≤ x ∧ x ≤ 2147483647
def tsK (x lo : Int) : List Nat → (Nat → Prop) → Prop
  | [], _ => True
  | t :: l, P => (x = lo → P t) ∧ tsK x (lo + 1) l P
/-- static reference fields: where they lead -/
def sref (r : Nat) (j : Int) (cd ar : Nat) : Nat × Int := if cd = 2 then (ar, 0) else if cd = 3 then (ar, j) else if cd = 6 then (ar, 1) else (r - 6, j)
