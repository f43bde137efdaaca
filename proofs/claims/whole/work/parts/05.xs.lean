/-! what an instruction asks, by its kind; a block; blocks that lead to blocks -/
def ctI (f : Sx) (ls : List (Option Vv)) (st : List Vv) : Int → Mm → Prop := fun x σ => f ls (vI x :: st) σ
def ctL (f : Sx) (ls : List (Option Vv)) (st : List Vv) : Int64 → Mm → Prop := fun x σ => f ls (vG x :: st) σ
def ctR (f : Sx) (ls : List (Option Vv)) (st : List Vv) : Nat → Int → Mm → Prop := fun r j σ => f ls (vR r j :: st) σ
def ctV (f : Sx) (ls : List (Option Vv)) (st : List Vv) : Mm → Prop := fun σ => f ls st σ
def hdCls (ci : Nat) (as : List Vv) : Prop := match as with
  | .inr (.inr (r, _)) :: _ => isCls ci r
  | _ => False
def st1 (J : Nat → Sx) (Q : Option Vv → Mm → Prop) (i : In) (k : Sx) : Sx := fun ls st σ =>
  let a := i.2.2.1
  let b := i.2.2.2.1
  let c := i.2.2.2.2.1
  let h := i.2.2.2.2.2.headD 0
  match i.2.1 with
  | 1 => k ls (vI a :: st) σ
  | 2 => k ls (vG (Int64.ofInt a) :: st) σ
  | 4 => ldI ls c fun x => k ls (vI x :: st) σ
  | 5 => ldG ls c fun x => k ls (vG x :: st) σ
  | 6 => ldR ls c fun r j => k ls (vR r j :: st) σ
  | 7 => pI st fun x st => stK ls c (vI x) [] fun ls => k ls st σ
  | 8 => pG st fun x st => stK2 ls c (vG x) [] fun ls => k ls st σ
  | 9 => pR st fun r j st => stK ls c (vR r j) [] fun ls => k ls st σ
  | 10 => ldI ls c fun x => stK ls c (vI (x + a)) [] fun ls => k ls st σ
  | 11 => pI st fun y st => pI st fun x st => k ls (vI (x + y) :: st) σ
  | 12 => pI st fun y st => pI st fun x st => k ls (vI (x - y) :: st) σ
  | 13 => pI st fun y st => pI st fun x st => k ls (vI (x * y) :: st) σ
  | 14 => pI st fun y st => pI st fun x st => (0 ≤ x ∧ x ≤ 2147483647 ∧ 0 < y ∧ y ≤ 2147483647) ∧ k ls (vI (x / y) :: st) σ
  | 15 => pI st fun y st => pI st fun x st => (0 ≤ x ∧ x ≤ 2147483647 ∧ 0 < y ∧ y ≤ 2147483647) ∧ k ls (vI (x % y) :: st) σ
  | 17 => pI st fun y st => pI st fun x st => k ls (vI (jand x y) :: st) σ
  | 18 => pI st fun y st => pI st fun x st => k ls (vI (jor x y) :: st) σ
  | 19 => pI st fun y st => pI st fun x st => k ls (vI (jxor x y) :: st) σ
  | 20 => pI st fun y st => pI st fun x st => k ls (vI (jshl x y) :: st) σ
  | 21 => pI st fun y st => pI st fun x st => k ls (vI (jshr x y) :: st) σ
  | 22 => pI st fun y st => pI st fun x st => k ls (vI (jushr x y) :: st) σ
  | 23 => pG st fun y st => pG st fun x st => k ls (vG (x + y) :: st) σ
  | 24 => pG st fun y st => pG st fun x st => k ls (vG (x - y) :: st) σ
  | 25 => pG st fun y st => pG st fun x st => k ls (vG (x * y) :: st) σ
  | 26 => pG st fun y st => pG st fun x st => k ls (vG (x &&& y) :: st) σ
  | 27 => pG st fun y st => pG st fun x st => k ls (vG (x ||| y) :: st) σ
  | 28 => pG st fun y st => pG st fun x st => k ls (vG (x ^^^ y) :: st) σ
  | 29 => pI st fun y st => pG st fun x st => k ls (vG (qshl x y) :: st) σ
  | 30 => pI st fun y st => pG st fun x st => k ls (vG (qshr x y) :: st) σ
  | 31 => pI st fun y st => pG st fun x st => k ls (vG (qushr x y) :: st) σ
  | 32 => pI st fun x st => IR x ∧ k ls (vG (Int64.ofInt x) :: st) σ
  | 33 => pG st fun x st => k ls (vI x.toInt32.toInt :: st) σ
  | 34 => pG st fun y st => pG st fun x st => (x < y → k ls (vI (-1) :: st) σ) ∧ (x = y → k ls (vI 0 :: st) σ) ∧ (y < x → k ls (vI 1 :: st) σ)
  | 35 => (match st with
    | .inl x :: st => k ls (vI x :: vI x :: st) σ
    | .inr (.inr (r, j)) :: st => k ls (vR r j :: vR r j :: st) σ
    | _ => False)
  | 36 => (match st with
    | .inl x :: .inr (.inr (r, j)) :: st => k ls (vI x :: vR r j :: vI x :: vR r j :: st) σ
    | _ => False)
  | 37 => pR st fun r j st => isCls c r ∧ k ls (vI (Mi σ r j a) :: st) σ
  | 38 => pR st fun r j st => isCls c r ∧ k ls (vG (Ml σ r j a) :: st) σ
  | 39 => pR st fun r j st => isCls c r ∧ k ls (vR (sref r j 2 h).1 (sref r j 2 h).2 :: st) σ
  | 40 => pR st fun r j st => isCls c r ∧ k ls (vR (sref r j 3 h).1 (sref r j 3 h).2 :: st) σ
  | 41 => pR st fun r j st => isCls c r ∧ k ls (vR (sref r j 4 h).1 (sref r j 4 h).2 :: st) σ
  | 72 => pR st fun r j st => isCls c r ∧ k ls (vR (sref r j 6 h).1 (sref r j 6 h).2 :: st) σ
  | 42 => pI st fun v st => pR st fun r j st => isCls c r ∧ k ls st (sI σ r j a v)
  | 43 => pG st fun v st => pR st fun r j st => isCls c r ∧ k ls st (sL σ r j a v)
  | 44 => pI st fun v st => pR st fun r j st => isCls c r ∧ (v = 0 ∨ v = 1) ∧ k ls st (sI σ r j a v)
  | 45 => pI st fun i st => pR st fun r j st => (r % 8 = 1 ∨ r % 8 = 6) ∧ (0 ≤ i ∧ i < alen σ r j) ∧ k ls (vI (Mi σ r j i) :: st) σ
  | 46 => pI st fun i st => pR st fun r j st => r % 8 = 2 ∧ (0 ≤ i ∧ i < alen σ r j) ∧ k ls (vI (Mi σ r j i) :: st) σ
  | 47 => pI st fun i st => pR st fun r j st => r % 8 = 3 ∧ (0 ≤ i ∧ i < alen σ r j) ∧ k ls (vG (Ml σ r j i) :: st) σ
  | 48 => pI st fun i st => pR st fun r j st => if r % 8 = 4 then (0 ≤ i ∧ i < alen σ r j) ∧ k ls (vR (elemR r) i :: st) σ else r % 8 = 5 ∧ (0 ≤ i ∧ i < alen σ r j) ∧ k ls (vR (Mr σ r j i).1 (Mr σ r j i).2 :: st) σ
  | 50 => pI st fun v st => pI st fun i st => pR st fun r j st => r % 8 = 1 ∧ (0 ≤ i ∧ i < alen σ r j) ∧ k ls st (sI σ r j i v)
  | 51 => pI st fun v st => pI st fun i st => pR st fun r j st => r % 8 = 2 ∧ (0 ≤ i ∧ i < alen σ r j) ∧ (v = 0 ∨ v = 1) ∧ k ls st (sI σ r j i v)
  | 52 => pG st fun v st => pI st fun i st => pR st fun r j st => r % 8 = 3 ∧ (0 ≤ i ∧ i < alen σ r j) ∧ k ls st (sL σ r j i v)
  | 53 => pR st fun vr vj st => pI st fun i st => pR st fun r j st => r % 8 = 5 ∧ vr % 8 = 7 ∧ (0 ≤ i ∧ i < alen σ r j) ∧ k ls st (sR σ r j i (vr, vj))
  | 54 => pR st fun r j st => (r % 8 = 1 ∨ r % 8 = 6) ∧ k ls (vI (alen σ r j) :: st) σ
  | 55 => pI st fun x st => IR x ∧ (cmT a.toNat x 0 → J c ls st σ) ∧ (cmF a.toNat x 0 → k ls st σ)
  | 56 => pI st fun y st => pI st fun x st => (IR x ∧ IR y) ∧ (cmT a.toNat x y → J c ls st σ) ∧ (cmF a.toNat x y → k ls st σ)
  | 57 => J c ls st σ
  | 58 => J c ls st σ
  | 59 => pI st fun x st => IR x ∧ tsK x a i.2.2.2.2.2 (fun t => J t ls st σ) ∧ ((x < a ∨ b < x) → J c ls st σ)
  | 60 => pI st fun x st => st = [] ∧ Q (some (vI x)) σ
  | 61 => pI st fun x st => st = [] ∧ (x = 0 ∨ x = 1) ∧ Q (some (vI x)) σ
  | 62 => pG st fun x st => st = [] ∧ Q (some (vG x)) σ
  | 63 => pR st fun r j st => st = [] ∧ Q (some (vR r j)) σ
  | 64 => st = [] ∧ Q none σ
  | 65 => pN c st [] fun as st => csum st ≤ 8 ∧ OkI h as σ (ctI k ls st)
  | 75 => pN c st [] fun as st => csum st ≤ 8 ∧ hdCls (i.2.2.2.2.2.getD 1 0) as ∧ OkI h as σ (ctI k ls st)
  | 67 => pN c st [] fun as st => csum st ≤ 8 ∧ OkL h as σ (ctL k ls st)
  | 77 => pN c st [] fun as st => csum st ≤ 8 ∧ hdCls (i.2.2.2.2.2.getD 1 0) as ∧ OkL h as σ (ctL k ls st)
  | 68 => pN c st [] fun as st => csum st ≤ 8 ∧ OkR h as σ (ctR k ls st)
  | 78 => pN c st [] fun as st => csum st ≤ 8 ∧ hdCls (i.2.2.2.2.2.getD 1 0) as ∧ OkR h as σ (ctR k ls st)
  | 69 => pN c st [] fun as st => csum st ≤ 8 ∧ OkV h as σ (ctV k ls st)
  | 79 => pN c st [] fun as st => csum st ≤ 8 ∧ hdCls (i.2.2.2.2.2.getD 1 0) as ∧ OkV h as σ (ctV k ls st)
  | 70 => pI st fun n st => pI st fun dp st => pR st fun rd jd st => pI st fun sp st => pR st fun rs js st => csum st ≤ 8 ∧ rs % 8 = 1 ∧ rd % 8 = 1 ∧ (0 ≤ sp ∧ 0 ≤ dp ∧ 0 ≤ n ∧ sp + n ≤ alen σ rs js ∧ dp + n ≤ alen σ rd jd) ∧ k ls st (cpI σ rs js sp rd jd dp n)
  | 73 => pI st fun y st => pI st fun x st => csum st ≤ 8 ∧ (IR x ∧ IR y) ∧ k ls (vI (min x y) :: st) σ
  | 74 => pI st fun y st => pI st fun x st => csum st ≤ 8 ∧ (IR x ∧ IR y) ∧ k ls (vI (max x y) :: st) σ
  | _ => False
def xs (J : Nat → Sx) (Q : Option Vv → Mm → Prop) : List In → Sx
  | [] => fun _ _ _ => False
  | i :: t => st1 J Q i (xs J Q t)
/-- the blocks from one on; a block of a number from 1000 on is a loop's head -/
def go (B : List (List In)) (K : Nat → Sx) (Q : Option Vv → Mm → Prop) : Nat → Nat → Sx
  | 0 => fun _ _ _ _ => False
  | f + 1 => fun b ls st σ => if 1000 ≤ b then K b ls st σ else xs (go B K Q f) Q (B.getD b []) ls st σ
def entL : List Vv → List (Option Vv)
  | [] => []
  | v :: l => (match v with | .inr (.inl _) => [some v, none] | _ => [some v]) ++ entL l
def ent0 (as : List Vv) (n : Nat) : List (Option Vv) := entL as ++ List.replicate (n - (entL as).length) none
