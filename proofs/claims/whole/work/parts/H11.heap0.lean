/-! the heap that the constructors leave is the first memory -/
def off (q : Nat × Int) : Nat := (rgE q.1).1 + (rgE q.1).2 * q.2.toNat
def dfr (r : Nat) : Bool := decide (r ≠ rg_row_cov ∧ r ≠ rg_arr_cov ∧ r ≠ rg_script)
/-- where every element of an array of changing rows leads at first -/
def r00 (r : Nat) : Nat × Int := if r = 2164523493 then (2030174215, 0) else (2046953351, 0)
/-- the first memory: nothing but the script and two arrays of 0, 1, 2, … -/
def mm0 (C : Cx) : Mm := ((fun r _ k => if r = 262134 then (cSx C k.toNat).toInt else if r = 386007841 ∨ r = 1476526881 then (if 0 ≤ k ∧ k < 100 then k else 0) else 0), (fun _ _ _ => 0), (fun r _ _ => r00 r), (fun j => if j = -1 then cSl C else 0), 0, fun _ => (0, 0))
def chFi (r : Nat) (j : Int) (ws : List (Nat × Nat)) (k : Nat) (q : Nat × Nat) : Bool :=
  if q.1 = 0 ∨ q.1 = 5 ∨ q.1 = 1 then (lkp k ws).isNone else dfr (sref r j q.1 q.2).1 && decide (lkp k ws = some (off (sref r j q.1 q.2)))
def chEn (x : Cc) (r : Nat) (j : Int) : Bool :=
  if r % 8 = 0 ∨ r % 8 = 7 then decide (x.1 = 0 ∧ x.2.1 = clsOf r) && (CF.getD (clsOf r) []).zipIdx.all fun q => chFi r j x.2.2 q.2 q.1
  else decide (r / 8 % 16384 ≠ 16383 ∧ r / 8 % 16384 ≠ 16382 ∧ x.2.1 = r / 8 % 16384) && (if r % 8 = 1 then decide (x.1 = 1) && (if r = 386007841 ∨ r = 1476526881 then x.2.2.all (fun q => decide (q.1 < 100)) && (List.range 100).all fun k => decide (lkp k x.2.2 = some k) else x.2.2.isEmpty)
    else if r % 8 = 2 then decide (x.1 = 2)
    else if r % 8 = 3 then decide (x.1 = 3)
    else if r % 8 = 4 then decide (x.1 = 4) && dfr (elemR r) && (List.range x.2.1).all fun k => decide (lkp k x.2.2 = some (off (elemR r, (k : Int))))
    else decide (x.1 = 4) && (List.range x.2.1).all fun k => decide (lkp k x.2.2 = some (off (r00 r))))
def ckR (o : Option Cr) : Bool := match o with
  | some (q, ls, hp, sl) => decide (q = 10 ∧ ls = [some (.inr 999999), some (.inr (off (16908368, 0))), some (.inr (off (184680536, 0))), some (.inl 0)] ∧ hp.1 = 332 ∧ sl = 24962) && scells.all fun q => dfr q.1 && (match hg hp (off q) with
    | some x => chEn x q.1 q.2
    | none => false)
  | none => false
def ls0 : List (Option Cv) := [some (.inr 999999), some (.inr (off (16908368, 0))), some (.inr (off (184680536, 0))), some (.inl 0)]
theorem cm_t2 : ckR (cm cmC cmL 3000 12 0 [some (.inr 999999), none, none, none] [] (0, []) 0) = true := by decide +kernel
