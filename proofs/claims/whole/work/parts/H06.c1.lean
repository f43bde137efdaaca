/-! the machine of numbers: the check of an instruction, and that a step is sound -/
def cpc (B : List Ci) (q : Nat) : Nat := ((B[q]?).map fun i => i.1).getD 0
def cRef (t : Option FieldType) : Bool := match t with
  | some (.object _) => true
  | some (.array _) => true
  | _ => false
def chc (own : String) (ini : Bool) (nL : Nat) (cc : ByteArray) (B : List Ci) (q : Nat) (i : Ci) : Bool :=
  let pc := i.1
  let x := i.2.2.1
  let y := i.2.2.2.1
  let z := i.2.2.2.2.1
  let l := i.2.2.2.2.2
  let nx := cpc B (q + 1)
  match i.2.1 with
  | 0 => if y = 0 then decide (decode cc pc = .ok (.iconst (x : Int), 1) ∧ nx = pc + 1)
    else if y = 1 then decide (decode cc pc = .ok (.bipush (x : Int), 2) ∧ (Int8.ofInt (x : Int)).toInt32 = nI x ∧ nx = pc + 2)
    else decide (decode cc pc = .ok (.sipush (x : Int), 3) ∧ (Int16.ofInt (x : Int)).toInt32 = nI x ∧ nx = pc + 3)
  | 1 => decide (decode cc pc = .ok (.aload_n (f4 x), 1) ∧ (f4 x : Nat) = x ∧ nx = pc + 1)
  | 2 => if y = 1 then decide (decode cc pc = .ok (.iload_n (f4 x), 1) ∧ (f4 x : Nat) = x ∧ nx = pc + 1) else decide (decode cc pc = .ok (.iload x, 2) ∧ nx = pc + 2)
  | 3 => if y = 1 then decide (x < nL ∧ decode cc pc = .ok (.istore_n (f4 x), 1) ∧ (f4 x : Nat) = x ∧ nx = pc + 1) else decide (x < nL ∧ decode cc pc = .ok (.istore x, 2) ∧ nx = pc + 2)
  | 19 => decide (x < nL ∧ decode cc pc = .ok (.astore_n (f4 x), 1) ∧ (f4 x : Nat) = x ∧ nx = pc + 1)
  | 4 => decide (x < nL ∧ decode cc pc = .ok (.iinc x (y : Int), 3) ∧ nx = pc + 3)
  | 5 => (match vwCl[y]? with
    | some r => decide (decode cc pc = .ok (.new x, 3) ∧ nx = pc + 3 ∧ tbAt (l.getD 0 0) = some (Jvm.Cond.classLink own x r.1) ∧ tbAt (l.getD 1 0) = some (Jvm.Cond.instantiable r.1 r.2.2) ∧ tbAt (l.getD 2 0) = some (Jvm.Cond.initialized r.1))
    | none => false)
  | 6 => decide (decode cc pc = .ok (.dup, 1) ∧ nx = pc + 1)
  | 7 => if x = 1 then decide (decode cc pc = .ok (.newarray .int, 2) ∧ nx = pc + 2 ∧ tbAt (l.getD 0 0) = some (Jvm.Cond.arrayClass .int))
    else if x = 2 then decide (decode cc pc = .ok (.newarray .boolean, 2) ∧ nx = pc + 2 ∧ tbAt (l.getD 0 0) = some (Jvm.Cond.arrayClass .boolean))
    else decide (x = 3 ∧ decode cc pc = .ok (.newarray .long, 2) ∧ nx = pc + 2 ∧ tbAt (l.getD 0 0) = some (Jvm.Cond.arrayClass .long))
  | 8 => decide (own ≠ "BookHouse$Row" ∧ decode cc pc = .ok (.anewarray x, 3) ∧ nx = pc + 3 ∧ tbAt (l.getD 0 0) = some (Jvm.Cond.classLink own x "BookHouse$Row"))
  | 9 => (match vwCl[y]? with
    | some r => decide (ini = true ∧ z < r.2.2 ∧ decode cc pc = .ok (.putfield x, 3) ∧ nx = pc + 3 ∧ tbAt (l.getD 0 0) = some (Jvm.Cond.fieldLink own x (r.2.1 z).1 (r.2.1 z).2.1 (r.2.1 z).2.2.1) ∧ (r.2.1 z).2.2.2 = true ∧ (r.2.1 z).1 = own ∧ cRef (parseFieldDescriptor (r.2.1 z).2.2.1) = true)
    | none => false)
  | 10 => (match vwCl[y]? with
    | some r => decide (z < r.2.2 ∧ decode cc pc = .ok (.getfield x, 3) ∧ nx = pc + 3 ∧ tbAt (l.getD 0 0) = some (Jvm.Cond.fieldLink own x (r.2.1 z).1 (r.2.1 z).2.1 (r.2.1 z).2.2.1))
    | none => false)
  | 11 => decide (decode cc pc = .ok (.aastore, 1) ∧ nx = pc + 1)
  | 12 => decide (decode cc pc = .ok (.iastore, 1) ∧ nx = pc + 1)
  | 13 => if z = 0 then decide (decode cc pc = .ok (.if_icmp .ge ((cpc B x : Int) - pc), 3) ∧ nx = pc + 3) else decide (decode cc pc = .ok (.if_icmp .gt ((cpc B x : Int) - pc), 3) ∧ nx = pc + 3)
  | 14 => decide (decode cc pc = .ok (.goto ((cpc B x : Int) - pc), 3))
  | 16 => decide (decode cc pc = .ok (.invokespecial x, 3) ∧ nx = pc + 3 ∧ tbAt (l.getD 0 0) = some (Jvm.Cond.methodLink own x Lib.objectInit) ∧ tbAt (l.getD 1 0) = some (Jvm.Cond.instanceMethod Lib.objectInit) ∧ tbAt (l.getD 2 0) = some (Jvm.Cond.code Lib.objectInit ⟨#[0xb1]⟩ 1 none))
  | 18 => decide (decode cc pc = .ok (.invokestatic x, 3) ∧ nx = pc + 3 ∧ tbAt (l.getD 0 0) = some (Jvm.Cond.methodLink own x Lib.Math.max.name))
  | _ => false
theorem nI_int (x : Nat) : Int32.ofInt (x : Int) = nI x := by
  unfold nI
  rfl
theorem cs_cat {C : Cx} : ∀ st : List Cv, ((st.map (cuV C)).map fun v => v.category).sum = st.length
  | [] => rfl
  | a :: st => by simp only [List.map_cons, List.sum_cons, List.length_cons, cu_cat, cs_cat st]; omega
