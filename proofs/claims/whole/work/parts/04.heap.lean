/-! the heap that a memory is; what it means that a method, called, comes to a state -/
abbrev Cx : Type := Launch × Nat × va_G × (ClassId × ClassId × ClassId × ClassId) × Nat × Nat × (Nat → Int32)
def cLa (C : Cx) : Launch := C.1
def cBa (C : Cx) : Nat := C.2.1
def cDa (C : Cx) : va_G := C.2.2.1
def cTy (C : Cx) : ClassId × ClassId × ClassId × ClassId := C.2.2.2.1
def cSc (C : Cx) : Nat := C.2.2.2.2.1
def cSl (C : Cx) : Nat := C.2.2.2.2.2.1
def cSx (C : Cx) : Nat → Int32 := C.2.2.2.2.2.2
abbrev tysC (C : Cx) : List (ClassId × FieldType) := [((cTy C).1, .int), ((cTy C).2.1, .boolean), ((cTy C).2.2.1, .long), ((cTy C).2.2.2, .object "BookHouse$Row")]
def Kk (C : Cx) (U : State) : Prop := va_K (cDa C) vwCl (tysC C) U
def rgE (r : Nat) : Nat × Nat := match RT.find? (fun q => q.1 == r) with
  | some q => (q.2.1, q.2.2.1)
  | none => (0, 0)
def adr (C : Cx) (σ : Mm) (r : Nat) (j : Int) : Nat := if r = rg_row_cov then (Ma σ j).1 else if r = rg_arr_cov then (Ma σ j).2 else if r = rg_script then cSc C else cBa C + ((rgE r).1 + (rgE r).2 * j.toNat)
def up (C : Cx) (σ : Mm) (v : Vv) : Value := match v with
  | .inl x => .int (Int32.ofInt x)
  | .inr (.inl x) => .long x
  | .inr (.inr (r, j)) => .ref (adr C σ r j)
def scells : List (Nat × Int) := RT.flatMap fun q => (List.range q.2.2.2).map fun (j : Nat) => (q.1, (j : Int))
def cells (σ : Mm) : List (Nat × Int) := scells ++ (List.range (Mc σ)).flatMap fun (y : Nat) => [(rg_row_cov, (y : Int)), (rg_arr_cov, (y : Int))]
def fval (C : Cx) (σ : Mm) (r : Nat) (j : Int) (q : Nat × Nat) (k : Nat) : Value :=
  if q.1 = 0 ∨ q.1 = 5 then .int (Int32.ofInt (Mi σ r j k)) else if q.1 = 1 then .long (Ml σ r j k) else .ref (adr C σ (sref r j q.1 q.2).1 (sref r j q.1 q.2).2)
def fvals (C : Cx) (σ : Mm) (r : Nat) (j : Int) : List Value := (CF.getD (clsOf r) []).mapIdx fun k q => fval C σ r j q k
def ent (C : Cx) (σ : Mm) (r : Nat) (j : Int) : va_E :=
  if r % 8 = 0 ∨ r % 8 = 7 then .inr (clsOf r, fvals C σ r j)
  else if r % 8 = 1 then .inl ((cTy C).1, (alen σ r j).toNat, .inl (fun k => Int32.ofInt (Mi σ r j k)))
  else if r % 8 = 2 then .inl ((cTy C).2.1, (alen σ r j).toNat, .inl (fun k => Int32.ofInt (Mi σ r j k)))
  else if r % 8 = 3 then .inl ((cTy C).2.2.1, (alen σ r j).toNat, .inr (.inl (fun k => Ml σ r j k)))
  else if r % 8 = 4 then .inl ((cTy C).2.2.2, (alen σ r j).toNat, .inr (.inr (.inr (.inr (fun k => some (adr C σ (elemR r) k))))))
  else .inl ((cTy C).2.2.2, (alen σ r j).toNat, .inr (.inr (.inr (.inr (fun k => some (adr C σ (Mr σ r j k).1 (Mr σ r j k).2))))))
def wl (C : Cx) (σ : Mm) : va_W := (cells σ).map fun q => (adr C σ q.1 q.2, ent C σ q.1 q.2)
/-- every reference in an array of changing references leads to a made row -/
def dynOk (σ : Mm) : Prop := ∀ q ∈ cells σ, q.1 % 8 = 5 → ∀ k : Int, 0 ≤ k → k < alen σ q.1 q.2 → Mr σ q.1 q.2 k ∈ cells σ ∧ (Mr σ q.1 q.2 k).1 % 8 = 7
def scrOk (C : Cx) (σ : Mm) : Prop := Mn σ (-1) = cSl C ∧ cSl C ≤ 4000 ∧ ∀ k : Nat, Int32.ofInt (Mi σ rg_script 0 k) = cSx C k
def covOk (σ : Mm) : Prop := ∀ j : Int, 0 ≤ j → j < Mc σ → Mn σ j ≤ 4000
def Hh (C : Cx) (σ : Mm) (H : Heap) : Prop := va_P (cDa C) vwCl (wl C σ) H ∧ va_D (fun q => cBa C ≤ q) (wl C σ) ∧ dynOk σ ∧ scrOk C σ ∧ covOk σ
def Ext (σ σ' : Mm) : Prop := Mc σ ≤ Mc σ' ∧ ∀ j : Int, 0 ≤ j → j < Mc σ → Ma σ' j = Ma σ j
def wf (σ : Mm) (v : Vv) : Prop := match v with
  | .inr (.inr (r, j)) => (r = rg_script ∧ j = 0) ∨ (r, j) ∈ cells σ
  | _ => True
abbrev Sg : Type := MethodName × ByteArray × Nat × Option FieldType × Nat
def wsG (g : Sg) : List Jvm.Cond := Jvm.Cond.code g.1 g.2.1 g.2.2.1 g.2.2.2.1 :: tbG
def rmG (g : Sg) (mc ms : Nat) : Room := { frames := g.2.2.2.2, cells := mc, slots := ms, locals := 40 * g.2.2.2.2 }
def NwG (U : State) : Prop := ∀ q ∈ nests, va_Nw (.methodLinkNest q.1 q.2.1 q.2.2.1 q.2.2.2) U
def PcG (C : Cx) (as : List Vv) (σ : Mm) : Array Value → State → Prop := fun a U => a = (as.map (up C σ)).toArray ∧ (∀ v ∈ as, wf σ v) ∧ Hh C σ U.heap ∧ Kk C U ∧ va_X (cSc C) (cSl C) (cSx C) U U.heap ∧ cSc C < cBa C ∧ cBa C ≤ U.heap.size ∧ NwG U
def QcG (C : Cx) (σ : Mm) (k : Option Vv → Mm → Prop) : Array Value → State → Outcome → State → Prop := fun _ st oc t =>
  ∃ (r : Option Vv) (σ' : Mm), oc = .returned (r.map (up C σ')) ∧ k r σ' ∧ (∀ v, r = some v → wf σ' v) ∧ Ext σ σ' ∧ Hh C σ' t.heap ∧ va_F (fun q => cBa C ≤ q) st t
/-- called with these values in this memory, the method (with room for so much) returns, with k -/
def OkG (g : Sg) (mc ms : Nat) (as : List Vv) (σ : Mm) (k : Option Vv → Mm → Prop) : Prop := ∀ C : Cx, Met (cLa C) g.1 (wsG g) (rmG g mc ms) (PcG C as σ) (QcG C σ k) mc ms (fun q => cBa C ≤ q)
def sgD (id : Nat) : Sg := sgs.getD id (yX0_init, cX0_init, 2, none, 1)
def Ok (id : Nat) (as : List Vv) (σ : Mm) (k : Option Vv → Mm → Prop) : Prop := OkG (sgD id) 0 0 as σ k
def OkI (id : Nat) (as : List Vv) (σ : Mm) (k : Int → Mm → Prop) : Prop := Ok id as σ (fun r σ' => ∃ x, r = some (vI x) ∧ k x σ')
def OkL (id : Nat) (as : List Vv) (σ : Mm) (k : Int64 → Mm → Prop) : Prop := Ok id as σ (fun r σ' => ∃ x, r = some (vG x) ∧ k x σ')
def OkR (id : Nat) (as : List Vv) (σ : Mm) (k : Nat → Int → Mm → Prop) : Prop := Ok id as σ (fun r σ' => ∃ (q : Nat) (j : Int), r = some (vR q j) ∧ k q j σ')
def OkV (id : Nat) (as : List Vv) (σ : Mm) (k : Mm → Prop) : Prop := Ok id as σ (fun r σ' => r = none ∧ k σ')
