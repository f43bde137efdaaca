/-! the checker of an instruction, and that what it passes is sound -/
def jc (a : Nat) : Jvm.ClassFile.Cond := match a with
  | 0 => .eq
  | 1 => .ne
  | 2 => .lt
  | 3 => .ge
  | 4 => .gt
  | _ => .le
def f4 (c : Nat) : Fin 4 := Fin.ofNat 4 c
def f2 (c : Nat) : Fin 2 := Fin.ofNat 2 c
/-- a field: class c, place a, pool index, place in the table, code and arg of the field -/
def chF (own : String) (ci k ix pos : Nat) (cd ar : Nat) : Bool := match vwCl[ci]? with
  | some q => decide (k < q.2.2 ∧ (CF.getD ci [])[k]? = some (cd, ar) ∧ tbAt (pos) = some (Jvm.Cond.fieldLink own ix (q.2.1 k).1 (q.2.1 k).2.1 (q.2.1 k).2.2.1))
  | none => false
def chP (ci k : Nat) (ty : FieldType) : Bool := match vwCl[ci]? with
  | some q => decide ((q.2.1 k).2.2.2 = false ∧ parseFieldDescriptor (q.2.1 k).2.2.1 = some ty)
  | none => false
/-- a call: the callee's kind, level and number of arguments -/
def chS (id n lv kd : Nat) : Bool := decide (sgk[id]? = some (kd, n) ∧ (sgD id).2.2.2.2 + 1 ≤ lv ∧ (sgD id).2.2.1 ≤ 21)
def chCall (own : String) (lv : Nat) (cc : ByteArray) (nx : Nat) (i : In) : Bool :=
  chS (i.2.2.2.2.2.headD 0) i.2.2.2.2.1 lv 0 && decide (decode cc i.1 = .ok (.invokestatic i.2.2.2.1.toNat, 3) ∧ nx = i.1 + 3) &&
    (if i.2.2.2.2.2.getD 2 0 = 1 then decide ((own, i.2.2.2.1.toNat, (sgD (i.2.2.2.2.2.headD 0)).1, "BookHouse") ∈ nests) else decide (tbAt (i.2.2.1.toNat) = some (Jvm.Cond.methodLink own i.2.2.2.1.toNat (sgD (i.2.2.2.2.2.headD 0)).1)))
def chCallV (own : String) (lv : Nat) (cc : ByteArray) (nx : Nat) (i : In) : Bool :=
  chS (i.2.2.2.2.2.headD 0) (i.2.2.2.2.1 - 1) lv 1 && decide (1 ≤ i.2.2.2.2.1 ∧ decode cc i.1 = .ok (.invokevirtual i.2.2.2.1.toNat, 3) ∧ nx = i.1 + 3 ∧ (vwCl[i.2.2.2.2.2.getD 1 0]?).map (fun q => q.1) = some (sgD (i.2.2.2.2.2.headD 0)).1.cls ∧ tbAt (i.2.2.1.toNat) = some (Jvm.Cond.methodLink own i.2.2.2.1.toNat (sgD (i.2.2.2.2.2.headD 0)).1))
def chkI (own : String) (nL lv : Nat) (ret : Option FieldType) (cc : ByteArray) (bp : Nat → Nat) (nx : Nat) (i : In) : Bool :=
  match i.2.1 with
  | 1 => if i.2.2.2.1 = 0 then decide (decode cc i.1 = .ok (.iconst i.2.2.1, 1) ∧ nx = i.1 + 1)
    else if i.2.2.2.1 = 1 then decide (decode cc i.1 = .ok (.bipush i.2.2.1, 2) ∧ (Int8.ofInt i.2.2.1).toInt32 = Int32.ofInt i.2.2.1 ∧ nx = i.1 + 2)
    else if i.2.2.2.1 = 2 then decide (decode cc i.1 = .ok (.sipush i.2.2.1, 3) ∧ (Int16.ofInt i.2.2.1).toInt32 = Int32.ofInt i.2.2.1 ∧ nx = i.1 + 3)
    else if i.2.2.2.1 = 3 then decide (decode cc i.1 = .ok (.ldc (i.2.2.2.2.2.getD 0 0), 2) ∧ tbAt (i.2.2.2.2.2.getD 1 0) = some (Jvm.Cond.constant own (i.2.2.2.2.2.getD 0 0) (Int32.ofInt i.2.2.1)) ∧ nx = i.1 + 2)
    else decide (decode cc i.1 = .ok (.ldc_w (i.2.2.2.2.2.getD 0 0), 3) ∧ tbAt (i.2.2.2.2.2.getD 1 0) = some (Jvm.Cond.constant own (i.2.2.2.2.2.getD 0 0) (Int32.ofInt i.2.2.1)) ∧ nx = i.1 + 3)
  | 2 => if i.2.2.2.1 = 0 then decide (decode cc i.1 = .ok (.lconst (f2 i.2.2.2.2.1), 1) ∧ Int64.ofNat (f2 i.2.2.2.2.1 : Nat) = Int64.ofInt i.2.2.1 ∧ nx = i.1 + 1)
    else decide (decode cc i.1 = .ok (.ldc2_w (i.2.2.2.2.2.getD 0 0), 3) ∧ tbAt (i.2.2.2.2.2.getD 1 0) = some (Jvm.Cond.constantLong own (i.2.2.2.2.2.getD 0 0) (Int64.ofInt i.2.2.1)) ∧ nx = i.1 + 3)
  | 4 => if i.2.2.2.1 = 1 then decide (decode cc i.1 = .ok (.iload_n (f4 i.2.2.2.2.1), 1) ∧ (f4 i.2.2.2.2.1 : Nat) = i.2.2.2.2.1 ∧ nx = i.1 + 1) else decide (decode cc i.1 = .ok (.iload i.2.2.2.2.1, 2) ∧ nx = i.1 + 2)
  | 5 => if i.2.2.2.1 = 1 then decide (decode cc i.1 = .ok (.lload_n (f4 i.2.2.2.2.1), 1) ∧ (f4 i.2.2.2.2.1 : Nat) = i.2.2.2.2.1 ∧ nx = i.1 + 1) else decide (decode cc i.1 = .ok (.lload i.2.2.2.2.1, 2) ∧ nx = i.1 + 2)
  | 6 => if i.2.2.2.1 = 1 then decide (decode cc i.1 = .ok (.aload_n (f4 i.2.2.2.2.1), 1) ∧ (f4 i.2.2.2.2.1 : Nat) = i.2.2.2.2.1 ∧ nx = i.1 + 1) else decide (decode cc i.1 = .ok (.aload i.2.2.2.2.1, 2) ∧ nx = i.1 + 2)
  | 7 => if i.2.2.2.1 = 1 then decide (i.2.2.2.2.1 < nL ∧ decode cc i.1 = .ok (.istore_n (f4 i.2.2.2.2.1), 1) ∧ (f4 i.2.2.2.2.1 : Nat) = i.2.2.2.2.1 ∧ nx = i.1 + 1) else decide (i.2.2.2.2.1 < nL ∧ decode cc i.1 = .ok (.istore i.2.2.2.2.1, 2) ∧ nx = i.1 + 2)
  | 8 => if i.2.2.2.1 = 1 then decide (i.2.2.2.2.1 + 1 < nL ∧ decode cc i.1 = .ok (.lstore_n (f4 i.2.2.2.2.1), 1) ∧ (f4 i.2.2.2.2.1 : Nat) = i.2.2.2.2.1 ∧ nx = i.1 + 1) else decide (i.2.2.2.2.1 + 1 < nL ∧ decode cc i.1 = .ok (.lstore i.2.2.2.2.1, 2) ∧ nx = i.1 + 2)
  | 9 => if i.2.2.2.1 = 1 then decide (i.2.2.2.2.1 < nL ∧ decode cc i.1 = .ok (.astore_n (f4 i.2.2.2.2.1), 1) ∧ (f4 i.2.2.2.2.1 : Nat) = i.2.2.2.2.1 ∧ nx = i.1 + 1) else decide (i.2.2.2.2.1 < nL ∧ decode cc i.1 = .ok (.astore i.2.2.2.2.1, 2) ∧ nx = i.1 + 2)
  | 10 => decide (i.2.2.2.2.1 < nL ∧ decode cc i.1 = .ok (.iinc i.2.2.2.2.1 i.2.2.1, 3) ∧ nx = i.1 + 3)
  | 11 => decide (decode cc i.1 = .ok (.iadd, 1) ∧ nx = i.1 + 1)
  | 12 => decide (decode cc i.1 = .ok (.isub, 1) ∧ nx = i.1 + 1)
  | 13 => decide (decode cc i.1 = .ok (.imul, 1) ∧ nx = i.1 + 1)
  | 14 => decide (decode cc i.1 = .ok (.idiv, 1) ∧ nx = i.1 + 1)
  | 15 => decide (decode cc i.1 = .ok (.irem, 1) ∧ nx = i.1 + 1)
  | 17 => decide (decode cc i.1 = .ok (.iand, 1) ∧ nx = i.1 + 1)
  | 18 => decide (decode cc i.1 = .ok (.ior, 1) ∧ nx = i.1 + 1)
  | 19 => decide (decode cc i.1 = .ok (.ixor, 1) ∧ nx = i.1 + 1)
  | 20 => decide (decode cc i.1 = .ok (.ishl, 1) ∧ nx = i.1 + 1)
  | 21 => decide (decode cc i.1 = .ok (.ishr, 1) ∧ nx = i.1 + 1)
  | 22 => decide (decode cc i.1 = .ok (.iushr, 1) ∧ nx = i.1 + 1)
  | 23 => decide (decode cc i.1 = .ok (.ladd, 1) ∧ nx = i.1 + 1)
  | 24 => decide (decode cc i.1 = .ok (.lsub, 1) ∧ nx = i.1 + 1)
  | 25 => decide (decode cc i.1 = .ok (.lmul, 1) ∧ nx = i.1 + 1)
  | 26 => decide (decode cc i.1 = .ok (.land, 1) ∧ nx = i.1 + 1)
  | 27 => decide (decode cc i.1 = .ok (.lor, 1) ∧ nx = i.1 + 1)
  | 28 => decide (decode cc i.1 = .ok (.lxor, 1) ∧ nx = i.1 + 1)
  | 29 => decide (decode cc i.1 = .ok (.lshl, 1) ∧ nx = i.1 + 1)
  | 30 => decide (decode cc i.1 = .ok (.lshr, 1) ∧ nx = i.1 + 1)
  | 31 => decide (decode cc i.1 = .ok (.lushr, 1) ∧ nx = i.1 + 1)
  | 32 => decide (decode cc i.1 = .ok (.i2l, 1) ∧ nx = i.1 + 1)
  | 33 => decide (decode cc i.1 = .ok (.l2i, 1) ∧ nx = i.1 + 1)
  | 34 => decide (decode cc i.1 = .ok (.lcmp, 1) ∧ nx = i.1 + 1)
  | 35 => decide (decode cc i.1 = .ok (.dup, 1) ∧ nx = i.1 + 1)
  | 36 => decide (decode cc i.1 = .ok (.dup2, 1) ∧ nx = i.1 + 1)
  | 37 => (chF own i.2.2.2.2.1 i.2.2.1.toNat (i.2.2.2.2.2.getD 0 0) (i.2.2.2.2.2.getD 1 0) 0 0 || chF own i.2.2.2.2.1 i.2.2.1.toNat (i.2.2.2.2.2.getD 0 0) (i.2.2.2.2.2.getD 1 0) 5 0) && decide (i.2.2.1 = (i.2.2.1.toNat : Int) ∧ decode cc i.1 = .ok (.getfield (i.2.2.2.2.2.getD 0 0), 3) ∧ nx = i.1 + 3)
  | 38 => chF own i.2.2.2.2.1 i.2.2.1.toNat (i.2.2.2.2.2.getD 0 0) (i.2.2.2.2.2.getD 1 0) 1 0 && decide (i.2.2.1 = (i.2.2.1.toNat : Int) ∧ decode cc i.1 = .ok (.getfield (i.2.2.2.2.2.getD 0 0), 3) ∧ nx = i.1 + 3)
  | 39 => chF own i.2.2.2.2.1 i.2.2.1.toNat (i.2.2.2.2.2.getD 1 0) (i.2.2.2.2.2.getD 2 0) 2 (i.2.2.2.2.2.headD 0) && decide (decode cc i.1 = .ok (.getfield (i.2.2.2.2.2.getD 1 0), 3) ∧ nx = i.1 + 3)
  | 40 => chF own i.2.2.2.2.1 i.2.2.1.toNat (i.2.2.2.2.2.getD 1 0) (i.2.2.2.2.2.getD 2 0) 3 (i.2.2.2.2.2.headD 0) && decide (decode cc i.1 = .ok (.getfield (i.2.2.2.2.2.getD 1 0), 3) ∧ nx = i.1 + 3)
  | 41 => chF own i.2.2.2.2.1 i.2.2.1.toNat (i.2.2.2.2.2.getD 1 0) (i.2.2.2.2.2.getD 2 0) 4 (i.2.2.2.2.2.headD 0) && decide (decode cc i.1 = .ok (.getfield (i.2.2.2.2.2.getD 1 0), 3) ∧ nx = i.1 + 3)
  | 72 => chF own i.2.2.2.2.1 i.2.2.1.toNat (i.2.2.2.2.2.getD 1 0) (i.2.2.2.2.2.getD 2 0) 6 (i.2.2.2.2.2.headD 0) && decide (decode cc i.1 = .ok (.getfield (i.2.2.2.2.2.getD 1 0), 3) ∧ nx = i.1 + 3)
  | 42 => chF own i.2.2.2.2.1 i.2.2.1.toNat (i.2.2.2.2.2.getD 0 0) (i.2.2.2.2.2.getD 1 0) 0 0 && chP i.2.2.2.2.1 i.2.2.1.toNat .int && decide (i.2.2.1 = (i.2.2.1.toNat : Int) ∧ decode cc i.1 = .ok (.putfield (i.2.2.2.2.2.getD 0 0), 3) ∧ nx = i.1 + 3)
  | 43 => chF own i.2.2.2.2.1 i.2.2.1.toNat (i.2.2.2.2.2.getD 0 0) (i.2.2.2.2.2.getD 1 0) 1 0 && chP i.2.2.2.2.1 i.2.2.1.toNat .long && decide (i.2.2.1 = (i.2.2.1.toNat : Int) ∧ decode cc i.1 = .ok (.putfield (i.2.2.2.2.2.getD 0 0), 3) ∧ nx = i.1 + 3)
  | 44 => chF own i.2.2.2.2.1 i.2.2.1.toNat (i.2.2.2.2.2.getD 0 0) (i.2.2.2.2.2.getD 1 0) 5 0 && chP i.2.2.2.2.1 i.2.2.1.toNat .boolean && decide (i.2.2.1 = (i.2.2.1.toNat : Int) ∧ decode cc i.1 = .ok (.putfield (i.2.2.2.2.2.getD 0 0), 3) ∧ nx = i.1 + 3)
  | 45 => decide (decode cc i.1 = .ok (.iaload, 1) ∧ nx = i.1 + 1)
  | 46 => decide (decode cc i.1 = .ok (.baload, 1) ∧ nx = i.1 + 1)
  | 47 => decide (decode cc i.1 = .ok (.laload, 1) ∧ nx = i.1 + 1)
  | 48 => decide (decode cc i.1 = .ok (.aaload, 1) ∧ nx = i.1 + 1)
  | 50 => decide (decode cc i.1 = .ok (.iastore, 1) ∧ nx = i.1 + 1)
  | 51 => decide (decode cc i.1 = .ok (.bastore, 1) ∧ nx = i.1 + 1)
  | 52 => decide (decode cc i.1 = .ok (.lastore, 1) ∧ nx = i.1 + 1)
  | 53 => decide (decode cc i.1 = .ok (.aastore, 1) ∧ nx = i.1 + 1)
  | 54 => decide (decode cc i.1 = .ok (.arraylength, 1) ∧ nx = i.1 + 1)
  | 55 => decide (i.2.2.1.toNat ≤ 5 ∧ decode cc i.1 = .ok (.ifCond (jc i.2.2.1.toNat) ((bp i.2.2.2.2.1 : Int) - i.1), 3) ∧ nx = i.1 + 3)
  | 56 => decide (i.2.2.1.toNat ≤ 5 ∧ decode cc i.1 = .ok (.if_icmp (jc i.2.2.1.toNat) ((bp i.2.2.2.2.1 : Int) - i.1), 3) ∧ nx = i.1 + 3)
  | 57 => decide (decode cc i.1 = .ok (.goto ((bp i.2.2.2.2.1 : Int) - i.1), 3))
  | 58 => decide (bp i.2.2.2.2.1 = i.1)
  | 59 => decide (i.2.2.2.1 = i.2.2.1 + i.2.2.2.2.2.length - 1 ∧ decode cc i.1 = .ok (.tableswitch ((bp i.2.2.2.2.1 : Int) - i.1) i.2.2.1 i.2.2.2.1 (i.2.2.2.2.2.map (fun t => (bp t : Int) - i.1)).toArray, 1 + (3 - i.1 % 4) + 12 + 4 * i.2.2.2.2.2.length))
  | 60 => decide (decode cc i.1 = .ok (.ireturn, 1) ∧ ret = some .int)
  | 61 => decide (decode cc i.1 = .ok (.ireturn, 1) ∧ ret = some .boolean)
  | 62 => decide (decode cc i.1 = .ok (.lreturn, 1) ∧ ret = some .long)
  | 63 => decide (decode cc i.1 = .ok (.areturn, 1) ∧ ret = some (.object "BookHouse$Row")) || decide (decode cc i.1 = .ok (.areturn, 1) ∧ ret = some (.object "BookHouse$Book"))
  | 64 => decide (decode cc i.1 = .ok (.return_, 1) ∧ ret = none)
  | 65 => chCall own lv cc nx i
  | 67 => chCall own lv cc nx i
  | 68 => chCall own lv cc nx i
  | 69 => chCall own lv cc nx i
  | 75 => chCallV own lv cc nx i
  | 77 => chCallV own lv cc nx i
  | 78 => chCallV own lv cc nx i
  | 79 => chCallV own lv cc nx i
  | 70 => decide (decode cc i.1 = .ok (.invokestatic i.2.2.2.1.toNat, 3) ∧ nx = i.1 + 3 ∧ tbAt (i.2.2.1.toNat) = some (Jvm.Cond.methodLink own i.2.2.2.1.toNat arraycopyName))
  | 73 => decide (decode cc i.1 = .ok (.invokestatic i.2.2.2.1.toNat, 3) ∧ nx = i.1 + 3 ∧ tbAt (i.2.2.1.toNat) = some (Jvm.Cond.methodLink own i.2.2.2.1.toNat Lib.Math.min.name))
  | 74 => decide (decode cc i.1 = .ok (.invokestatic i.2.2.2.1.toNat, 3) ∧ nx = i.1 + 3 ∧ tbAt (i.2.2.1.toNat) = some (Jvm.Cond.methodLink own i.2.2.2.1.toNat Lib.Math.max.name))
  | _ => false
def pcOf : List In → Nat
  | [] => 0
  | i :: _ => i.1
def chkL (own : String) (nL lv : Nat) (ret : Option FieldType) (cc : ByteArray) (bp : Nat → Nat) : List In → Bool
  | [] => true
  | i :: t => chkI own nL lv ret cc bp (pcOf t) i && chkL own nL lv ret cc bp t
theorem chF_e {own : String} {ci k ix pos cd ar : Nat} (h : chF own ci k ix pos cd ar = true) : ∃ q : vw_C, vwCl[ci]? = some q ∧ k < q.2.2 ∧ (CF.getD ci [])[k]? = some (cd, ar) ∧ Jvm.Cond.fieldLink own ix (q.2.1 k).1 (q.2.1 k).2.1 (q.2.1 k).2.2.1 ∈ tbG := by
  unfold chF at h
  cases hq : vwCl[ci]? with
  | none => rw [hq] at h; simp at h
  | some q =>
    rw [hq] at h
    simp only [decide_eq_true_eq] at h
    exact ⟨q, rfl, h.1, h.2.1, tb_at h.2.2 rfl⟩
theorem chP_e {ci k : Nat} {ty : FieldType} {q : vw_C} (hq : vwCl[ci]? = some q) (h : chP ci k ty = true) : (q.2.1 k).2.2.2 = false ∧ parseFieldDescriptor (q.2.1 k).2.2.1 = some ty := by
  unfold chP at h
  rw [hq] at h
  simpa using h
/-- the facts of a method's name, by kind: 0 static, 1 of an object -/
theorem sg_e {id n lv kd : Nat} (h : chS id n lv kd = true) : sigOk (sgD id) lv n ∧ (kd = 0 → Jvm.Cond.static (sgD id).1 ∈ tbG) ∧ (kd = 1 → Jvm.Cond.instanceMethod (sgD id).1 ∈ tbG ∧ Jvm.Cond.selects (sgD id).1.cls (sgD id).1 (sgD id).1 ∈ tbG) := by
  simp only [chS, decide_eq_true_eq] at h
  obtain ⟨h1, h2⟩ := h
  have hlt := (List.getElem?_eq_some_iff.mp h1).1
  have hf := sg_facts id (by rw [sgk_len] at hlt; exact hlt)
  simp only [sgF, h1, Bool.and_eq_true, decide_eq_true_eq, Bool.or_eq_true] at hf
  obtain ⟨⟨⟨g2, g3⟩, g4⟩, g5⟩ := hf
  refine ⟨⟨sg_code id (by rw [sgk_len] at hlt; exact hlt), tb_at g2 rfl, g3, h2⟩, fun e => ?_, fun e => ?_⟩
  · subst e
    rcases g4 with g4 | g4
    · exact absurd rfl g4
    · exact tb_at g4 rfl
  · subst e
    rcases g5 with g5 | g5
    · exact absurd rfl g5
    · exact ⟨tb_at g5.1 rfl, tb_at g5.2 rfl⟩
theorem sys_tb : Jvm.Cond.native arraycopyName ∈ tbG ∧ Jvm.Cond.static arraycopyName ∈ tbG ∧ Jvm.Cond.initialized "java/lang/System" ∈ tbG := by decide +kernel
theorem min_tb : Jvm.Cond.static Lib.Math.min.name ∈ tbG ∧ Jvm.Cond.initialized "java/lang/Math" ∈ tbG ∧ Jvm.Cond.code Lib.Math.min.name Lib.Math.min.code 2 (some .int) ∈ tbG := by decide +kernel
theorem max_tb : Jvm.Cond.static Lib.Math.max.name ∈ tbG ∧ Jvm.Cond.initialized "java/lang/Math" ∈ tbG ∧ Jvm.Cond.code Lib.Math.max.name Lib.Math.max.code 2 (some .int) ∈ tbG := by decide +kernel
section
variable {C : Cx} {p : Program} {l : Launch} {e : Env} {R : Room} {s : State} {m : MethodId} {args : Array Value} {below : List Frame} {meth : Method} {c : Code} {H0 : Heap} {ce sl : Nat} {Q : State → Prop} {σ0 : Mm} {nL lv : Nat} {cc : ByteArray} {own : String}
/-- a return: what is left to show is the caller's -/
def RJ (C : Cx) (p : Program) (l : Launch) (e : Env) (R : Room) (s : State) (m : MethodId) (args : Array Value) (below : List Frame) (meth : Method) (c : Code) (H0 : Heap) (ce sl : Nat) (Q : State → Prop) (σ0 : Mm) (pc : Nat) (ro : Option Vv) (σ : Mm) : Prop :=
  ∀ (Ls : Array Slot) (H : Heap) (locs : List Loc), (∀ v, ro = some v → wf σ v) → Hh C σ H → va_S (fun q => cBa C ≤ q) H0 H locs → Ext σ0 σ → W p l e R s m args below meth c H locs ce sl Q (F0 m pc Ls (ro.map (up C σ)).toList)
def retOk (ret : Option FieldType) (cc : ByteArray) (pc : Nat) (ro : Option Vv) : Prop :=
  (∃ x, ro = some (vI x) ∧ decode cc pc = .ok (.ireturn, 1) ∧ ret = some .int) ∨ (∃ x, (x = 0 ∨ x = 1) ∧ ro = some (vI x) ∧ decode cc pc = .ok (.ireturn, 1) ∧ ret = some .boolean) ∨ (∃ x, ro = some (vG x) ∧ decode cc pc = .ok (.lreturn, 1) ∧ ret = some .long) ∨ (∃ r j n, ro = some (vR r j) ∧ decode cc pc = .ok (.areturn, 1) ∧ ret = some (.object n)) ∨ (ro = none ∧ decode cc pc = .ok (.return_, 1) ∧ ret = none)
theorem chk1 (F : FX C p l R s m args c H0 ce sl nL cc own lv) {ret : Option FieldType} {bp : Nat → Nat} {nx : Nat} {i : In} {J : Nat → Sx} {Qr : Option Vv → Mm → Prop} {k : Sx} (hc : chkI own nL lv ret cc bp nx i = true)
    (hk : ∀ ls st σ, k ls st σ → XJ C p l e R s m args below meth c H0 ce sl Q nL σ0 nx ls st σ) (hJ : ∀ b ls st σ, J b ls st σ → XJ C p l e R s m args below meth c H0 ce sl Q nL σ0 (bp b) ls st σ) (hR : ∀ pc ro σ, retOk ret cc pc ro → Qr ro σ → RJ C p l e R s m args below meth c H0 ce sl Q σ0 pc ro σ)
    {ls : List (Option Vv)} {st : List Vv} {σ : Mm} (h : st1 J Qr i k ls st σ) : XJ C p l e R s m args below meth c H0 ce sl Q nL σ0 i.1 ls st σ := by
  obtain ⟨pc, op, a, b, cn, l'⟩ := i
  have sC : ∀ {kk : List (Option Vv) → List Vv → Option Vv → Mm → Prop}, chCall own lv cc nx (pc, op, a, b, cn, l') = true → (∀ ls st r σ, kk ls st r σ → XJ C p l e R s m args below meth c H0 ce sl Q nL σ0 nx ls (r.toList ++ st) σ) → (pN cn st [] fun as st => csum st ≤ 8 ∧ OkG (sgD (l'.headD 0)) 0 0 as σ (kk ls st)) → XJ C p l e R s m args below meth c H0 ce sl Q nL σ0 pc ls st σ := by
    intro kk hc hkk h
    simp only [chCall, Bool.and_eq_true, decide_eq_true_eq] at hc
    obtain ⟨⟨h1, h2, rfl⟩, h3⟩ := hc
    obtain ⟨g1, g2, -⟩ := sg_e h1
    by_cases h4 : l'.getD 2 0 = 1
    · rw [if_pos h4] at h3
      exact so_callSN F g1 (of_decide_eq_true h3) (g2 rfl) h2 hkk h
    · rw [if_neg h4] at h3
      exact so_callS F g1 (tb_at (of_decide_eq_true h3) rfl) (g2 rfl) h2 hkk h
  have sV : ∀ {kk : List (Option Vv) → List Vv → Option Vv → Mm → Prop}, chCallV own lv cc nx (pc, op, a, b, cn, l') = true → (∀ ls st r σ, kk ls st r σ → XJ C p l e R s m args below meth c H0 ce sl Q nL σ0 nx ls (r.toList ++ st) σ) → (pN cn st [] fun as st => csum st ≤ 8 ∧ hdCls (l'.getD 1 0) as ∧ OkG (sgD (l'.headD 0)) 0 0 as σ (kk ls st)) → XJ C p l e R s m args below meth c H0 ce sl Q nL σ0 pc ls st σ := by
    intro kk hc hkk h
    simp only [chCallV, Bool.and_eq_true, decide_eq_true_eq] at hc
    obtain ⟨h1, h2, h3, rfl, h4, h5⟩ := hc
    obtain ⟨g1, -, g2⟩ := sg_e h1
    obtain ⟨q, hq, hcl⟩ := Option.map_eq_some_iff.mp h4
    obtain ⟨n, rfl⟩ : ∃ n, cn = n + 1 := ⟨cn - 1, by omega⟩
    exact so_callV F g1 hq hcl (tb_at h5 rfl) (g2 rfl).1 (g2 rfl).2 h3 hkk h
  unfold chkI at hc
  dsimp only at hc
  split at hc
  · by_cases b0 : b = 0
    · rw [if_pos b0] at hc
      obtain ⟨d, rfl⟩ := of_decide_eq_true hc
      exact so_push (v := vI a) (u := .int (Int32.ofInt a)) (fun _ => rfl) (fun _ => trivial) (fun Ls H locs rest w => lv_iconst F.1.1 F.1.2 d rfl w) hk h
    rw [if_neg b0] at hc
    by_cases b1 : b = 1
    · rw [if_pos b1] at hc
      obtain ⟨d, e1, rfl⟩ := of_decide_eq_true hc
      exact so_push (v := vI a) (u := .int (Int32.ofInt a)) (fun _ => rfl) (fun _ => trivial) (fun Ls H locs rest w => lv_bipush F.1.1 F.1.2 d e1 w) hk h
    rw [if_neg b1] at hc
    by_cases b2 : b = 2
    · rw [if_pos b2] at hc
      obtain ⟨d, e1, rfl⟩ := of_decide_eq_true hc
      exact so_push (v := vI a) (u := .int (Int32.ofInt a)) (fun _ => rfl) (fun _ => trivial) (fun Ls H locs rest w => lv_sipush F.1.1 F.1.2 d e1 w) hk h
    rw [if_neg b2] at hc
    by_cases b3 : b = 3
    · rw [if_pos b3] at hc
      obtain ⟨d, e1, rfl⟩ := of_decide_eq_true hc
      exact so_push (v := vI a) (u := .int (Int32.ofInt a)) (fun _ => rfl) (fun _ => trivial) (fun Ls H locs rest w => lv_ldc F.1.1 F.1.2 F.2.1.2.1 (F.2.1.2.2.1 _ (tb_at e1 rfl)) d w) hk h
    rw [if_neg b3] at hc
    obtain ⟨d, e1, rfl⟩ := of_decide_eq_true hc
    exact so_push (v := vI a) (u := .int (Int32.ofInt a)) (fun _ => rfl) (fun _ => trivial) (fun Ls H locs rest w => lv_ldcw F.1.1 F.1.2 F.2.1.2.1 (F.2.1.2.2.1 _ (tb_at e1 rfl)) d w) hk h
  · by_cases b0 : b = 0
    · rw [if_pos b0] at hc
      obtain ⟨d, e1, rfl⟩ := of_decide_eq_true hc
      exact so_push (v := vG (Int64.ofInt a)) (u := .long (Int64.ofInt a)) (fun _ => rfl) (fun _ => trivial) (fun Ls H locs rest w => lv_lconst F.1.1 F.1.2 d e1 w) hk h
    rw [if_neg b0] at hc
    obtain ⟨d, e1, rfl⟩ := of_decide_eq_true hc
    exact so_push (v := vG (Int64.ofInt a)) (u := .long (Int64.ofInt a)) (fun _ => rfl) (fun _ => trivial) (fun Ls H locs rest w => lv_ldc2 F.1.1 F.1.2 F.2.1.2.1 (F.2.1.2.2.1 _ (tb_at e1 rfl)) d w) hk h
  · by_cases b1 : b = 1
    · rw [if_pos b1] at hc
      obtain ⟨d, e1, rfl⟩ := of_decide_eq_true hc
      exact so_iload_n F d e1 hk h
    · rw [if_neg b1] at hc
      obtain ⟨d, rfl⟩ := of_decide_eq_true hc
      exact so_iload F d hk h
  · by_cases b1 : b = 1
    · rw [if_pos b1] at hc
      obtain ⟨d, e1, rfl⟩ := of_decide_eq_true hc
      exact so_lload_n F d e1 hk h
    · rw [if_neg b1] at hc
      obtain ⟨d, rfl⟩ := of_decide_eq_true hc
      exact so_lload F d hk h
  · by_cases b1 : b = 1
    · rw [if_pos b1] at hc
      obtain ⟨d, e1, rfl⟩ := of_decide_eq_true hc
      exact so_aload_n F d e1 hk h
    · rw [if_neg b1] at hc
      obtain ⟨d, rfl⟩ := of_decide_eq_true hc
      exact so_aload F d hk h
  · by_cases b1 : b = 1
    · rw [if_pos b1] at hc
      obtain ⟨e0, d, e1, rfl⟩ := of_decide_eq_true hc
      exact so_istore_n F e0 d e1 hk h
    · rw [if_neg b1] at hc
      obtain ⟨e0, d, rfl⟩ := of_decide_eq_true hc
      exact so_istore F e0 d hk h
  · by_cases b1 : b = 1
    · rw [if_pos b1] at hc
      obtain ⟨e0, d, e1, rfl⟩ := of_decide_eq_true hc
      exact so_lstore_n F e0 d e1 hk h
    · rw [if_neg b1] at hc
      obtain ⟨e0, d, rfl⟩ := of_decide_eq_true hc
      exact so_lstore F e0 d hk h
  · by_cases b1 : b = 1
    · rw [if_pos b1] at hc
      obtain ⟨e0, d, e1, rfl⟩ := of_decide_eq_true hc
      exact so_astore_n F e0 d e1 hk h
    · rw [if_neg b1] at hc
      obtain ⟨e0, d, rfl⟩ := of_decide_eq_true hc
      exact so_astore F e0 d hk h
  · obtain ⟨e0, d, rfl⟩ := of_decide_eq_true hc
    exact so_iinc F e0 d hk h
  · obtain ⟨d, rfl⟩ := of_decide_eq_true hc
    exact so_iadd F d hk h
  · obtain ⟨d, rfl⟩ := of_decide_eq_true hc
    exact so_isub F d hk h
  · obtain ⟨d, rfl⟩ := of_decide_eq_true hc
    exact so_imul F d hk h
  · obtain ⟨d, rfl⟩ := of_decide_eq_true hc
    exact so_idiv F d hk h
  · obtain ⟨d, rfl⟩ := of_decide_eq_true hc
    exact so_irem F d hk h
  · obtain ⟨d, rfl⟩ := of_decide_eq_true hc
    exact so_iand F d hk h
  · obtain ⟨d, rfl⟩ := of_decide_eq_true hc
    exact so_ior F d hk h
  · obtain ⟨d, rfl⟩ := of_decide_eq_true hc
    exact so_ixor F d hk h
  · obtain ⟨d, rfl⟩ := of_decide_eq_true hc
    exact so_ishl F d hk h
  · obtain ⟨d, rfl⟩ := of_decide_eq_true hc
    exact so_ishr F d hk h
  · obtain ⟨d, rfl⟩ := of_decide_eq_true hc
    exact so_iushr F d hk h
  · obtain ⟨d, rfl⟩ := of_decide_eq_true hc
    exact so_ladd F d hk h
  · obtain ⟨d, rfl⟩ := of_decide_eq_true hc
    exact so_lsub F d hk h
  · obtain ⟨d, rfl⟩ := of_decide_eq_true hc
    exact so_lmul F d hk h
  · obtain ⟨d, rfl⟩ := of_decide_eq_true hc
    exact so_land F d hk h
  · obtain ⟨d, rfl⟩ := of_decide_eq_true hc
    exact so_lor F d hk h
  · obtain ⟨d, rfl⟩ := of_decide_eq_true hc
    exact so_lxor F d hk h
  · obtain ⟨d, rfl⟩ := of_decide_eq_true hc
    exact so_lshl F d hk h
  · obtain ⟨d, rfl⟩ := of_decide_eq_true hc
    exact so_lshr F d hk h
  · obtain ⟨d, rfl⟩ := of_decide_eq_true hc
    exact so_lushr F d hk h
  · obtain ⟨d, rfl⟩ := of_decide_eq_true hc
    exact so_i2l F d hk h
  · obtain ⟨d, rfl⟩ := of_decide_eq_true hc
    exact so_l2i F d hk h
  · obtain ⟨d, rfl⟩ := of_decide_eq_true hc
    exact so_lcmp F d hk h
  · obtain ⟨d, rfl⟩ := of_decide_eq_true hc
    exact so_dup F d hk h
  · obtain ⟨d, rfl⟩ := of_decide_eq_true hc
    exact so_dup2 F d hk h
  · simp only [Bool.and_eq_true, Bool.or_eq_true] at hc
    obtain ⟨hf, hd⟩ := hc
    obtain ⟨e0, d, rfl⟩ := of_decide_eq_true hd
    rcases hf with hf | hf
    · obtain ⟨q, hq, g1, g2, g3⟩ := chF_e hf
      exact so_getI F e0 hq g1 g2 (Or.inl rfl) g3 d hk h
    · obtain ⟨q, hq, g1, g2, g3⟩ := chF_e hf
      exact so_getI F e0 hq g1 g2 (Or.inr rfl) g3 d hk h
  · simp only [Bool.and_eq_true] at hc
    obtain ⟨hf, hd⟩ := hc
    obtain ⟨e0, d, rfl⟩ := of_decide_eq_true hd
    obtain ⟨q, hq, g1, g2, g3⟩ := chF_e hf
    exact so_getL F e0 hq g1 g2 rfl g3 d hk h
  · simp only [Bool.and_eq_true] at hc
    obtain ⟨hf, hd⟩ := hc
    obtain ⟨d, rfl⟩ := of_decide_eq_true hd
    obtain ⟨q, hq, g1, g2, g3⟩ := chF_e hf
    exact so_getR F hq g1 g2 (by decide) g3 d hk h
  · simp only [Bool.and_eq_true] at hc
    obtain ⟨hf, hd⟩ := hc
    obtain ⟨d, rfl⟩ := of_decide_eq_true hd
    obtain ⟨q, hq, g1, g2, g3⟩ := chF_e hf
    exact so_getR F hq g1 g2 (by decide) g3 d hk h
  · simp only [Bool.and_eq_true] at hc
    obtain ⟨hf, hd⟩ := hc
    obtain ⟨d, rfl⟩ := of_decide_eq_true hd
    obtain ⟨q, hq, g1, g2, g3⟩ := chF_e hf
    exact so_getR F hq g1 g2 (by decide) g3 d hk h
  · simp only [Bool.and_eq_true] at hc
    obtain ⟨hf, hd⟩ := hc
    obtain ⟨d, rfl⟩ := of_decide_eq_true hd
    obtain ⟨q, hq, g1, g2, g3⟩ := chF_e hf
    exact so_getR F hq g1 g2 (by decide) g3 d hk h
  · simp only [Bool.and_eq_true] at hc
    obtain ⟨⟨hf, hp⟩, hd⟩ := hc
    obtain ⟨e0, d, rfl⟩ := of_decide_eq_true hd
    obtain ⟨q, hq, g1, g2, g3⟩ := chF_e hf
    obtain ⟨p1, p2⟩ := chP_e hq hp
    exact so_putI F e0 hq g1 g2 rfl g3 p1 p2 d hk h
  · simp only [Bool.and_eq_true] at hc
    obtain ⟨⟨hf, hp⟩, hd⟩ := hc
    obtain ⟨e0, d, rfl⟩ := of_decide_eq_true hd
    obtain ⟨q, hq, g1, g2, g3⟩ := chF_e hf
    obtain ⟨p1, p2⟩ := chP_e hq hp
    exact so_putL F e0 hq g1 g2 rfl g3 p1 p2 d hk h
  · simp only [Bool.and_eq_true] at hc
    obtain ⟨⟨hf, hp⟩, hd⟩ := hc
    obtain ⟨e0, d, rfl⟩ := of_decide_eq_true hd
    obtain ⟨q, hq, g1, g2, g3⟩ := chF_e hf
    obtain ⟨p1, p2⟩ := chP_e hq hp
    exact so_putZ F e0 hq g1 g2 rfl g3 p1 p2 d hk h
  · obtain ⟨d, rfl⟩ := of_decide_eq_true hc
    exact so_iald F d hk h
  · obtain ⟨d, rfl⟩ := of_decide_eq_true hc
    exact so_zald F d hk h
  · obtain ⟨d, rfl⟩ := of_decide_eq_true hc
    exact so_lald F d hk h
  · obtain ⟨d, rfl⟩ := of_decide_eq_true hc
    exact so_aald F d hk h
  · obtain ⟨d, rfl⟩ := of_decide_eq_true hc
    exact so_iast F d hk h
  · obtain ⟨d, rfl⟩ := of_decide_eq_true hc
    exact so_zast F d hk h
  · obtain ⟨d, rfl⟩ := of_decide_eq_true hc
    exact so_last F d hk h
  · obtain ⟨d, rfl⟩ := of_decide_eq_true hc
    exact so_aast F d hk h
  · obtain ⟨d, rfl⟩ := of_decide_eq_true hc
    exact so_alen F d hk h
  · obtain ⟨e0, d, rfl⟩ := of_decide_eq_true hc
    have h : pI st fun x st => IR x ∧ (cmT a.toNat x 0 → J cn ls st σ) ∧ (cmF a.toNat x 0 → k ls st σ) := h
    have ht : ((pc : Nat) : Int) + ((bp cn : Int) - pc) = (bp cn : Int) := by omega
    rcases (show a.toNat = 0 ∨ a.toNat = 1 ∨ a.toNat = 2 ∨ a.toNat = 3 ∨ a.toNat = 4 ∨ a.toNat = 5 by omega) with q | q | q | q | q | q <;> rw [q] at d h
    · exact so_if_eq F d ht hk (hJ cn) h
    · exact so_if_ne F d ht hk (hJ cn) h
    · exact so_if_lt F d ht hk (hJ cn) h
    · exact so_if_ge F d ht hk (hJ cn) h
    · exact so_if_gt F d ht hk (hJ cn) h
    · exact so_if_le F d ht hk (hJ cn) h
  · obtain ⟨e0, d, rfl⟩ := of_decide_eq_true hc
    have h : pI st fun y st => pI st fun x st => (IR x ∧ IR y) ∧ (cmT a.toNat x y → J cn ls st σ) ∧ (cmF a.toNat x y → k ls st σ) := h
    have ht : ((pc : Nat) : Int) + ((bp cn : Int) - pc) = (bp cn : Int) := by omega
    rcases (show a.toNat = 0 ∨ a.toNat = 1 ∨ a.toNat = 2 ∨ a.toNat = 3 ∨ a.toNat = 4 ∨ a.toNat = 5 by omega) with q | q | q | q | q | q <;> rw [q] at d h
    · exact so_icmp_eq F d ht hk (hJ cn) h
    · exact so_icmp_ne F d ht hk (hJ cn) h
    · exact so_icmp_lt F d ht hk (hJ cn) h
    · exact so_icmp_ge F d ht hk (hJ cn) h
    · exact so_icmp_gt F d ht hk (hJ cn) h
    · exact so_icmp_le F d ht hk (hJ cn) h
  · have d := of_decide_eq_true hc
    exact so_goto F d (by omega) (hJ cn) h
  · have d := of_decide_eq_true hc
    have := hJ cn ls st σ h
    rw [d] at this
    exact this
  · obtain ⟨e0, d⟩ := of_decide_eq_true hc
    refine so_ts (dt := cn) F d (show ((pc : Nat) : Int) + ((bp cn : Int) - pc) = (bp cn : Int) by omega) (by simpa using e0) (fun i hi => ?_) hJ h
    simp at hi
    exact ⟨(bp l'[i] : Int) - pc, l'[i], by simp [hi], by simp [hi], by omega⟩
  · obtain ⟨d, e1⟩ := of_decide_eq_true hc
    obtain ⟨x, st, rfl, rfl, hq⟩ := pI_e h
    intro Ls H locs hL hw hH hS hE
    exact hR pc _ σ (Or.inl ⟨x, rfl, d, e1⟩) hq Ls H locs (fun v hv => by cases hv; trivial) hH hS hE
  · obtain ⟨d, e1⟩ := of_decide_eq_true hc
    obtain ⟨x, st, rfl, rfl, hx, hq⟩ := pI_e h
    intro Ls H locs hL hw hH hS hE
    exact hR pc _ σ (Or.inr (Or.inl ⟨x, hx, rfl, d, e1⟩)) hq Ls H locs (fun v hv => by cases hv; trivial) hH hS hE
  · obtain ⟨d, e1⟩ := of_decide_eq_true hc
    obtain ⟨x, st, rfl, rfl, hq⟩ := pG_e h
    intro Ls H locs hL hw hH hS hE
    exact hR pc _ σ (Or.inr (Or.inr (Or.inl ⟨x, rfl, d, e1⟩))) hq Ls H locs (fun v hv => by cases hv; trivial) hH hS hE
  · obtain ⟨r, j, st, rfl, rfl, hq⟩ := pR_e h
    simp only [Bool.or_eq_true] at hc
    have hrr : ∃ n, decode cc pc = .ok (.areturn, 1) ∧ ret = some (.object n) := by
      rcases hc with hc | hc
      · exact ⟨_, of_decide_eq_true hc⟩
      · exact ⟨_, of_decide_eq_true hc⟩
    obtain ⟨n, d, e1⟩ := hrr
    intro Ls H locs hL hw hH hS hE
    exact hR pc _ σ (Or.inr (Or.inr (Or.inr (Or.inl ⟨r, j, n, rfl, d, e1⟩)))) hq Ls H locs (fun v hv => by cases hv; exact hw.1 _ List.mem_cons_self) hH hS hE
  · obtain ⟨d, e1⟩ := of_decide_eq_true hc
    obtain ⟨rfl, hq⟩ := h
    intro Ls H locs hL hw hH hS hE
    exact hR pc _ σ (Or.inr (Or.inr (Or.inr (Or.inr ⟨rfl, d, e1⟩)))) hq Ls H locs (fun v hv => by cases hv) hH hS hE
  · exact sC (kk := (fun ls st r σ => ∃ x, r = some (vI x) ∧ ctI k ls st x σ)) hc (fun ls st r σ hr => by obtain ⟨x, rfl, hx⟩ := hr; exact hk _ _ _ hx) h
  · exact sC (kk := (fun ls st r σ => ∃ x, r = some (vG x) ∧ ctL k ls st x σ)) hc (fun ls st r σ hr => by obtain ⟨x, rfl, hx⟩ := hr; exact hk _ _ _ hx) h
  · exact sC (kk := (fun ls st r σ => ∃ (q : Nat) (j : Int), r = some (vR q j) ∧ ctR k ls st q j σ)) hc (fun ls st r σ hr => by obtain ⟨q, j, rfl, hx⟩ := hr; exact hk _ _ _ hx) h
  · exact sC (kk := (fun ls st r σ => r = none ∧ ctV k ls st σ)) hc (fun ls st r σ hr => by obtain ⟨rfl, hx⟩ := hr; exact hk _ _ _ hx) h
  · exact sV (kk := (fun ls st r σ => ∃ x, r = some (vI x) ∧ ctI k ls st x σ)) hc (fun ls st r σ hr => by obtain ⟨x, rfl, hx⟩ := hr; exact hk _ _ _ hx) h
  · exact sV (kk := (fun ls st r σ => ∃ x, r = some (vG x) ∧ ctL k ls st x σ)) hc (fun ls st r σ hr => by obtain ⟨x, rfl, hx⟩ := hr; exact hk _ _ _ hx) h
  · exact sV (kk := (fun ls st r σ => ∃ (q : Nat) (j : Int), r = some (vR q j) ∧ ctR k ls st q j σ)) hc (fun ls st r σ hr => by obtain ⟨q, j, rfl, hx⟩ := hr; exact hk _ _ _ hx) h
  · exact sV (kk := (fun ls st r σ => r = none ∧ ctV k ls st σ)) hc (fun ls st r σ hr => by obtain ⟨rfl, hx⟩ := hr; exact hk _ _ _ hx) h
  · obtain ⟨d, rfl, e1⟩ := of_decide_eq_true hc
    exact so_copy F (tb_at e1 rfl) sys_tb.1 sys_tb.2.1 sys_tb.2.2 d hk h
  · obtain ⟨d, rfl, e1⟩ := of_decide_eq_true hc
    exact so_min F (tb_at e1 rfl) min_tb.1 min_tb.2.1 min_tb.2.2 d hk h
  · obtain ⟨d, rfl, e1⟩ := of_decide_eq_true hc
    exact so_max F (tb_at e1 rfl) max_tb.1 max_tb.2.1 max_tb.2.2 d hk h
  · simp at hc
/-- a block -/
theorem chkL_sound (F : FX C p l R s m args c H0 ce sl nL cc own lv) {ret : Option FieldType} {bp : Nat → Nat} {J : Nat → Sx} {Qr : Option Vv → Mm → Prop} (hJ : ∀ b ls st σ, J b ls st σ → XJ C p l e R s m args below meth c H0 ce sl Q nL σ0 (bp b) ls st σ) (hR : ∀ pc ro σ, retOk ret cc pc ro → Qr ro σ → RJ C p l e R s m args below meth c H0 ce sl Q σ0 pc ro σ) :
    ∀ {t : List In}, chkL own nL lv ret cc bp t = true → ∀ ls st σ, xs J Qr t ls st σ → XJ C p l e R s m args below meth c H0 ce sl Q nL σ0 (pcOf t) ls st σ
  | [], _, _, _, _, h => h.elim
  | i :: t, hc, ls, st, σ, h => by
    simp only [chkL, Bool.and_eq_true] at hc
    exact chk1 F hc.1 (chkL_sound F hJ hR hc.2) hJ hR h
/-- the blocks of a method, checked -/
def chkB (own : String) (nL lv : Nat) (ret : Option FieldType) (cc : ByteArray) (B : List (List In)) : Bool := B.all fun t => chkL own nL lv ret cc (fun b => pcOf (B.getD (b % 1000) [])) t
theorem chkB_e {ret : Option FieldType} {B : List (List In)} (h : chkB own nL lv ret cc B = true) (b : Nat) : chkL own nL lv ret cc (fun b => pcOf (B.getD (b % 1000) [])) (B.getD b []) = true := by
  rw [List.getD_eq_getElem?_getD]
  cases hb : B[b]? with
  | none => rfl
  | some t => exact List.all_eq_true.mp h t (List.mem_of_getElem? hb)
theorem go_sound (F : FX C p l R s m args c H0 ce sl nL cc own lv) {ret : Option FieldType} {B : List (List In)} {K : Nat → Sx} {Qr : Option Vv → Mm → Prop} (hc : chkB own nL lv ret cc B = true) (hK : ∀ b ls st σ, 1000 ≤ b → K b ls st σ → XJ C p l e R s m args below meth c H0 ce sl Q nL σ0 (pcOf (B.getD (b % 1000) [])) ls st σ) (hR : ∀ pc ro σ, retOk ret cc pc ro → Qr ro σ → RJ C p l e R s m args below meth c H0 ce sl Q σ0 pc ro σ) :
    ∀ (f b : Nat) (ls : List (Option Vv)) (st : List Vv) (σ : Mm), go B K Qr f b ls st σ → XJ C p l e R s m args below meth c H0 ce sl Q nL σ0 (pcOf (B.getD (b % 1000) [])) ls st σ
  | 0, _, _, _, _, h => h.elim
  | f + 1, b, ls, st, σ, h => by
    by_cases hb : 1000 ≤ b
    · rw [go, if_pos hb] at h
      exact hK b ls st σ hb h
    · rw [go, if_neg hb] at h
      have := chkL_sound F (bp := fun b => pcOf (B.getD (b % 1000) [])) (go_sound F hc hK hR f) hR (chkB_e hc b) ls st σ h
      rw [Nat.mod_eq_of_lt (by omega)]
      exact this
end
