/-! soundness of the small machine: an instruction each -/
def wfs (σ : Mm) (ls : List (Option Vv)) (st : List Vv) : Prop := (∀ v ∈ st, wf σ v) ∧ ∀ (i : Nat) (v : Vv), ls[i]? = some (some v) → wf σ v
def XJ (C : Cx) (p : Program) (l : Launch) (e : Env) (R : Room) (s : State) (m : MethodId) (args : Array Value) (below : List Frame) (meth : Method) (c : Code) (H0 : Heap) (ce sl : Nat) (Q : State → Prop) (nL : Nat) (σ0 : Mm) (pc : Nat) : Sx := fun ls st σ =>
  ∀ (Ls : Array Slot) (H : Heap) (locs : List Loc), LR C σ Ls nL ls → wfs σ ls st → Hh C σ H → va_S (fun q => cBa C ≤ q) H0 H locs → Ext σ0 σ → W p l e R s m args below meth c H locs ce sl Q (F0 m pc Ls (st.map (up C σ)))
def FX (C : Cx) (p : Program) (l : Launch) (R : Room) (s : State) (m : MethodId) (args : Array Value) (c : Code) (H0 : Heap) (ce sl nL : Nat) (cc : ByteArray) (own : String) (lv : Nat) : Prop :=
  (p.tables.exec = Jvm.exec ∧ c.code = cc) ∧ (c.maxLocals = nL ∧ s.vm.findClass own = some m.cls ∧ (∀ w ∈ tbG, w.before args s = true) ∧ Kk C s) ∧ (va_X (cSc C) (cSl C) (cSx C) s H0 ∧ cSc C < cBa C ∧ cBa C ≤ H0.size) ∧ (1 ≤ lv ∧ lv ≤ R.frames ∧ 40 * lv ≤ R.locals) ∧ (ce ≤ R.cells ∧ sl ≤ R.slots) ∧ l = cLa C ∧ NwG s
theorem wfs_tl {σ : Mm} {ls : List (Option Vv)} {v : Vv} {st : List Vv} (h : wfs σ ls (v :: st)) : wfs σ ls st := ⟨fun w hw => h.1 w (List.mem_cons_of_mem _ hw), h.2⟩
theorem wfs_cons {σ : Mm} {ls : List (Option Vv)} {v : Vv} {st : List Vv} (h : wfs σ ls st) (hv : wf σ v) : wfs σ ls (v :: st) := ⟨fun w hw => by rcases List.mem_cons.mp hw with rfl | hw; exact hv; exact h.1 w hw, h.2⟩
theorem wfs_set1 {σ : Mm} {ls : List (Option Vv)} {v : Vv} {st : List Vv} {n : Nat} (h : wfs σ ls st) (hv : wf σ v) : wfs σ (set1 ls n v) st := ⟨h.1, fun i w hw => by rcases set1_e hw with ⟨-, rfl⟩ | ⟨-, h2, -⟩; exact hv; exact h.2 i w h2⟩
theorem wfs_set2 {σ : Mm} {ls : List (Option Vv)} {v : Vv} {st : List Vv} {n : Nat} (h : wfs σ ls st) (hv : wf σ v) : wfs σ (set2 ls n v) st := ⟨h.1, fun i w hw => by rcases set2_e hw with ⟨-, rfl⟩ | ⟨-, -, h2, -⟩; exact hv; exact h.2 i w h2⟩
section
variable {C : Cx} {p : Program} {l : Launch} {e : Env} {R : Room} {s : State} {m : MethodId} {args : Array Value} {below : List Frame} {meth : Method} {c : Code} {H0 : Heap} {ce sl : Nat} {Q : State → Prop} {σ0 : Mm} {nL lv : Nat} {cc : ByteArray} {own : String}

theorem so_push {pc n : Nat} {v : Vv} {u : Value} {k : Sx} (hu : ∀ σ, up C σ v = u) (hv : ∀ σ, wf σ v)
    (step : ∀ (Ls : Array Slot) (H : Heap) (locs : List Loc) (rest : List Value), W p l e R s m args below meth c H locs ce sl Q (F0 m (pc + n) Ls (u :: rest)) → W p l e R s m args below meth c H locs ce sl Q (F0 m pc Ls rest))
    (hk : ∀ ls st σ, k ls st σ → XJ C p l e R s m args below meth c H0 ce sl Q nL σ0 (pc + n) ls st σ) {ls : List (Option Vv)} {st : List Vv} {σ : Mm} (h : k ls (v :: st) σ) : XJ C p l e R s m args below meth c H0 ce sl Q nL σ0 pc ls st σ := by
  intro Ls H locs hL hw hH hS hE
  refine step Ls H locs _ ?_
  have := hk _ _ _ h Ls H locs hL (wfs_cons hw (hv σ)) hH hS hE
  rw [← hu σ]; exact this

theorem so_iadd (F : FX C p l R s m args c H0 ce sl nL cc own lv) {pc : Nat} {k : Sx} (d : decode cc pc = .ok (.iadd, 1)) (hk : ∀ ls st σ, k ls st σ → XJ C p l e R s m args below meth c H0 ce sl Q nL σ0 (pc + 1) ls st σ) {ls : List (Option Vv)} {st : List Vv} {σ : Mm}
    (h : pI st fun y st => pI st fun x st => k ls (vI (x + y) :: st) σ) : XJ C p l e R s m args below meth c H0 ce sl Q nL σ0 pc ls st σ := by
  obtain ⟨y, st1, rfl, ha⟩ := pI_e h
  obtain ⟨x, st, rfl, h⟩ := pI_e ha
  intro Ls H locs hL hw hH hS hE
  have k1 := hk _ _ _ h Ls H locs hL (wfs_cons (wfs_tl (wfs_tl hw)) trivial) hH hS hE
  rw [List.map_cons, show up C σ (vI (x + y)) = Value.int (Int32.ofInt (x + y)) from rfl, Int32.ofInt_add] at k1
  exact lv_iadd F.1.1 F.1.2 d k1

theorem so_isub (F : FX C p l R s m args c H0 ce sl nL cc own lv) {pc : Nat} {k : Sx} (d : decode cc pc = .ok (.isub, 1)) (hk : ∀ ls st σ, k ls st σ → XJ C p l e R s m args below meth c H0 ce sl Q nL σ0 (pc + 1) ls st σ) {ls : List (Option Vv)} {st : List Vv} {σ : Mm}
    (h : pI st fun y st => pI st fun x st => k ls (vI (x - y) :: st) σ) : XJ C p l e R s m args below meth c H0 ce sl Q nL σ0 pc ls st σ := by
  obtain ⟨y, st1, rfl, ha⟩ := pI_e h
  obtain ⟨x, st, rfl, h⟩ := pI_e ha
  intro Ls H locs hL hw hH hS hE
  have k1 := hk _ _ _ h Ls H locs hL (wfs_cons (wfs_tl (wfs_tl hw)) trivial) hH hS hE
  rw [List.map_cons, show up C σ (vI (x - y)) = Value.int (Int32.ofInt (x - y)) from rfl, Int32.ofInt_sub] at k1
  exact lv_isub F.1.1 F.1.2 d k1

theorem so_imul (F : FX C p l R s m args c H0 ce sl nL cc own lv) {pc : Nat} {k : Sx} (d : decode cc pc = .ok (.imul, 1)) (hk : ∀ ls st σ, k ls st σ → XJ C p l e R s m args below meth c H0 ce sl Q nL σ0 (pc + 1) ls st σ) {ls : List (Option Vv)} {st : List Vv} {σ : Mm}
    (h : pI st fun y st => pI st fun x st => k ls (vI (x * y) :: st) σ) : XJ C p l e R s m args below meth c H0 ce sl Q nL σ0 pc ls st σ := by
  obtain ⟨y, st1, rfl, ha⟩ := pI_e h
  obtain ⟨x, st, rfl, h⟩ := pI_e ha
  intro Ls H locs hL hw hH hS hE
  have k1 := hk _ _ _ h Ls H locs hL (wfs_cons (wfs_tl (wfs_tl hw)) trivial) hH hS hE
  rw [List.map_cons, show up C σ (vI (x * y)) = Value.int (Int32.ofInt (x * y)) from rfl, Int32.ofInt_mul] at k1
  exact lv_imul F.1.1 F.1.2 d k1

theorem so_iand (F : FX C p l R s m args c H0 ce sl nL cc own lv) {pc : Nat} {k : Sx} (d : decode cc pc = .ok (.iand, 1)) (hk : ∀ ls st σ, k ls st σ → XJ C p l e R s m args below meth c H0 ce sl Q nL σ0 (pc + 1) ls st σ) {ls : List (Option Vv)} {st : List Vv} {σ : Mm}
    (h : pI st fun y st => pI st fun x st => k ls (vI (jand x y) :: st) σ) : XJ C p l e R s m args below meth c H0 ce sl Q nL σ0 pc ls st σ := by
  obtain ⟨y, st1, rfl, ha⟩ := pI_e h
  obtain ⟨x, st, rfl, h⟩ := pI_e ha
  intro Ls H locs hL hw hH hS hE
  have k1 := hk _ _ _ h Ls H locs hL (wfs_cons (wfs_tl (wfs_tl hw)) trivial) hH hS hE
  rw [List.map_cons, show up C σ (vI (jand x y)) = Value.int (Int32.ofInt (jand x y)) from rfl, jand, ofInt_self] at k1
  exact lv_iand F.1.1 F.1.2 d k1

theorem so_ior (F : FX C p l R s m args c H0 ce sl nL cc own lv) {pc : Nat} {k : Sx} (d : decode cc pc = .ok (.ior, 1)) (hk : ∀ ls st σ, k ls st σ → XJ C p l e R s m args below meth c H0 ce sl Q nL σ0 (pc + 1) ls st σ) {ls : List (Option Vv)} {st : List Vv} {σ : Mm}
    (h : pI st fun y st => pI st fun x st => k ls (vI (jor x y) :: st) σ) : XJ C p l e R s m args below meth c H0 ce sl Q nL σ0 pc ls st σ := by
  obtain ⟨y, st1, rfl, ha⟩ := pI_e h
  obtain ⟨x, st, rfl, h⟩ := pI_e ha
  intro Ls H locs hL hw hH hS hE
  have k1 := hk _ _ _ h Ls H locs hL (wfs_cons (wfs_tl (wfs_tl hw)) trivial) hH hS hE
  rw [List.map_cons, show up C σ (vI (jor x y)) = Value.int (Int32.ofInt (jor x y)) from rfl, jor, ofInt_self] at k1
  exact lv_ior F.1.1 F.1.2 d k1

theorem so_ixor (F : FX C p l R s m args c H0 ce sl nL cc own lv) {pc : Nat} {k : Sx} (d : decode cc pc = .ok (.ixor, 1)) (hk : ∀ ls st σ, k ls st σ → XJ C p l e R s m args below meth c H0 ce sl Q nL σ0 (pc + 1) ls st σ) {ls : List (Option Vv)} {st : List Vv} {σ : Mm}
    (h : pI st fun y st => pI st fun x st => k ls (vI (jxor x y) :: st) σ) : XJ C p l e R s m args below meth c H0 ce sl Q nL σ0 pc ls st σ := by
  obtain ⟨y, st1, rfl, ha⟩ := pI_e h
  obtain ⟨x, st, rfl, h⟩ := pI_e ha
  intro Ls H locs hL hw hH hS hE
  have k1 := hk _ _ _ h Ls H locs hL (wfs_cons (wfs_tl (wfs_tl hw)) trivial) hH hS hE
  rw [List.map_cons, show up C σ (vI (jxor x y)) = Value.int (Int32.ofInt (jxor x y)) from rfl, jxor, ofInt_self] at k1
  exact lv_ixor F.1.1 F.1.2 d k1

theorem so_ishl (F : FX C p l R s m args c H0 ce sl nL cc own lv) {pc : Nat} {k : Sx} (d : decode cc pc = .ok (.ishl, 1)) (hk : ∀ ls st σ, k ls st σ → XJ C p l e R s m args below meth c H0 ce sl Q nL σ0 (pc + 1) ls st σ) {ls : List (Option Vv)} {st : List Vv} {σ : Mm}
    (h : pI st fun y st => pI st fun x st => k ls (vI (jshl x y) :: st) σ) : XJ C p l e R s m args below meth c H0 ce sl Q nL σ0 pc ls st σ := by
  obtain ⟨y, st1, rfl, ha⟩ := pI_e h
  obtain ⟨x, st, rfl, h⟩ := pI_e ha
  intro Ls H locs hL hw hH hS hE
  have k1 := hk _ _ _ h Ls H locs hL (wfs_cons (wfs_tl (wfs_tl hw)) trivial) hH hS hE
  rw [List.map_cons, show up C σ (vI (jshl x y)) = Value.int (Int32.ofInt (jshl x y)) from rfl, jshl, ofInt_self] at k1
  exact lv_ishl F.1.1 F.1.2 d k1

theorem so_ishr (F : FX C p l R s m args c H0 ce sl nL cc own lv) {pc : Nat} {k : Sx} (d : decode cc pc = .ok (.ishr, 1)) (hk : ∀ ls st σ, k ls st σ → XJ C p l e R s m args below meth c H0 ce sl Q nL σ0 (pc + 1) ls st σ) {ls : List (Option Vv)} {st : List Vv} {σ : Mm}
    (h : pI st fun y st => pI st fun x st => k ls (vI (jshr x y) :: st) σ) : XJ C p l e R s m args below meth c H0 ce sl Q nL σ0 pc ls st σ := by
  obtain ⟨y, st1, rfl, ha⟩ := pI_e h
  obtain ⟨x, st, rfl, h⟩ := pI_e ha
  intro Ls H locs hL hw hH hS hE
  have k1 := hk _ _ _ h Ls H locs hL (wfs_cons (wfs_tl (wfs_tl hw)) trivial) hH hS hE
  rw [List.map_cons, show up C σ (vI (jshr x y)) = Value.int (Int32.ofInt (jshr x y)) from rfl, jshr, ofInt_self] at k1
  exact lv_ishr F.1.1 F.1.2 d k1

theorem so_iushr (F : FX C p l R s m args c H0 ce sl nL cc own lv) {pc : Nat} {k : Sx} (d : decode cc pc = .ok (.iushr, 1)) (hk : ∀ ls st σ, k ls st σ → XJ C p l e R s m args below meth c H0 ce sl Q nL σ0 (pc + 1) ls st σ) {ls : List (Option Vv)} {st : List Vv} {σ : Mm}
    (h : pI st fun y st => pI st fun x st => k ls (vI (jushr x y) :: st) σ) : XJ C p l e R s m args below meth c H0 ce sl Q nL σ0 pc ls st σ := by
  obtain ⟨y, st1, rfl, ha⟩ := pI_e h
  obtain ⟨x, st, rfl, h⟩ := pI_e ha
  intro Ls H locs hL hw hH hS hE
  have k1 := hk _ _ _ h Ls H locs hL (wfs_cons (wfs_tl (wfs_tl hw)) trivial) hH hS hE
  rw [List.map_cons, show up C σ (vI (jushr x y)) = Value.int (Int32.ofInt (jushr x y)) from rfl, jushr, ofInt_self] at k1
  exact lv_iushr F.1.1 F.1.2 d rfl k1

theorem so_ladd (F : FX C p l R s m args c H0 ce sl nL cc own lv) {pc : Nat} {k : Sx} (d : decode cc pc = .ok (.ladd, 1)) (hk : ∀ ls st σ, k ls st σ → XJ C p l e R s m args below meth c H0 ce sl Q nL σ0 (pc + 1) ls st σ) {ls : List (Option Vv)} {st : List Vv} {σ : Mm}
    (h : pG st fun y st => pG st fun x st => k ls (vG (x + y) :: st) σ) : XJ C p l e R s m args below meth c H0 ce sl Q nL σ0 pc ls st σ := by
  obtain ⟨y, st1, rfl, ha⟩ := pG_e h
  obtain ⟨x, st, rfl, h⟩ := pG_e ha
  intro Ls H locs hL hw hH hS hE
  have k1 := hk _ _ _ h Ls H locs hL (wfs_cons (wfs_tl (wfs_tl hw)) trivial) hH hS hE
  exact lv_ladd F.1.1 F.1.2 d k1

theorem so_lsub (F : FX C p l R s m args c H0 ce sl nL cc own lv) {pc : Nat} {k : Sx} (d : decode cc pc = .ok (.lsub, 1)) (hk : ∀ ls st σ, k ls st σ → XJ C p l e R s m args below meth c H0 ce sl Q nL σ0 (pc + 1) ls st σ) {ls : List (Option Vv)} {st : List Vv} {σ : Mm}
    (h : pG st fun y st => pG st fun x st => k ls (vG (x - y) :: st) σ) : XJ C p l e R s m args below meth c H0 ce sl Q nL σ0 pc ls st σ := by
  obtain ⟨y, st1, rfl, ha⟩ := pG_e h
  obtain ⟨x, st, rfl, h⟩ := pG_e ha
  intro Ls H locs hL hw hH hS hE
  have k1 := hk _ _ _ h Ls H locs hL (wfs_cons (wfs_tl (wfs_tl hw)) trivial) hH hS hE
  exact lv_lsub F.1.1 F.1.2 d k1

theorem so_lmul (F : FX C p l R s m args c H0 ce sl nL cc own lv) {pc : Nat} {k : Sx} (d : decode cc pc = .ok (.lmul, 1)) (hk : ∀ ls st σ, k ls st σ → XJ C p l e R s m args below meth c H0 ce sl Q nL σ0 (pc + 1) ls st σ) {ls : List (Option Vv)} {st : List Vv} {σ : Mm}
    (h : pG st fun y st => pG st fun x st => k ls (vG (x * y) :: st) σ) : XJ C p l e R s m args below meth c H0 ce sl Q nL σ0 pc ls st σ := by
  obtain ⟨y, st1, rfl, ha⟩ := pG_e h
  obtain ⟨x, st, rfl, h⟩ := pG_e ha
  intro Ls H locs hL hw hH hS hE
  have k1 := hk _ _ _ h Ls H locs hL (wfs_cons (wfs_tl (wfs_tl hw)) trivial) hH hS hE
  exact lv_lmul F.1.1 F.1.2 d k1

theorem so_land (F : FX C p l R s m args c H0 ce sl nL cc own lv) {pc : Nat} {k : Sx} (d : decode cc pc = .ok (.land, 1)) (hk : ∀ ls st σ, k ls st σ → XJ C p l e R s m args below meth c H0 ce sl Q nL σ0 (pc + 1) ls st σ) {ls : List (Option Vv)} {st : List Vv} {σ : Mm}
    (h : pG st fun y st => pG st fun x st => k ls (vG (x &&& y) :: st) σ) : XJ C p l e R s m args below meth c H0 ce sl Q nL σ0 pc ls st σ := by
  obtain ⟨y, st1, rfl, ha⟩ := pG_e h
  obtain ⟨x, st, rfl, h⟩ := pG_e ha
  intro Ls H locs hL hw hH hS hE
  have k1 := hk _ _ _ h Ls H locs hL (wfs_cons (wfs_tl (wfs_tl hw)) trivial) hH hS hE
  exact lv_land F.1.1 F.1.2 d k1

theorem so_lor (F : FX C p l R s m args c H0 ce sl nL cc own lv) {pc : Nat} {k : Sx} (d : decode cc pc = .ok (.lor, 1)) (hk : ∀ ls st σ, k ls st σ → XJ C p l e R s m args below meth c H0 ce sl Q nL σ0 (pc + 1) ls st σ) {ls : List (Option Vv)} {st : List Vv} {σ : Mm}
    (h : pG st fun y st => pG st fun x st => k ls (vG (x ||| y) :: st) σ) : XJ C p l e R s m args below meth c H0 ce sl Q nL σ0 pc ls st σ := by
  obtain ⟨y, st1, rfl, ha⟩ := pG_e h
  obtain ⟨x, st, rfl, h⟩ := pG_e ha
  intro Ls H locs hL hw hH hS hE
  have k1 := hk _ _ _ h Ls H locs hL (wfs_cons (wfs_tl (wfs_tl hw)) trivial) hH hS hE
  exact lv_lor F.1.1 F.1.2 d k1

theorem so_lxor (F : FX C p l R s m args c H0 ce sl nL cc own lv) {pc : Nat} {k : Sx} (d : decode cc pc = .ok (.lxor, 1)) (hk : ∀ ls st σ, k ls st σ → XJ C p l e R s m args below meth c H0 ce sl Q nL σ0 (pc + 1) ls st σ) {ls : List (Option Vv)} {st : List Vv} {σ : Mm}
    (h : pG st fun y st => pG st fun x st => k ls (vG (x ^^^ y) :: st) σ) : XJ C p l e R s m args below meth c H0 ce sl Q nL σ0 pc ls st σ := by
  obtain ⟨y, st1, rfl, ha⟩ := pG_e h
  obtain ⟨x, st, rfl, h⟩ := pG_e ha
  intro Ls H locs hL hw hH hS hE
  have k1 := hk _ _ _ h Ls H locs hL (wfs_cons (wfs_tl (wfs_tl hw)) trivial) hH hS hE
  exact lv_lxor F.1.1 F.1.2 d k1

theorem so_lshl (F : FX C p l R s m args c H0 ce sl nL cc own lv) {pc : Nat} {k : Sx} (d : decode cc pc = .ok (.lshl, 1)) (hk : ∀ ls st σ, k ls st σ → XJ C p l e R s m args below meth c H0 ce sl Q nL σ0 (pc + 1) ls st σ) {ls : List (Option Vv)} {st : List Vv} {σ : Mm}
    (h : pI st fun y st => pG st fun x st => k ls (vG (qshl x y) :: st) σ) : XJ C p l e R s m args below meth c H0 ce sl Q nL σ0 pc ls st σ := by
  obtain ⟨y, st1, rfl, ha⟩ := pI_e h
  obtain ⟨x, st, rfl, h⟩ := pG_e ha
  intro Ls H locs hL hw hH hS hE
  have k1 := hk _ _ _ h Ls H locs hL (wfs_cons (wfs_tl (wfs_tl hw)) trivial) hH hS hE
  exact lv_lshl F.1.1 F.1.2 d rfl k1

theorem so_lshr (F : FX C p l R s m args c H0 ce sl nL cc own lv) {pc : Nat} {k : Sx} (d : decode cc pc = .ok (.lshr, 1)) (hk : ∀ ls st σ, k ls st σ → XJ C p l e R s m args below meth c H0 ce sl Q nL σ0 (pc + 1) ls st σ) {ls : List (Option Vv)} {st : List Vv} {σ : Mm}
    (h : pI st fun y st => pG st fun x st => k ls (vG (qshr x y) :: st) σ) : XJ C p l e R s m args below meth c H0 ce sl Q nL σ0 pc ls st σ := by
  obtain ⟨y, st1, rfl, ha⟩ := pI_e h
  obtain ⟨x, st, rfl, h⟩ := pG_e ha
  intro Ls H locs hL hw hH hS hE
  have k1 := hk _ _ _ h Ls H locs hL (wfs_cons (wfs_tl (wfs_tl hw)) trivial) hH hS hE
  exact lv_lshr F.1.1 F.1.2 d rfl k1

theorem so_lushr (F : FX C p l R s m args c H0 ce sl nL cc own lv) {pc : Nat} {k : Sx} (d : decode cc pc = .ok (.lushr, 1)) (hk : ∀ ls st σ, k ls st σ → XJ C p l e R s m args below meth c H0 ce sl Q nL σ0 (pc + 1) ls st σ) {ls : List (Option Vv)} {st : List Vv} {σ : Mm}
    (h : pI st fun y st => pG st fun x st => k ls (vG (qushr x y) :: st) σ) : XJ C p l e R s m args below meth c H0 ce sl Q nL σ0 pc ls st σ := by
  obtain ⟨y, st1, rfl, ha⟩ := pI_e h
  obtain ⟨x, st, rfl, h⟩ := pG_e ha
  intro Ls H locs hL hw hH hS hE
  have k1 := hk _ _ _ h Ls H locs hL (wfs_cons (wfs_tl (wfs_tl hw)) trivial) hH hS hE
  exact lv_lushr F.1.1 F.1.2 d rfl k1

theorem so_i2l (F : FX C p l R s m args c H0 ce sl nL cc own lv) {pc : Nat} {k : Sx} (d : decode cc pc = .ok (.i2l, 1)) (hk : ∀ ls st σ, k ls st σ → XJ C p l e R s m args below meth c H0 ce sl Q nL σ0 (pc + 1) ls st σ) {ls : List (Option Vv)} {st : List Vv} {σ : Mm}
    (h : pI st fun x st => IR x ∧ k ls (vG (Int64.ofInt x) :: st) σ) : XJ C p l e R s m args below meth c H0 ce sl Q nL σ0 pc ls st σ := by
  obtain ⟨x, st, rfl, hr, h⟩ := pI_e h
  intro Ls H locs hL hw hH hS hE
  have k1 := hk _ _ _ h Ls H locs hL (wfs_cons (wfs_tl hw) trivial) hH hS hE
  refine lv_i2l F.1.1 F.1.2 d ?_ k1
  apply Int64.toInt_inj.mp
  rw [Int32.toInt_toInt64, ir_toInt hr, Int64.toInt_ofInt]
  obtain ⟨h1, h2⟩ := hr
  show x = Int.bmod x 18446744073709551616
  rw [Int.bmod_eq_of_le (by omega) (by omega)]
theorem so_l2i (F : FX C p l R s m args c H0 ce sl nL cc own lv) {pc : Nat} {k : Sx} (d : decode cc pc = .ok (.l2i, 1)) (hk : ∀ ls st σ, k ls st σ → XJ C p l e R s m args below meth c H0 ce sl Q nL σ0 (pc + 1) ls st σ) {ls : List (Option Vv)} {st : List Vv} {σ : Mm}
    (h : pG st fun x st => k ls (vI x.toInt32.toInt :: st) σ) : XJ C p l e R s m args below meth c H0 ce sl Q nL σ0 pc ls st σ := by
  obtain ⟨x, st, rfl, h⟩ := pG_e h
  intro Ls H locs hL hw hH hS hE
  have k1 := hk _ _ _ h Ls H locs hL (wfs_cons (wfs_tl hw) trivial) hH hS hE
  refine lv_l2i F.1.1 F.1.2 d ?_ k1
  exact (ofInt_self _).symm
theorem so_lcmp (F : FX C p l R s m args c H0 ce sl nL cc own lv) {pc : Nat} {k : Sx} (d : decode cc pc = .ok (.lcmp, 1)) (hk : ∀ ls st σ, k ls st σ → XJ C p l e R s m args below meth c H0 ce sl Q nL σ0 (pc + 1) ls st σ) {ls : List (Option Vv)} {st : List Vv} {σ : Mm}
    (h : pG st fun y st => pG st fun x st => (x < y → k ls (vI (-1) :: st) σ) ∧ (x = y → k ls (vI 0 :: st) σ) ∧ (y < x → k ls (vI 1 :: st) σ)) : XJ C p l e R s m args below meth c H0 ce sl Q nL σ0 pc ls st σ := by
  obtain ⟨y, st1, rfl, ha⟩ := pG_e h
  obtain ⟨x, st, rfl, h1, h2, h3⟩ := pG_e ha
  intro Ls H locs hL hw hH hS hE
  refine W.lcmp F.1.1 F.1.2 d ?_
  unfold lg_cmp
  by_cases c1 : x > y
  · rw [if_pos c1]
    exact hk _ _ _ (h3 c1) Ls H locs hL (wfs_cons (wfs_tl (wfs_tl hw)) trivial) hH hS hE
  · rw [if_neg c1]
    by_cases c2 : x = y
    · rw [if_pos c2]
      exact hk _ _ _ (h2 c2) Ls H locs hL (wfs_cons (wfs_tl (wfs_tl hw)) trivial) hH hS hE
    · rw [if_neg c2]
      have c3 : x < y := by
        rcases Int64.lt_or_le x y with q | q
        · exact q
        · exact absurd (Int64.lt_of_le_of_ne q (Ne.symm c2)) c1
      exact hk _ _ _ (h1 c3) Ls H locs hL (wfs_cons (wfs_tl (wfs_tl hw)) trivial) hH hS hE

theorem so_iload_n (F : FX C p l R s m args c H0 ce sl nL cc own lv) {pc i : Nat} {k4 : Fin 4} {k : Sx} (d : decode cc pc = .ok (.iload_n k4, 1)) (hi : (k4 : Nat) = i) (hk : ∀ ls st σ, k ls st σ → XJ C p l e R s m args below meth c H0 ce sl Q nL σ0 (pc + 1) ls st σ) {ls : List (Option Vv)} {st : List Vv} {σ : Mm}
    (h : ldI ls i fun x => k ls (vI x :: st) σ) : XJ C p l e R s m args below meth c H0 ce sl Q nL σ0 pc ls st σ := by
  obtain ⟨x, hx, h⟩ := ldI_e h
  intro Ls H locs hL hw hH hS hE
  have k1 := hk _ _ _ h Ls H locs hL (wfs_cons hw trivial) hH hS hE
  exact lv_iload_n F.1.1 F.1.2 d hi (hL.2.2 _ _ hx) k1

theorem so_iload (F : FX C p l R s m args c H0 ce sl nL cc own lv) {pc i : Nat} {k : Sx} (d : decode cc pc = .ok (.iload i, 2)) (hk : ∀ ls st σ, k ls st σ → XJ C p l e R s m args below meth c H0 ce sl Q nL σ0 (pc + 2) ls st σ) {ls : List (Option Vv)} {st : List Vv} {σ : Mm}
    (h : ldI ls i fun x => k ls (vI x :: st) σ) : XJ C p l e R s m args below meth c H0 ce sl Q nL σ0 pc ls st σ := by
  obtain ⟨x, hx, h⟩ := ldI_e h
  intro Ls H locs hL hw hH hS hE
  have k1 := hk _ _ _ h Ls H locs hL (wfs_cons hw trivial) hH hS hE
  exact lv_iload F.1.1 F.1.2 d (hL.2.2 _ _ hx) k1

theorem so_lload_n (F : FX C p l R s m args c H0 ce sl nL cc own lv) {pc i : Nat} {k4 : Fin 4} {k : Sx} (d : decode cc pc = .ok (.lload_n k4, 1)) (hi : (k4 : Nat) = i) (hk : ∀ ls st σ, k ls st σ → XJ C p l e R s m args below meth c H0 ce sl Q nL σ0 (pc + 1) ls st σ) {ls : List (Option Vv)} {st : List Vv} {σ : Mm}
    (h : ldG ls i fun x => k ls (vG x :: st) σ) : XJ C p l e R s m args below meth c H0 ce sl Q nL σ0 pc ls st σ := by
  obtain ⟨x, hx, h⟩ := ldG_e h
  intro Ls H locs hL hw hH hS hE
  have k1 := hk _ _ _ h Ls H locs hL (wfs_cons hw trivial) hH hS hE
  exact lv_lload_n F.1.1 F.1.2 d hi (hL.2.2 _ _ hx) k1

theorem so_lload (F : FX C p l R s m args c H0 ce sl nL cc own lv) {pc i : Nat} {k : Sx} (d : decode cc pc = .ok (.lload i, 2)) (hk : ∀ ls st σ, k ls st σ → XJ C p l e R s m args below meth c H0 ce sl Q nL σ0 (pc + 2) ls st σ) {ls : List (Option Vv)} {st : List Vv} {σ : Mm}
    (h : ldG ls i fun x => k ls (vG x :: st) σ) : XJ C p l e R s m args below meth c H0 ce sl Q nL σ0 pc ls st σ := by
  obtain ⟨x, hx, h⟩ := ldG_e h
  intro Ls H locs hL hw hH hS hE
  have k1 := hk _ _ _ h Ls H locs hL (wfs_cons hw trivial) hH hS hE
  exact lv_lload F.1.1 F.1.2 d (hL.2.2 _ _ hx) k1

theorem so_aload_n (F : FX C p l R s m args c H0 ce sl nL cc own lv) {pc i : Nat} {k4 : Fin 4} {k : Sx} (d : decode cc pc = .ok (.aload_n k4, 1)) (hi : (k4 : Nat) = i) (hk : ∀ ls st σ, k ls st σ → XJ C p l e R s m args below meth c H0 ce sl Q nL σ0 (pc + 1) ls st σ) {ls : List (Option Vv)} {st : List Vv} {σ : Mm}
    (h : ldR ls i fun r j => k ls (vR r j :: st) σ) : XJ C p l e R s m args below meth c H0 ce sl Q nL σ0 pc ls st σ := by
  obtain ⟨r, j, hx, h⟩ := ldR_e h
  intro Ls H locs hL hw hH hS hE
  have k1 := hk _ _ _ h Ls H locs hL (wfs_cons hw (hw.2 _ _ hx)) hH hS hE
  exact lv_aload_n F.1.1 F.1.2 d hi (hL.2.2 _ _ hx) k1

theorem so_aload (F : FX C p l R s m args c H0 ce sl nL cc own lv) {pc i : Nat} {k : Sx} (d : decode cc pc = .ok (.aload i, 2)) (hk : ∀ ls st σ, k ls st σ → XJ C p l e R s m args below meth c H0 ce sl Q nL σ0 (pc + 2) ls st σ) {ls : List (Option Vv)} {st : List Vv} {σ : Mm}
    (h : ldR ls i fun r j => k ls (vR r j :: st) σ) : XJ C p l e R s m args below meth c H0 ce sl Q nL σ0 pc ls st σ := by
  obtain ⟨r, j, hx, h⟩ := ldR_e h
  intro Ls H locs hL hw hH hS hE
  have k1 := hk _ _ _ h Ls H locs hL (wfs_cons hw (hw.2 _ _ hx)) hH hS hE
  exact lv_aload F.1.1 F.1.2 d (hL.2.2 _ _ hx) k1

theorem so_istore_n (F : FX C p l R s m args c H0 ce sl nL cc own lv) {pc i : Nat} {k4 : Fin 4} {k : Sx} (hn : i < nL) (d : decode cc pc = .ok (.istore_n k4, 1)) (hi : (k4 : Nat) = i) (hk : ∀ ls st σ, k ls st σ → XJ C p l e R s m args below meth c H0 ce sl Q nL σ0 (pc + 1) ls st σ) {ls : List (Option Vv)} {st : List Vv} {σ : Mm}
    (h : pI st fun x st => stK ls i (vI x) [] fun ls => k ls st σ) : XJ C p l e R s m args below meth c H0 ce sl Q nL σ0 pc ls st σ := by
  obtain ⟨x, st, rfl, h⟩ := pI_e h
  intro Ls H locs hL hw hH hS hE
  refine lv_istore_n (nL := nL) F.1.1 F.1.2 d hi hL.has hn rfl (fun Ls' h' => ?_)
  exact hk _ _ _ h Ls' H locs (LR.set1 (v := vI x) h') (wfs_set1 (wfs_tl hw) trivial) hH hS hE

theorem so_istore (F : FX C p l R s m args c H0 ce sl nL cc own lv) {pc i : Nat} {k : Sx} (hn : i < nL) (d : decode cc pc = .ok (.istore i, 2)) (hk : ∀ ls st σ, k ls st σ → XJ C p l e R s m args below meth c H0 ce sl Q nL σ0 (pc + 2) ls st σ) {ls : List (Option Vv)} {st : List Vv} {σ : Mm}
    (h : pI st fun x st => stK ls i (vI x) [] fun ls => k ls st σ) : XJ C p l e R s m args below meth c H0 ce sl Q nL σ0 pc ls st σ := by
  obtain ⟨x, st, rfl, h⟩ := pI_e h
  intro Ls H locs hL hw hH hS hE
  refine lv_istore (nL := nL) F.1.1 F.1.2 d hL.has hn rfl (fun Ls' h' => ?_)
  exact hk _ _ _ h Ls' H locs (LR.set1 (v := vI x) h') (wfs_set1 (wfs_tl hw) trivial) hH hS hE

theorem so_lstore_n (F : FX C p l R s m args c H0 ce sl nL cc own lv) {pc i : Nat} {k4 : Fin 4} {k : Sx} (hn : i + 1 < nL) (d : decode cc pc = .ok (.lstore_n k4, 1)) (hi : (k4 : Nat) = i) (hk : ∀ ls st σ, k ls st σ → XJ C p l e R s m args below meth c H0 ce sl Q nL σ0 (pc + 1) ls st σ) {ls : List (Option Vv)} {st : List Vv} {σ : Mm}
    (h : pG st fun x st => stK2 ls i (vG x) [] fun ls => k ls st σ) : XJ C p l e R s m args below meth c H0 ce sl Q nL σ0 pc ls st σ := by
  obtain ⟨x, st, rfl, h⟩ := pG_e h
  intro Ls H locs hL hw hH hS hE
  refine lv_lstore_n (nL := nL) F.1.1 F.1.2 d hi hL.has hn rfl (fun Ls' h' => ?_)
  exact hk _ _ _ h Ls' H locs (LR.set2 (v := vG x) h') (wfs_set2 (wfs_tl hw) trivial) hH hS hE

theorem so_lstore (F : FX C p l R s m args c H0 ce sl nL cc own lv) {pc i : Nat} {k : Sx} (hn : i + 1 < nL) (d : decode cc pc = .ok (.lstore i, 2)) (hk : ∀ ls st σ, k ls st σ → XJ C p l e R s m args below meth c H0 ce sl Q nL σ0 (pc + 2) ls st σ) {ls : List (Option Vv)} {st : List Vv} {σ : Mm}
    (h : pG st fun x st => stK2 ls i (vG x) [] fun ls => k ls st σ) : XJ C p l e R s m args below meth c H0 ce sl Q nL σ0 pc ls st σ := by
  obtain ⟨x, st, rfl, h⟩ := pG_e h
  intro Ls H locs hL hw hH hS hE
  refine lv_lstore (nL := nL) F.1.1 F.1.2 d hL.has hn rfl (fun Ls' h' => ?_)
  exact hk _ _ _ h Ls' H locs (LR.set2 (v := vG x) h') (wfs_set2 (wfs_tl hw) trivial) hH hS hE

theorem so_astore_n (F : FX C p l R s m args c H0 ce sl nL cc own lv) {pc i : Nat} {k4 : Fin 4} {k : Sx} (hn : i < nL) (d : decode cc pc = .ok (.astore_n k4, 1)) (hi : (k4 : Nat) = i) (hk : ∀ ls st σ, k ls st σ → XJ C p l e R s m args below meth c H0 ce sl Q nL σ0 (pc + 1) ls st σ) {ls : List (Option Vv)} {st : List Vv} {σ : Mm}
    (h : pR st fun r j st => stK ls i (vR r j) [] fun ls => k ls st σ) : XJ C p l e R s m args below meth c H0 ce sl Q nL σ0 pc ls st σ := by
  obtain ⟨r, j, st, rfl, h⟩ := pR_e h
  intro Ls H locs hL hw hH hS hE
  refine lv_astore_n (nL := nL) F.1.1 F.1.2 d hi hL.has hn rfl (fun Ls' h' => ?_)
  exact hk _ _ _ h Ls' H locs (LR.set1 (v := vR r j) h') (wfs_set1 (wfs_tl hw) (hw.1 _ List.mem_cons_self)) hH hS hE

theorem so_astore (F : FX C p l R s m args c H0 ce sl nL cc own lv) {pc i : Nat} {k : Sx} (hn : i < nL) (d : decode cc pc = .ok (.astore i, 2)) (hk : ∀ ls st σ, k ls st σ → XJ C p l e R s m args below meth c H0 ce sl Q nL σ0 (pc + 2) ls st σ) {ls : List (Option Vv)} {st : List Vv} {σ : Mm}
    (h : pR st fun r j st => stK ls i (vR r j) [] fun ls => k ls st σ) : XJ C p l e R s m args below meth c H0 ce sl Q nL σ0 pc ls st σ := by
  obtain ⟨r, j, st, rfl, h⟩ := pR_e h
  intro Ls H locs hL hw hH hS hE
  refine lv_astore (nL := nL) F.1.1 F.1.2 d hL.has hn rfl (fun Ls' h' => ?_)
  exact hk _ _ _ h Ls' H locs (LR.set1 (v := vR r j) h') (wfs_set1 (wfs_tl hw) (hw.1 _ List.mem_cons_self)) hH hS hE

theorem so_iinc (F : FX C p l R s m args c H0 ce sl nL cc own lv) {pc i : Nat} {n : Int} {k : Sx} (hn : i < nL) (d : decode cc pc = .ok (.iinc i n, 3)) (hk : ∀ ls st σ, k ls st σ → XJ C p l e R s m args below meth c H0 ce sl Q nL σ0 (pc + 3) ls st σ) {ls : List (Option Vv)} {st : List Vv} {σ : Mm}
    (h : ldI ls i fun x => stK ls i (vI (x + n)) [] fun ls => k ls st σ) : XJ C p l e R s m args below meth c H0 ce sl Q nL σ0 pc ls st σ := by
  obtain ⟨x, hx, h⟩ := ldI_e h
  intro Ls H locs hL hw hH hS hE
  obtain ⟨q, hq⟩ := List.getElem?_of_mem (asl_mem.mpr ⟨vI x, hx, rfl⟩ : (i, up C σ (vI x)) ∈ asl C σ ls)
  refine lv_iinc (nL := nL) (v := Int32.ofInt (x + n)) F.1.1 F.1.2 d hL.has hq (Int32.ofInt_add x n).symm hn rfl (fun Ls' h' => ?_)
  exact hk _ _ _ h Ls' H locs (LR.set1 (v := vI (x + n)) h') (wfs_set1 hw trivial) hH hS hE
theorem so_dup (F : FX C p l R s m args c H0 ce sl nL cc own lv) {pc : Nat} {k : Sx} (d : decode cc pc = .ok (.dup, 1)) (hk : ∀ ls st σ, k ls st σ → XJ C p l e R s m args below meth c H0 ce sl Q nL σ0 (pc + 1) ls st σ) {ls : List (Option Vv)} {st : List Vv} {σ : Mm}
    (h : (match st with
    | .inl x :: st => k ls (vI x :: vI x :: st) σ
    | .inr (.inr (r, j)) :: st => k ls (vR r j :: vR r j :: st) σ
    | _ => False)) : XJ C p l e R s m args below meth c H0 ce sl Q nL σ0 pc ls st σ := by
  match st, h with
  | .inl x :: st, h =>
    intro Ls H locs hL hw hH hS hE
    exact lv_dup F.1.1 F.1.2 d rfl (hk _ _ _ h Ls H locs hL (wfs_cons hw trivial) hH hS hE)
  | .inr (.inr (r, j)) :: st, h =>
    intro Ls H locs hL hw hH hS hE
    exact lv_dup F.1.1 F.1.2 d rfl (hk _ _ _ h Ls H locs hL (wfs_cons hw (hw.1 _ List.mem_cons_self)) hH hS hE)
theorem so_dup2 (F : FX C p l R s m args c H0 ce sl nL cc own lv) {pc : Nat} {k : Sx} (d : decode cc pc = .ok (.dup2, 1)) (hk : ∀ ls st σ, k ls st σ → XJ C p l e R s m args below meth c H0 ce sl Q nL σ0 (pc + 1) ls st σ) {ls : List (Option Vv)} {st : List Vv} {σ : Mm}
    (h : (match st with
    | .inl x :: .inr (.inr (r, j)) :: st => k ls (vI x :: vR r j :: vI x :: vR r j :: st) σ
    | _ => False)) : XJ C p l e R s m args below meth c H0 ce sl Q nL σ0 pc ls st σ := by
  match st, h with
  | .inl x :: .inr (.inr (r, j)) :: st, h =>
    intro Ls H locs hL hw hH hS hE
    exact lv_dup2_11 F.1.1 F.1.2 d rfl rfl (hk _ _ _ h Ls H locs hL (wfs_cons (wfs_cons hw (hw.1 _ (List.mem_cons_of_mem _ List.mem_cons_self))) trivial) hH hS hE)
theorem jdiv {x y : Int} (hx : 0 ≤ x ∧ x ≤ 2147483647 ∧ 0 < y ∧ y ≤ 2147483647) : ¬ Int32.ofInt y = 0 ∧ Int32.ofInt x / Int32.ofInt y = Int32.ofInt (x / y) ∧ Int32.ofInt x - Int32.ofInt x / Int32.ofInt y * Int32.ofInt y = Int32.ofInt (x % y) := by
  obtain ⟨h1, h2, h3, h4⟩ := hx
  obtain ⟨a, rfl⟩ := Int.eq_ofNat_of_zero_le h1
  obtain ⟨b, rfl⟩ := Int.eq_ofNat_of_zero_le (Int.le_of_lt h3)
  have e : ∀ n : Nat, Int32.ofInt (n : Int) = nI n := fun n => Int32.ofInt_eq_ofNat
  rw [← Int.natCast_ediv, ← Int.natCast_emod, e, e, e, e]
  exact ⟨nI_ne0 (by omega) (by omega), pk_div (by omega) (by omega) (by omega), pk_rem (by omega) (by omega) (by omega)⟩
theorem so_idiv (F : FX C p l R s m args c H0 ce sl nL cc own lv) {pc : Nat} {k : Sx} (d : decode cc pc = .ok (.idiv, 1)) (hk : ∀ ls st σ, k ls st σ → XJ C p l e R s m args below meth c H0 ce sl Q nL σ0 (pc + 1) ls st σ) {ls : List (Option Vv)} {st : List Vv} {σ : Mm}
    (h : pI st fun y st => pI st fun x st => (0 ≤ x ∧ x ≤ 2147483647 ∧ 0 < y ∧ y ≤ 2147483647) ∧ k ls (vI (x / y) :: st) σ) : XJ C p l e R s m args below meth c H0 ce sl Q nL σ0 pc ls st σ := by
  obtain ⟨y, st1, rfl, ha⟩ := pI_e h
  obtain ⟨x, st, rfl, hx, h⟩ := pI_e ha
  intro Ls H locs hL hw hH hS hE
  have k1 := hk _ _ _ h Ls H locs hL (wfs_cons (wfs_tl (wfs_tl hw)) trivial) hH hS hE
  rw [List.map_cons, show up C σ (vI (x / y)) = Value.int (Int32.ofInt (x / y)) from rfl, ← (jdiv hx).2.1] at k1
  exact lv_idiv F.1.1 F.1.2 d (jdiv hx).1 k1
theorem so_irem (F : FX C p l R s m args c H0 ce sl nL cc own lv) {pc : Nat} {k : Sx} (d : decode cc pc = .ok (.irem, 1)) (hk : ∀ ls st σ, k ls st σ → XJ C p l e R s m args below meth c H0 ce sl Q nL σ0 (pc + 1) ls st σ) {ls : List (Option Vv)} {st : List Vv} {σ : Mm}
    (h : pI st fun y st => pI st fun x st => (0 ≤ x ∧ x ≤ 2147483647 ∧ 0 < y ∧ y ≤ 2147483647) ∧ k ls (vI (x % y) :: st) σ) : XJ C p l e R s m args below meth c H0 ce sl Q nL σ0 pc ls st σ := by
  obtain ⟨y, st1, rfl, ha⟩ := pI_e h
  obtain ⟨x, st, rfl, hx, h⟩ := pI_e ha
  intro Ls H locs hL hw hH hS hE
  have k1 := hk _ _ _ h Ls H locs hL (wfs_cons (wfs_tl (wfs_tl hw)) trivial) hH hS hE
  rw [List.map_cons, show up C σ (vI (x % y)) = Value.int (Int32.ofInt (x % y)) from rfl, ← (jdiv hx).2.2] at k1
  exact lv_irem F.1.1 F.1.2 d (jdiv hx).1 k1

theorem so_if_eq (F : FX C p l R s m args c H0 ce sl nL cc own lv) {pc tgt : Nat} {off : Int} {k T : Sx} (d : decode cc pc = .ok (.ifCond .eq off, 3)) (ht : (pc : Int) + off = (tgt : Int)) (hk : ∀ ls st σ, k ls st σ → XJ C p l e R s m args below meth c H0 ce sl Q nL σ0 (pc + 3) ls st σ) (hT : ∀ ls st σ, T ls st σ → XJ C p l e R s m args below meth c H0 ce sl Q nL σ0 tgt ls st σ) {ls : List (Option Vv)} {st : List Vv} {σ : Mm}
    (h : pI st fun x st => IR x ∧ (cmT 0 x 0 → T ls st σ) ∧ (cmF 0 x 0 → k ls st σ)) : XJ C p l e R s m args below meth c H0 ce sl Q nL σ0 pc ls st σ := by
  obtain ⟨x, st, rfl, hx, h1, h2⟩ := pI_e h
  have hy : IR 0 := ir_0
  intro Ls H locs hL hw hH hS hE
  refine lv_if_eq F.1.1 F.1.2 d ht (fun q => ?_) (fun q => ?_)
  · exact hT _ _ _ (h1 ((ir_eq hx hy).mp q)) Ls H locs hL (wfs_tl hw) hH hS hE
  · exact hk _ _ _ (h2 (fun z => q ((ir_eq hx hy).mpr z))) Ls H locs hL (wfs_tl hw) hH hS hE

theorem so_if_ne (F : FX C p l R s m args c H0 ce sl nL cc own lv) {pc tgt : Nat} {off : Int} {k T : Sx} (d : decode cc pc = .ok (.ifCond .ne off, 3)) (ht : (pc : Int) + off = (tgt : Int)) (hk : ∀ ls st σ, k ls st σ → XJ C p l e R s m args below meth c H0 ce sl Q nL σ0 (pc + 3) ls st σ) (hT : ∀ ls st σ, T ls st σ → XJ C p l e R s m args below meth c H0 ce sl Q nL σ0 tgt ls st σ) {ls : List (Option Vv)} {st : List Vv} {σ : Mm}
    (h : pI st fun x st => IR x ∧ (cmT 1 x 0 → T ls st σ) ∧ (cmF 1 x 0 → k ls st σ)) : XJ C p l e R s m args below meth c H0 ce sl Q nL σ0 pc ls st σ := by
  obtain ⟨x, st, rfl, hx, h1, h2⟩ := pI_e h
  have hy : IR 0 := ir_0
  intro Ls H locs hL hw hH hS hE
  refine lv_if_ne F.1.1 F.1.2 d ht (fun q => ?_) (fun q => ?_)
  · exact hT _ _ _ (h1 (fun z => q ((ir_eq hx hy).mpr z))) Ls H locs hL (wfs_tl hw) hH hS hE
  · exact hk _ _ _ (h2 ((ir_eq hx hy).mp q)) Ls H locs hL (wfs_tl hw) hH hS hE

theorem so_if_lt (F : FX C p l R s m args c H0 ce sl nL cc own lv) {pc tgt : Nat} {off : Int} {k T : Sx} (d : decode cc pc = .ok (.ifCond .lt off, 3)) (ht : (pc : Int) + off = (tgt : Int)) (hk : ∀ ls st σ, k ls st σ → XJ C p l e R s m args below meth c H0 ce sl Q nL σ0 (pc + 3) ls st σ) (hT : ∀ ls st σ, T ls st σ → XJ C p l e R s m args below meth c H0 ce sl Q nL σ0 tgt ls st σ) {ls : List (Option Vv)} {st : List Vv} {σ : Mm}
    (h : pI st fun x st => IR x ∧ (cmT 2 x 0 → T ls st σ) ∧ (cmF 2 x 0 → k ls st σ)) : XJ C p l e R s m args below meth c H0 ce sl Q nL σ0 pc ls st σ := by
  obtain ⟨x, st, rfl, hx, h1, h2⟩ := pI_e h
  have hy : IR 0 := ir_0
  intro Ls H locs hL hw hH hS hE
  refine lv_if_lt F.1.1 F.1.2 d ht (fun q => ?_) (fun q => ?_)
  · exact hT _ _ _ (h1 ((ir_lt hx hy).mp q)) Ls H locs hL (wfs_tl hw) hH hS hE
  · exact hk _ _ _ (h2 (Int.not_lt.mp fun z => q ((ir_lt hx hy).mpr z))) Ls H locs hL (wfs_tl hw) hH hS hE

theorem so_if_ge (F : FX C p l R s m args c H0 ce sl nL cc own lv) {pc tgt : Nat} {off : Int} {k T : Sx} (d : decode cc pc = .ok (.ifCond .ge off, 3)) (ht : (pc : Int) + off = (tgt : Int)) (hk : ∀ ls st σ, k ls st σ → XJ C p l e R s m args below meth c H0 ce sl Q nL σ0 (pc + 3) ls st σ) (hT : ∀ ls st σ, T ls st σ → XJ C p l e R s m args below meth c H0 ce sl Q nL σ0 tgt ls st σ) {ls : List (Option Vv)} {st : List Vv} {σ : Mm}
    (h : pI st fun x st => IR x ∧ (cmT 3 x 0 → T ls st σ) ∧ (cmF 3 x 0 → k ls st σ)) : XJ C p l e R s m args below meth c H0 ce sl Q nL σ0 pc ls st σ := by
  obtain ⟨x, st, rfl, hx, h1, h2⟩ := pI_e h
  have hy : IR 0 := ir_0
  intro Ls H locs hL hw hH hS hE
  refine lv_if_ge F.1.1 F.1.2 d ht (fun q => ?_) (fun q => ?_)
  · exact hT _ _ _ (h1 ((ir_le hy hx).mp q)) Ls H locs hL (wfs_tl hw) hH hS hE
  · exact hk _ _ _ (h2 (Int.not_le.mp fun z => q ((ir_le hy hx).mpr z))) Ls H locs hL (wfs_tl hw) hH hS hE

theorem so_if_gt (F : FX C p l R s m args c H0 ce sl nL cc own lv) {pc tgt : Nat} {off : Int} {k T : Sx} (d : decode cc pc = .ok (.ifCond .gt off, 3)) (ht : (pc : Int) + off = (tgt : Int)) (hk : ∀ ls st σ, k ls st σ → XJ C p l e R s m args below meth c H0 ce sl Q nL σ0 (pc + 3) ls st σ) (hT : ∀ ls st σ, T ls st σ → XJ C p l e R s m args below meth c H0 ce sl Q nL σ0 tgt ls st σ) {ls : List (Option Vv)} {st : List Vv} {σ : Mm}
    (h : pI st fun x st => IR x ∧ (cmT 4 x 0 → T ls st σ) ∧ (cmF 4 x 0 → k ls st σ)) : XJ C p l e R s m args below meth c H0 ce sl Q nL σ0 pc ls st σ := by
  obtain ⟨x, st, rfl, hx, h1, h2⟩ := pI_e h
  have hy : IR 0 := ir_0
  intro Ls H locs hL hw hH hS hE
  refine lv_if_gt F.1.1 F.1.2 d ht (fun q => ?_) (fun q => ?_)
  · exact hT _ _ _ (h1 ((ir_lt hy hx).mp q)) Ls H locs hL (wfs_tl hw) hH hS hE
  · exact hk _ _ _ (h2 (Int.not_lt.mp fun z => q ((ir_lt hy hx).mpr z))) Ls H locs hL (wfs_tl hw) hH hS hE

theorem so_if_le (F : FX C p l R s m args c H0 ce sl nL cc own lv) {pc tgt : Nat} {off : Int} {k T : Sx} (d : decode cc pc = .ok (.ifCond .le off, 3)) (ht : (pc : Int) + off = (tgt : Int)) (hk : ∀ ls st σ, k ls st σ → XJ C p l e R s m args below meth c H0 ce sl Q nL σ0 (pc + 3) ls st σ) (hT : ∀ ls st σ, T ls st σ → XJ C p l e R s m args below meth c H0 ce sl Q nL σ0 tgt ls st σ) {ls : List (Option Vv)} {st : List Vv} {σ : Mm}
    (h : pI st fun x st => IR x ∧ (cmT 5 x 0 → T ls st σ) ∧ (cmF 5 x 0 → k ls st σ)) : XJ C p l e R s m args below meth c H0 ce sl Q nL σ0 pc ls st σ := by
  obtain ⟨x, st, rfl, hx, h1, h2⟩ := pI_e h
  have hy : IR 0 := ir_0
  intro Ls H locs hL hw hH hS hE
  refine lv_if_le F.1.1 F.1.2 d ht (fun q => ?_) (fun q => ?_)
  · exact hT _ _ _ (h1 ((ir_le hx hy).mp q)) Ls H locs hL (wfs_tl hw) hH hS hE
  · exact hk _ _ _ (h2 (Int.not_le.mp fun z => q ((ir_le hx hy).mpr z))) Ls H locs hL (wfs_tl hw) hH hS hE

theorem so_icmp_eq (F : FX C p l R s m args c H0 ce sl nL cc own lv) {pc tgt : Nat} {off : Int} {k T : Sx} (d : decode cc pc = .ok (.if_icmp .eq off, 3)) (ht : (pc : Int) + off = (tgt : Int)) (hk : ∀ ls st σ, k ls st σ → XJ C p l e R s m args below meth c H0 ce sl Q nL σ0 (pc + 3) ls st σ) (hT : ∀ ls st σ, T ls st σ → XJ C p l e R s m args below meth c H0 ce sl Q nL σ0 tgt ls st σ) {ls : List (Option Vv)} {st : List Vv} {σ : Mm}
    (h : pI st fun y st => pI st fun x st => (IR x ∧ IR y) ∧ (cmT 0 x y → T ls st σ) ∧ (cmF 0 x y → k ls st σ)) : XJ C p l e R s m args below meth c H0 ce sl Q nL σ0 pc ls st σ := by
  obtain ⟨y, st1, rfl, ha⟩ := pI_e h
  obtain ⟨x, st, rfl, ⟨hx, hy⟩, h1, h2⟩ := pI_e ha
  intro Ls H locs hL hw hH hS hE
  refine lv_icmp_eq F.1.1 F.1.2 d ht (fun q => ?_) (fun q => ?_)
  · exact hT _ _ _ (h1 ((ir_eq hx hy).mp q)) Ls H locs hL (wfs_tl (wfs_tl hw)) hH hS hE
  · exact hk _ _ _ (h2 (fun z => q ((ir_eq hx hy).mpr z))) Ls H locs hL (wfs_tl (wfs_tl hw)) hH hS hE

theorem so_icmp_ne (F : FX C p l R s m args c H0 ce sl nL cc own lv) {pc tgt : Nat} {off : Int} {k T : Sx} (d : decode cc pc = .ok (.if_icmp .ne off, 3)) (ht : (pc : Int) + off = (tgt : Int)) (hk : ∀ ls st σ, k ls st σ → XJ C p l e R s m args below meth c H0 ce sl Q nL σ0 (pc + 3) ls st σ) (hT : ∀ ls st σ, T ls st σ → XJ C p l e R s m args below meth c H0 ce sl Q nL σ0 tgt ls st σ) {ls : List (Option Vv)} {st : List Vv} {σ : Mm}
    (h : pI st fun y st => pI st fun x st => (IR x ∧ IR y) ∧ (cmT 1 x y → T ls st σ) ∧ (cmF 1 x y → k ls st σ)) : XJ C p l e R s m args below meth c H0 ce sl Q nL σ0 pc ls st σ := by
  obtain ⟨y, st1, rfl, ha⟩ := pI_e h
  obtain ⟨x, st, rfl, ⟨hx, hy⟩, h1, h2⟩ := pI_e ha
  intro Ls H locs hL hw hH hS hE
  refine lv_icmp_ne F.1.1 F.1.2 d ht (fun q => ?_) (fun q => ?_)
  · exact hT _ _ _ (h1 (fun z => q ((ir_eq hx hy).mpr z))) Ls H locs hL (wfs_tl (wfs_tl hw)) hH hS hE
  · exact hk _ _ _ (h2 ((ir_eq hx hy).mp q)) Ls H locs hL (wfs_tl (wfs_tl hw)) hH hS hE

theorem so_icmp_lt (F : FX C p l R s m args c H0 ce sl nL cc own lv) {pc tgt : Nat} {off : Int} {k T : Sx} (d : decode cc pc = .ok (.if_icmp .lt off, 3)) (ht : (pc : Int) + off = (tgt : Int)) (hk : ∀ ls st σ, k ls st σ → XJ C p l e R s m args below meth c H0 ce sl Q nL σ0 (pc + 3) ls st σ) (hT : ∀ ls st σ, T ls st σ → XJ C p l e R s m args below meth c H0 ce sl Q nL σ0 tgt ls st σ) {ls : List (Option Vv)} {st : List Vv} {σ : Mm}
    (h : pI st fun y st => pI st fun x st => (IR x ∧ IR y) ∧ (cmT 2 x y → T ls st σ) ∧ (cmF 2 x y → k ls st σ)) : XJ C p l e R s m args below meth c H0 ce sl Q nL σ0 pc ls st σ := by
  obtain ⟨y, st1, rfl, ha⟩ := pI_e h
  obtain ⟨x, st, rfl, ⟨hx, hy⟩, h1, h2⟩ := pI_e ha
  intro Ls H locs hL hw hH hS hE
  refine lv_icmp_lt F.1.1 F.1.2 d ht (fun q => ?_) (fun q => ?_)
  · exact hT _ _ _ (h1 ((ir_lt hx hy).mp q)) Ls H locs hL (wfs_tl (wfs_tl hw)) hH hS hE
  · exact hk _ _ _ (h2 (Int.not_lt.mp fun z => q ((ir_lt hx hy).mpr z))) Ls H locs hL (wfs_tl (wfs_tl hw)) hH hS hE

theorem so_icmp_ge (F : FX C p l R s m args c H0 ce sl nL cc own lv) {pc tgt : Nat} {off : Int} {k T : Sx} (d : decode cc pc = .ok (.if_icmp .ge off, 3)) (ht : (pc : Int) + off = (tgt : Int)) (hk : ∀ ls st σ, k ls st σ → XJ C p l e R s m args below meth c H0 ce sl Q nL σ0 (pc + 3) ls st σ) (hT : ∀ ls st σ, T ls st σ → XJ C p l e R s m args below meth c H0 ce sl Q nL σ0 tgt ls st σ) {ls : List (Option Vv)} {st : List Vv} {σ : Mm}
    (h : pI st fun y st => pI st fun x st => (IR x ∧ IR y) ∧ (cmT 3 x y → T ls st σ) ∧ (cmF 3 x y → k ls st σ)) : XJ C p l e R s m args below meth c H0 ce sl Q nL σ0 pc ls st σ := by
  obtain ⟨y, st1, rfl, ha⟩ := pI_e h
  obtain ⟨x, st, rfl, ⟨hx, hy⟩, h1, h2⟩ := pI_e ha
  intro Ls H locs hL hw hH hS hE
  refine lv_icmp_ge F.1.1 F.1.2 d ht (fun q => ?_) (fun q => ?_)
  · exact hT _ _ _ (h1 ((ir_le hy hx).mp q)) Ls H locs hL (wfs_tl (wfs_tl hw)) hH hS hE
  · exact hk _ _ _ (h2 (Int.not_le.mp fun z => q ((ir_le hy hx).mpr z))) Ls H locs hL (wfs_tl (wfs_tl hw)) hH hS hE

theorem so_icmp_gt (F : FX C p l R s m args c H0 ce sl nL cc own lv) {pc tgt : Nat} {off : Int} {k T : Sx} (d : decode cc pc = .ok (.if_icmp .gt off, 3)) (ht : (pc : Int) + off = (tgt : Int)) (hk : ∀ ls st σ, k ls st σ → XJ C p l e R s m args below meth c H0 ce sl Q nL σ0 (pc + 3) ls st σ) (hT : ∀ ls st σ, T ls st σ → XJ C p l e R s m args below meth c H0 ce sl Q nL σ0 tgt ls st σ) {ls : List (Option Vv)} {st : List Vv} {σ : Mm}
    (h : pI st fun y st => pI st fun x st => (IR x ∧ IR y) ∧ (cmT 4 x y → T ls st σ) ∧ (cmF 4 x y → k ls st σ)) : XJ C p l e R s m args below meth c H0 ce sl Q nL σ0 pc ls st σ := by
  obtain ⟨y, st1, rfl, ha⟩ := pI_e h
  obtain ⟨x, st, rfl, ⟨hx, hy⟩, h1, h2⟩ := pI_e ha
  intro Ls H locs hL hw hH hS hE
  refine lv_icmp_gt F.1.1 F.1.2 d ht (fun q => ?_) (fun q => ?_)
  · exact hT _ _ _ (h1 ((ir_lt hy hx).mp q)) Ls H locs hL (wfs_tl (wfs_tl hw)) hH hS hE
  · exact hk _ _ _ (h2 (Int.not_lt.mp fun z => q ((ir_lt hy hx).mpr z))) Ls H locs hL (wfs_tl (wfs_tl hw)) hH hS hE

theorem so_icmp_le (F : FX C p l R s m args c H0 ce sl nL cc own lv) {pc tgt : Nat} {off : Int} {k T : Sx} (d : decode cc pc = .ok (.if_icmp .le off, 3)) (ht : (pc : Int) + off = (tgt : Int)) (hk : ∀ ls st σ, k ls st σ → XJ C p l e R s m args below meth c H0 ce sl Q nL σ0 (pc + 3) ls st σ) (hT : ∀ ls st σ, T ls st σ → XJ C p l e R s m args below meth c H0 ce sl Q nL σ0 tgt ls st σ) {ls : List (Option Vv)} {st : List Vv} {σ : Mm}
    (h : pI st fun y st => pI st fun x st => (IR x ∧ IR y) ∧ (cmT 5 x y → T ls st σ) ∧ (cmF 5 x y → k ls st σ)) : XJ C p l e R s m args below meth c H0 ce sl Q nL σ0 pc ls st σ := by
  obtain ⟨y, st1, rfl, ha⟩ := pI_e h
  obtain ⟨x, st, rfl, ⟨hx, hy⟩, h1, h2⟩ := pI_e ha
  intro Ls H locs hL hw hH hS hE
  refine lv_icmp_le F.1.1 F.1.2 d ht (fun q => ?_) (fun q => ?_)
  · exact hT _ _ _ (h1 ((ir_le hx hy).mp q)) Ls H locs hL (wfs_tl (wfs_tl hw)) hH hS hE
  · exact hk _ _ _ (h2 (Int.not_le.mp fun z => q ((ir_le hx hy).mpr z))) Ls H locs hL (wfs_tl (wfs_tl hw)) hH hS hE

theorem so_goto (F : FX C p l R s m args c H0 ce sl nL cc own lv) {pc tgt : Nat} {off : Int} {T : Sx} (d : decode cc pc = .ok (.goto off, 3)) (ht : (pc : Int) + off = (tgt : Int)) (hT : ∀ ls st σ, T ls st σ → XJ C p l e R s m args below meth c H0 ce sl Q nL σ0 tgt ls st σ) {ls : List (Option Vv)} {st : List Vv} {σ : Mm}
    (h : T ls st σ) : XJ C p l e R s m args below meth c H0 ce sl Q nL σ0 pc ls st σ := fun Ls H locs hL hw hH hS hE => lv_goto F.1.1 F.1.2 d ht (hT _ _ _ h Ls H locs hL hw hH hS hE)
end
