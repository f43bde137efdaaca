/-! the law: its own walk, from the head of the loop -/
/-! THE CLAIM OUT OF ONE WALK OF THE LAW'S BODY. Your part is whole_start (and what it stands on); all else here is the same for every law, but numbers. -/
def R_law : String := "BookHouseLaw"
def lw_P (b : Addr) (xs : List Int32) (args : Array Value) (s : State) : Prop := args = #[.ref b] ∧ s.IntsAt b xs ∧ xs.length ≤ 3072 ∧ (Jvm.Cond.and given_1 narrow_1).before args s = true
def lw_Q (_ : Array Value) (s : State) (o : Outcome) (t : State) : Prop := o = .returned (some (.int 1)) ∧ Framed s o t [] 600000 7302249
def lw_Z (below : List Frame) (a : Array Value) (s : State) : State → Prop := fun t => ∃ o, t.status = .running ∧ Ended t below o ∧ lw_Q a s o t
/-- the law's own end, with 1 on the stack, nothing written that was there before, its room as the claim has it -/
theorem lw_ret {p : Program} {l : Launch} {e : Env} {s : State} {m : MethodId} {below : List Frame} {meth : Method} {c : Code} {b : Nat} (hx : p.tables.exec = Jvm.exec) (hb : c.code = code) (hr : meth.sig.returnType = ret) (hlocks : meth.locks = false) {pc : Nat} {H : Heap} {ls : Array Slot} (hdg : decode code pc = .ok (.ireturn, 1)) : W p l e room_1 s m #[Value.ref b] below meth c H [] 600000 7302249 (lw_Z below #[Value.ref b] s) (F0 m pc ls [.int 1]) := by
  intro T hT X
  obtain ⟨fs, hret, hrun, hended, hW, hframe⟩ := X.leave (v := some (.int 1)) (hlocks := hlocks) (fun h => by rw [hr] at h; cases h)
  have hmeth' : T.vm.method? m = some meth := X.method'
  refine ⟨T.setFrames fs, ?_, .returned (some (.int 1)), hrun, hended, rfl, ⟨_, rfl⟩, hW, hframe⟩
  jvm_step X.here [X.here.top, hx, hb, hdg, hmeth', hr, ret, narrow_b1]
  (try refine ⟨rfl, ?_⟩); (try refine ⟨rfl, ?_⟩)
  first | (intro acts; rw [hret _ acts rfl rfl rfl]) | rw [hret _ _ rfl rfl rfl]
  exact Steps.refl _
/-- what holds at the law's entry: the machine, the code, the tables' words (any of lw_tbl by 'hts w (by decide +kernel)'), the script of L ints xs at the cell b, what the Statement gives of the start (any of its parts by flat_of_before) -/
def lw_At (p : Program) (s : State) (m : MethodId) (meth : Method) (c : Code) (b L : Nat) (xs : Nat → Int32) : Prop :=
  p.tables.exec = Jvm.exec ∧ c.code = code ∧ meth.sig.returnType = ret ∧ c.maxLocals = 4 ∧ s.vm.findClass R_law = some m.cls ∧ (∀ w ∈ lw_tbl, w.before #[Value.ref b] s = true) ∧ va_X b L xs s s.heap ∧ b < s.heap.size ∧ meth.locks = false ∧ (Jvm.Cond.and given_1 narrow_1).before #[Value.ref b] s = true

theorem pcLaw_e : pcLaw = fun b => pcOf (BLaw.getD (b % 1000) []) := by
  funext b
  have e : pcLaw b = (BLaw.map pcOf).getD (b % 1000) 0 := rfl
  rw [e, List.getD_eq_getElem?_getD, List.getD_eq_getElem?_getD, List.getElem?_map]
  cases BLaw[b % 1000]? <;> rfl
theorem mkLaw : chkB "BookHouseLaw" 4 10 (some .boolean) code BLaw = true := by
  unfold chkB
  rw [← pcLaw_e]
  unfold BLaw
  simp only [List.all_cons, List.all_nil, Bool.and_true, Bool.and_eq_true, mkLaw_0, mkLaw_1, mkLaw_2, mkLaw_3, mkLaw_4, mkLaw_5, mkLaw_6, mkLaw_7, mkLaw_8, mkLaw_9, mkLaw_10, mkLaw_11, mkLaw_12, mkLaw_13, mkLaw_14, mkLaw_15, mkLaw_16, mkLaw_17, mkLaw_18, mkLaw_19, mkLaw_20, mkLaw_21, mkLaw_22, mkLaw_23, mkLaw_24, mkLaw_25, mkLaw_26, mkLaw_27, mkLaw_28, mkLaw_29, mkLaw_30, mkLaw_31, mkLaw_32, mkLaw_33, mkLaw_34, mkLaw_35, mkLaw_36, mkLaw_37, mkLaw_38, mkLaw_39, mkLaw_40, mkLaw_41, mkLaw_42, and_self]
/-- the law's end, as the small machine sees it: with 1 -/
def lwR (ro : Option Vv) (_ : Mm) : Prop := ro = some (vI 1)
section
variable {C : Cx} {p : Program} {e : Env} {s : State} {m : MethodId} {b : Nat} {below : List Frame} {meth : Method} {c : Code} {σ0 : Mm}
abbrev lwJ (C : Cx) (p : Program) (e : Env) (s : State) (m : MethodId) (b : Nat) (below : List Frame) (meth : Method) (c : Code) (σ0 : Mm) (ce sl : Nat) : Nat → Sx := XJ C p (cLa C) e room_1 s m #[Value.ref b] below meth c s.heap ce sl (lw_Z below #[Value.ref b] s) 4 σ0
abbrev lwX (C : Cx) (p : Program) (s : State) (m : MethodId) (b : Nat) (c : Code) (ce sl : Nat) : Prop := FX C p (cLa C) room_1 s m #[Value.ref b] c s.heap ce sl 4 code "BookHouseLaw" 10
theorem lw_R (hr : meth.sig.returnType = ret) (hlocks : meth.locks = false) {ce sl : Nat} (F : lwX C p s m b c ce sl) (hbs : cBa C = s.heap.size) : ∀ pc ro σ', retOk (some .boolean) code pc ro → lwR ro σ' → RJ C p (cLa C) e room_1 s m #[Value.ref b] below meth c s.heap ce sl (lw_Z below #[Value.ref b] s) σ0 pc ro σ' := by
  intro pc ro σ' hro hk Ls H locs hw hH hS hE
  have hk : ro = some (vI 1) := hk
  subst hk
  rcases hro with ⟨x, hx, d, hret⟩ | ⟨x, hx1, hx, d, hret⟩ | ⟨x, hx, d, hret⟩ | ⟨r, j, n, hx, d, hret⟩ | ⟨hx, d, hret⟩
  · exact absurd hret (by decide)
  · refine va_forget (fun q hq => by rw [← hbs]; exact hS.2.2 q hq) ?_
    refine W.widen (k := 600000) (n := 7302249) F.2.2.2.2.1.1 F.2.2.2.2.1.2 ?_
    exact lw_ret F.1.1 F.1.2 hr hlocks d
  · exact absurd hx (by intro z; cases z)
  · exact absurd hx (by intro z; cases z)
  · exact absurd hx (by intro z; cases z)
/-- a block of the law, by the small machine -/
theorem lw_block (hr : meth.sig.returnType = ret) (hlocks : meth.locks = false) {ce sl : Nat} (F : lwX C p s m b c ce sl) (hbs : cBa C = s.heap.size) (fu : Nat) {K : Nat → Sx} (hK : ∀ q ls st σ', 1000 ≤ q → K q ls st σ' → lwJ C p e s m b below meth c σ0 ce sl (pcLaw q) ls st σ') (q : Nat) (ls : List (Option Vv)) (st : List Vv) (σ' : Mm) (h : xs (go BLaw K lwR fu) lwR (BLaw.getD q []) ls st σ') : lwJ C p e s m b below meth c σ0 ce sl (pcOf (BLaw.getD q [])) ls st σ' := by
  have hK' : ∀ q ls st σ', 1000 ≤ q → K q ls st σ' → XJ C p (cLa C) e room_1 s m #[Value.ref b] below meth c s.heap ce sl (lw_Z below #[Value.ref b] s) 4 σ0 (pcOf (BLaw.getD (q % 1000) [])) ls st σ' := fun q ls st σ' h1 h2 => by
    have := hK q ls st σ' h1 h2
    rw [pcLaw_e] at this
    exact this
  exact chkL_sound F (bp := fun b => pcOf (BLaw.getD (b % 1000) [])) (go_sound F mkLaw hK' (lw_R hr hlocks F hbs) fu) (lw_R hr hlocks F hbs) (chkB_e mkLaw q) ls st σ' h
end
