/-! the machine of numbers: sound -/
def csl (C : Cx) (ls : List (Option Cv)) : List (Nat × Value) := ls.zipIdx.filterMap fun q => q.1.map fun v => (q.2, cuV C v)
def CLR (C : Cx) (Ls : Array Slot) (nL : Nat) (ls : List (Option Cv)) : Prop := Ls.size = nL ∧ lv_wf Ls ∧ ∀ (i : Nat) (v : Cv), ls[i]? = some (some v) → Ls[i]? = some (.val (cuV C v))
theorem csl_mem {C : Cx} {ls : List (Option Cv)} {i : Nat} {u : Value} : (i, u) ∈ csl C ls ↔ ∃ v, ls[i]? = some (some v) ∧ u = cuV C v := by
  constructor
  · intro h
    obtain ⟨⟨o, i'⟩, h1, h2⟩ := List.mem_filterMap.mp h
    have h3 := List.mk_mem_zipIdx_iff_getElem?.mp h1
    cases o with
    | none => simp at h2
    | some v =>
      simp at h2
      obtain ⟨rfl, rfl⟩ := h2
      exact ⟨v, h3, rfl⟩
  · rintro ⟨v, h1, rfl⟩
    exact List.mem_filterMap.mpr ⟨(some v, i), List.mk_mem_zipIdx_iff_getElem?.mpr h1, rfl⟩
theorem CLR.has {C : Cx} {Ls : Array Slot} {nL : Nat} {ls : List (Option Cv)} (h : CLR C Ls nL ls) : lv_has Ls nL (csl C ls) :=
  ⟨h.1, h.2.1, fun q hq => by obtain ⟨v, h1, h2⟩ := csl_mem.mp (show (q.1, q.2) ∈ _ from hq); rw [h2]; exact h.2.2 _ _ h1⟩
theorem cu_cat {C : Cx} (v : Cv) : (cuV C v).category = 1 := by cases v <;> rfl
theorem CLR.set {C : Cx} {Ls' : Array Slot} {nL i : Nat} {v : Cv} {ls : List (Option Cv)} (h : lv_has Ls' nL ((i, cuV C v) :: (csl C ls).filter (fun q => !(q.1 == i) && !(q.1 + 1 == i && q.2.category == 2)))) : CLR C Ls' nL (ls.set i (some v)) := by
  refine ⟨h.1, h.2.1, fun j w hj => ?_⟩
  by_cases hji : j = i
  · subst hji
    rw [List.getElem?_set_self'] at hj
    cases hq : ls[j]? with
    | none => rw [hq] at hj; simp at hj
    | some o =>
      rw [hq] at hj
      simp at hj
      subst hj
      exact h.2.2 _ List.mem_cons_self
  · rw [List.getElem?_set_ne (Ne.symm hji)] at hj
    refine h.2.2 (j, cuV C w) (List.mem_cons_of_mem _ (List.mem_filter.mpr ⟨csl_mem.mpr ⟨w, hj, rfl⟩, ?_⟩))
    simp [hji, cu_cat]
def CJ (C : Cx) (p : Program) (l : Launch) (e : Env) (R : Room) (s : State) (m : MethodId) (args : Array Value) (below : List Frame) (meth : Method) (c : Code) (H0 : Heap) (n0 s0 : Nat) (Q : State → Prop) (nL : Nat) (pc : Nat) (ls : List (Option Cv)) (st : List Cv) (hp : Ch) (sl : Nat) : Prop :=
  ∀ (Ls : Array Slot) (H : Heap) (locs : List Loc), CLR C Ls nL ls → hp.1 = hp.2.length → va_P (cDa C) vwCl (cuW C hp.2.reverse) H → va_D (fun q => cBa C ≤ q) (cuW C hp.2.reverse) → H.size = cBa C + hp.1 → va_S (fun q => cBa C ≤ q) H0 H locs → W p l e R s m args below meth c H locs (hp.1 - n0) (sl - s0) Q (F0 m pc Ls (st.map (cuV C)))
def CX (C : Cx) (p : Program) (l : Launch) (R : Room) (s : State) (m : MethodId) (args : Array Value) (meth : Method) (c : Code) (H0 : Heap) (nL lv : Nat) (cc : ByteArray) (own : String) (ini : Bool) : Prop :=
  (p.tables.exec = Jvm.exec ∧ c.code = cc) ∧ (c.maxLocals = nL ∧ s.vm.findClass own = some m.cls ∧ (∀ w ∈ tbG, w.before args s = true) ∧ Kk C s ∧ (own ≠ "BookHouse$Row" → va_AO "BookHouse$Row" s) ∧ NwG s) ∧ (ini = true → meth.name = "<init>") ∧ (1 ≤ lv ∧ lv ≤ R.frames ∧ 40 * lv ≤ R.locals) ∧ cBa C ≤ H0.size ∧ l = cLa C
theorem cuW_push {C : Cx} {h : List Cc} {x : Cc} : cuW C (x :: h).reverse = cuW C h.reverse ++ [(cBa C + h.length, cuE C x)] := by
  unfold cuW
  rw [List.reverse_cons, List.mapIdx_append]
  simp
theorem hg_at {C : Cx} {hp : Ch} {a : Nat} {x : Cc} (hl : hp.1 = hp.2.length) (h : hg hp a = some x) : a < hp.1 ∧ hp.2.reverse[a]? = some x ∧ (cuW C hp.2.reverse)[a]? = some (cBa C + a, cuE C x) := by
  unfold hg at h
  split at h
  · rename_i ha
    have h2 : hp.2.reverse[a]? = some x := by rw [List.getElem?_reverse (by omega), ← hl]; exact h
    refine ⟨ha, h2, ?_⟩
    unfold cuW
    rw [List.getElem?_mapIdx, h2]
    rfl
  · cases h
theorem hs_at {C : Cx} {hp : Ch} {a : Nat} {x y : Cc} (hl : hp.1 = hp.2.length) (h : hg hp a = some x) : cuW C (hp.2.set (hp.1 - 1 - a) y).reverse = (cuW C hp.2.reverse).set a (cBa C + a, cuE C y) := by
  obtain ⟨ha, -, h2⟩ := hg_at (C := C) hl h
  apply List.ext_getElem?
  intro i
  unfold cuW
  rw [List.getElem?_mapIdx, List.getElem?_set]
  by_cases hi : i < hp.2.length
  · rw [List.getElem?_reverse (by simpa using hi), List.length_set, List.getElem?_set]
    by_cases hia : a = i
    · subst hia
      rw [if_pos (by omega), if_pos (by omega), if_pos rfl, if_pos (by simp; omega)]
      rfl
    · rw [if_neg (by omega), if_neg hia, List.getElem?_mapIdx, List.getElem?_reverse hi]
  · rw [List.getElem?_eq_none (by simp; omega)]
    by_cases hia : a = i
    · omega
    · rw [if_neg hia, List.getElem?_mapIdx, List.getElem?_eq_none (l := hp.2.reverse) (by simp; omega)]
theorem cad_lt {C : Cx} {a : Nat} (h : a < 999999) : cad C a = cBa C + a := if_neg (by omega)
/-- what the tables say of fields: kinds -/
def dvk : Value → Nat
  | .int x => if x = 0 then 0 else 3
  | .long x => if x = 0 then 1 else 3
  | .null => 2
  | _ => 3
theorem dvk_0 {v : Value} (h : dvk v = 0) : v = .int 0 := by
  cases v <;> dsimp only [dvk] at h <;> first | omega | (split at h <;> first | omega | (rename_i z; rw [z]))
theorem dvk_1 {v : Value} (h : dvk v = 1) : v = .long 0 := by
  cases v <;> dsimp only [dvk] at h <;> first | omega | (split at h <;> first | omega | (rename_i z; rw [z]))
theorem dvk_2 {v : Value} (h : dvk v = 2) : v = .null := by
  cases v <;> dsimp only [dvk] at h <;> first | rfl | omega | (split at h <;> omega)
def kdF (q : Nat) : Nat := if q = 0 ∨ q = 5 then 0 else if q = 1 then 1 else 2
theorem CF_dv : ((List.range 12).all fun ci => match vwCl[ci]? with
  | some q => (List.range q.2.2).all fun k => match parseFieldDescriptor (q.2.1 k).2.2.1 with
    | some t => decide (dvk (defaultValue t) = kdF ((CF.getD ci []).getD k (0, 0)).1)
    | none => false
  | none => false) = true := by decide +kernel
theorem CF_def {C : Cx} {ci : Nat} {q : vw_C} (hq : vwCl[ci]? = some q) {ty : Nat → FieldType} (hty : ∀ k, k < q.2.2 → parseFieldDescriptor (q.2.1 k).2.2.1 = some (ty k)) : ∀ j, j < q.2.2 → defaultValue (ty j) = vp_V (cuF C ci []) j := by
  intro j hj
  have hci : ci < 12 := by have := (List.getElem?_eq_some_iff.mp hq).1; simpa [vwCl] using this
  have h1 := List.all_eq_true.mp CF_dv ci (List.mem_range.mpr hci)
  simp only [hq] at h1
  have h2 := List.all_eq_true.mp h1 j (List.mem_range.mpr hj)
  rw [hty j hj] at h2
  have h3 := of_decide_eq_true h2
  have hlen := CF_len ci
  rw [hq] at hlen
  have hlt : j < (CF.getD ci []).length := by rw [hlen]; exact hj
  have e : vp_V (cuF C ci []) j = (if ((CF.getD ci [])[j]).1 = 0 ∨ ((CF.getD ci [])[j]).1 = 5 then .int 0 else if ((CF.getD ci [])[j]).1 = 1 then .long 0 else .null) := by
    unfold vp_V cuF
    rw [List.getD_eq_getElem?_getD, List.getElem?_mapIdx, List.getElem?_eq_getElem hlt]
    rfl
  rw [e]
  rw [List.getD_eq_getElem?_getD, List.getElem?_eq_getElem hlt, Option.getD_some] at h3
  unfold kdF at h3
  split at h3
  · rw [if_pos (by assumption)]; exact dvk_0 h3
  · rw [if_neg (by assumption)]
    split at h3
    · rw [if_pos (by assumption)]; exact dvk_1 h3
    · rw [if_neg (by assumption)]; exact dvk_2 h3
theorem cuF_len {C : Cx} {ci : Nat} {ws : List (Nat × Nat)} : (cuF C ci ws).length = (CF.getD ci []).length := by unfold cuF; simp
theorem cuF_set {C : Cx} {ci z v : Nat} {ws : List (Nat × Nat)} : (cuF C ci ws).set z (.ref (cBa C + v)) = cuF C ci ((z, v) :: ws) := by
  apply List.ext_getElem?
  intro i
  rw [List.getElem?_set]
  unfold cuF
  rw [List.getElem?_mapIdx, List.getElem?_mapIdx, List.length_mapIdx]
  by_cases hi : z = i
  · subst hi
    rw [if_pos rfl]
    by_cases hlt : z < (CF.getD ci []).length
    · rw [if_pos hlt, List.getElem?_eq_getElem hlt]
      simp [lkp]
    · rw [if_neg hlt, List.getElem?_eq_none (by omega)]
      rfl
  · rw [if_neg hi]
    cases (CF.getD ci [])[i]? with
    | none => rfl
    | some q => simp [lkp, hi]
theorem cuF_at {C : Cx} {ci z v : Nat} {ws : List (Nat × Nat)} (hz : z < (CF.getD ci []).length) (h : lkp z ws = some v) : (cuF C ci ws)[z]? = some (.ref (cBa C + v)) := by
  unfold cuF
  rw [List.getElem?_mapIdx, List.getElem?_eq_getElem hz]
  simp [h]
