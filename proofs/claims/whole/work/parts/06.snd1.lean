/-! soundness of the small machine: first facts -/
theorem pI_e {st : List Vv} {k : Int → List Vv → Prop} (h : pI st k) : ∃ x st', st = vI x :: st' ∧ k x st' := by
  match st, h with
  | .inl x :: st, h => exact ⟨x, st, rfl, h⟩
theorem pG_e {st : List Vv} {k : Int64 → List Vv → Prop} (h : pG st k) : ∃ x st', st = vG x :: st' ∧ k x st' := by
  match st, h with
  | .inr (.inl x) :: st, h => exact ⟨x, st, rfl, h⟩
theorem pR_e {st : List Vv} {k : Nat → Int → List Vv → Prop} (h : pR st k) : ∃ r j st', st = vR r j :: st' ∧ k r j st' := by
  match st, h with
  | .inr (.inr (r, j)) :: st, h => exact ⟨r, j, st, rfl, h⟩
theorem ldI_e {k : Int → Prop} : ∀ {ls : List (Option Vv)} {n : Nat}, ldI ls n k → ∃ x, ls[n]? = some (some (vI x)) ∧ k x
  | a :: _, 0, h => by
    match a, h with
    | some (.inl x), h => exact ⟨x, rfl, h⟩
  | _ :: l, n + 1, h => by simpa using ldI_e (ls := l) (n := n) h
theorem ldG_e {k : Int64 → Prop} : ∀ {ls : List (Option Vv)} {n : Nat}, ldG ls n k → ∃ x, ls[n]? = some (some (vG x)) ∧ k x
  | a :: _, 0, h => by
    match a, h with
    | some (.inr (.inl x)), h => exact ⟨x, rfl, h⟩
  | _ :: l, n + 1, h => by simpa using ldG_e (ls := l) (n := n) h
theorem ldR_e {k : Nat → Int → Prop} : ∀ {ls : List (Option Vv)} {n : Nat}, ldR ls n k → ∃ r j, ls[n]? = some (some (vR r j)) ∧ k r j
  | a :: _, 0, h => by
    match a, h with
    | some (.inr (.inr (r, j))), h => exact ⟨r, j, rfl, h⟩
  | _ :: l, n + 1, h => by simpa using ldR_e (ls := l) (n := n) h
theorem set1_e : ∀ {ls : List (Option Vv)} {n : Nat} {v w : Vv} {j : Nat}, (set1 ls n v)[j]? = some (some w) → (j = n ∧ w = v) ∨ (j ≠ n ∧ ls[j]? = some (some w) ∧ (j + 1 = n → ∀ x, w ≠ vG x))
  | [], _, _, _, _, h => by simp [set1] at h
  | a :: l, 0, v, w, j, h => by
    cases j with
    | zero => simp [set1] at h; exact Or.inl ⟨rfl, h.symm⟩
    | succ j => simp [set1] at h; exact Or.inr ⟨by omega, by simpa using h, by omega⟩
  | a :: l, n + 1, v, w, j, h => by
    cases j with
    | zero =>
      by_cases hn : n = 0
      · subst hn
        refine Or.inr ⟨by omega, ?_, fun _ x hx => ?_⟩
        · match a, h with
          | some (.inl x), h => simpa [set1, cut2] using h
          | some (.inr (.inr q)), h => simpa [set1, cut2] using h
        · subst hx
          match a, h with
          | some (.inl y), h => simp [set1, cut2] at h
          | some (.inr (.inr q)), h => simp [set1, cut2] at h
      · simp [set1, hn] at h
        exact Or.inr ⟨by omega, by simpa using h, by omega⟩
    | succ j =>
      simp [set1] at h
      rcases set1_e h with ⟨h1, h2⟩ | ⟨h1, h2, h3⟩
      · exact Or.inl ⟨by omega, h2⟩
      · exact Or.inr ⟨by omega, by simpa using h2, fun q => h3 (by omega)⟩
theorem set2_e : ∀ {ls : List (Option Vv)} {n : Nat} {v w : Vv} {j : Nat}, (set2 ls n v)[j]? = some (some w) → (j = n ∧ w = v) ∨ (j ≠ n ∧ j ≠ n + 1 ∧ ls[j]? = some (some w) ∧ (j + 1 = n → ∀ x, w ≠ vG x))
  | [], _, _, _, _, h => by simp [set2] at h
  | a :: l, 0, v, w, j, h => by
    cases j with
    | zero => simp [set2] at h; exact Or.inl ⟨rfl, h.symm⟩
    | succ j =>
      cases l with
      | nil => simp [set2] at h
      | cons b l =>
        cases j with
        | zero => simp [set2] at h
        | succ j => simp [set2] at h; exact Or.inr ⟨by omega, by omega, by simpa using h, by omega⟩
  | a :: l, n + 1, v, w, j, h => by
    cases j with
    | zero =>
      by_cases hn : n = 0
      · subst hn
        refine Or.inr ⟨by omega, by omega, ?_, fun _ x hx => ?_⟩
        · match a, h with
          | some (.inl x), h => simpa [set2, cut2] using h
          | some (.inr (.inr q)), h => simpa [set2, cut2] using h
        · subst hx
          match a, h with
          | some (.inl y), h => simp [set2, cut2] at h
          | some (.inr (.inr q)), h => simp [set2, cut2] at h
      · simp [set2, hn] at h
        exact Or.inr ⟨by omega, by omega, by simpa using h, by omega⟩
    | succ j =>
      simp [set2] at h
      rcases set2_e h with ⟨h1, h2⟩ | ⟨h1, h2, h3, h4⟩
      · exact Or.inl ⟨by omega, h2⟩
      · exact Or.inr ⟨by omega, by omega, by simpa using h3, fun q => h4 (by omega)⟩
theorem ir_toInt {x : Int} (h : IR x) : (Int32.ofInt x).toInt = x := by
  obtain ⟨h1, h2⟩ := h
  rw [Int32.toInt_ofInt]
  show Int.bmod x 4294967296 = x
  exact Int.bmod_eq_of_le (by omega) (by omega)
theorem ir_lt {x y : Int} (hx : IR x) (hy : IR y) : Int32.ofInt x < Int32.ofInt y ↔ x < y := by rw [Int32.lt_iff_toInt_lt, ir_toInt hx, ir_toInt hy]
theorem ir_le {x y : Int} (hx : IR x) (hy : IR y) : Int32.ofInt x ≤ Int32.ofInt y ↔ x ≤ y := by rw [Int32.le_iff_toInt_le, ir_toInt hx, ir_toInt hy]
theorem ir_eq {x y : Int} (hx : IR x) (hy : IR y) : Int32.ofInt x = Int32.ofInt y ↔ x = y := by rw [← Int32.toInt_inj, ir_toInt hx, ir_toInt hy]
theorem ir_0 : IR 0 := by unfold IR; omega
theorem ofInt_self (x : Int32) : Int32.ofInt x.toInt = x := Int32.ofInt_toInt x
theorem ir_nat {x : Int} (h0 : 0 ≤ x) (h1 : x ≤ 2147483647) : (Int32.ofInt x).toNatClampNeg = x.toNat := by
  show (Int32.ofInt x).toInt.toNat = x.toNat
  rw [ir_toInt ⟨by omega, h1⟩]
theorem ir_in {x n : Int} (h0 : 0 ≤ x) (h1 : x < n) (hn : n ≤ 2147483647) : vp_in (Int32.ofInt x) n.toNat := by
  rw [vp_in_iff, ir_toInt ⟨by omega, by omega⟩]
  omega
theorem up_ext {C : Cx} {σ σ' : Mm} (hE : Ext σ σ') {v : Vv} (h : wf σ v) : up C σ' v = up C σ v := by
  match v, h with
  | .inl x, _ => rfl
  | .inr (.inl x), _ => rfl
  | .inr (.inr (r, j)), h =>
    have key : ∀ (r : Nat) (j : Int), (r = rg_row_cov ∨ r = rg_arr_cov) → (r, j) ∈ cells σ → Ma σ' j = Ma σ j := by
      intro r j hr hm
      rcases List.mem_append.mp hm with hm | hm
      · exfalso
        have : ∀ q ∈ scells, q.1 ≠ rg_row_cov ∧ q.1 ≠ rg_arr_cov := by decide +kernel
        have := this _ hm
        rcases hr with rfl | rfl
        · exact this.1 rfl
        · exact this.2 rfl
      · obtain ⟨y, hy, hm⟩ := List.mem_flatMap.mp hm
        have hy := List.mem_range.mp hy
        simp only [List.mem_cons, Prod.mk.injEq, List.not_mem_nil, or_false] at hm
        have hj : j = (y : Int) := by rcases hm with ⟨-, h⟩ | ⟨-, h⟩ <;> exact h
        subst hj
        exact hE.2 y (by omega) (by omega)
    simp only [up, adr]
    by_cases h1 : r = rg_row_cov
    · rcases h with ⟨h2, -⟩ | hm
      · rw [h2] at h1; exact absurd h1 (by decide)
      · rw [if_pos h1, if_pos h1, key r j (Or.inl h1) hm]
    · rw [if_neg h1, if_neg h1]
      by_cases h2 : r = rg_arr_cov
      · rcases h with ⟨h3, -⟩ | hm
        · rw [h3] at h2; exact absurd h2 (by decide)
        · rw [if_pos h2, if_pos h2, key r j (Or.inr h2) hm]
      · rw [if_neg h2, if_neg h2]
theorem cells_mono {σ σ' : Mm} (h : Mc σ ≤ Mc σ') {q : Nat × Int} (hq : q ∈ cells σ) : q ∈ cells σ' := by
  rcases List.mem_append.mp hq with hm | hm
  · exact List.mem_append_left _ hm
  · obtain ⟨y, hy, hm⟩ := List.mem_flatMap.mp hm
    exact List.mem_append_right _ (List.mem_flatMap.mpr ⟨y, List.mem_range.mpr (Nat.lt_of_lt_of_le (List.mem_range.mp hy) h), hm⟩)
theorem wf_ext {σ σ' : Mm} (hE : Ext σ σ') {v : Vv} (h : wf σ v) : wf σ' v := by
  match v, h with
  | .inl x, _ => trivial
  | .inr (.inl x), _ => trivial
  | .inr (.inr (r, j)), h => exact h.imp id (cells_mono hE.1)
theorem Ext.rfl' (σ : Mm) : Ext σ σ := ⟨Nat.le_refl _, fun _ _ _ => rfl⟩
theorem Ext.trans' {a b c : Mm} (h1 : Ext a b) (h2 : Ext b c) : Ext a c := ⟨Nat.le_trans h1.1 h2.1, fun j h0 h => by rw [h2.2 j h0 (by have := h1.1; omega), h1.2 j h0 h]⟩
/-! locals -/
def LR (C : Cx) (σ : Mm) (Ls : Array Slot) (nL : Nat) (ls : List (Option Vv)) : Prop := Ls.size = nL ∧ lv_wf Ls ∧ ∀ (i : Nat) (v : Vv), ls[i]? = some (some v) → Ls[i]? = some (.val (up C σ v))
def asl (C : Cx) (σ : Mm) (ls : List (Option Vv)) : List (Nat × Value) := ls.zipIdx.filterMap fun q => q.1.map fun v => (q.2, up C σ v)
theorem asl_mem {C : Cx} {σ : Mm} {ls : List (Option Vv)} {i : Nat} {u : Value} : (i, u) ∈ asl C σ ls ↔ ∃ v, ls[i]? = some (some v) ∧ u = up C σ v := by
  constructor
  · intro h
    obtain ⟨⟨o, i'⟩, h1, h2⟩ := List.mem_filterMap.mp h
    have h3 := List.mk_mem_zipIdx_iff_getElem?.mp h1
    cases o with
    | none => simp at h2
    | some v =>
      simp at h2
      obtain ⟨rfl, rfl⟩ := h2
      exact ⟨v, h3, rfl⟩
  · rintro ⟨v, h1, rfl⟩
    exact List.mem_filterMap.mpr ⟨(some v, i), List.mk_mem_zipIdx_iff_getElem?.mpr h1, rfl⟩
theorem LR.has {C : Cx} {σ : Mm} {Ls : Array Slot} {nL : Nat} {ls : List (Option Vv)} (h : LR C σ Ls nL ls) : lv_has Ls nL (asl C σ ls) :=
  ⟨h.1, h.2.1, fun q hq => by obtain ⟨v, h1, h2⟩ := asl_mem.mp (show (q.1, q.2) ∈ _ from hq); rw [h2]; exact h.2.2 _ _ h1⟩
theorem up_cat {C : Cx} {σ : Mm} {v : Vv} : (up C σ v).category = 2 ↔ ∃ x, v = vG x := by
  match v with
  | .inl x => simp [up, Value.category]
  | .inr (.inl x) => simp [up, Value.category]
  | .inr (.inr (r, j)) => simp [up, Value.category]
theorem LR.set1 {C : Cx} {σ : Mm} {Ls' : Array Slot} {nL i : Nat} {v : Vv} {ls : List (Option Vv)} (h : lv_has Ls' nL ((i, up C σ v) :: (asl C σ ls).filter (fun q => !(q.1 == i) && !(q.1 + 1 == i && q.2.category == 2)))) : LR C σ Ls' nL (set1 ls i v) := by
  refine ⟨h.1, h.2.1, fun j w hj => ?_⟩
  rcases set1_e hj with ⟨rfl, rfl⟩ | ⟨h1, h2, h3⟩
  · exact h.2.2 _ List.mem_cons_self
  · refine h.2.2 (j, up C σ w) (List.mem_cons_of_mem _ (List.mem_filter.mpr ⟨asl_mem.mpr ⟨w, h2, rfl⟩, ?_⟩))
    simp only [Bool.and_eq_true, Bool.not_eq_true', beq_eq_false_iff_ne, ne_eq, Bool.and_eq_false_iff]
    refine ⟨h1, ?_⟩
    by_cases hq : j + 1 = i
    · right
      intro hc
      obtain ⟨x, hx⟩ := up_cat.mp hc
      exact h3 hq x hx
    · exact Or.inl hq
theorem LR.set2 {C : Cx} {σ : Mm} {Ls' : Array Slot} {nL i : Nat} {v : Vv} {ls : List (Option Vv)} (h : lv_has Ls' nL ((i, up C σ v) :: (asl C σ ls).filter (fun q => !(q.1 == i) && (!(q.1 == i + 1) && !(q.1 + 1 == i && q.2.category == 2))))) : LR C σ Ls' nL (set2 ls i v) := by
  refine ⟨h.1, h.2.1, fun j w hj => ?_⟩
  rcases set2_e hj with ⟨rfl, rfl⟩ | ⟨h1, h1', h2, h3⟩
  · exact h.2.2 _ List.mem_cons_self
  · refine h.2.2 (j, up C σ w) (List.mem_cons_of_mem _ (List.mem_filter.mpr ⟨asl_mem.mpr ⟨w, h2, rfl⟩, ?_⟩))
    simp only [Bool.and_eq_true, Bool.not_eq_true', beq_eq_false_iff_ne, ne_eq, Bool.and_eq_false_iff]
    refine ⟨h1, h1', ?_⟩
    by_cases hq : j + 1 = i
    · right
      intro hc
      obtain ⟨x, hx⟩ := up_cat.mp hc
      exact h3 hq x hx
    · exact Or.inl hq
