/-! the constructors' last heap is the first memory's -/
theorem cm_fin : ∃ hp : Ch, cm cmC cmL 3000 12 0 [some (.inr 999999), none, none, none] [] (0, []) 0 = some (10, ls0, hp, 24962) ∧ hp.1 = 332 ∧ ∀ q ∈ scells, dfr q.1 = true ∧ ∃ x, hg hp (off q) = some x ∧ chEn x q.1 q.2 = true := by
  have h := cm_t2
  revert h
  generalize cm cmC cmL 3000 12 0 [some (.inr 999999), none, none, none] [] (0, []) 0 = o
  intro h
  unfold ckR at h
  split at h
  · rename_i q ls hp sl
    rw [Bool.and_eq_true] at h
    obtain ⟨h1, h2⟩ := h
    obtain ⟨rfl, rfl, h3, rfl⟩ := of_decide_eq_true h1
    refine ⟨hp, rfl, h3, fun q hq => ?_⟩
    have h4 := List.all_eq_true.mp h2 q hq
    rw [Bool.and_eq_true] at h4
    refine ⟨h4.1, ?_⟩
    have h5 := h4.2
    split at h5
    · rename_i x hx
      exact ⟨x, hx, h5⟩
    · cases h5
  · cases h
theorem adr0 {C : Cx} {σ : Mm} {r : Nat} {j : Int} (h : dfr r = true) : adr C σ r j = cBa C + off (r, j) := by
  obtain ⟨h1, h2, h3⟩ := of_decide_eq_true h
  unfold adr
  rw [if_neg h1, if_neg h2, if_neg h3]
  rfl
theorem r00_d (r : Nat) : dfr (r00 r).1 = true := by
  unfold r00
  split
  · decide
  · decide
theorem heard_in : (2046953351, (0 : Int)) ∈ scells := by decide +kernel
theorem nothing_in : (2030174215, (0 : Int)) ∈ scells := by decide +kernel
theorem r00_in (r : Nat) : r00 r ∈ scells ∧ (r00 r).1 % 8 = 7 := by
  unfold r00
  split
  · exact ⟨nothing_in, by decide⟩
  · exact ⟨heard_in, by decide⟩
theorem arrV_c {cA : ClassId} {n : Nat} {f g : Nat → Value} (h : ∀ k, k < n → f k = g k) : arrV cA n f = arrV cA n g := by
  unfold arrV
  have : (fun j : Fin n => f j.val) = fun j : Fin n => g j.val := funext fun j => h j.val j.isLt
  rw [this]
theorem lkp_none {k : Nat} : ∀ {ws : List (Nat × Nat)}, (∀ q ∈ ws, q.1 ≠ k) → lkp k ws = none
  | [], _ => rfl
  | q :: l, h => by
    unfold lkp
    rw [if_neg (h q List.mem_cons_self)]
    exact lkp_none fun q' hq => h q' (List.mem_cons_of_mem _ hq)
theorem ent_at {C : Cx} {x : Cc} {r : Nat} {j : Int} (h : chEn x r j = true) {D : va_G} {cl : List vw_C} {a : Nat} {H : Heap} (h2 : va_at D cl (a, cuE C x) H) : va_at D cl (a, ent C (mm0 C) r j) H := by
  unfold chEn at h
  by_cases h0 : r % 8 = 0 ∨ r % 8 = 7
  · rw [if_pos h0, Bool.and_eq_true] at h
    obtain ⟨⟨e1, e2⟩, h3⟩ := (⟨of_decide_eq_true h.1, h.2⟩ : _ ∧ _)
    have hf : cuF C x.2.1 x.2.2 = fvals C (mm0 C) r j := by
      rw [e2]
      unfold cuF fvals
      apply List.ext_getElem?
      intro k
      rw [List.getElem?_mapIdx, List.getElem?_mapIdx]
      cases hq : (CF.getD (clsOf r) [])[k]? with
      | none => rfl
      | some q =>
        have h4 := List.all_eq_true.mp h3 (q, k) (List.mk_mem_zipIdx_iff_getElem?.mpr hq)
        dsimp only at h4
        unfold chFi at h4
        have hr1 : r ≠ 262134 := by rintro rfl; revert h0; decide
        have hr2 : ¬ (r = 386007841 ∨ r = 1476526881) := by rintro (rfl | rfl) <;> (revert h0; decide)
        have hz : Mi (mm0 C) r j k = 0 := by
          show (if r = 262134 then _ else if r = 386007841 ∨ r = 1476526881 then _ else (0 : Int)) = 0
          rw [if_neg hr1, if_neg hr2]
        show some _ = some _
        congr 1
        unfold fval
        by_cases g : q.1 = 0 ∨ q.1 = 5 ∨ q.1 = 1
        · rw [if_pos g] at h4
          rw [Option.isNone_iff_eq_none.mp h4]
          dsimp only
          by_cases g1 : q.1 = 0 ∨ q.1 = 5
          · rw [if_pos g1, if_pos g1, hz]; rfl
          · rw [if_neg g1, if_neg g1, if_pos (by omega), if_pos (by omega)]; rfl
        · rw [if_neg g, Bool.and_eq_true] at h4
          rw [of_decide_eq_true h4.2]
          dsimp only
          rw [if_neg (by omega), if_neg (by omega), adr0 h4.1]
    unfold cuE at h2
    rw [if_pos e1, hf, e2] at h2
    unfold ent
    rw [if_pos h0]
    exact h2
  · rw [if_neg h0, Bool.and_eq_true] at h
    obtain ⟨⟨n1, n2, n3⟩, h⟩ := (⟨of_decide_eq_true h.1, h.2⟩ : _ ∧ _)
    have hal : (alen (mm0 C) r j).toNat = x.2.1 := by
      unfold alen
      rw [if_neg n1, if_neg n2, n3]
      omega
    unfold ent
    rw [if_neg h0]
    by_cases h1 : r % 8 = 1
    · rw [if_pos h1, Bool.and_eq_true] at h
      have e1 : x.1 = 1 := of_decide_eq_true h.1
      unfold cuE at h2
      rw [if_neg (by omega), if_pos e1] at h2
      rw [if_pos h1, hal]
      have hr1 : r ≠ 262134 := by rintro rfl; revert h1; decide
      have hf : (fun k => nI ((lkp k x.2.2).getD 0)) = fun (k : Nat) => Int32.ofInt (Mi (mm0 C) r j k) := by
        funext k
        show _ = Int32.ofInt (if r = 262134 then _ else if r = 386007841 ∨ r = 1476526881 then (if 0 ≤ (k : Int) ∧ (k : Int) < 100 then (k : Int) else 0) else (0 : Int))
        rw [if_neg hr1]
        by_cases g : r = 386007841 ∨ r = 1476526881
        · rw [if_pos g] at h ⊢
          have h3 := h.2
          rw [Bool.and_eq_true] at h3
          by_cases hk : k < 100
          · rw [if_pos (by omega), of_decide_eq_true (List.all_eq_true.mp h3.2 k (List.mem_range.mpr hk))]
            rfl
          · rw [if_neg (by omega), lkp_none fun q hq => by have := of_decide_eq_true (List.all_eq_true.mp h3.1 q hq); omega]
            rfl
        · rw [if_neg g] at h ⊢
          have h3 : x.2.2 = [] := List.isEmpty_iff.mp h.2
          rw [h3]
          rfl
      rw [hf] at h2
      exact h2
    rw [if_neg h1] at h ⊢
    by_cases hb : r % 8 = 2
    · rw [if_pos hb] at h ⊢
      have e1 : x.1 = 2 := of_decide_eq_true h
      unfold cuE at h2
      rw [if_neg (by omega), if_neg (by omega), if_pos e1] at h2
      rw [hal]
      have hr1 : r ≠ 262134 := by rintro rfl; revert hb; decide
      have hr2 : ¬ (r = 386007841 ∨ r = 1476526881) := by rintro (rfl | rfl) <;> (revert hb; decide)
      have hf : (fun (k : Nat) => Int32.ofInt (Mi (mm0 C) r j k)) = fun _ => (0 : Int32) := by
        funext k
        show Int32.ofInt (if r = 262134 then _ else if r = 386007841 ∨ r = 1476526881 then _ else (0 : Int)) = _
        rw [if_neg hr1, if_neg hr2]
        rfl
      rw [hf]
      exact h2
    rw [if_neg hb] at h ⊢
    by_cases hl : r % 8 = 3
    · rw [if_pos hl] at h ⊢
      have e1 : x.1 = 3 := of_decide_eq_true h
      unfold cuE at h2
      rw [if_neg (by omega), if_neg (by omega), if_neg (by omega), if_pos e1] at h2
      rw [hal]
      exact h2
    rw [if_neg hl] at h ⊢
    by_cases hq : r % 8 = 4
    · rw [if_pos hq] at h ⊢
      rw [Bool.and_eq_true, Bool.and_eq_true] at h
      have e1 : x.1 = 4 := of_decide_eq_true h.1.1
      unfold cuE at h2
      rw [if_neg (by omega), if_neg (by omega), if_neg (by omega), if_neg (by omega)] at h2
      rw [hal]
      refine Eq.trans (show H[a]? = _ from h2) (congrArg some ?_)
      rw [vp_cell_q, vp_cell_q]
      refine arrV_c fun k hk => ?_
      rw [of_decide_eq_true (List.all_eq_true.mp h.2 k (List.mem_range.mpr hk)), adr0 h.1.2]
      rfl
    · rw [if_neg hq] at h ⊢
      rw [Bool.and_eq_true] at h
      have e1 : x.1 = 4 := of_decide_eq_true h.1
      unfold cuE at h2
      rw [if_neg (by omega), if_neg (by omega), if_neg (by omega), if_neg (by omega)] at h2
      rw [hal]
      refine Eq.trans (show H[a]? = _ from h2) (congrArg some ?_)
      rw [vp_cell_q, vp_cell_q]
      refine arrV_c fun k hk => ?_
      rw [of_decide_eq_true (List.all_eq_true.mp h.2 k (List.mem_range.mpr hk))]
      show _ = va_rf (some (adr C (mm0 C) (r00 r).1 (r00 r).2))
      rw [adr0 (r00_d r)]
      rfl
theorem cells0 {C : Cx} : cells (mm0 C) = scells := by
  unfold cells
  show scells ++ (List.range 0).flatMap _ = scells
  simp
/-- the first memory's heap -/
theorem Hh0 {C : Cx} {hp : Ch} {H : Heap} (hl : hp.1 = hp.2.length) (hck : ∀ q ∈ scells, dfr q.1 = true ∧ ∃ x, hg hp (off q) = some x ∧ chEn x q.1 q.2 = true) (hP : va_P (cDa C) vwCl (cuW C hp.2.reverse) H) (h4 : cSl C ≤ 4000) : Hh C (mm0 C) H := by
  refine ⟨fun k y hy => ?_, ⟨fun i j p q hp2 hq he => ?_, fun k q hk => ?_⟩, fun q _ _ k _ _ => ⟨by rw [cells0]; exact (r00_in q.1).1, (r00_in q.1).2⟩, ⟨by show (if (-1 : Int) = -1 then cSl C else 0) = _; rw [if_pos rfl], h4, fun k => ?_⟩, fun j h1 h2 => ?_⟩
  · unfold wl at hy
    rw [cells0, List.getElem?_map] at hy
    cases hs : scells[k]? with
    | none => rw [hs] at hy; cases hy
    | some q =>
      rw [hs] at hy
      cases hy
      obtain ⟨d, x, g1, g2⟩ := hck q (List.mem_of_getElem? hs)
      obtain ⟨-, -, hat⟩ := hg_at (C := C) hl g1
      show va_at _ _ (adr C (mm0 C) q.1 q.2, ent C (mm0 C) q.1 q.2) H
      rw [adr0 d]
      exact ent_at g2 (hP _ _ hat)
  · unfold wl at hp2 hq
    rw [cells0, List.getElem?_map] at hp2 hq
    cases hs : scells[i]? with
    | none => rw [hs] at hp2; cases hp2
    | some q1 =>
      cases ht : scells[j]? with
      | none => rw [ht] at hq; cases hq
      | some q2 =>
        rw [hs] at hp2
        rw [ht] at hq
        cases hp2
        cases hq
        dsimp only at he
        rw [adr0 (hck q1 (List.mem_of_getElem? hs)).1, adr0 (hck q2 (List.mem_of_getElem? ht)).1] at he
        have he2 : off q1 = off q2 := by
          have : off (q1.1, q1.2) = off (q2.1, q2.2) := by omega
          exact this
        refine (List.getElem?_inj (l := scells.map off) ?_ off_nd).mp ?_
        · have := (List.getElem?_eq_some_iff.mp hs).1
          simpa using this
        · rw [List.getElem?_map, List.getElem?_map, hs, ht]
          simp [he2]
  · unfold wl at hk
    rw [cells0, List.getElem?_map] at hk
    cases hs : scells[k]? with
    | none => rw [hs] at hk; cases hk
    | some q1 =>
      rw [hs] at hk
      cases hk
      dsimp only
      rw [adr0 (hck q1 (List.mem_of_getElem? hs)).1]
      exact Nat.le_add_right _ _
  · have e : Mi (mm0 C) rg_script 0 k = (cSx C ((k : Int)).toNat).toInt := by
      show (if rg_script = 262134 then (cSx C ((k : Int)).toNat).toInt else if rg_script = 386007841 ∨ rg_script = 1476526881 then (if 0 ≤ (k : Int) ∧ (k : Int) < 100 then (k : Int) else 0) else 0) = _
      exact if_pos rfl
    rw [e]
    simp
  · exact absurd h2 (by show ¬ (j < ((0 : Nat) : Int)); omega)
