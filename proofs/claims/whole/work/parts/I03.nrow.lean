/-! a row made: the memory with one more, and its heap -/
def nrow (σ : Mm) (n a : Nat) : Mm := ((fun r j k => if (r = rg_row_cov ∨ r = rg_arr_cov) ∧ j = (Mc σ : Int) then 0 else Mi σ r j k), Ml σ, Mr σ, (fun j => if j = (Mc σ : Int) then n else Mn σ j), Mc σ + 1, fun j => if j = (Mc σ : Int) then (a, a + 1) else Ma σ j)
theorem nrow_ext {σ : Mm} {n a : Nat} : Ext σ (nrow σ n a) := ⟨Nat.le_succ _, fun j h0 h => by show (if j = (Mc σ : Int) then _ else _) = _; rw [if_neg (by omega)]⟩
theorem nrow_cells {σ : Mm} {n a : Nat} : cells (nrow σ n a) = cells σ ++ [(rg_row_cov, (Mc σ : Int)), (rg_arr_cov, (Mc σ : Int))] := by
  unfold cells
  show scells ++ (List.range (Mc σ + 1)).flatMap _ = _
  rw [List.range_succ, List.flatMap_append, ← List.append_assoc]
  simp
theorem scell_f : ∀ q ∈ scells, (q.1 ≠ rg_row_cov ∧ q.1 ≠ rg_arr_cov) ∧ (q.1 / 8 % 16384 ≠ 16383 ∧ q.1 / 8 % 16384 ≠ 16382) ∧ q.1 % 8 ≠ 6 := by decide +kernel
theorem cell_cov {σ : Mm} {r : Nat} {j : Int} (h : (r, j) ∈ cells σ) : (r, j) ∈ scells ∨ ((r = rg_row_cov ∨ r = rg_arr_cov) ∧ 0 ≤ j ∧ j < (Mc σ : Int)) := by
  rcases List.mem_append.mp h with hm | hm
  · exact Or.inl hm
  · obtain ⟨y, hy, hm⟩ := List.mem_flatMap.mp hm
    have hy := List.mem_range.mp hy
    simp only [List.mem_cons, Prod.mk.injEq, List.not_mem_nil, or_false] at hm
    exact Or.inr ⟨hm.imp (fun w => w.1) (fun w => w.1), by rcases hm with ⟨-, h⟩ | ⟨-, h⟩ <;> omega, by rcases hm with ⟨-, h⟩ | ⟨-, h⟩ <;> omega⟩
theorem cell_ne {σ : Mm} {r : Nat} {j : Int} (h : (r, j) ∈ cells σ) : ¬ ((r = rg_row_cov ∨ r = rg_arr_cov) ∧ j = (Mc σ : Int)) := by
  rintro ⟨h1, h2⟩
  rcases cell_cov h with h3 | ⟨-, -, h3⟩
  · have := (scell_f _ h3).1
    rcases h1 with h1 | h1
    · exact this.1 h1
    · exact this.2 h1
  · omega
theorem cell_6 {σ : Mm} {r : Nat} {j : Int} (h : (r, j) ∈ cells σ) : r % 8 ≠ 6 := by
  rcases cell_cov h with h3 | ⟨h3, -⟩
  · exact (scell_f _ h3).2.2
  · rcases h3 with rfl | rfl <;> decide
theorem Mn_nrow {σ : Mm} {n a : Nat} {j : Int} (h : j ≠ (Mc σ : Int)) : Mn (nrow σ n a) j = Mn σ j := by
  show (if j = (Mc σ : Int) then n else Mn σ j) = _
  exact if_neg h
theorem alen_nrow {σ : Mm} {n a r : Nat} {j : Int} (h : (r, j) ∈ cells σ) : alen (nrow σ n a) r j = alen σ r j := by
  unfold alen
  rcases cell_cov h with h3 | ⟨h3, h4, h5⟩
  · obtain ⟨-, ⟨h6, h7⟩, -⟩ := scell_f _ h3
    dsimp only at h6 h7
    rw [if_neg h6, if_neg h6, if_neg h7, if_neg h7]
  · have e : Mn (nrow σ n a) j = Mn σ j := Mn_nrow (by omega)
    have e1 : Mn (nrow σ n a) (-1) = Mn σ (-1) := Mn_nrow (by omega)
    rw [e, e1]
theorem adr_nrow {C : Cx} {σ : Mm} {n a r : Nat} {j : Int} (h : (r, j) ∈ cells σ) : adr C (nrow σ n a) r j = adr C σ r j := by
  have := up_ext (C := C) (nrow_ext (σ := σ) (n := n) (a := a)) (v := vR r j) (Or.inr h)
  exact Value.ref.inj this
theorem adr_nrow2 {C : Cx} {σ : Mm} {n a : Nat} {q : Nat × Int} (h : q ∈ cells σ) : adr C (nrow σ n a) q.1 q.2 = adr C σ q.1 q.2 := adr_nrow (r := q.1) (j := q.2) h
theorem Mi_nrow {σ : Mm} {n a r : Nat} {j k : Int} (h : ¬ ((r = rg_row_cov ∨ r = rg_arr_cov) ∧ j = (Mc σ : Int))) : Mi (nrow σ n a) r j k = Mi σ r j k := if_neg h
theorem ent_nrow {C : Cx} {σ : Mm} {n a r : Nat} {j : Int} {D : va_G} {cl : List vw_C} {x : Nat} {H : Heap} (h : (r, j) ∈ cells σ) (hd : r % 8 = 5 → ∀ k : Int, 0 ≤ k → k < alen σ r j → Mr σ r j k ∈ cells σ) (hat : va_at D cl (x, ent C σ r j) H) : va_at D cl (x, ent C (nrow σ n a) r j) H := by
  have e1 : ∀ k : Int, Mi (nrow σ n a) r j k = Mi σ r j k := fun k => Mi_nrow (cell_ne h)
  by_cases h8 : r % 8 = 0 ∨ r % 8 = 7
  · rw [ent_o h8] at hat ⊢
    have ef : fvals C (nrow σ n a) r j = fvals C σ r j := by
      unfold fvals
      apply List.ext_getElem?
      intro k
      rw [List.getElem?_mapIdx, List.getElem?_mapIdx]
      cases hq : (CF.getD (clsOf r) [])[k]? with
      | none => rfl
      | some q =>
        show some _ = some _
        congr 1
        unfold fval
        dsimp only
        by_cases g1 : q.1 = 0 ∨ q.1 = 5
        · rw [if_pos g1, if_pos g1, e1]
        · rw [if_neg g1, if_neg g1]
          by_cases g2 : q.1 = 1
          · rw [if_pos g2, if_pos g2]; rfl
          · rw [if_neg g2, if_neg g2, adr_nrow2 (q := sref r j q.1 q.2) (ref_wf h h8 (List.mem_of_getElem? hq) ⟨fun w => g1 (Or.inl w), g2, fun w => g1 (Or.inr w)⟩)]
    rw [ef]
    exact hat
  by_cases h1 : r % 8 = 1
  · rw [ent_1 h1] at hat ⊢
    simp only [e1, alen_nrow h]
    exact hat
  by_cases h2 : r % 8 = 2
  · rw [ent_2 h2] at hat ⊢
    simp only [e1, alen_nrow h]
    exact hat
  by_cases h3 : r % 8 = 3
  · rw [ent_3 h3] at hat ⊢
    rw [alen_nrow h]
    exact hat
  by_cases h4 : r % 8 = 4
  · rw [ent_4 h4] at hat ⊢
    have ea : ∀ k : Int, adr C (nrow σ n a) (elemR r) k = adr C σ (elemR r) k := fun k => by
      have : elemR r ≠ rg_row_cov ∧ elemR r ≠ rg_arr_cov := by
        unfold elemR
        split
        · decide
        · split <;> decide
      unfold adr
      rw [if_neg this.1, if_neg this.1, if_neg this.2, if_neg this.2]
    simp only [ea, alen_nrow h]
    exact hat
  have h5 : r % 8 = 5 := by have := cell_6 h; omega
  rw [ent_5 h5] at hat ⊢
  rw [alen_nrow h]
  refine Eq.trans (show H[x]? = _ from hat) (congrArg some ?_)
  rw [vp_cell_q, vp_cell_q]
  refine arrV_c fun k hk => ?_
  have hm := hd h5 (k : Int) (by omega) (by omega)
  show va_rf (some (adr C σ (Mr σ r j k).1 (Mr σ r j k).2)) = va_rf (some (adr C (nrow σ n a) (Mr σ r j k).1 (Mr σ r j k).2))
  rw [adr_nrow2 (q := Mr σ r j k) hm]
theorem ent_nr1 {C : Cx} {σ : Mm} {n a : Nat} : adr C (nrow σ n a) rg_row_cov (Mc σ) = a ∧ adr C (nrow σ n a) rg_arr_cov (Mc σ) = a + 1 := by
  have e : Ma (nrow σ n a) (Mc σ : Int) = (a, a + 1) := if_pos rfl
  constructor
  · unfold adr
    rw [if_pos rfl, e]
  · unfold adr
    rw [if_neg (by decide), if_pos rfl, e]
theorem ent_nr2 {C : Cx} {σ : Mm} {n a : Nat} : ent C (nrow σ n a) rg_row_cov (Mc σ) = .inr (6, [.ref (a + 1), .int 0]) := by
  rw [ent_o (by decide)]
  have e0 : clsOf rg_row_cov = 6 := by decide
  have e1 : fvals C (nrow σ n a) rg_row_cov (Mc σ) = [fval C (nrow σ n a) rg_row_cov (Mc σ) (4, 0) 0, fval C (nrow σ n a) rg_row_cov (Mc σ) (0, 0) 1] := by
    unfold fvals
    rw [e0]
    rfl
  rw [e1, e0]
  have e2 : fval C (nrow σ n a) rg_row_cov (Mc σ) (4, 0) 0 = .ref (adr C (nrow σ n a) rg_arr_cov (Mc σ)) := rfl
  have e3 : fval C (nrow σ n a) rg_row_cov (Mc σ) (0, 0) 1 = .int (Int32.ofInt (Mi (nrow σ n a) rg_row_cov (Mc σ) 1)) := rfl
  have e4 : Mi (nrow σ n a) rg_row_cov (Mc σ) 1 = 0 := if_pos ⟨Or.inl rfl, rfl⟩
  rw [e2, e3, e4, ent_nr1.2]
  rfl
theorem ent_nr3 {C : Cx} {σ : Mm} {n a : Nat} : ent C (nrow σ n a) rg_arr_cov (Mc σ) = .inl ((cTy C).1, n, .inl (fun _ => 0)) := by
  rw [ent_1 (by decide)]
  have e1 : alen (nrow σ n a) rg_arr_cov (Mc σ) = (n : Int) := by
    unfold alen
    rw [if_pos (by decide)]
    show ((if (Mc σ : Int) = (Mc σ : Int) then n else _ : Nat) : Int) = _
    rw [if_pos rfl]
  have e2 : ∀ k : Int, Mi (nrow σ n a) rg_arr_cov (Mc σ) k = 0 := fun k => if_pos ⟨Or.inr rfl, rfl⟩
  rw [e1]
  simp only [e2]
  rfl
theorem wl_nrow {C : Cx} {σ : Mm} {n a k : Nat} {y : Nat × va_E} (hd : dynOk σ) (h : (wl C (nrow σ n a))[k]? = some y) :
    (k < (cells σ).length ∧ ∃ z, (wl C σ)[k]? = some z ∧ z.1 = y.1 ∧ ∀ {D : va_G} {cl : List vw_C} {H : Heap}, va_at D cl z H → va_at D cl y H) ∨ (k = (cells σ).length ∧ y = (a, .inr (6, [.ref (a + 1), .int 0]))) ∨ (k = (cells σ).length + 1 ∧ y = (a + 1, .inl ((cTy C).1, n, .inl (fun _ => 0)))) := by
  unfold wl at h
  rw [List.getElem?_map, nrow_cells] at h
  by_cases hk : k < (cells σ).length
  · rw [List.getElem?_append_left hk] at h
    refine Or.inl ⟨hk, ?_⟩
    cases hq : (cells σ)[k]? with
    | none => rw [hq] at h; cases h
    | some q =>
      rw [hq] at h
      cases h
      have hm := List.mem_of_getElem? hq
      refine ⟨(adr C σ q.1 q.2, ent C σ q.1 q.2), by unfold wl; rw [List.getElem?_map, hq]; rfl, (adr_nrow hm).symm, fun {D cl H} hat => ?_⟩
      have := ent_nrow (C := C) (n := n) (a := a) (r := q.1) (j := q.2) hm (fun h5 k k0 k1 => (hd q hm h5 k k0 k1).1) hat
      dsimp only
      rw [adr_nrow hm]
      exact this
  · rw [List.getElem?_append_right (by omega)] at h
    by_cases h0 : k - (cells σ).length = 0
    · rw [h0] at h
      cases h
      refine Or.inr (Or.inl ⟨by omega, ?_⟩)
      dsimp only
      rw [ent_nr1.1, ent_nr2]
    · by_cases h1 : k - (cells σ).length = 1
      · rw [h1] at h
        cases h
        refine Or.inr (Or.inr ⟨by omega, ?_⟩)
        dsimp only
        rw [ent_nr1.2, ent_nr3]
      · exfalso
        rw [List.getElem?_eq_none (by simp; omega)] at h
        cases h
theorem Hh_nrow {C : Cx} {σ : Mm} {n : Nat} {H H2 : Heap} (hH : Hh C σ H) (hn : n ≤ 240) (hk : ∀ q, q < H.size → H2[q]? = H[q]?) (hb : cBa C ≤ H.size) (h1 : va_at (cDa C) vwCl (H.size, .inr (6, [.ref (H.size + 1), .int 0])) H2) (h2 : va_at (cDa C) vwCl (H.size + 1, .inl ((cTy C).1, n, .inl (fun _ => 0))) H2) : Hh C (nrow σ n H.size) H2 := by
  obtain ⟨hP, hD, hdy, hsc, hcv⟩ := hH
  have hlt : ∀ (k : Nat) (z : Nat × va_E), (wl C σ)[k]? = some z → z.1 < H.size := fun k z hz => (hP k z hz).lt
  refine ⟨fun k y hy => ?_, ⟨fun i j p q hp hq he => ?_, fun k q hq => ?_⟩, fun q hq h5 k h0 hl => ?_, ⟨?_, hsc.2.1, fun k => ?_⟩, fun j j0 jl => ?_⟩
  · rcases wl_nrow hdy hy with ⟨-, z, hz, ez, ht⟩ | ⟨-, rfl⟩ | ⟨-, rfl⟩
    · exact ht ((hP k z hz).kept (hk _ (hlt k z hz)))
    · exact h1
    · exact h2
  · rcases wl_nrow hdy hp with ⟨hi, z, hz, ez, -⟩ | ⟨hi, rfl⟩ | ⟨hi, rfl⟩ <;> rcases wl_nrow hdy hq with ⟨hj, w, hw, ew, -⟩ | ⟨hj, rfl⟩ | ⟨hj, rfl⟩
    · exact hD.1 i j z w hz hw (by rw [ez, ew]; exact he)
    · have := hlt i z hz; dsimp only at he; omega
    · have := hlt i z hz; dsimp only at he; omega
    · have := hlt j w hw; dsimp only at he; omega
    · omega
    · dsimp only at he; omega
    · have := hlt j w hw; dsimp only at he; omega
    · dsimp only at he; omega
    · omega
  · rcases wl_nrow hdy hq with ⟨-, z, hz, ez, -⟩ | ⟨-, rfl⟩ | ⟨-, rfl⟩
    · rw [← ez]; exact hD.2 k z hz
    · exact hb
    · exact Nat.le_succ_of_le hb
  · rw [nrow_cells] at hq
    rcases List.mem_append.mp hq with hm | hm
    · rw [alen_nrow hm] at hl
      obtain ⟨g1, g2⟩ := hdy q hm h5 k h0 hl
      exact ⟨cells_mono (Nat.le_succ _) g1, g2⟩
    · exfalso
      simp only [List.mem_cons, List.not_mem_nil, or_false] at hm
      rcases hm with rfl | rfl
      · exact absurd (show rg_row_cov % 8 = 5 from h5) (by decide)
      · exact absurd (show rg_arr_cov % 8 = 5 from h5) (by decide)
  · rw [← hsc.1]
    exact Mn_nrow (by omega)
  · rw [← hsc.2.2 k]
    rw [Mi_nrow (by rintro ⟨h, -⟩; revert h; decide)]
  · show (if j = (Mc σ : Int) then n else Mn σ j) ≤ 4000
    split
    · omega
    · have jl : j < ((Mc σ + 1 : Nat) : Int) := jl
      exact hcv j j0 (by omega)
