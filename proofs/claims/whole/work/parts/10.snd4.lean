/-! soundness: arrays, calls, switches -/
theorem sc_len : ∀ q ∈ scells, q.1 / 8 % 16384 ≠ 16383 ∧ q.1 / 8 % 16384 ≠ 16382 ∧ q.1 % 8 ≠ 6 := by decide +kernel
theorem cov_mem {σ : Mm} {r : Nat} {j : Int} (h : (r, j) ∈ cells σ) : (r, j) ∈ scells ∨ ((r = rg_row_cov ∨ r = rg_arr_cov) ∧ 0 ≤ j ∧ j < Mc σ) := by
  rcases List.mem_append.mp h with hm | hm
  · exact Or.inl hm
  · obtain ⟨y, hy, hm⟩ := List.mem_flatMap.mp hm
    have hy := List.mem_range.mp hy
    simp only [List.mem_cons, Prod.mk.injEq, List.not_mem_nil, or_false] at hm
    right
    rcases hm with ⟨rfl, rfl⟩ | ⟨rfl, rfl⟩
    · exact ⟨Or.inl rfl, by omega, by omega⟩
    · exact ⟨Or.inr rfl, by omega, by omega⟩
theorem cov_no6 : rg_row_cov % 8 = 7 ∧ rg_arr_cov % 8 = 1 ∧ rg_row_cov / 8 % 16384 = 16383 ∧ rg_arr_cov / 8 % 16384 = 16383 ∧ rg_script / 8 % 16384 = 16382 ∧ rg_script ≠ rg_row_cov ∧ rg_script ≠ rg_arr_cov := by decide
theorem wf_script {σ : Mm} {r : Nat} {j : Int} (h : wf σ (vR r j)) (h6 : r % 8 = 6) : r = rg_script ∧ j = 0 := by
  rcases h with h | h
  · exact h
  · rcases cov_mem h with h | ⟨rfl | rfl, -⟩
    · exact absurd h6 (sc_len _ h).2.2
    · exact absurd h6 (by decide)
    · exact absurd h6 (by decide)
theorem alen_le {C : Cx} {σ : Mm} {H : Heap} {r : Nat} {j : Int} (hH : Hh C σ H) (h : wf σ (vR r j)) : 0 ≤ alen σ r j ∧ alen σ r j ≤ 16383 := by
  rcases h with ⟨rfl, rfl⟩ | h
  · simp only [alen, cov_no6]
    have h1 := hH.2.2.2.1.1
    have h2 := hH.2.2.2.1.2.1
    simp
    omega
  · rcases cov_mem h with h | ⟨hr, h0, h1⟩
    · have := sc_len _ h
      simp only [alen, this.1, this.2.1]
      simp
      omega
    · have := hH.2.2.2.2 j h0 h1
      have e : r / 8 % 16384 = 16383 := by rcases hr with rfl | rfl <;> decide
      simp only [alen, e]
      simp
      omega
theorem ent_1 {C : Cx} {σ : Mm} {r : Nat} {j : Int} (h : r % 8 = 1) : ent C σ r j = .inl ((cTy C).1, (alen σ r j).toNat, .inl (fun k => Int32.ofInt (Mi σ r j k))) := by simp only [ent, h]; rfl
theorem ent_2 {C : Cx} {σ : Mm} {r : Nat} {j : Int} (h : r % 8 = 2) : ent C σ r j = .inl ((cTy C).2.1, (alen σ r j).toNat, .inl (fun k => Int32.ofInt (Mi σ r j k))) := by simp only [ent, h]; rfl
theorem ent_3 {C : Cx} {σ : Mm} {r : Nat} {j : Int} (h : r % 8 = 3) : ent C σ r j = .inl ((cTy C).2.2.1, (alen σ r j).toNat, .inr (.inl (fun k => Ml σ r j k))) := by simp only [ent, h]; rfl
theorem ent_4 {C : Cx} {σ : Mm} {r : Nat} {j : Int} (h : r % 8 = 4) : ent C σ r j = .inl ((cTy C).2.2.2, (alen σ r j).toNat, .inr (.inr (.inr (.inr (fun k => some (adr C σ (elemR r) k)))))) := by simp only [ent, h]; rfl
theorem ent_5 {C : Cx} {σ : Mm} {r : Nat} {j : Int} (h : r % 8 = 5) : ent C σ r j = .inl ((cTy C).2.2.2, (alen σ r j).toNat, .inr (.inr (.inr (.inr (fun k => some (adr C σ (Mr σ r j k).1 (Mr σ r j k).2)))))) := by simp only [ent, h]; rfl
theorem elem_wf : ∀ q ∈ scells, q.1 % 8 = 4 → ∀ i, i < q.1 / 8 % 16384 → (elemR q.1, (i : Int)) ∈ scells := by
  have key : ∀ q ∈ scells, q.1 % 8 = 4 → (List.range (q.1 / 8 % 16384)).all (fun i => scells.contains (elemR q.1, (i : Int))) = true := by decide +kernel
  intro q hq h4 i hi
  have := List.all_eq_true.mp (key q hq h4) i (List.mem_range.mpr hi)
  simpa using this
theorem csum_eq (C : Cx) (σ : Mm) : ∀ st : List Vv, ((st.map (up C σ)).map fun v => v.category).sum = csum st
  | [] => rfl
  | .inl x :: st => by simp only [List.map_cons, List.sum_cons, csum, csum_eq C σ st]; rfl
  | .inr (.inl x) :: st => by simp only [List.map_cons, List.sum_cons, csum, csum_eq C σ st]; rfl
  | .inr (.inr (r, j)) :: st => by simp only [List.map_cons, List.sum_cons, csum, csum_eq C σ st]; rfl
section
variable {C : Cx} {p : Program} {l : Launch} {e : Env} {R : Room} {s : State} {m : MethodId} {args : Array Value} {below : List Frame} {meth : Method} {c : Code} {H0 : Heap} {ce sl : Nat} {Q : State → Prop} {σ0 : Mm} {nL lv : Nat} {cc : ByteArray} {own : String}
theorem so_iald (F : FX C p l R s m args c H0 ce sl nL cc own lv) {pc : Nat} {k : Sx} (d : decode cc pc = .ok (.iaload, 1)) (hk : ∀ ls st σ, k ls st σ → XJ C p l e R s m args below meth c H0 ce sl Q nL σ0 (pc + 1) ls st σ) {ls : List (Option Vv)} {st : List Vv} {σ : Mm}
    (h : pI st fun i st => pR st fun r j st => (r % 8 = 1 ∨ r % 8 = 6) ∧ (0 ≤ i ∧ i < alen σ r j) ∧ k ls (vI (Mi σ r j i) :: st) σ) : XJ C p l e R s m args below meth c H0 ce sl Q nL σ0 pc ls st σ := by
  obtain ⟨i, st1, rfl, ha⟩ := pI_e h
  obtain ⟨r, j, st, rfl, h8, ⟨h0, h1⟩, h⟩ := pR_e ha
  intro Ls H locs hL hw hH hS hE
  have hwr := hw.1 _ (List.mem_cons_of_mem _ List.mem_cons_self)
  have hle := (alen_le hH hwr).2
  have hk1 := hk _ _ _ h Ls H locs hL (wfs_cons (wfs_tl (wfs_tl hw)) trivial) hH hS hE
  obtain ⟨⟨hx, hb⟩, ⟨hml, hown, hts, hK⟩, ⟨hX, hX1, hX2⟩, -⟩ := F
  have hin : vp_in (Int32.ofInt i) (alen σ r j).toNat := ir_in h0 h1 (by omega)
  have hi : (Int32.ofInt i).toNatClampNeg = i.toNat := ir_nat h0 (by omega)
  rcases h8 with h8 | h8
  · obtain ⟨q0, -, hat⟩ := wl_at (C := C) (wf_cell hwr (by omega))
    rw [ent_1 h8] at hat
    refine va_iald hx hb hK hH.1 q0 0 hat rfl hin d ?_
    rw [hi]
    simp only [Int.toNat_of_nonneg h0]
    exact hk1
  · obtain ⟨rfl, rfl⟩ := wf_script hwr h8
    have eq1 : (alen σ rg_script 0).toNat = cSl C := by
      simp only [alen, cov_no6]
      have h1 := hH.2.2.2.1.1
      simp [h1]
    rw [eq1] at hin
    have ea : adr C σ rg_script 0 = cSc C := by simp only [adr, if_neg cov_no6.2.2.2.2.2.1, if_neg cov_no6.2.2.2.2.2.2]; simp
    show W p l e R s m args below meth c H locs ce sl Q (F0 m pc Ls (.int (Int32.ofInt i) :: .ref (adr C σ rg_script 0) :: st.map (up C σ)))
    rw [ea]
    refine va_sld hx hb hX (Nat.lt_of_lt_of_le hX1 hX2) (by simp; omega) hS hin d ?_
    rw [hi, ← hH.2.2.2.1.2.2]
    simp only [Int.toNat_of_nonneg h0]
    exact hk1
theorem so_zald (F : FX C p l R s m args c H0 ce sl nL cc own lv) {pc : Nat} {k : Sx} (d : decode cc pc = .ok (.baload, 1)) (hk : ∀ ls st σ, k ls st σ → XJ C p l e R s m args below meth c H0 ce sl Q nL σ0 (pc + 1) ls st σ) {ls : List (Option Vv)} {st : List Vv} {σ : Mm}
    (h : pI st fun i st => pR st fun r j st => r % 8 = 2 ∧ (0 ≤ i ∧ i < alen σ r j) ∧ k ls (vI (Mi σ r j i) :: st) σ) : XJ C p l e R s m args below meth c H0 ce sl Q nL σ0 pc ls st σ := by
  obtain ⟨i, st1, rfl, ha⟩ := pI_e h
  obtain ⟨r, j, st, rfl, h8, ⟨h0, h1⟩, h⟩ := pR_e ha
  intro Ls H locs hL hw hH hS hE
  have hwr := hw.1 _ (List.mem_cons_of_mem _ List.mem_cons_self)
  have hle := (alen_le hH hwr).2
  have hk1 := hk _ _ _ h Ls H locs hL (wfs_cons (wfs_tl (wfs_tl hw)) trivial) hH hS hE
  obtain ⟨⟨hx, hb⟩, ⟨hml, hown, hts, hK⟩, -⟩ := F
  have hin : vp_in (Int32.ofInt i) (alen σ r j).toNat := ir_in h0 h1 (by omega)
  have hi : (Int32.ofInt i).toNatClampNeg = i.toNat := ir_nat h0 (by omega)
  obtain ⟨q0, -, hat⟩ := wl_at (C := C) (wf_cell hwr (by omega))
  rw [ent_2 h8] at hat
  refine va_zald hx hb hK hH.1 q0 1 hat rfl hin d ?_
  rw [hi]
  simp only [Int.toNat_of_nonneg h0]
  exact hk1
theorem so_lald (F : FX C p l R s m args c H0 ce sl nL cc own lv) {pc : Nat} {k : Sx} (d : decode cc pc = .ok (.laload, 1)) (hk : ∀ ls st σ, k ls st σ → XJ C p l e R s m args below meth c H0 ce sl Q nL σ0 (pc + 1) ls st σ) {ls : List (Option Vv)} {st : List Vv} {σ : Mm}
    (h : pI st fun i st => pR st fun r j st => r % 8 = 3 ∧ (0 ≤ i ∧ i < alen σ r j) ∧ k ls (vG (Ml σ r j i) :: st) σ) : XJ C p l e R s m args below meth c H0 ce sl Q nL σ0 pc ls st σ := by
  obtain ⟨i, st1, rfl, ha⟩ := pI_e h
  obtain ⟨r, j, st, rfl, h8, ⟨h0, h1⟩, h⟩ := pR_e ha
  intro Ls H locs hL hw hH hS hE
  have hwr := hw.1 _ (List.mem_cons_of_mem _ List.mem_cons_self)
  have hle := (alen_le hH hwr).2
  have hk1 := hk _ _ _ h Ls H locs hL (wfs_cons (wfs_tl (wfs_tl hw)) trivial) hH hS hE
  obtain ⟨⟨hx, hb⟩, ⟨hml, hown, hts, hK⟩, -⟩ := F
  have hin : vp_in (Int32.ofInt i) (alen σ r j).toNat := ir_in h0 h1 (by omega)
  have hi : (Int32.ofInt i).toNatClampNeg = i.toNat := ir_nat h0 (by omega)
  obtain ⟨q0, -, hat⟩ := wl_at (C := C) (wf_cell hwr (by omega))
  rw [ent_3 h8] at hat
  refine va_lald hx hb hK hH.1 q0 2 hat rfl hin d ?_
  rw [hi]
  simp only [Int.toNat_of_nonneg h0]
  exact hk1
theorem so_aald (F : FX C p l R s m args c H0 ce sl nL cc own lv) {pc : Nat} {k : Sx} (d : decode cc pc = .ok (.aaload, 1)) (hk : ∀ ls st σ, k ls st σ → XJ C p l e R s m args below meth c H0 ce sl Q nL σ0 (pc + 1) ls st σ) {ls : List (Option Vv)} {st : List Vv} {σ : Mm}
    (h : pI st fun i st => pR st fun r j st => if r % 8 = 4 then (0 ≤ i ∧ i < alen σ r j) ∧ k ls (vR (elemR r) i :: st) σ else r % 8 = 5 ∧ (0 ≤ i ∧ i < alen σ r j) ∧ k ls (vR (Mr σ r j i).1 (Mr σ r j i).2 :: st) σ) : XJ C p l e R s m args below meth c H0 ce sl Q nL σ0 pc ls st σ := by
  obtain ⟨i, st1, rfl, ha⟩ := pI_e h
  obtain ⟨r, j, st, rfl, hz⟩ := pR_e ha
  intro Ls H locs hL hw hH hS hE
  have hwr := hw.1 _ (List.mem_cons_of_mem _ List.mem_cons_self)
  have hle := (alen_le hH hwr).2
  obtain ⟨⟨hx, hb⟩, ⟨hml, hown, hts, hK⟩, -⟩ := F
  by_cases h8 : r % 8 = 4
  · rw [if_pos h8] at hz
    obtain ⟨⟨h0, h1⟩, h⟩ := hz
    have hin : vp_in (Int32.ofInt i) (alen σ r j).toNat := ir_in h0 h1 (by omega)
    have hi : (Int32.ofInt i).toNatClampNeg = i.toNat := ir_nat h0 (by omega)
    have hcell := wf_cell hwr (by omega)
    have hsc : (r, j) ∈ scells := by
      rcases cov_mem hcell with h | ⟨rfl | rfl, -⟩
      · exact h
      · exact absurd h8 (by decide)
      · exact absurd h8 (by decide)
    have hal : alen σ r j = ((r / 8 % 16384 : Nat) : Int) := by
      have := sc_len _ hsc
      simp only [alen, if_neg this.1, if_neg this.2.1]
    have hw2 : wf σ (vR (elemR r) i) := by
      have := elem_wf _ hsc h8 i.toNat (by rw [hal] at h1; show i.toNat < r / 8 % 16384; omega)
      rw [Int.toNat_of_nonneg h0] at this
      exact Or.inr (List.mem_append_left _ this)
    have hk1 := hk _ _ _ h Ls H locs hL (wfs_cons (wfs_tl (wfs_tl hw)) hw2) hH hS hE
    obtain ⟨q0, -, hat⟩ := wl_at (C := C) hcell
    rw [ent_4 h8] at hat
    refine va_aldq (C := "BookHouse$Row") hx hb hK hH.1 q0 3 hat rfl hin d ?_
    rw [hi]
    simp only [Int.toNat_of_nonneg h0]
    exact hk1
  · rw [if_neg h8] at hz
    obtain ⟨h5, ⟨h0, h1⟩, h⟩ := hz
    have hin : vp_in (Int32.ofInt i) (alen σ r j).toNat := ir_in h0 h1 (by omega)
    have hi : (Int32.ofInt i).toNatClampNeg = i.toNat := ir_nat h0 (by omega)
    have hcell := wf_cell hwr (by omega)
    have hw2 : wf σ (vR (Mr σ r j i).1 (Mr σ r j i).2) := Or.inr (hH.2.2.1 _ hcell h5 i h0 h1).1
    have hk1 := hk _ _ _ h Ls H locs hL (wfs_cons (wfs_tl (wfs_tl hw)) hw2) hH hS hE
    obtain ⟨q0, -, hat⟩ := wl_at (C := C) hcell
    rw [ent_5 h5] at hat
    refine va_aldq (C := "BookHouse$Row") hx hb hK hH.1 q0 3 hat rfl hin d ?_
    rw [hi]
    simp only [Int.toNat_of_nonneg h0]
    exact hk1
theorem upd_eq {σ : Mm} {r : Nat} {j i v : Int} (h0 : 0 ≤ i) : upd (fun k : Nat => Int32.ofInt (Mi σ r j k)) i.toNat (Int32.ofInt v) = fun k : Nat => Int32.ofInt (Mi (sI σ r j i v) r j k) := by
  funext k
  show (if k = i.toNat then _ else _) = Int32.ofInt (up3 (Mi σ) r j i v r j k)
  simp only [up3]
  by_cases hk : k = i.toNat
  · rw [if_pos hk, if_pos ⟨trivial, trivial, by omega⟩]
  · rw [if_neg hk, if_neg (by rintro ⟨-, -, h⟩; omega)]
theorem so_iast (F : FX C p l R s m args c H0 ce sl nL cc own lv) {pc : Nat} {k : Sx} (d : decode cc pc = .ok (.iastore, 1)) (hk : ∀ ls st σ, k ls st σ → XJ C p l e R s m args below meth c H0 ce sl Q nL σ0 (pc + 1) ls st σ) {ls : List (Option Vv)} {st : List Vv} {σ : Mm}
    (h : pI st fun v st => pI st fun i st => pR st fun r j st => r % 8 = 1 ∧ (0 ≤ i ∧ i < alen σ r j) ∧ k ls st (sI σ r j i v)) : XJ C p l e R s m args below meth c H0 ce sl Q nL σ0 pc ls st σ := by
  obtain ⟨v, st1, rfl, ha⟩ := pI_e h
  obtain ⟨i, st2, rfl, hb⟩ := pI_e ha
  obtain ⟨r, j, st, rfl, h8, ⟨h0, h1⟩, h⟩ := pR_e hb
  intro Ls H locs hL hw hH hS hE
  have hwr := hw.1 _ (List.mem_cons_of_mem _ (List.mem_cons_of_mem _ List.mem_cons_self))
  have hle := (alen_le hH hwr).2
  obtain ⟨⟨hx, hb⟩, ⟨hml, hown, hts, hK⟩, -⟩ := F
  have hin : vp_in (Int32.ofInt i) (alen σ r j).toNat := ir_in h0 h1 (by omega)
  have hi : (Int32.ofInt i).toNatClampNeg = i.toNat := ir_nat h0 (by omega)
  obtain ⟨q0, hq0, hat⟩ := wl_at (C := C) (wf_cell hwr (by omega))
  rw [ent_1 h8] at hat
  refine va_iast hx hb hK hH.1 hH.2.1 hS q0 0 hat rfl hin d (fun H1 locs1 hP1 hD1 hS1 => ?_)
  rw [hi, upd_eq h0] at hP1 hD1
  have e1 : (Sum.inl ((cTy C).1, (alen σ r j).toNat, .inl (fun k : Nat => Int32.ofInt (Mi (sI σ r j i v) r j k))) : va_E) = ent C (sI σ r j i v) r j := (ent_1 (σ := sI σ r j i v) h8).symm
  rw [e1] at hP1 hD1
  exact hk _ _ _ h Ls H1 locs1 hL (wfs_tl (wfs_tl (wfs_tl hw))) (Hh_sI (by omega) hH hq0 hP1 hD1) hS1 hE
theorem so_zast (F : FX C p l R s m args c H0 ce sl nL cc own lv) {pc : Nat} {k : Sx} (d : decode cc pc = .ok (.bastore, 1)) (hk : ∀ ls st σ, k ls st σ → XJ C p l e R s m args below meth c H0 ce sl Q nL σ0 (pc + 1) ls st σ) {ls : List (Option Vv)} {st : List Vv} {σ : Mm}
    (h : pI st fun v st => pI st fun i st => pR st fun r j st => r % 8 = 2 ∧ (0 ≤ i ∧ i < alen σ r j) ∧ (v = 0 ∨ v = 1) ∧ k ls st (sI σ r j i v)) : XJ C p l e R s m args below meth c H0 ce sl Q nL σ0 pc ls st σ := by
  obtain ⟨v, st1, rfl, ha⟩ := pI_e h
  obtain ⟨i, st2, rfl, hb⟩ := pI_e ha
  obtain ⟨r, j, st, rfl, h8, ⟨h0, h1⟩, hv, h⟩ := pR_e hb
  intro Ls H locs hL hw hH hS hE
  have hwr := hw.1 _ (List.mem_cons_of_mem _ (List.mem_cons_of_mem _ List.mem_cons_self))
  have hle := (alen_le hH hwr).2
  obtain ⟨⟨hx, hb⟩, ⟨hml, hown, hts, hK⟩, -⟩ := F
  have hin : vp_in (Int32.ofInt i) (alen σ r j).toNat := ir_in h0 h1 (by omega)
  have hi : (Int32.ofInt i).toNatClampNeg = i.toNat := ir_nat h0 (by omega)
  obtain ⟨q0, hq0, hat⟩ := wl_at (C := C) (wf_cell hwr (by omega))
  rw [ent_2 h8] at hat
  refine va_zast hx hb hK hH.1 hH.2.1 hS q0 1 hat rfl hin d (fun H1 locs1 hP1 hD1 hS1 => ?_)
  have ev : vp_nar .boolean (Int32.ofInt v) = Int32.ofInt v := by rcases hv with rfl | rfl <;> decide
  rw [hi, ev, upd_eq h0] at hP1 hD1
  have e1 : (Sum.inl ((cTy C).2.1, (alen σ r j).toNat, .inl (fun k : Nat => Int32.ofInt (Mi (sI σ r j i v) r j k))) : va_E) = ent C (sI σ r j i v) r j := (ent_2 (σ := sI σ r j i v) h8).symm
  rw [e1] at hP1 hD1
  exact hk _ _ _ h Ls H1 locs1 hL (wfs_tl (wfs_tl (wfs_tl hw))) (Hh_sI (by omega) hH hq0 hP1 hD1) hS1 hE
theorem so_last (F : FX C p l R s m args c H0 ce sl nL cc own lv) {pc : Nat} {k : Sx} (d : decode cc pc = .ok (.lastore, 1)) (hk : ∀ ls st σ, k ls st σ → XJ C p l e R s m args below meth c H0 ce sl Q nL σ0 (pc + 1) ls st σ) {ls : List (Option Vv)} {st : List Vv} {σ : Mm}
    (h : pG st fun v st => pI st fun i st => pR st fun r j st => r % 8 = 3 ∧ (0 ≤ i ∧ i < alen σ r j) ∧ k ls st (sL σ r j i v)) : XJ C p l e R s m args below meth c H0 ce sl Q nL σ0 pc ls st σ := by
  obtain ⟨v, st1, rfl, ha⟩ := pG_e h
  obtain ⟨i, st2, rfl, hb⟩ := pI_e ha
  obtain ⟨r, j, st, rfl, h8, ⟨h0, h1⟩, h⟩ := pR_e hb
  intro Ls H locs hL hw hH hS hE
  have hwr := hw.1 _ (List.mem_cons_of_mem _ (List.mem_cons_of_mem _ List.mem_cons_self))
  have hle := (alen_le hH hwr).2
  obtain ⟨⟨hx, hb⟩, ⟨hml, hown, hts, hK⟩, -⟩ := F
  have hin : vp_in (Int32.ofInt i) (alen σ r j).toNat := ir_in h0 h1 (by omega)
  have hi : (Int32.ofInt i).toNatClampNeg = i.toNat := ir_nat h0 (by omega)
  obtain ⟨q0, hq0, hat⟩ := wl_at (C := C) (wf_cell hwr (by omega))
  rw [ent_3 h8] at hat
  refine va_last hx hb hK hH.1 hH.2.1 hS q0 2 hat rfl hin d (fun H1 locs1 hP1 hD1 hS1 => ?_)
  have eu : vp_updL (fun k : Nat => Ml σ r j k) i.toNat v = fun k : Nat => Ml (sL σ r j i v) r j k := by
    funext k
    show (if k = i.toNat then _ else _) = up3 (Ml σ) r j i v r j k
    simp only [up3]
    by_cases hk : k = i.toNat
    · rw [if_pos hk, if_pos ⟨trivial, trivial, by omega⟩]
    · rw [if_neg hk, if_neg (by rintro ⟨-, -, h⟩; omega)]
  rw [hi, eu] at hP1 hD1
  have e1 : (Sum.inl ((cTy C).2.2.1, (alen σ r j).toNat, .inr (.inl (fun k : Nat => Ml (sL σ r j i v) r j k))) : va_E) = ent C (sL σ r j i v) r j := (ent_3 (σ := sL σ r j i v) h8).symm
  rw [e1] at hP1 hD1
  exact hk _ _ _ h Ls H1 locs1 hL (wfs_tl (wfs_tl (wfs_tl hw))) (Hh_sL hH hq0 hP1 hD1) hS1 hE
theorem so_aast (F : FX C p l R s m args c H0 ce sl nL cc own lv) {pc : Nat} {k : Sx} (d : decode cc pc = .ok (.aastore, 1)) (hk : ∀ ls st σ, k ls st σ → XJ C p l e R s m args below meth c H0 ce sl Q nL σ0 (pc + 1) ls st σ) {ls : List (Option Vv)} {st : List Vv} {σ : Mm}
    (h : pR st fun vr vj st => pI st fun i st => pR st fun r j st => r % 8 = 5 ∧ vr % 8 = 7 ∧ (0 ≤ i ∧ i < alen σ r j) ∧ k ls st (sR σ r j i (vr, vj))) : XJ C p l e R s m args below meth c H0 ce sl Q nL σ0 pc ls st σ := by
  obtain ⟨vr, vj, st1, rfl, ha⟩ := pR_e h
  obtain ⟨i, st2, rfl, hb⟩ := pI_e ha
  obtain ⟨r, j, st, rfl, h8, h7, ⟨h0, h1⟩, h⟩ := pR_e hb
  intro Ls H locs hL hw hH hS hE
  have hwr := hw.1 _ (List.mem_cons_of_mem _ (List.mem_cons_of_mem _ List.mem_cons_self))
  have hwv := wf_cell (hw.1 _ List.mem_cons_self) (by omega)
  have hle := (alen_le hH hwr).2
  obtain ⟨⟨hx, hb⟩, ⟨hml, hown, hts, hK⟩, -⟩ := F
  have hin : vp_in (Int32.ofInt i) (alen σ r j).toNat := ir_in h0 h1 (by omega)
  have hi : (Int32.ofInt i).toNatClampNeg = i.toNat := ir_nat h0 (by omega)
  have hcell := wf_cell hwr (by omega)
  obtain ⟨q0, hq0, hat⟩ := wl_at (C := C) hcell
  obtain ⟨q1, -, hav⟩ := wl_at (C := C) hwv
  rw [ent_5 h8] at hat
  rw [ent_o (Or.inr h7), show clsOf vr = 6 by simp [clsOf, h7]] at hav
  refine va_astq (r := (RX6, TX6, 2)) hx hb hK hH.1 hH.2.1 hS q0 3 q1 6 hat rfl hav rfl hin d (fun H1 locs1 hP1 hD1 hS1 => ?_)
  have eu : va_up (fun k : Nat => some (adr C σ (Mr σ r j k).1 (Mr σ r j k).2)) i.toNat (some (adr C σ vr vj)) = fun k : Nat => some (adr C (sR σ r j i (vr, vj)) (Mr (sR σ r j i (vr, vj)) r j k).1 (Mr (sR σ r j i (vr, vj)) r j k).2) := by
    funext k
    show (if k = i.toNat then _ else _) = some (adr C σ (up3 (Mr σ) r j i (vr, vj) r j k).1 (up3 (Mr σ) r j i (vr, vj) r j k).2)
    simp only [up3]
    by_cases hk : k = i.toNat
    · rw [if_pos hk, if_pos ⟨trivial, trivial, by omega⟩]
    · rw [if_neg hk, if_neg (by rintro ⟨-, -, h⟩; omega)]
  rw [hi, eu] at hP1 hD1
  have e1 : (Sum.inl ((cTy C).2.2.2, (alen σ r j).toNat, .inr (.inr (.inr (.inr (fun k : Nat => some (adr C (sR σ r j i (vr, vj)) (Mr (sR σ r j i (vr, vj)) r j k).1 (Mr (sR σ r j i (vr, vj)) r j k).2)))))) : va_E) = ent C (sR σ r j i (vr, vj)) r j := (ent_5 (σ := sR σ r j i (vr, vj)) h8).symm
  rw [e1] at hP1 hD1
  have e := wl_set (σ' := sR σ r j i (vr, vj)) (C := C) hH.2.1 hq0 rfl rfl (fun r' j' hne => ent_congr (fun _ => rfl) (fun _ => rfl) (fun c => up3_ne hne c) rfl rfl)
  have hdyn : dynOk (sR σ r j i (vr, vj)) := by
    intro q hq h5 kk hk0 hk1
    show (up3 (Mr σ) r j i (vr, vj) q.1 q.2 kk) ∈ cells σ ∧ (up3 (Mr σ) r j i (vr, vj) q.1 q.2 kk).1 % 8 = 7
    simp only [up3]
    by_cases hc : q.1 = r ∧ q.2 = j ∧ kk = i
    · rw [if_pos hc]; exact ⟨hwv, h7⟩
    · rw [if_neg hc]; exact hH.2.2.1 q hq h5 kk hk0 hk1
  exact hk _ _ _ h Ls H1 locs1 hL (wfs_tl (wfs_tl (wfs_tl hw))) ⟨by rw [e]; exact hP1, by rw [e]; exact hD1, hdyn, hH.2.2.2.1, hH.2.2.2.2⟩ hS1 hE
theorem so_alen (F : FX C p l R s m args c H0 ce sl nL cc own lv) {pc : Nat} {k : Sx} (d : decode cc pc = .ok (.arraylength, 1)) (hk : ∀ ls st σ, k ls st σ → XJ C p l e R s m args below meth c H0 ce sl Q nL σ0 (pc + 1) ls st σ) {ls : List (Option Vv)} {st : List Vv} {σ : Mm}
    (h : pR st fun r j st => (r % 8 = 1 ∨ r % 8 = 6) ∧ k ls (vI (alen σ r j) :: st) σ) : XJ C p l e R s m args below meth c H0 ce sl Q nL σ0 pc ls st σ := by
  obtain ⟨r, j, st, rfl, h8, h⟩ := pR_e h
  intro Ls H locs hL hw hH hS hE
  have hwr := hw.1 _ List.mem_cons_self
  obtain ⟨hl0, hle⟩ := alen_le hH hwr
  have hk1 := hk _ _ _ h Ls H locs hL (wfs_cons (wfs_tl hw) trivial) hH hS hE
  obtain ⟨⟨hx, hb⟩, ⟨hml, hown, hts, hK⟩, ⟨hX, hX1, hX2⟩, -⟩ := F
  rcases h8 with h8 | h8
  · obtain ⟨q0, -, hat⟩ := wl_at (C := C) (wf_cell hwr (by omega))
    rw [ent_1 h8] at hat
    refine va_alen (v := Int32.ofInt (alen σ r j)) hx hb hK hH.1 q0 0 hat rfl ?_ d hk1
    show Int32.ofNat (alen σ r j).toNat = Int32.ofInt (alen σ r j)
    rw [← Int32.ofInt_eq_ofNat, Int.toNat_of_nonneg hl0]
  · obtain ⟨rfl, rfl⟩ := wf_script hwr h8
    have eq1 : alen σ rg_script 0 = (cSl C : Int) := by
      simp only [alen, cov_no6]
      have h1 := hH.2.2.2.1.1
      simp [h1]
    have ea : adr C σ rg_script 0 = cSc C := by simp only [adr, if_neg cov_no6.2.2.2.2.2.1, if_neg cov_no6.2.2.2.2.2.2]; simp
    show W p l e R s m args below meth c H locs ce sl Q (F0 m pc Ls (.ref (adr C σ rg_script 0) :: st.map (up C σ)))
    rw [ea]
    refine va_slen hx hb hX (Nat.lt_of_lt_of_le hX1 hX2) (by simp; omega) hS d ?_
    have e2 : Int32.ofNat (cSl C) = Int32.ofInt (alen σ rg_script 0) := by rw [eq1, Int32.ofInt_eq_ofNat]
    rw [e2]
    exact hk1
theorem so_copy (F : FX C p l R s m args c H0 ce sl nL cc own lv) {pc ix : Nat} {k : Sx} (hlink : Jvm.Cond.methodLink own ix arraycopyName ∈ tbG) (hnat : Jvm.Cond.native arraycopyName ∈ tbG) (hstat : Jvm.Cond.static arraycopyName ∈ tbG) (hini : Jvm.Cond.initialized "java/lang/System" ∈ tbG) (d : decode cc pc = .ok (.invokestatic ix, 3)) (hk : ∀ ls st σ, k ls st σ → XJ C p l e R s m args below meth c H0 ce sl Q nL σ0 (pc + 3) ls st σ) {ls : List (Option Vv)} {st : List Vv} {σ : Mm}
    (h : pI st fun n st => pI st fun dp st => pR st fun rd jd st => pI st fun sp st => pR st fun rs js st => csum st ≤ 8 ∧ rs % 8 = 1 ∧ rd % 8 = 1 ∧ (0 ≤ sp ∧ 0 ≤ dp ∧ 0 ≤ n ∧ sp + n ≤ alen σ rs js ∧ dp + n ≤ alen σ rd jd) ∧ k ls st (cpI σ rs js sp rd jd dp n)) : XJ C p l e R s m args below meth c H0 ce sl Q nL σ0 pc ls st σ := by
  obtain ⟨n, st1, rfl, h1⟩ := pI_e h
  obtain ⟨dp, st2, rfl, h2⟩ := pI_e h1
  obtain ⟨rd, jd, st3, rfl, h3⟩ := pR_e h2
  obtain ⟨sp, st4, rfl, h4⟩ := pI_e h3
  obtain ⟨rs, js, st, rfl, hcs, hrs, hrd, ⟨g1, g2, g3, g4, g5⟩, h⟩ := pR_e h4
  intro Ls H locs hL hw hH hS hE
  have hwd := hw.1 _ (List.mem_cons_of_mem _ (List.mem_cons_of_mem _ List.mem_cons_self))
  have hws := hw.1 _ (List.mem_cons_of_mem _ (List.mem_cons_of_mem _ (List.mem_cons_of_mem _ (List.mem_cons_of_mem _ List.mem_cons_self))))
  have hld := alen_le hH hwd
  have hls := alen_le hH hws
  obtain ⟨⟨hx, hb⟩, ⟨hml, hown, hts, hK⟩, -, ⟨hv1, hv2, hv3⟩, -, -⟩ := F
  have hsp : (Int32.ofInt sp).toNatClampNeg = sp.toNat := ir_nat g1 (by omega)
  have hdp : (Int32.ofInt dp).toNatClampNeg = dp.toNat := ir_nat g2 (by omega)
  have hn : (Int32.ofInt n).toNatClampNeg = n.toNat := ir_nat g3 (by omega)
  have nn : ∀ x : Int, 0 ≤ x → x ≤ 16383 → ¬ Int32.ofInt x < 0 := fun x h0 h1 q => by
    have := (ir_lt (x := x) (y := 0) ⟨by omega, by omega⟩ ir_0).mp q
    omega
  obtain ⟨q0, hq0, has⟩ := wl_at (C := C) (wf_cell hws (by omega))
  obtain ⟨q1, hq1, had⟩ := wl_at (C := C) (wf_cell hwd (by omega))
  rw [ent_1 hrs] at has
  rw [ent_1 hrd] at had
  refine va_copyi (own := own) (index := ix) hx hb (by rw [hml]; exact hL.1.symm) hown (hts _ hlink) (hts _ hnat) (hts _ hstat) (hts _ hini) hK hH.1 hH.2.1 hS q0 q1 0 0 has had rfl rfl rfl (nn sp g1 (by omega)) (nn dp g2 (by omega)) (nn n g3 (by omega)) (by rw [hsp, hn]; omega) (by rw [hdp, hn]; omega) (fun _ _ => rfl) (by omega) ?_ d (fun H1 locs1 hP1 hD1 hS1 => ?_)
  · have e : nativeFrameWords "java/lang/System" "arraycopy" 5 + 11 ≤ 32 := by decide +kernel
    show (((st.map (up C σ)).map fun v => v.category)).sum + _ ≤ _
    rw [csum_eq]
    omega
  · have eu : va_cpy (fun k : Nat => Int32.ofInt (Mi σ rs js k)) (fun k : Nat => Int32.ofInt (Mi σ rd jd k)) sp.toNat dp.toNat n.toNat = fun k : Nat => Int32.ofInt (Mi (cpI σ rs js sp rd jd dp n) rd jd k) := by
      funext k
      show (if dp.toNat ≤ k ∧ k < dp.toNat + n.toNat then Int32.ofInt (Mi σ rs js ((sp.toNat + (k - dp.toNat) : Nat) : Int)) else Int32.ofInt (Mi σ rd jd k)) = Int32.ofInt (if rd = rd ∧ jd = jd ∧ dp ≤ (k : Int) ∧ (k : Int) < dp + n then Mi σ rs js (sp + ((k : Int) - dp)) else Mi σ rd jd k)
      by_cases hk : dp.toNat ≤ k ∧ k < dp.toNat + n.toNat
      · rw [if_pos hk, if_pos ⟨rfl, rfl, by omega, by omega⟩]
        congr 2
        omega
      · rw [if_neg hk, if_neg (by rintro ⟨-, -, h1, h2⟩; omega)]
    rw [hsp, hdp, hn, eu] at hP1 hD1
    have e1 : (Sum.inl ((cTy C).1, (alen σ rd jd).toNat, .inl (fun k : Nat => Int32.ofInt (Mi (cpI σ rs js sp rd jd dp n) rd jd k))) : va_E) = ent C (cpI σ rs js sp rd jd dp n) rd jd := (ent_1 (σ := cpI σ rs js sp rd jd dp n) hrd).symm
    rw [e1] at hP1 hD1
    have e := wl_set (σ' := cpI σ rs js sp rd jd dp n) (C := C) hH.2.1 hq1 rfl rfl (fun r' j' hne => ent_congr (fun c => by
      show (if r' = rd ∧ j' = jd ∧ dp ≤ c ∧ c < dp + n then _ else _) = _
      rw [if_neg (by rintro ⟨h1, h2, -⟩; exact hne ⟨h1, h2⟩)]) (fun _ => rfl) (fun _ => rfl) rfl rfl)
    have hscr : scrOk C (cpI σ rs js sp rd jd dp n) := by
      refine ⟨hH.2.2.2.1.1, hH.2.2.2.1.2.1, fun c => ?_⟩
      rw [← hH.2.2.2.1.2.2 c]
      show Int32.ofInt (if rg_script = rd ∧ (0 : Int) = jd ∧ dp ≤ (c : Int) ∧ (c : Int) < dp + n then _ else _) = _
      rw [if_neg (by rintro ⟨h1, -⟩; rw [← h1] at hrd; rw [rg_script_8] at hrd; omega)]
    exact hk _ _ _ h Ls H1 locs1 hL (wfs_tl (wfs_tl (wfs_tl (wfs_tl (wfs_tl hw))))) ⟨by rw [e]; exact hP1, by rw [e]; exact hD1, hH.2.2.1, hscr, hH.2.2.2.2⟩ hS1 hE
theorem tsK_e {x : Int} {P : Nat → Prop} : ∀ {l : List Nat} {lo : Int}, tsK x lo l P → ∀ (i : Nat) (t : Nat), l[i]? = some t → x = lo + i → P t
  | _ :: l, lo, h, 0, t, ht, hx => by
    simp at ht
    subst ht
    exact h.1 (by omega)
  | _ :: l, lo, h, i + 1, t, ht, hx => tsK_e h.2 i t (by simpa using ht) (by omega)
theorem so_ts (F : FX C p l R s m args c H0 ce sl nL cc own lv) {pc len : Nat} {dflt lo hi : Int} {offs : Array Int} {dt : Nat} {l' : List Nat} {T : Nat → Sx} {bp : Nat → Nat} (d : decode cc pc = .ok (.tableswitch dflt lo hi offs, len)) (hdt : (pc : Int) + dflt = (bp dt : Int)) (hhi : hi = lo + offs.size - 1) (hoff : ∀ i, i < offs.size → ∃ o t, offs[i]? = some o ∧ l'[i]? = some t ∧ (pc : Int) + o = (bp t : Int))
    (hT : ∀ b ls st σ, T b ls st σ → XJ C p l e R s m args below meth c H0 ce sl Q nL σ0 (bp b) ls st σ) {ls : List (Option Vv)} {st : List Vv} {σ : Mm}
    (h : pI st fun x st => IR x ∧ tsK x lo l' (fun t => T t ls st σ) ∧ ((x < lo ∨ hi < x) → T dt ls st σ)) : XJ C p l e R s m args below meth c H0 ce sl Q nL σ0 pc ls st σ := by
  obtain ⟨x, st, rfl, hx, h1, h2⟩ := pI_e h
  intro Ls H locs hL hw hH hS hE
  by_cases hc : x < lo ∨ hi < x
  · exact lv_tableOut F.1.1 F.1.2 d (by rw [ir_toInt hx]; exact hc) hdt (hT _ _ _ _ (h2 hc) Ls H locs hL (wfs_tl hw) hH hS hE)
  · obtain ⟨o, t, e1, e2, e3⟩ := hoff (x - lo).toNat (by omega)
    exact lv_tableIn F.1.1 F.1.2 d (by rw [ir_toInt hx]; omega) (by rw [ir_toInt hx]; omega) (by rw [ir_toInt hx]; exact e1) e3 (hT _ _ _ _ (tsK_e h1 _ _ e2 (by omega)) Ls H locs hL (wfs_tl hw) hH hS hE)
theorem so_min (F : FX C p l R s m args c H0 ce sl nL cc own lv) {pc ix : Nat} {k : Sx} (hlink : Jvm.Cond.methodLink own ix Lib.Math.min.name ∈ tbG) (hstat : Jvm.Cond.static Lib.Math.min.name ∈ tbG) (hini : Jvm.Cond.initialized "java/lang/Math" ∈ tbG) (hcode : Jvm.Cond.code Lib.Math.min.name Lib.Math.min.code 2 (some .int) ∈ tbG) (d : decode cc pc = .ok (.invokestatic ix, 3)) (hk : ∀ ls st σ, k ls st σ → XJ C p l e R s m args below meth c H0 ce sl Q nL σ0 (pc + 3) ls st σ) {ls : List (Option Vv)} {st : List Vv} {σ : Mm}
    (h : pI st fun y st => pI st fun x st => csum st ≤ 8 ∧ (IR x ∧ IR y) ∧ k ls (vI (min x y) :: st) σ) : XJ C p l e R s m args below meth c H0 ce sl Q nL σ0 pc ls st σ := by
  obtain ⟨y, st1, rfl, ha⟩ := pI_e h
  obtain ⟨x, st, rfl, hcs, ⟨hx, hy⟩, h⟩ := pI_e ha
  intro Ls H locs hL hw hH hS hE
  have k1 := hk _ _ _ h Ls H locs hL (wfs_cons (wfs_tl (wfs_tl hw)) trivial) hH hS hE
  obtain ⟨⟨hx0, hb⟩, ⟨hml, hown, hts, hK⟩, -, ⟨hv1, hv2, hv3⟩, ⟨hc1, hc2⟩, -⟩ := F
  refine va_mmin (own := own) (index := ix) hx0 hb (by rw [hml]; exact hL.1.symm) hown (hts _ hlink) (hts _ hstat) (hts _ hini) (hts _ hcode) (by omega) ?_ hc1 hc2 d ?_
  · show (((st.map (up C σ)).map fun v => v.category)).sum + _ ≤ _
    rw [csum_eq]
    omega
  · have em : (if Int32.ofInt y < Int32.ofInt x then Int32.ofInt y else Int32.ofInt x) = Int32.ofInt (min x y) := by
      by_cases hxy : y < x
      · rw [if_pos ((ir_lt hy hx).mpr hxy), Int.min_def, if_neg (by omega)]
      · rw [if_neg (fun q => hxy ((ir_lt hy hx).mp q)), Int.min_def, if_pos (by omega)]
    rw [em]
    exact k1
theorem so_max (F : FX C p l R s m args c H0 ce sl nL cc own lv) {pc ix : Nat} {k : Sx} (hlink : Jvm.Cond.methodLink own ix Lib.Math.max.name ∈ tbG) (hstat : Jvm.Cond.static Lib.Math.max.name ∈ tbG) (hini : Jvm.Cond.initialized "java/lang/Math" ∈ tbG) (hcode : Jvm.Cond.code Lib.Math.max.name Lib.Math.max.code 2 (some .int) ∈ tbG) (d : decode cc pc = .ok (.invokestatic ix, 3)) (hk : ∀ ls st σ, k ls st σ → XJ C p l e R s m args below meth c H0 ce sl Q nL σ0 (pc + 3) ls st σ) {ls : List (Option Vv)} {st : List Vv} {σ : Mm}
    (h : pI st fun y st => pI st fun x st => csum st ≤ 8 ∧ (IR x ∧ IR y) ∧ k ls (vI (max x y) :: st) σ) : XJ C p l e R s m args below meth c H0 ce sl Q nL σ0 pc ls st σ := by
  obtain ⟨y, st1, rfl, ha⟩ := pI_e h
  obtain ⟨x, st, rfl, hcs, ⟨hx, hy⟩, h⟩ := pI_e ha
  intro Ls H locs hL hw hH hS hE
  have k1 := hk _ _ _ h Ls H locs hL (wfs_cons (wfs_tl (wfs_tl hw)) trivial) hH hS hE
  obtain ⟨⟨hx0, hb⟩, ⟨hml, hown, hts, hK⟩, -, ⟨hv1, hv2, hv3⟩, ⟨hc1, hc2⟩, -⟩ := F
  refine va_mmax (own := own) (index := ix) hx0 hb (by rw [hml]; exact hL.1.symm) hown (hts _ hlink) (hts _ hstat) (hts _ hini) (hts _ hcode) (by omega) ?_ hc1 hc2 d ?_
  · show (((st.map (up C σ)).map fun v => v.category)).sum + _ ≤ _
    rw [csum_eq]
    omega
  · have em : (if Int32.ofInt x < Int32.ofInt y then Int32.ofInt y else Int32.ofInt x) = Int32.ofInt (max x y) := by
      by_cases hxy : x < y
      · rw [if_pos ((ir_lt hx hy).mpr hxy), Int.max_def, if_pos (by omega)]
      · rw [if_neg (fun q => hxy ((ir_lt hx hy).mp q)), Int.max_def]
        split
        · rw [show x = y by omega]
        · rfl
    rw [em]
    exact k1
end
