/-! soundness: fields and arrays -/
theorem wl_at {C : Cx} {σ : Mm} {r : Nat} {j : Int} (h : (r, j) ∈ cells σ) : ∃ q0 : Nat, (cells σ)[q0]? = some (r, j) ∧ (wl C σ)[q0]? = some (adr C σ r j, ent C σ r j) := by
  obtain ⟨q0, hq⟩ := List.getElem?_of_mem h
  exact ⟨q0, hq, by simp [wl, List.getElem?_map, hq]⟩
theorem ent_congr {C : Cx} {σ σ' : Mm} {r : Nat} {j : Int} (h1 : ∀ c, Mi σ' r j c = Mi σ r j c) (h2 : ∀ c, Ml σ' r j c = Ml σ r j c) (h3 : ∀ c, Mr σ' r j c = Mr σ r j c) (h4 : Mn σ' = Mn σ) (h5 : Ma σ' = Ma σ) : ent C σ' r j = ent C σ r j := by
  have ea : ∀ r j, adr C σ' r j = adr C σ r j := fun r j => by simp only [adr, h5]
  have el : alen σ' r j = alen σ r j := by simp only [alen, h4]
  simp only [ent, fvals, fval, h1, h2, h3, ea, el]
theorem wl_set {C : Cx} {σ σ' : Mm} {A : Nat → Prop} {r : Nat} {j : Int} {q0 : Nat} (hD : va_D A (wl C σ)) (hq : (cells σ)[q0]? = some (r, j)) (hc : Mc σ' = Mc σ) (h5 : Ma σ' = Ma σ) (h : ∀ r' j', ¬ (r' = r ∧ j' = j) → ent C σ' r' j' = ent C σ r' j') : wl C σ' = (wl C σ).set q0 (adr C σ r j, ent C σ' r j) := by
  have ec : cells σ' = cells σ := by simp only [cells, hc]
  have ea : ∀ r j, adr C σ' r j = adr C σ r j := fun r j => by simp only [adr, h5]
  have hlt : q0 < (wl C σ).length := by simp [wl]; exact (List.getElem?_eq_some_iff.mp hq).1
  apply List.ext_getElem?
  intro i
  by_cases hi : i = q0
  · subst hi
    rw [List.getElem?_set_self hlt]
    simp only [wl, ec, List.getElem?_map, hq, Option.map_some, ea]
  · rw [List.getElem?_set_ne (Ne.symm hi)]
    simp only [wl, ec, List.getElem?_map]
    cases hx : (cells σ)[i]? with
    | none => rfl
    | some x =>
      obtain ⟨r', j'⟩ := x
      simp only [Option.map_some, ea]
      rw [h r' j']
      rintro ⟨rfl, rfl⟩
      have e1 : (wl C σ)[i]? = some (adr C σ r' j', ent C σ r' j') := by simp only [wl, List.getElem?_map, hx, Option.map_some]
      have e2 : (wl C σ)[q0]? = some (adr C σ r' j', ent C σ r' j') := by simp only [wl, List.getElem?_map, hq, Option.map_some]
      exact hi (hD.1 i q0 _ _ e1 e2 rfl)
theorem up3_ne {α : Type} {f : Nat → Int → Int → α} {r : Nat} {j k : Int} {v : α} {r' : Nat} {j' : Int} (h : ¬ (r' = r ∧ j' = j)) (c : Int) : up3 f r j k v r' j' c = f r' j' c := by
  simp only [up3]
  rw [if_neg]
  rintro ⟨h1, h2, -⟩
  exact h ⟨h1, h2⟩
theorem fv_at {C : Cx} {σ : Mm} {r : Nat} {j : Int} {k : Nat} {q : Nat × Nat} (h : (CF.getD (clsOf r) [])[k]? = some q) : (fvals C σ r j)[k]? = some (fval C σ r j q k) := by
  rw [fvals, List.getElem?_mapIdx, h]; rfl
theorem isCls_e {ci r : Nat} (h : isCls ci r) : clsOf r = ci ∧ (r % 8 = 0 ∨ r % 8 = 7) := by
  rcases h with ⟨rfl, h⟩ | ⟨h1, h2, h3⟩
  · exact ⟨by simp [clsOf, h], Or.inr h⟩
  · exact ⟨by simp [clsOf, h2, h3], Or.inl h2⟩
theorem ent_o {C : Cx} {σ : Mm} {r : Nat} {j : Int} (h : r % 8 = 0 ∨ r % 8 = 7) : ent C σ r j = .inr (clsOf r, fvals C σ r j) := by simp only [ent, if_pos h]
theorem rg_script_8 : rg_script % 8 = 6 := by decide
theorem wf_cell {σ : Mm} {r : Nat} {j : Int} (h : wf σ (vR r j)) (hr : r % 8 ≠ 6) : (r, j) ∈ cells σ := by
  rcases h with ⟨h, -⟩ | h
  · rw [h] at hr; exact absurd rg_script_8 hr
  · exact h
theorem adr_cell (C : Cx) (σ : Mm) (r : Nat) (j : Int) (v : Vv) (h : v = vR r j) : up C σ v = .ref (adr C σ r j) := by subst h; rfl
section
variable {C : Cx} {p : Program} {l : Launch} {e : Env} {R : Room} {s : State} {m : MethodId} {args : Array Value} {below : List Frame} {meth : Method} {c : Code} {H0 : Heap} {ce sl : Nat} {Q : State → Prop} {σ0 : Mm} {nL lv : Nat} {cc : ByteArray} {own : String}
theorem so_getI (F : FX C p l R s m args c H0 ce sl nL cc own lv) {pc ix ci : Nat} {k : Nat} {kI : Int} (hkI : kI = (k : Int)) {q : vw_C} {f : Nat × Nat} (hq : vwCl[ci]? = some q) (hk : k < q.2.2) (hcf : (CF.getD ci [])[k]? = some f) (hf : f.1 = 0 ∨ f.1 = 5) {kk : Sx}
    (hlink : Jvm.Cond.fieldLink own ix (q.2.1 k).1 (q.2.1 k).2.1 (q.2.1 k).2.2.1 ∈ tbG) (d : decode cc pc = .ok (.getfield ix, 3)) (hkk : ∀ ls st σ, kk ls st σ → XJ C p l e R s m args below meth c H0 ce sl Q nL σ0 (pc + 3) ls st σ) {ls : List (Option Vv)} {st : List Vv} {σ : Mm}
    (h : pR st fun r j st => isCls ci r ∧ kk ls (vI (Mi σ r j kI) :: st) σ) : XJ C p l e R s m args below meth c H0 ce sl Q nL σ0 pc ls st σ := by
  obtain ⟨r, j, st, rfl, hc, h⟩ := pR_e h
  subst hkI
  intro Ls H locs hL hw hH hS hE
  obtain ⟨hcl, h8⟩ := isCls_e hc
  obtain ⟨q0, -, hat⟩ := wl_at (C := C) (wf_cell (hw.1 _ List.mem_cons_self) (by omega))
  rw [ent_o h8, hcl] at hat
  have hv : (fvals C σ r j)[k]? = some (.int (Int32.ofInt (Mi σ r j k))) := by
    rw [fv_at (q := f) (by rw [hcl]; exact hcf)]; simp only [fval, if_pos hf]
  obtain ⟨⟨hx, hb⟩, ⟨hml, hown, hts, hK⟩, -⟩ := F
  exact va_get (Ts := tbG) (T := q.2.1) (N := q.2.2) (C := q.1) hx hb hts (cl_in ci q hq) hown hK hH.1 q0 hat hq k hk (hts _ hlink) (fun _ z => z) hv d (hkk _ _ _ h Ls H locs hL (wfs_cons (wfs_tl hw) trivial) hH hS hE)
theorem so_getL (F : FX C p l R s m args c H0 ce sl nL cc own lv) {pc ix ci : Nat} {k : Nat} {kI : Int} (hkI : kI = (k : Int)) {q : vw_C} {f : Nat × Nat} (hq : vwCl[ci]? = some q) (hk : k < q.2.2) (hcf : (CF.getD ci [])[k]? = some f) (hf : f.1 = 1) {kk : Sx}
    (hlink : Jvm.Cond.fieldLink own ix (q.2.1 k).1 (q.2.1 k).2.1 (q.2.1 k).2.2.1 ∈ tbG) (d : decode cc pc = .ok (.getfield ix, 3)) (hkk : ∀ ls st σ, kk ls st σ → XJ C p l e R s m args below meth c H0 ce sl Q nL σ0 (pc + 3) ls st σ) {ls : List (Option Vv)} {st : List Vv} {σ : Mm}
    (h : pR st fun r j st => isCls ci r ∧ kk ls (vG (Ml σ r j kI) :: st) σ) : XJ C p l e R s m args below meth c H0 ce sl Q nL σ0 pc ls st σ := by
  obtain ⟨r, j, st, rfl, hc, h⟩ := pR_e h
  subst hkI
  intro Ls H locs hL hw hH hS hE
  obtain ⟨hcl, h8⟩ := isCls_e hc
  obtain ⟨q0, -, hat⟩ := wl_at (C := C) (wf_cell (hw.1 _ List.mem_cons_self) (by omega))
  rw [ent_o h8, hcl] at hat
  have hv : (fvals C σ r j)[k]? = some (.long (Ml σ r j k)) := by
    rw [fv_at (q := f) (by rw [hcl]; exact hcf)]; simp [fval, hf]
  obtain ⟨⟨hx, hb⟩, ⟨hml, hown, hts, hK⟩, -⟩ := F
  exact va_get (Ts := tbG) (T := q.2.1) (N := q.2.2) (C := q.1) hx hb hts (cl_in ci q hq) hown hK hH.1 q0 hat hq k hk (hts _ hlink) (fun _ z => z) hv d (hkk _ _ _ h Ls H locs hL (wfs_cons (wfs_tl hw) trivial) hH hS hE)
/-- where a class's reference field leads, for each of its cells -/
theorem scell_refs : ∀ q ∈ scells, (q.1 % 8 = 0 ∨ q.1 % 8 = 7) → ∀ f ∈ CF.getD (clsOf q.1) [], f.1 = 0 ∨ f.1 = 1 ∨ f.1 = 5 ∨ sref q.1 q.2 f.1 f.2 ∈ scells := by decide +kernel
theorem cov_refs : ∀ f ∈ CF.getD 6 [], f.1 = 0 ∨ f.1 = 1 ∨ f.1 = 5 ∨ (f.1 = 4 ∧ f.2 = 0) := by decide +kernel
theorem ref_wf {σ : Mm} {r : Nat} {j : Int} (h : (r, j) ∈ cells σ) (h8 : r % 8 = 0 ∨ r % 8 = 7) {f : Nat × Nat} (hf : f ∈ CF.getD (clsOf r) []) (hn : f.1 ≠ 0 ∧ f.1 ≠ 1 ∧ f.1 ≠ 5) : sref r j f.1 f.2 ∈ cells σ := by
  rcases List.mem_append.mp h with hm | hm
  · have := scell_refs _ hm h8 f hf
    exact List.mem_append_left _ (by rcases this with h | h | h | h; exact absurd h hn.1; exact absurd h hn.2.1; exact absurd h hn.2.2; exact h)
  · obtain ⟨y, hy, hm⟩ := List.mem_flatMap.mp hm
    simp only [List.mem_cons, Prod.mk.injEq, List.not_mem_nil, or_false] at hm
    rcases hm with ⟨rfl, rfl⟩ | ⟨rfl, rfl⟩
    · have e : clsOf rg_row_cov = 6 := by decide
      rw [e] at hf
      have := cov_refs f hf
      have hf4 : f.1 = 4 ∧ f.2 = 0 := by rcases this with h | h | h | h; exact absurd h hn.1; exact absurd h hn.2.1; exact absurd h hn.2.2; exact h
      rw [hf4.1, hf4.2]
      refine List.mem_append_right _ (List.mem_flatMap.mpr ⟨y, hy, ?_⟩)
      simp [sref, rg_row_cov, rg_arr_cov]
    · exact absurd h8 (by decide)
theorem so_getR (F : FX C p l R s m args c H0 ce sl nL cc own lv) {pc ix ci : Nat} {k cd ar : Nat} {q : vw_C} (hq : vwCl[ci]? = some q) (hk : k < q.2.2) (hcf : (CF.getD ci [])[k]? = some (cd, ar)) (hf : cd ≠ 0 ∧ cd ≠ 1 ∧ cd ≠ 5) {kk : Sx}
    (hlink : Jvm.Cond.fieldLink own ix (q.2.1 k).1 (q.2.1 k).2.1 (q.2.1 k).2.2.1 ∈ tbG) (d : decode cc pc = .ok (.getfield ix, 3)) (hkk : ∀ ls st σ, kk ls st σ → XJ C p l e R s m args below meth c H0 ce sl Q nL σ0 (pc + 3) ls st σ) {ls : List (Option Vv)} {st : List Vv} {σ : Mm}
    (h : pR st fun r j st => isCls ci r ∧ kk ls (vR (sref r j cd ar).1 (sref r j cd ar).2 :: st) σ) : XJ C p l e R s m args below meth c H0 ce sl Q nL σ0 pc ls st σ := by
  obtain ⟨r, j, st, rfl, hc, h⟩ := pR_e h
  intro Ls H locs hL hw hH hS hE
  obtain ⟨hcl, h8⟩ := isCls_e hc
  have hcell := wf_cell (hw.1 _ List.mem_cons_self) (by omega)
  obtain ⟨q0, -, hat⟩ := wl_at (C := C) hcell
  rw [ent_o h8, hcl] at hat
  have hv : (fvals C σ r j)[k]? = some (.ref (adr C σ (sref r j cd ar).1 (sref r j cd ar).2)) := by
    rw [fv_at (q := (cd, ar)) (by rw [hcl]; exact hcf)]; simp [fval, hf.1, hf.2.1, hf.2.2]
  have hw2 : wf σ (vR (sref r j cd ar).1 (sref r j cd ar).2) := Or.inr (ref_wf hcell h8 (f := (cd, ar)) (by rw [hcl]; exact List.mem_of_getElem? hcf) hf)
  obtain ⟨⟨hx, hb⟩, ⟨hml, hown, hts, hK⟩, -⟩ := F
  exact va_get (Ts := tbG) (T := q.2.1) (N := q.2.2) (C := q.1) hx hb hts (cl_in ci q hq) hown hK hH.1 q0 hat hq k hk (hts _ hlink) (fun _ z => z) hv d (hkk _ _ _ h Ls H locs hL (wfs_cons (wfs_tl hw) hw2) hH hS hE)
theorem Hh_sI {C : Cx} {σ : Mm} {r : Nat} {j k v : Int} {H1 : Heap} (hr : r % 8 ≠ 6) {q0 : Nat} (hH : Hh C σ H0) (hq : (cells σ)[q0]? = some (r, j)) (hP : va_P (cDa C) vwCl ((wl C σ).set q0 (adr C σ r j, ent C (sI σ r j k v) r j)) H1) (hD : va_D (fun q => cBa C ≤ q) ((wl C σ).set q0 (adr C σ r j, ent C (sI σ r j k v) r j))) : Hh C (sI σ r j k v) H1 := by
  have e := wl_set (σ' := sI σ r j k v) (C := C) hH.2.1 hq rfl rfl (fun r' j' hne => ent_congr (fun c => up3_ne hne c) (fun _ => rfl) (fun _ => rfl) rfl rfl)
  refine ⟨by rw [e]; exact hP, by rw [e]; exact hD, hH.2.2.1, ⟨hH.2.2.2.1.1, hH.2.2.2.1.2.1, fun c => ?_⟩, hH.2.2.2.2⟩
  rw [← hH.2.2.2.1.2.2 c]
  show Int32.ofInt (up3 (Mi σ) r j k v rg_script 0 c) = _
  rw [up3_ne]
  rintro ⟨h1, -⟩
  rw [← h1] at hr
  exact hr rg_script_8
theorem Hh_sL {C : Cx} {σ : Mm} {r : Nat} {j k : Int} {v : Int64} {H1 : Heap} {q0 : Nat} (hH : Hh C σ H0) (hq : (cells σ)[q0]? = some (r, j)) (hP : va_P (cDa C) vwCl ((wl C σ).set q0 (adr C σ r j, ent C (sL σ r j k v) r j)) H1) (hD : va_D (fun q => cBa C ≤ q) ((wl C σ).set q0 (adr C σ r j, ent C (sL σ r j k v) r j))) : Hh C (sL σ r j k v) H1 := by
  have e := wl_set (σ' := sL σ r j k v) (C := C) hH.2.1 hq rfl rfl (fun r' j' hne => ent_congr (fun _ => rfl) (fun c => up3_ne hne c) (fun _ => rfl) rfl rfl)
  exact ⟨by rw [e]; exact hP, by rw [e]; exact hD, hH.2.2.1, hH.2.2.2.1, hH.2.2.2.2⟩
theorem fv_setI {C : Cx} {σ : Mm} {r : Nat} {j v : Int} {k : Nat} {f : Nat × Nat} (hcf : (CF.getD (clsOf r) [])[k]? = some f) (hf : f.1 = 0 ∨ f.1 = 5) : (fvals C σ r j).set k (.int (Int32.ofInt v)) = fvals C (sI σ r j k v) r j := by
  apply List.ext_getElem?
  intro i
  by_cases hi : i = k
  · subst hi
    rw [List.getElem?_set_self (by simp [fvals]; exact (List.getElem?_eq_some_iff.mp hcf).1), fv_at hcf]
    simp only [fval, if_pos hf]
    show _ = some (Value.int (Int32.ofInt (up3 (Mi σ) r j i v r j i)))
    simp [up3]
  · rw [List.getElem?_set_ne (Ne.symm hi), fvals, fvals, List.getElem?_mapIdx, List.getElem?_mapIdx]
    congr 1
    funext q
    have : ¬ ((i : Int) = (k : Int)) := by omega
    show fval C σ r j q i = fval C (sI σ r j k v) r j q i
    have e : Mi (sI σ r j k v) r j i = Mi σ r j i := by show up3 (Mi σ) r j k v r j i = _; simp [up3, this]
    simp only [fval, e]
    rfl
theorem fv_setL {C : Cx} {σ : Mm} {r : Nat} {j : Int} {v : Int64} {k : Nat} {f : Nat × Nat} (hcf : (CF.getD (clsOf r) [])[k]? = some f) (hf : f.1 = 1) : (fvals C σ r j).set k (.long v) = fvals C (sL σ r j k v) r j := by
  apply List.ext_getElem?
  intro i
  by_cases hi : i = k
  · subst hi
    rw [List.getElem?_set_self (by simp [fvals]; exact (List.getElem?_eq_some_iff.mp hcf).1), fv_at hcf]
    simp only [fval, hf]
    show _ = some (Value.long (up3 (Ml σ) r j i v r j i))
    simp [up3]
  · rw [List.getElem?_set_ne (Ne.symm hi), fvals, fvals, List.getElem?_mapIdx, List.getElem?_mapIdx]
    congr 1
    funext q
    have : ¬ ((i : Int) = (k : Int)) := by omega
    show fval C σ r j q i = fval C (sL σ r j k v) r j q i
    have e : Ml (sL σ r j k v) r j i = Ml σ r j i := by show up3 (Ml σ) r j k v r j i = _; simp [up3, this]
    simp only [fval, e]
    rfl
theorem so_putI (F : FX C p l R s m args c H0 ce sl nL cc own lv) {pc ix ci : Nat} {k : Nat} {kI : Int} (hkI : kI = (k : Int)) {q : vw_C} {f : Nat × Nat} (hq : vwCl[ci]? = some q) (hk : k < q.2.2) (hcf : (CF.getD ci [])[k]? = some f) (hf : f.1 = 0) {kk : Sx}
    (hlink : Jvm.Cond.fieldLink own ix (q.2.1 k).1 (q.2.1 k).2.1 (q.2.1 k).2.2.1 ∈ tbG) (hfin : (q.2.1 k).2.2.2 = false) (hd : parseFieldDescriptor (q.2.1 k).2.2.1 = some .int) (d : decode cc pc = .ok (.putfield ix, 3)) (hkk : ∀ ls st σ, kk ls st σ → XJ C p l e R s m args below meth c H0 ce sl Q nL σ0 (pc + 3) ls st σ) {ls : List (Option Vv)} {st : List Vv} {σ : Mm}
    (h : pI st fun v st => pR st fun r j st => isCls ci r ∧ kk ls st (sI σ r j kI v)) : XJ C p l e R s m args below meth c H0 ce sl Q nL σ0 pc ls st σ := by
  obtain ⟨v, st1, rfl, ha⟩ := pI_e h
  obtain ⟨r, j, st, rfl, hc, h⟩ := pR_e ha
  subst hkI
  intro Ls H locs hL hw hH hS hE
  obtain ⟨hcl, h8⟩ := isCls_e hc
  have hcell := wf_cell (hw.1 _ (List.mem_cons_of_mem _ List.mem_cons_self)) (by omega)
  obtain ⟨q0, hq0, hat⟩ := wl_at (C := C) hcell
  rw [ent_o h8, hcl] at hat
  have hcf' : (CF.getD (clsOf r) [])[k]? = some f := by rw [hcl]; exact hcf
  obtain ⟨⟨hx, hb⟩, ⟨hml, hown, hts, hK⟩, -⟩ := F
  obtain ⟨ty0, hty⟩ := cl_ty ci q hq
  refine va_put (Ts := tbG) (T := q.2.1) (N := q.2.2) (C := q.1) hx hb hts (cl_in ci q hq) ty0 hty (cl_nm ci q hq) hown hK hH.1 hH.2.1 hS q0 hat hq k hk (hts _ hlink) (fun _ z => z) hfin hd (v := .int (Int32.ofInt v)) rfl rfl (by simp [fvals]; exact (List.getElem?_eq_some_iff.mp hcf').1) d (fun H1 locs1 hP1 hD1 hS1 => ?_)
  rw [fv_setI (v := v) hcf' (Or.inl hf)] at hP1 hD1
  have e1 : (Sum.inr (ci, fvals C (sI σ r j k v) r j) : va_E) = ent C (sI σ r j k v) r j := by rw [ent_o h8, hcl]
  rw [e1] at hP1 hD1
  exact hkk _ _ _ h Ls H1 locs1 hL (wfs_tl (wfs_tl hw)) (Hh_sI (by omega) hH hq0 hP1 hD1) hS1 hE
theorem so_putZ (F : FX C p l R s m args c H0 ce sl nL cc own lv) {pc ix ci : Nat} {k : Nat} {kI : Int} (hkI : kI = (k : Int)) {q : vw_C} {f : Nat × Nat} (hq : vwCl[ci]? = some q) (hk : k < q.2.2) (hcf : (CF.getD ci [])[k]? = some f) (hf : f.1 = 5) {kk : Sx}
    (hlink : Jvm.Cond.fieldLink own ix (q.2.1 k).1 (q.2.1 k).2.1 (q.2.1 k).2.2.1 ∈ tbG) (hfin : (q.2.1 k).2.2.2 = false) (hd : parseFieldDescriptor (q.2.1 k).2.2.1 = some .boolean) (d : decode cc pc = .ok (.putfield ix, 3)) (hkk : ∀ ls st σ, kk ls st σ → XJ C p l e R s m args below meth c H0 ce sl Q nL σ0 (pc + 3) ls st σ) {ls : List (Option Vv)} {st : List Vv} {σ : Mm}
    (h : pI st fun v st => pR st fun r j st => isCls ci r ∧ (v = 0 ∨ v = 1) ∧ kk ls st (sI σ r j kI v)) : XJ C p l e R s m args below meth c H0 ce sl Q nL σ0 pc ls st σ := by
  obtain ⟨v, st1, rfl, ha⟩ := pI_e h
  obtain ⟨r, j, st, rfl, hc, hv, h⟩ := pR_e ha
  subst hkI
  intro Ls H locs hL hw hH hS hE
  obtain ⟨hcl, h8⟩ := isCls_e hc
  have hcell := wf_cell (hw.1 _ (List.mem_cons_of_mem _ List.mem_cons_self)) (by omega)
  obtain ⟨q0, hq0, hat⟩ := wl_at (C := C) hcell
  rw [ent_o h8, hcl] at hat
  have hcf' : (CF.getD (clsOf r) [])[k]? = some f := by rw [hcl]; exact hcf
  obtain ⟨⟨hx, hb⟩, ⟨hml, hown, hts, hK⟩, -⟩ := F
  obtain ⟨ty0, hty⟩ := cl_ty ci q hq
  refine va_put (Ts := tbG) (T := q.2.1) (N := q.2.2) (C := q.1) hx hb hts (cl_in ci q hq) ty0 hty (cl_nm ci q hq) hown hK hH.1 hH.2.1 hS q0 hat hq k hk (hts _ hlink) (fun _ z => z) hfin hd (v := .int (Int32.ofInt v)) (by rcases hv with rfl | rfl <;> decide) (by rcases hv with rfl | rfl <;> decide) (by simp [fvals]; exact (List.getElem?_eq_some_iff.mp hcf').1) d (fun H1 locs1 hP1 hD1 hS1 => ?_)
  rw [fv_setI (v := v) hcf' (Or.inr hf)] at hP1 hD1
  have e1 : (Sum.inr (ci, fvals C (sI σ r j k v) r j) : va_E) = ent C (sI σ r j k v) r j := by rw [ent_o h8, hcl]
  rw [e1] at hP1 hD1
  exact hkk _ _ _ h Ls H1 locs1 hL (wfs_tl (wfs_tl hw)) (Hh_sI (by omega) hH hq0 hP1 hD1) hS1 hE
theorem so_putL (F : FX C p l R s m args c H0 ce sl nL cc own lv) {pc ix ci : Nat} {k : Nat} {kI : Int} (hkI : kI = (k : Int)) {q : vw_C} {f : Nat × Nat} (hq : vwCl[ci]? = some q) (hk : k < q.2.2) (hcf : (CF.getD ci [])[k]? = some f) (hf : f.1 = 1) {kk : Sx}
    (hlink : Jvm.Cond.fieldLink own ix (q.2.1 k).1 (q.2.1 k).2.1 (q.2.1 k).2.2.1 ∈ tbG) (hfin : (q.2.1 k).2.2.2 = false) (hd : parseFieldDescriptor (q.2.1 k).2.2.1 = some .long) (d : decode cc pc = .ok (.putfield ix, 3)) (hkk : ∀ ls st σ, kk ls st σ → XJ C p l e R s m args below meth c H0 ce sl Q nL σ0 (pc + 3) ls st σ) {ls : List (Option Vv)} {st : List Vv} {σ : Mm}
    (h : pG st fun v st => pR st fun r j st => isCls ci r ∧ kk ls st (sL σ r j kI v)) : XJ C p l e R s m args below meth c H0 ce sl Q nL σ0 pc ls st σ := by
  obtain ⟨v, st1, rfl, ha⟩ := pG_e h
  obtain ⟨r, j, st, rfl, hc, h⟩ := pR_e ha
  subst hkI
  intro Ls H locs hL hw hH hS hE
  obtain ⟨hcl, h8⟩ := isCls_e hc
  have hcell := wf_cell (hw.1 _ (List.mem_cons_of_mem _ List.mem_cons_self)) (by omega)
  obtain ⟨q0, hq0, hat⟩ := wl_at (C := C) hcell
  rw [ent_o h8, hcl] at hat
  have hcf' : (CF.getD (clsOf r) [])[k]? = some f := by rw [hcl]; exact hcf
  obtain ⟨⟨hx, hb⟩, ⟨hml, hown, hts, hK⟩, -⟩ := F
  obtain ⟨ty0, hty⟩ := cl_ty ci q hq
  refine va_put (Ts := tbG) (T := q.2.1) (N := q.2.2) (C := q.1) hx hb hts (cl_in ci q hq) ty0 hty (cl_nm ci q hq) hown hK hH.1 hH.2.1 hS q0 hat hq k hk (hts _ hlink) (fun _ z => z) hfin hd (v := .long v) rfl rfl (by simp [fvals]; exact (List.getElem?_eq_some_iff.mp hcf').1) d (fun H1 locs1 hP1 hD1 hS1 => ?_)
  rw [fv_setL (v := v) hcf' hf] at hP1 hD1
  have e1 : (Sum.inr (ci, fvals C (sL σ r j k v) r j) : va_E) = ent C (sL σ r j k v) r j := by rw [ent_o h8, hcl]
  rw [e1] at hP1 hD1
  exact hkk _ _ _ h Ls H1 locs1 hL (wfs_tl (wfs_tl hw)) (Hh_sL hH hq0 hP1 hD1) hS1 hE
end
