/-! a method by its blocks -/
theorem ent_L {C : Cx} {σ : Mm} : ∀ (as : List Vv) (i : Nat) (v : Vv), (entL as)[i]? = some (some v) → (lg_sl (as.map (up C σ)))[i]? = some (.val (up C σ v)) ∧ v ∈ as
  | [], i, v, h => by simp [entL] at h
  | .inl x :: as, i, v, h => by
    cases i with
    | zero => simp [entL] at h; subst h; exact ⟨by simp [lg_sl, up, Value.category], List.mem_cons_self⟩
    | succ i =>
      have := ent_L (C := C) (σ := σ) as i v (by simpa [entL] using h)
      exact ⟨by simpa [lg_sl, up, Value.category] using this.1, List.mem_cons_of_mem _ this.2⟩
  | .inr (.inr (r, j)) :: as, i, v, h => by
    cases i with
    | zero => simp [entL] at h; subst h; exact ⟨by simp [lg_sl, up, Value.category], List.mem_cons_self⟩
    | succ i =>
      have := ent_L (C := C) (σ := σ) as i v (by simpa [entL] using h)
      exact ⟨by simpa [lg_sl, up, Value.category] using this.1, List.mem_cons_of_mem _ this.2⟩
  | .inr (.inl x) :: as, i, v, h => by
    match i, h with
    | 0, h => simp [entL] at h; subst h; exact ⟨by simp [lg_sl, up, Value.category], List.mem_cons_self⟩
    | 1, h => simp [entL] at h
    | i + 2, h =>
      have := ent_L (C := C) (σ := σ) as i v (by simpa [entL] using h)
      exact ⟨by simpa [lg_sl, up, Value.category] using this.1, List.mem_cons_of_mem _ this.2⟩
theorem ent_len {C : Cx} {σ : Mm} : ∀ as : List Vv, (entL as).length = (lg_sl (as.map (up C σ))).length
  | [] => rfl
  | .inl x :: as => by have := ent_len (C := C) (σ := σ) as; simp [entL, lg_sl, up, Value.category] at this ⊢; exact this
  | .inr (.inr (r, j)) :: as => by have := ent_len (C := C) (σ := σ) as; simp [entL, lg_sl, up, Value.category] at this ⊢; exact this
  | .inr (.inl x) :: as => by have := ent_len (C := C) (σ := σ) as; simp [entL, lg_sl, up, Value.category] at this ⊢; exact this
theorem ent0_LR {C : Cx} {σ : Mm} {as : List Vv} {n : Nat} (h : (entL as).length ≤ n) : LR C σ ((lg_sl (as.map (up C σ)) ++ List.replicate (n - (lg_sl (as.map (up C σ))).length) Slot.unset).toArray) n (ent0 as n) := by
  have hE := lv_entry (as.map (up C σ)) (n := n) (by rw [← ent_len]; exact h)
  refine ⟨hE.1, hE.2.1, fun i v hi => ?_⟩
  unfold ent0 at hi
  by_cases hl : i < (entL as).length
  · rw [List.getElem?_append_left hl] at hi
    have := (ent_L (C := C) (σ := σ) as i v hi).1
    rw [List.getElem?_toArray, List.getElem?_append_left (by rw [← ent_len]; exact hl)]
    exact this
  · rw [List.getElem?_append_right (by omega)] at hi
    rw [List.getElem?_replicate] at hi
    split at hi <;> simp at hi
theorem ent0_wf {σ : Mm} {as : List Vv} {n : Nat} (hw : ∀ v ∈ as, wf σ v) (C : Cx) : ∀ (i : Nat) (v : Vv), (ent0 as n)[i]? = some (some v) → wf σ v := by
  intro i v hi
  unfold ent0 at hi
  by_cases hl : i < (entL as).length
  · rw [List.getElem?_append_left hl] at hi
    exact hw v (ent_L (C := C) (σ := σ) as i v hi).2
  · rw [List.getElem?_append_right (by omega)] at hi
    rw [List.getElem?_replicate] at hi
    split at hi <;> simp at hi
/-- what the program needs of a method's blocks: own class, and that they are its code -/
def MkB (id : Nat) (B : List (List In)) : Prop := plainName (sgD id).1.cls = true ∧ chkB (sgD id).1.cls (sgD id).2.2.1 (sgD id).2.2.2.2 (sgD id).2.2.2.1 (sgD id).2.1 B = true ∧ 1 ≤ (sgD id).2.2.2.2 ∧ pcOf (B.getD 0 []) = 0
theorem MkB_of {id : Nat} {B : List (List In)} (h : (plainName (sgD id).1.cls && chkB (sgD id).1.cls (sgD id).2.2.1 (sgD id).2.2.2.2 (sgD id).2.2.2.1 (sgD id).2.1 B && decide (1 ≤ (sgD id).2.2.2.2 ∧ pcOf (B.getD 0 []) = 0)) = true) : MkB id B := by
  simp only [Bool.and_eq_true, decide_eq_true_eq] at h
  exact ⟨h.1.1, h.1.2, h.2.1, h.2.2⟩
/-- THE RULE of a method: an invariant at its loops' heads, with a number that falls; what is asked from the entry and from each head -/
theorem ok_intro {id : Nat} {B : List (List In)} (hB : MkB id B) (F : Nat) {as : List Vv} {σ : Mm} {k : Option Vv → Mm → Prop} (Inv : Nat → Nat → List (Option Vv) → Mm → Prop)
    (hlen : (entL as).length ≤ (sgD id).2.2.1)
    (h0 : ∀ K : Nat → Sx, (∀ b n ls σ', 1000 ≤ b → Inv b n ls σ' → K b ls [] σ') → xs (go B K k F) k (B.getD 0 []) (ent0 as (sgD id).2.2.1) [] σ)
    (hs : ∀ b n ls σ', 1000 ≤ b → Inv b n ls σ' → ∀ K : Nat → Sx, (∀ b' n' ls' σ'', 1000 ≤ b' → n' < n → Inv b' n' ls' σ'' → K b' ls' [] σ'') → xs (go B K k F) k (B.getD (b % 1000) []) ls [] σ') : OkG (sgD id) 0 0 as σ k := by
  intro C
  refine Met.ofW (cc := (sgD id).2.1) (maxL := (sgD id).2.2.1) (ret := (sgD id).2.2.2.1) hB.1 rfl ?_
  intro p e s m args below meth c s₁ Bd hml hP
  obtain ⟨rfl, hw, hH, hK, hX, hX1, hX2, hN⟩ := hP
  have hts := atoms_spec (ws := wsG (sgD id)) Bd.pre
  have hlocks := Bd.notSynchronized
  have hr := Bd.returns
  have FF : FX C p (cLa C) (rmG (sgD id) 0 0) s m (as.map (up C σ)).toArray c s.heap 0 0 (sgD id).2.2.1 (sgD id).2.1 (sgD id).1.cls (sgD id).2.2.2.2 :=
    ⟨⟨Bd.exec, Bd.bytes⟩, ⟨hml, findClass_of_methodNamed Bd.named, fun w hw => hts w (List.mem_cons_of_mem _ hw), hK⟩, ⟨hX, hX1, hX2⟩, ⟨hB.2.2.1, Nat.le_refl _, Nat.le_refl _⟩, ⟨Nat.le_refl _, Nat.le_refl _⟩, rfl, hN⟩
  have hR : ∀ pc ro σ', retOk (sgD id).2.2.2.1 (sgD id).2.1 pc ro → k ro σ' → RJ C p (cLa C) e (rmG (sgD id) 0 0) s m (as.map (up C σ)).toArray below meth c s.heap 0 0 (MQ below (QcG C σ k) (as.map (up C σ)).toArray s 0 0 (fun q => cBa C ≤ q)) σ pc ro σ' := by
    intro pc ro σ' hro hk Ls H locs hwr hH' hS hE
    have hq : ∀ t : State, t.heap = H → s.WarmedH t.vm → QcG C σ k (as.map (up C σ)).toArray s (.returned (ro.map (up C σ'))) t := fun t ht _ => ⟨ro, σ', rfl, hk, hwr, hE, by rw [ht]; exact hH', hS.F ht⟩
    rcases hro with ⟨x, rfl, d, hret⟩ | ⟨x, hx, rfl, d, hret⟩ | ⟨x, rfl, d, hret⟩ | ⟨r, j, n, rfl, d, hret⟩ | ⟨rfl, d, hret⟩
    · exact W.iret FF.1.1 FF.1.2 (hr.trans hret) hq hS.2.2 d
    · exact W.zret FF.1.1 FF.1.2 (hr.trans hret) (by rcases hx with rfl | rfl <;> decide) hq hS.2.2 d
    · exact W.lret FF.1.1 FF.1.2 (hr.trans hret) hq hS.2.2 d
    · exact W.aret FF.1.1 FF.1.2 (hr.trans hret) (Or.inl ⟨n, rfl⟩) (Or.inr ⟨_, rfl⟩) hq hS.2.2 d
    · exact W.vret FF.1.1 FF.1.2 (hr.trans hret) hq hS.2.2 d
  have hck := hB.2.1
  have base : ∀ {K : Nat → Sx}, (∀ b ls st σ', 1000 ≤ b → K b ls st σ' → XJ C p (cLa C) e (rmG (sgD id) 0 0) s m (as.map (up C σ)).toArray below meth c s.heap 0 0 (MQ below (QcG C σ k) (as.map (up C σ)).toArray s 0 0 (fun q => cBa C ≤ q)) (sgD id).2.2.1 σ (pcOf (B.getD (b % 1000) [])) ls st σ') → ∀ b ls st σ', xs (go B K k F) k (B.getD b []) ls st σ' → XJ C p (cLa C) e (rmG (sgD id) 0 0) s m (as.map (up C σ)).toArray below meth c s.heap 0 0 (MQ below (QcG C σ k) (as.map (up C σ)).toArray s 0 0 (fun q => cBa C ≤ q)) (sgD id).2.2.1 σ (pcOf (B.getD b [])) ls st σ' := fun hK b ls st σ' h =>
    chkL_sound FF (bp := fun b => pcOf (B.getD (b % 1000) [])) (go_sound FF hck hK hR F) hR (chkB_e hck b) ls st σ' h
  have loop : ∀ n b ls σ', 1000 ≤ b → Inv b n ls σ' → XJ C p (cLa C) e (rmG (sgD id) 0 0) s m (as.map (up C σ)).toArray below meth c s.heap 0 0 (MQ below (QcG C σ k) (as.map (up C σ)).toArray s 0 0 (fun q => cBa C ≤ q)) (sgD id).2.2.1 σ (pcOf (B.getD (b % 1000) [])) ls [] σ' := by
    intro n
    induction n using Nat.strongRecOn with
    | _ n ih =>
      intro b ls σ' hb hI
      have h := hs b n ls σ' hb hI (fun b' ls' st' σ'' => st' = [] ∧ ∃ n', n' < n ∧ Inv b' n' ls' σ'') (fun b' n' ls' σ'' _ hn hI' => ⟨rfl, n', hn, hI'⟩)
      exact base (fun b' ls' st' σ'' hb' hk' => by obtain ⟨rfl, n', hn, hI'⟩ := hk'; exact ih n' hn b' ls' σ'' hb' hI') (b % 1000) ls [] σ' h
  have h := h0 (fun b' ls' st' σ'' => st' = [] ∧ ∃ n', Inv b' n' ls' σ'') (fun b' n' ls' σ'' _ hI' => ⟨rfl, n', hI'⟩)
  have key := base (fun b' ls' st' σ'' hb' hk' => by obtain ⟨rfl, n', hI'⟩ := hk'; exact loop n' b' ls' σ'' hb' hI') 0 _ [] σ h
  have e0 : pcOf (B.getD 0 []) = 0 := hB.2.2.2
  rw [e0] at key
  rw [lg_entry_eq]
  exact key _ s.heap [] (ent0_LR hlen) ⟨(fun v hv => by cases hv), ent0_wf hw C⟩ hH va_S.rf (Ext.rfl' σ)
