/-! the machine of numbers: a run is sound -/
theorem c1_mono {i : Ci} {q : Nat} {ls : List (Option Cv)} {st : List Cv} {hp : Ch} {sl : Nat} {K : Ck} {r : Cr} (h : c1 i q ls st hp sl K = some r) : ∃ q' ls' st' hp' sl', hp.1 ≤ hp'.1 ∧ sl ≤ sl' ∧ K q' ls' st' hp' sl' = some r := by
  obtain ⟨pc, op, x, y, z, l'⟩ := i
  unfold c1 at h
  dsimp only at h
  split at h
  · unfold c1_0 at h
    exact ⟨_, _, _, _, _, Nat.le_refl _, Nat.le_refl _, h⟩
  · unfold c1_1 at h
    (repeat' split at h) <;> first | cases h | exact ⟨_, _, _, _, _, Nat.le_refl _, Nat.le_refl _, h⟩
  · unfold c1_2 at h
    (repeat' split at h) <;> first | cases h | exact ⟨_, _, _, _, _, Nat.le_refl _, Nat.le_refl _, h⟩
  · unfold c1_3 at h
    (repeat' split at h) <;> first | cases h | (rw [frc_e] at h; exact ⟨_, _, _, _, _, Nat.le_refl _, Nat.le_refl _, h⟩)
  · unfold c1_19 at h
    (repeat' split at h) <;> first | cases h | (rw [frc_e] at h; exact ⟨_, _, _, _, _, Nat.le_refl _, Nat.le_refl _, h⟩)
  · unfold c1_4 at h
    (repeat' split at h) <;> first | cases h | (rw [frN_e, frc_e] at h; exact ⟨_, _, _, _, _, Nat.le_refl _, Nat.le_refl _, h⟩)
  · unfold c1_5 at h
    rw [hn_e] at h
    exact ⟨_, _, _, _, _, Nat.le_succ _, Nat.le_add_right _ _, h⟩
  · unfold c1_6 at h
    (repeat' split at h) <;> first | cases h | exact ⟨_, _, _, _, _, Nat.le_refl _, Nat.le_refl _, h⟩
  · unfold c1_7 at h
    (repeat' split at h) <;> first | cases h | (rw [hn_e] at h; exact ⟨_, _, _, _, _, Nat.le_succ _, Nat.le_add_right _ _, h⟩)
  · unfold c1_8 at h
    (repeat' split at h) <;> first | cases h | (rw [hn_e] at h; exact ⟨_, _, _, _, _, Nat.le_succ _, Nat.le_add_right _ _, h⟩)
  · unfold c1_9 at h
    (repeat' split at h) <;> first | cases h | (rw [hs_e] at h; refine ⟨_, _, _, _, _, ?_, ?_, h⟩ <;> exact Nat.le_refl _)
  · unfold c1_10 at h
    (repeat' split at h) <;> first | cases h | exact ⟨_, _, _, _, _, Nat.le_refl _, Nat.le_refl _, h⟩
  · unfold c1_11 at h
    (repeat' split at h) <;> first | cases h | (rw [hs_e] at h; refine ⟨_, _, _, _, _, ?_, ?_, h⟩ <;> exact Nat.le_refl _)
  · unfold c1_12 at h
    (repeat' split at h) <;> first | cases h | (rw [hs_e] at h; refine ⟨_, _, _, _, _, ?_, ?_, h⟩ <;> exact Nat.le_refl _)
  · unfold c1_13 at h
    (repeat' split at h) <;> first | cases h | exact ⟨_, _, _, _, _, Nat.le_refl _, Nat.le_refl _, h⟩
  · unfold c1_14 at h
    exact ⟨_, _, _, _, _, Nat.le_refl _, Nat.le_refl _, h⟩
  · unfold c1_16 at h
    (repeat' split at h) <;> first | cases h | exact ⟨_, _, _, _, _, Nat.le_refl _, Nat.le_refl _, h⟩
  · unfold c1_18 at h
    (repeat' split at h) <;> first | cases h | exact ⟨_, _, _, _, _, Nat.le_refl _, Nat.le_refl _, h⟩
  · cases h
/-- the three ways of a step -/
theorem cm_cases {code : Nat → List Ci} {ml : Nat → Nat} {n id q : Nat} {ls : List (Option Cv)} {st : List Cv} {hp : Ch} {sl : Nat} {r : Cr} (h : cm code ml (n + 1) id q ls st hp sl = some r) : ∃ i : Ci, (code id)[q]? = some i ∧
    (((i.2.1 = 15 ∨ i.2.1 = 20) ∧ st = [] ∧ r = (q, ls, hp, sl)) ∨
    (i.2.1 = 17 ∧ ∃ b as st' q' ls' hp' sl', spl (i.2.2.2.2.1 + 1) st [] = some (.inr b :: as, st') ∧ st'.length ≤ 8 ∧ cm code ml n i.2.2.2.1 0 ((.inr b :: as).map some ++ List.replicate (ml i.2.2.2.1 - (as.length + 1)) none) [] hp sl = some (q', ls', hp', sl') ∧ cm code ml n id (q + 1) ls st' hp' sl' = some r) ∨
    (¬ (i.2.1 = 15 ∨ i.2.1 = 20) ∧ i.2.1 ≠ 17 ∧ c1 i q ls st hp sl (fun q ls st hp sl => cm code ml n id q ls st hp sl) = some r)) := by
  unfold cm at h
  split at h
  · cases h
  · rename_i i hi
    refine ⟨i, hi, ?_⟩
    by_cases h1 : i.2.1 = 15 ∨ i.2.1 = 20
    · rw [if_pos h1] at h
      refine Or.inl ⟨h1, ?_⟩
      split at h
      · cases h; exact ⟨rfl, rfl⟩
      · cases h
    · rw [if_neg h1] at h
      by_cases h2 : i.2.1 = 17
      · rw [if_pos h2] at h
        refine Or.inr (Or.inl ⟨h2, ?_⟩)
        split at h
        · rename_i b as st' hs
          split at h
          · rename_i h8
            split at h
            · rename_i q' ls' hp' sl' hc
              exact ⟨b, as, st', q', ls', hp', sl', hs, h8, hc, h⟩
            · cases h
          · cases h
        · cases h
      · rw [if_neg h2] at h
        exact Or.inr (Or.inr ⟨h1, h2, h⟩)
theorem cm_mono {code : Nat → List Ci} {ml : Nat → Nat} : ∀ {n id q : Nat} {ls : List (Option Cv)} {st : List Cv} {hp : Ch} {sl : Nat} {r : Cr}, cm code ml n id q ls st hp sl = some r → hp.1 ≤ r.2.2.1.1 ∧ sl ≤ r.2.2.2
  | 0, id, q, ls, st, hp, sl, r, h => by cases h
  | n + 1, id, q, ls, st, hp, sl, r, h => by
    obtain ⟨i, -, ⟨-, -, rfl⟩ | ⟨-, b, as, st', q', ls', hp', sl', -, -, h1, h2⟩ | ⟨-, -, h1⟩⟩ := cm_cases h
    · exact ⟨Nat.le_refl _, Nat.le_refl _⟩
    · have g1 := cm_mono h1
      have g2 := cm_mono h2
      dsimp only at g1
      omega
    · obtain ⟨q', ls', st', hp', sl', a1, a2, h2⟩ := c1_mono h1
      have g2 := cm_mono h2
      omega
theorem cm_end {code : Nat → List Ci} {ml : Nat → Nat} : ∀ {n id q : Nat} {ls : List (Option Cv)} {st : List Cv} {hp : Ch} {sl : Nat} {r : Cr}, cm code ml n id q ls st hp sl = some r → ∃ i, (code id)[r.1]? = some i ∧ (i.2.1 = 15 ∨ i.2.1 = 20)
  | 0, id, q, ls, st, hp, sl, r, h => by cases h
  | n + 1, id, q, ls, st, hp, sl, r, h => by
    obtain ⟨i, hi, ⟨ho, -, rfl⟩ | ⟨-, b, as, st', q', ls', hp', sl', -, -, h1, h2⟩ | ⟨-, -, h1⟩⟩ := cm_cases h
    · exact ⟨i, hi, ho⟩
    · exact cm_end h2
    · obtain ⟨q', ls', st', hp', sl', a1, a2, h2⟩ := c1_mono h1
      exact cm_end h2
/-- a call of a constructor: the check -/
def ch17 (own : String) (lv : Nat) (cc : ByteArray) (B : List Ci) (q : Nat) (i : Ci) : Bool :=
  decide (own ≠ "BookHouse$Row" ∧ i.2.2.2.1 < 12 ∧ (igD i.2.2.2.1).2.2.2.2 + 1 ≤ lv ∧ i.2.2.2.2.1 + 1 ≤ (igD i.2.2.2.1).2.2.1 ∧ (igD i.2.2.2.1).2.2.1 ≤ 21 ∧ decode cc i.1 = .ok (.invokespecial i.2.2.1, 3) ∧ cpc B (q + 1) = i.1 + 3 ∧ (parseMethodDescriptor (igD i.2.2.2.1).1.desc).map (fun d => d.parameters.length) = some i.2.2.2.2.1) &&
    (if i.2.2.2.2.2.getD 1 0 = 1 then decide ((own, i.2.2.1, (igD i.2.2.2.1).1, "BookHouse") ∈ nests) else decide (tbAt (i.2.2.2.2.2.getD 0 0) = some (Jvm.Cond.methodLink own i.2.2.1 (igD i.2.2.2.1).1)))
def chcI (own : String) (ini : Bool) (nL lv : Nat) (cc : ByteArray) (B : List Ci) (q : Nat) (i : Ci) : Bool :=
  if i.2.1 = 15 then decide (decode cc i.1 = .ok (.return_, 1)) else if i.2.1 = 20 then !ini else if i.2.1 = 17 then ch17 own lv cc B q i else chc own ini nL cc B q i
def chcA (own : String) (ini : Bool) (nL lv : Nat) (cc : ByteArray) (B : List Ci) : Bool := B.zipIdx.all fun q => chcI own ini nL lv cc B q.2 q.1
theorem chcA_e {own : String} {ini : Bool} {nL lv : Nat} {cc : ByteArray} {B : List Ci} (h : chcA own ini nL lv cc B = true) {q : Nat} {i : Ci} (hi : B[q]? = some i) : chcI own ini nL lv cc B q i = true :=
  List.all_eq_true.mp h (i, q) (List.mk_mem_zipIdx_iff_getElem?.mpr hi)
theorem lg_cu {C : Cx} : ∀ as : List Cv, lg_sl (as.map (cuV C)) = as.map fun v => Slot.val (cuV C v)
  | [] => rfl
  | .inl x :: as => by rw [List.map_cons, List.map_cons, ← lg_cu as]; rfl
  | .inr x :: as => by rw [List.map_cons, List.map_cons, ← lg_cu as]; rfl
theorem CLR_entry {C : Cx} {as : List Cv} {n : Nat} (h : as.length ≤ n) : CLR C ((lg_sl (as.map (cuV C)) ++ List.replicate (n - (lg_sl (as.map (cuV C))).length) Slot.unset).toArray) n (as.map some ++ List.replicate (n - as.length) none) := by
  have hE := lv_entry (as.map (cuV C)) (n := n) (by rw [lg_cu]; simpa using h)
  refine ⟨hE.1, hE.2.1, fun i v hi => ?_⟩
  rw [lg_cu]
  by_cases hl : i < as.length
  · rw [List.getElem?_append_left (by simpa using hl), List.getElem?_map] at hi
    rw [List.getElem?_toArray, List.getElem?_append_left (by simpa using hl), List.getElem?_map]
    cases hq : as[i]? with
    | none => rw [hq] at hi; cases hi
    | some w =>
      rw [hq] at hi
      simp at hi
      subst hi
      rfl
  · rw [List.getElem?_append_right (by simpa using Nat.le_of_not_lt hl), List.getElem?_replicate] at hi
    split at hi <;> simp at hi
