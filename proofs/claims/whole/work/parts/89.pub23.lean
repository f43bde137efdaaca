/-- what may be otherwise of a piece -/
noncomputable def elsB (σ : Mm) (e s p : Int) : Bool := pb (elsP (snb (edB σ e) p) (snb (allB σ (mSet σ s)) p) (edP σ e p) (pgL σ (allB σ (mSet σ s)) ((Mi σ 1761738801 0) e) ((Mi σ 1778516017 0) e) ((Mi σ 1795293233 0) e) p))
noncomputable def tlV (σ : Mm) (B : Bk) (t w h p : Int) : Int := if tlb (Mi σ 1073873377 0) B p = true then pgL σ B t w h (B.1 4 p) else -6
noncomputable def rchB (σ : Mm) (e s w p : Int) : Bool :=
  if w = 0 then elsB σ e s p else if w = 1 then (snb (edB σ e) p && snb (allB σ (mSet σ s)) p && decide ((Mi σ 1073873377 0) p = 1) && decide (mSay σ (edB σ e) ((Mi σ 1761738801 0) e) p ≠ mSay σ (allB σ (mSet σ s)) ((Mi σ 1761738801 0) e) p))
  else if w = 2 then (snb (edB σ e) p && snb (allB σ (mSet σ s)) p && decide ((Mi σ 1073873377 0) p = 1) && decide (tlV σ (edB σ e) ((Mi σ 1761738801 0) e) ((Mi σ 1778516017 0) e) ((Mi σ 1795293233 0) e) p ≠ tlV σ (allB σ (mSet σ s)) ((Mi σ 1761738801 0) e) ((Mi σ 1778516017 0) e) ((Mi σ 1795293233 0) e) p)) else false
/-- the least page of pieces elsewhere, of the first n -/
noncomputable def lsF (σ : Mm) (e s : Int) : Nat → Int
  | 0 => -6
  | n + 1 => if elsB σ e s n = true ∧ snb (edB σ e) n = true ∧ (lsF σ e s n < 0 ∨ edP σ e n < lsF σ e s n) then edP σ e n else lsF σ e s n
noncomputable def aReach (σ : Mm) (e s w : Int) : Int :=
  if (e < 0 ∨ (Mi σ 184680536 0 60) ≤ e) ∨ ¬ isS σ s then -1 else if w < 0 ∨ 4 < w then -2
  else if w = 4 then (((rngL ((Mi σ 184680536 0 38)).toNat).filter (fun k => metB σ (edB σ e) k && !metB σ (allB σ (mSet σ s)) k)).length : Int)
  else if w = 3 then lsF σ e s ((Mi σ 184680536 0 10)).toNat else (((rngL ((Mi σ 184680536 0 10)).toNat).filter (rchB σ e s w)).length : Int)
theorem rngL_s {n : Nat} : rngL (n + 1) = rngL n ++ [(n : Int)] := by simp [rngL, List.range_succ]
/-- both sheets as they stand -/
def two (σ σ1 : Mm) (e s : Int) : Prop := (∀ p : Int, 0 ≤ p → p < 60 →
    (Mi σ1 1812071362 0) p = (if snb (edB σ e) p = true then 1 else 0) ∧ (Mi σ1 1812071362 0) (60 + p) = (if snb (allB σ (mSet σ s)) p = true then 1 else 0) ∧
    (snb (edB σ e) p = true → ((Mi σ1 1862403009 0) p = edP σ e p ∧ IR (edP σ e p) ∧ 1 ≤ edP σ e p) ∧ (Mi σ1 1946289089 0) p = tlV σ (edB σ e) ((Mi σ 1761738801 0) e) ((Mi σ 1778516017 0) e) ((Mi σ 1795293233 0) e) p ∧ IR (tlV σ (edB σ e) ((Mi σ 1761738801 0) e) ((Mi σ 1778516017 0) e) ((Mi σ 1795293233 0) e) p) ∧ (Mi σ1 1828848577 0) p = (mSay σ (edB σ e) ((Mi σ 1761738801 0) e) p).length ∧ arL (fun i => (Mi σ1 1845632513 0) (8 * p + i)) (mSay σ (edB σ e) ((Mi σ 1761738801 0) e) p) ∧ (mSay σ (edB σ e) ((Mi σ 1761738801 0) e) p).length ≤ 8 ∧ ∀ x ∈ mSay σ (edB σ e) ((Mi σ 1761738801 0) e) p, IR x) ∧
    (snb (allB σ (mSet σ s)) p = true → ((Mi σ1 1862403009 0) (60 + p) = pgL σ (allB σ (mSet σ s)) ((Mi σ 1761738801 0) e) ((Mi σ 1778516017 0) e) ((Mi σ 1795293233 0) e) p ∧ IR (pgL σ (allB σ (mSet σ s)) ((Mi σ 1761738801 0) e) ((Mi σ 1778516017 0) e) ((Mi σ 1795293233 0) e) p)) ∧ (Mi σ1 1946289089 0) (60 + p) = tlV σ (allB σ (mSet σ s)) ((Mi σ 1761738801 0) e) ((Mi σ 1778516017 0) e) ((Mi σ 1795293233 0) e) p ∧ IR (tlV σ (allB σ (mSet σ s)) ((Mi σ 1761738801 0) e) ((Mi σ 1778516017 0) e) ((Mi σ 1795293233 0) e) p) ∧ (Mi σ1 1828848577 0) (60 + p) = (mSay σ (allB σ (mSet σ s)) ((Mi σ 1761738801 0) e) p).length ∧ arL (fun i => (Mi σ1 1845632513 0) (8 * (60 + p) + i)) (mSay σ (allB σ (mSet σ s)) ((Mi σ 1761738801 0) e) p) ∧ (mSay σ (allB σ (mSet σ s)) ((Mi σ 1761738801 0) e) p).length ≤ 8 ∧ ∀ x ∈ mSay σ (allB σ (mSet σ s)) ((Mi σ 1761738801 0) e) p, IR x))
/-- of one sheet -/
theorem sht_one {σ σ1 : Mm} {e t w h : Int} {s : Int64} (hI : mI σ) (he : 0 ≤ e ∧ e < 2) (hs : shtM σ σ1 e t w h (allB σ s)) : ∀ p : Int, 0 ≤ p → p < 60 → (Mi σ1 1812071362 0) (60 * e + p) = (if snb (allB σ s) p = true then 1 else 0) ∧ (snb (allB σ s) p = true → ((Mi σ1 1862403009 0) (60 * e + p) = pgL σ (allB σ s) t w h p ∧ IR (pgL σ (allB σ s) t w h p) ∧ 1 ≤ pgL σ (allB σ s) t w h p) ∧ (Mi σ1 1946289089 0) (60 * e + p) = tlV σ (allB σ s) t w h p ∧ IR (tlV σ (allB σ s) t w h p) ∧ (Mi σ1 1828848577 0) (60 * e + p) = (mSay σ (allB σ s) t p).length ∧ arL (fun i => (Mi σ1 1845632513 0) (8 * (60 * e + p) + i)) (mSay σ (allB σ s) t p) ∧ (mSay σ (allB σ s) t p).length ≤ 8 ∧ ∀ x ∈ mSay σ (allB σ s) t p, IR x) := by
  intro p p0 p1
  obtain ⟨ok, hsp, hB⟩ := allB_ok hI.1 s
  obtain ⟨hb, ⟨f1, f2, f3, f4⟩, f5⟩ := hs
  have hon := hb.2.2.2.2.2.2.1 p p0 p1
  have hn := rdE_rng (mk := mkE σ (allB σ s) t w h) (R := readL (allB σ s)) (f := 9) (r := 1)
  have pgR : ∀ q ∈ readL (allB σ s), (Mi σ1 1862403009 0) (60 * e + q) = pgL σ (allB σ s) t w h q ∧ 1 ≤ pgL σ (allB σ s) t w h q ∧ pgL σ (allB σ s) t w h q ≤ 1000 := fun q hq => by
    have r1 := f1 q hq
    have e1 : pgL σ (allB σ s) t w h q = pgE (lastE σ (allB σ s) t w h) (bfE (lastE σ (allB σ s) t w h) (readL (allB σ s)) q) q := by
      unfold pgL lastE
      have hnr : 1 ≤ nrE σ (allB σ s) t w h := hn.1
      obtain ⟨m, hm⟩ : ∃ m, nrE σ (allB σ s) t w h = m + 1 := ⟨nrE σ (allB σ s) t w h - 1, by omega⟩
      rw [hm]
      rfl
    rw [e1]
    exact ⟨r1.1, r1.2.2.2.2⟩
  refine ⟨?_, fun hsn => ?_⟩
  · by_cases c : snb (allB σ s) p = true
    · rw [if_pos c]; exact hon.2.mpr (snb_iff.mp c)
    · rw [if_neg c]
      rcases hon.1 with z | z
      · exact z
      · exact absurd (snb_iff.mpr (hon.2.mp z)) c
  · have hpR : p ∈ readL (allB σ s) := (readL_mem ok).mpr (snb_iff.mp hsn)
    obtain ⟨g1, g2, g3⟩ := pgR p hpR
    have g5 := f5 p hpR
    have g8 := (hb.2.2.2.2.2.2.2 p p0 p1).2 hpR
    have hr := mSay_rng (t := t) hsp hI.2.2.2.2.2.2.1 ⟨p0, p1⟩
    refine ⟨⟨g1, (by first | omega | (unfold IR; omega)), g2⟩, g5, ?_, g8.1, g8.2, hr.1, fun x hx => by have := hr.2 x hx; exact (by first | omega | (unfold IR; omega))⟩
    unfold tlV
    split
    · rename_i c
      have hti : sn (allB σ s) ((allB σ s).1 4 p) := (tlb_iff.mp c).2.2
      have := pgR _ ((readL_mem ok).mpr hti)
      exact (by first | omega | (unfold IR; omega))
    · exact (by first | omega | (unfold IR; omega))
