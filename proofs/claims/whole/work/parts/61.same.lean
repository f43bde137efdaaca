/-! what a call of the check may change -/
abbrev perM : List Nat := [973210081, 989987297, 1006764513, 1023541729, 1040318945, 1057096161, 1073873377, 1090650593, 1107427809, 1124208385, 1140981811, 1157759043, 1174536577, 1191313457, 1476526881, 1493303345, 1510080561, 1526857889, 1543635105, 1560412321, 1577266177, 1610744001, 1627521217, 1644298625, 1661078529, 1677852721, 1694629937, 1711407153, 1744961587, 1761738801, 1778516017, 1795293233]
abbrev scrM : List Nat := 1593970433 :: 1728184969 :: scrZ
abbrev allM : List Nat := perM ++ scrM
abbrev perF : List Int := [10, 13, 16, 35, 38, 43, 50, 54, 60]
/-- what is kept stays, but for some rows and fields -/
def same (S : List Nat) (fs : List Int) (σ σ' : Mm) : Prop := (∀ a ∈ perM, a ∉ S → Mi σ' a = Mi σ a ∧ Ml σ' a = Ml σ a) ∧ ∀ f ∈ perF, f ∉ fs → Mi σ' 184680536 0 f = Mi σ 184680536 0 f
theorem same.i {S : List Nat} {fs : List Int} {σ σ' : Mm} (h : same S fs σ σ') (a : Nat) (h1 : (perM.contains a) = true) (h2 : (S.contains a) = false) : Mi σ' a = Mi σ a := (h.1 a (by simpa using h1) (by simpa using h2)).1
theorem same.l {S : List Nat} {fs : List Int} {σ σ' : Mm} (h : same S fs σ σ') (a : Nat) (h1 : (perM.contains a) = true) (h2 : (S.contains a) = false) : Ml σ' a = Ml σ a := (h.1 a (by simpa using h1) (by simpa using h2)).2
theorem same.f {S : List Nat} {fs : List Int} {σ σ' : Mm} (h : same S fs σ σ') (f : Int) (h1 : (perF.contains f) = true) (h2 : (fs.contains f) = false) : Mi σ' 184680536 0 f = Mi σ 184680536 0 f := h.2 f (by simpa using h1) (by simpa using h2)
theorem same_rfl {S : List Nat} {fs : List Int} {σ : Mm} : same S fs σ σ := ⟨fun _ _ _ => ⟨rfl, rfl⟩, fun _ _ _ => rfl⟩
theorem same_trans {S : List Nat} {fs : List Int} {a b c : Mm} (h1 : same S fs a b) (h2 : same S fs b c) : same S fs a c := ⟨fun r q z => ⟨(h2.1 r q z).1.trans (h1.1 r q z).1, (h2.1 r q z).2.trans (h1.1 r q z).2⟩, fun f q z => (h2.2 f q z).trans (h1.2 f q z)⟩
theorem same_mono {S T : List Nat} {fs gs : List Int} {σ σ' : Mm} (h1 : ∀ x ∈ S, x ∈ T) (h2 : ∀ x ∈ fs, x ∈ gs) (h : same S fs σ σ') : same T gs σ σ' := ⟨fun a ha hn => h.1 a ha (fun q => hn (h1 a q)), fun f hf hn => h.2 f hf (fun q => hn (h2 f q))⟩
/-- scratch alone is written -/
theorem same_fr {L : List Nat} {σ σ' : Mm} (hL : ∀ a ∈ perM, a ∉ L) (h : Fr L σ σ') (hf : ∀ f ∈ perF, Mi σ' 184680536 0 f = Mi σ 184680536 0 f) : same [] [] σ σ' := ⟨fun a ha _ => ⟨(h.1 a (hL a ha)).1, (h.1 a (hL a ha)).2.1⟩, fun f hf2 _ => hf f hf2⟩
theorem same_W {σ σ' : Mm} (h : Fr scrW σ σ') : same [] [] σ σ' := same_fr (by decide) h (fun f _ => by rw [h.i _ rfl])
theorem outZ_F {σ σ' : Mm} (h : outZ σ σ') : ∀ f ∈ perF, Mi σ' 184680536 0 f = Mi σ 184680536 0 f := fun f hf => by
  simp only [List.mem_cons, List.not_mem_nil, or_false] at hf
  rcases hf with rfl | rfl | rfl | rfl | rfl | rfl | rfl | rfl | rfl <;> exact h _ (by decide) (by decide) (by decide) (by decide) (by decide) (by decide) (by decide) (by decide) (by decide) (by decide)
theorem same_Z {σ σ' : Mm} (h : Fr scrZ σ σ') (ho : outZ σ σ') : same [] [] σ σ' := same_fr (by decide) h (outZ_F ho)
theorem same_U {σ σ' : Mm} (h : Fr scrU σ σ') (ho : ∀ f, f ≠ 33 → Mi σ' 184680536 0 f = Mi σ 184680536 0 f) : same [] [] σ σ' := same_fr (by decide) h (fun f hf => ho f (by rintro rfl; revert hf; decide))
theorem same_T {σ σ' : Mm} (h : Fr scrT σ σ') (ho : ∀ f, f ≠ 45 → Mi σ' 184680536 0 f = Mi σ 184680536 0 f) : same [] [] σ σ' := same_fr (by decide) h (fun f hf => ho f (by rintro rfl; revert hf; decide))
theorem mI_same {σ σ' : Mm} (h : same [] [] σ σ') (hI : mI σ) : mI σ' := by
  have e1 := h.f 10 rfl rfl
  have e2 := h.f 13 rfl rfl
  have e3 := h.f 16 rfl rfl
  have e4 := h.f 35 rfl rfl
  have e5 := h.f 38 rfl rfl
  have e6 := h.f 43 rfl rfl
  have e7 := h.f 50 rfl rfl
  have e8 := h.f 54 rfl rfl
  have e9 := h.f 60 rfl rfl
  obtain ⟨i1, i2, i3, i4, i5, i6, i7, i8, i9⟩ := hI
  refine ⟨?_, ?_, ?_, ?_, ?_, ?_, ?_, ?_, ?_⟩
  · unfold logM stOk chM chB at i1 ⊢
    rw [e1, e3, h.i 973210081 rfl rfl, h.i 1006764513 rfl rfl, h.i 989987297 rfl rfl, h.i 1023541729 rfl rfl, h.i 1040318945 rfl rfl, h.i 1057096161 rfl rfl, h.i 1107427809 rfl rfl, h.i 1124208385 rfl rfl]
    exact i1
  · unfold logX at i2 ⊢
    rw [e1, h.i 973210081 rfl rfl, h.i 1006764513 rfl rfl, h.i 989987297 rfl rfl, h.i 1023541729 rfl rfl, h.i 1040318945 rfl rfl, h.i 1073873377 rfl rfl, h.i 1090650593 rfl rfl, h.l 1140981811 rfl rfl]
    exact i2
  · unfold hasR at i3 ⊢
    rw [e1, e2, e3, e4, h.l 1140981811 rfl rfl]
    exact i3
  · unfold padR at i4 ⊢
    rw [h.i 1174536577 rfl rfl, h.i 1191313457 rfl rfl]
    exact i4
  · unfold ruleR at i5 ⊢
    rw [e5, h.i 1493303345 rfl rfl, h.i 1510080561 rfl rfl]
    exact i5
  · unfold yesR at i6 ⊢
    rw [e6, h.i 1526857889 rfl rfl, h.i 1543635105 rfl rfl, h.i 1560412321 rfl rfl, h.i 1577266177 rfl rfl, h.i 1476526881 rfl rfl]
    exact i6
  · exact pairS_eq (fun a ha => h.i a (by revert a ha; decide) rfl) e7 i7
  · unfold termR at i8 ⊢
    rw [e8, h.i 1694629937 rfl rfl, h.i 1677852721 rfl rfl, h.i 1711407153 rfl rfl]
    exact i8
  · unfold edR at i9 ⊢
    rw [e9, h.i 1761738801 rfl rfl, h.i 1778516017 rfl rfl, h.i 1795293233 rfl rfl]
    exact i9
/-- the i-th of a list, how many for -1, else NONE -/
def nthA (L : List Int) (i : Int) : Int := if i = -1 then L.length else if 0 ≤ i ∧ i < L.length then L.getD i.toNat 0 else -6
theorem nthA_at {L1 L2 : List Int} {v i : Int} (h : i = L1.length) : nthA (L1 ++ v :: L2) i = v := by
  unfold nthA
  rw [if_neg (by omega), if_pos (by rw [List.length_append, List.length_cons]; omega), show i.toNat = L1.length by omega]
  simp [List.getD]
theorem nthA_end {L : List Int} {i : Int} (h : i < 0 ∨ L.length ≤ i) : nthA L i = if i = -1 then (L.length : Int) else -6 := by
  unfold nthA
  split
  · rfl
  · rw [if_neg (by omega)]
/-- one where it is so, else nothing -/
noncomputable def tf (P : Prop) : Int := @ite Int P (Classical.propDecidable P) 1 0
theorem tf_1 {P : Prop} (h : P) : tf P = 1 := by unfold tf; exact @if_pos P (Classical.propDecidable P) h Int 1 0
theorem tf_0 {P : Prop} (h : ¬ P) : tf P = 0 := by unfold tf; exact @if_neg P (Classical.propDecidable P) h Int 1 0
abbrev isS (σ : Mm) (s : Int) : Prop := (0 ≤ s ∧ s < 6) ∨ (10 ≤ s ∧ s < 10 + (Mi σ 184680536 0 13))
/-- is it a piece -/
abbrev isP (σ : Mm) (p : Int) : Prop := 0 ≤ p ∧ p < (Mi σ 184680536 0 10) ∧ (Mi σ 973210081 0) p = 0
theorem isS_r {σ : Mm} (h : hasR σ) {s : Int} (hs : isS σ s) : (0 ≤ s ∧ s < 6) ∨ (10 ≤ s ∧ s < 18) := by have := h.2.1; unfold isS at hs; omega
