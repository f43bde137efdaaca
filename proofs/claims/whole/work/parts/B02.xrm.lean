/-! the class holds what the check holds, also where the check's rows change elsewhere -/
abbrev mlA : List Nat := [973210081, 989987297, 1006764513, 1023541729, 1040318945, 1057096161, 1073873377, 1090650593, 1107427809, 1124208385]
theorem cW_eq {μ μ' : Mm} (h1 : Mi μ' 1107427809 = Mi μ 1107427809) (h2 : Mi μ' 1124208385 = Mi μ 1124208385) : cW μ' = cW μ := by funext c; unfold cW; rw [h1, h2]
theorem xLog_m' {σ μ μ' : Mm} {S : List Nat} {fs : List Int} (hs : same S fs μ μ') (hS : (mlA.all fun a => !S.contains a) = true) (hf : fs.contains 10 = false) (h : xLog σ μ) : xLog σ μ' := by
  have g : ∀ a ∈ mlA, S.contains a = false := fun a ha => by simpa using List.all_eq_true.mp hS a ha
  have e1 := hs.i 973210081 rfl (g _ (by simp))
  have e2 := hs.i 989987297 rfl (g _ (by simp))
  have e3 := hs.i 1006764513 rfl (g _ (by simp))
  have e4 := hs.i 1023541729 rfl (g _ (by simp))
  have e5 := hs.i 1040318945 rfl (g _ (by simp))
  have e6 := hs.i 1057096161 rfl (g _ (by simp))
  have e7 := hs.i 1073873377 rfl (g _ (by simp))
  have e8 := hs.i 1090650593 rfl (g _ (by simp))
  have e9 := hs.i 1107427809 rfl (g _ (by simp))
  have e10 := hs.i 1124208385 rfl (g _ (by simp))
  have e11 := hs.f 10 rfl hf
  have eo : mOrd μ' = mOrd μ := by unfold mOrd; rw [e2, e3, e11]
  have ec : cW μ' = cW μ := cW_eq e9 e10
  unfold xLog at h ⊢
  rw [eo, ec, e1, e2, e3, e4, e5, e6, e7, e8, e9, e11]
  exact h
theorem xHas_m {σ μ μ' : Mm} {S : List Nat} {fs : List Int} (hs : same S fs μ μ') (hS : S.contains 1140981811 = false ∧ S.contains 1157759043 = false) (hf : fs.contains 13 = false ∧ fs.contains 16 = false) (h : xHas σ μ) : xHas σ μ' := by
  unfold xHas at h ⊢
  rw [hs.l 1140981811 rfl hS.1, hs.l 1157759043 rfl hS.2, hs.f 13 rfl hf.1, hs.f 16 rfl hf.2]
  exact h
theorem padL_eq {μ μ' : Mm} (h1 : Mi μ' 1191313457 = Mi μ 1191313457) (h2 : Mi μ' 1174536577 = Mi μ 1174536577) : padL μ' = padL μ := by funext c; unfold padL; rw [h1, h2]
theorem xPad_m {σ μ μ' : Mm} {S : List Nat} {fs : List Int} (hs : same S fs μ μ') (hS : S.contains 1174536577 = false ∧ S.contains 1191313457 = false) (h : xPad σ μ) : xPad σ μ' := by
  unfold xPad at h ⊢
  rw [padL_eq (hs.i 1191313457 rfl hS.2) (hs.i 1174536577 rfl hS.1)]
  exact h
theorem xFold_m {σ μ μ' : Mm} {S : List Nat} {fs : List Int} (hs : same S fs μ μ') (hS : S.contains 1476526881 = false) (hf : fs.contains 35 = false) (h : xFold σ μ) : xFold σ μ' := by
  unfold xFold at h ⊢
  rw [hs.i 1476526881 rfl hS, hs.f 35 rfl hf]
  exact h
theorem xRule_m {σ μ μ' : Mm} {S : List Nat} {fs : List Int} (hs : same S fs μ μ') (hS : S.contains 1493303345 = false ∧ S.contains 1510080561 = false) (hf : fs.contains 38 = false) (h : xRule σ μ) : xRule σ μ' := by
  unfold xRule at h ⊢
  rw [hs.i 1493303345 rfl hS.1, hs.i 1510080561 rfl hS.2, hs.f 38 rfl hf]
  exact h
theorem yesW_eq {μ μ' : Mm} (h1 : Mi μ' 1560412321 = Mi μ 1560412321) (h2 : Mi μ' 1577266177 = Mi μ 1577266177) : yesW μ' = yesW μ := by funext c; unfold yesW; rw [h1, h2]
theorem xYes_m {σ μ μ' : Mm} {S : List Nat} {fs : List Int} (hs : same S fs μ μ') (hS : S.contains 1526857889 = false ∧ S.contains 1543635105 = false ∧ S.contains 1560412321 = false ∧ S.contains 1577266177 = false) (hf : fs.contains 43 = false) (h : xYes σ μ) : xYes σ μ' := by
  unfold xYes at h ⊢
  rw [hs.i 1526857889 rfl hS.1, hs.i 1543635105 rfl hS.2.1, yesW_eq (hs.i 1560412321 rfl hS.2.2.1) (hs.i 1577266177 rfl hS.2.2.2), hs.f 43 rfl hf]
  exact h
theorem mpW_eq {μ μ' : Mm} (h1 : Mi μ' 1644298625 = Mi μ 1644298625) (h2 : Mi μ' 1661078529 = Mi μ 1661078529) : mpW μ' = mpW μ := by funext c s; unfold mpW; rw [h1, h2]
abbrev mpA : List Nat := [1627521217, 1610744001, 1644298625, 1661078529, 973210081, 1107427809, 1124208385]
theorem xPair_m {σ μ μ' : Mm} {S : List Nat} {fs : List Int} (hs : same S fs μ μ') (hS : (mpA.all fun a => !S.contains a) = true) (hf : fs.contains 50 = false ∧ fs.contains 10 = false) (h : xPair σ μ) : xPair σ μ' := by
  have g : ∀ a ∈ mpA, S.contains a = false := fun a ha => by simpa using List.all_eq_true.mp hS a ha
  unfold xPair at h ⊢
  rw [hs.i 1627521217 rfl (g _ (by simp)), hs.i 1610744001 rfl (g _ (by simp)), hs.i 973210081 rfl (g _ (by simp)), mpW_eq (hs.i 1644298625 rfl (g _ (by simp))) (hs.i 1661078529 rfl (g _ (by simp))), cW_eq (hs.i 1107427809 rfl (g _ (by simp))) (hs.i 1124208385 rfl (g _ (by simp))), hs.f 50 rfl hf.1, hs.f 10 rfl hf.2]
  exact h
theorem xTerm_m {σ μ μ' : Mm} {S : List Nat} {fs : List Int} (hs : same S fs μ μ') (hS : S.contains 1694629937 = false ∧ S.contains 1677852721 = false ∧ S.contains 1711407153 = false) (hf : fs.contains 54 = false) (h : xTerm σ μ) : xTerm σ μ' := by
  unfold xTerm at h ⊢
  rw [hs.i 1694629937 rfl hS.1, hs.i 1677852721 rfl hS.2.1, hs.i 1711407153 rfl hS.2.2, hs.f 54 rfl hf]
  exact h
theorem xShelf_m {σ μ μ' : Mm} {S : List Nat} {fs : List Int} (hs : same S fs μ μ') (hS : S.contains 1744961587 = false ∧ S.contains 1761738801 = false ∧ S.contains 1778516017 = false ∧ S.contains 1795293233 = false) (hf : fs.contains 60 = false) (h : xShelf σ μ) : xShelf σ μ' := by
  unfold xShelf at h ⊢
  rw [hs.l 1744961587 rfl hS.1, hs.i 1761738801 rfl hS.2.1, hs.i 1778516017 rfl hS.2.2.1, hs.i 1795293233 rfl hS.2.2.2, hs.f 60 rfl hf]
  exact h
theorem XR_m {σ μ μ' : Mm} (hs : same [] [] μ μ') (h : XR σ μ) : XR σ μ' := by
  obtain ⟨h1, h2, h3, h4, h5, h6, h7, h8, h9⟩ := h
  exact ⟨xLog_m' hs (by decide) rfl h1, xHas_m hs ⟨rfl, rfl⟩ ⟨rfl, rfl⟩ h2, xPad_m hs ⟨rfl, rfl⟩ h3, xFold_m hs rfl rfl h4, xRule_m hs ⟨rfl, rfl⟩ rfl h5, xYes_m hs ⟨rfl, rfl, rfl, rfl⟩ rfl h6, xPair_m hs (by decide) ⟨rfl, rfl⟩ h7, xTerm_m hs ⟨rfl, rfl, rfl⟩ rfl h8, xShelf_m hs ⟨rfl, rfl, rfl, rfl⟩ rfl h9⟩
/-- what a call of the class may write -/
abbrev xEv : List Nat := xAllA ++ scX
def xFr (σ σ' : Mm) : Prop := (∀ a, a ∉ xEv → Mi σ' a = Mi σ a ∧ Ml σ' a = Ml σ a ∧ Mr σ' a = Mr σ a) ∧ Mn σ' (-1) = Mn σ (-1)
theorem xFr_of {σ σ' : Mm} {S : List Nat} (h : Fr S σ σ') (hS : ∀ a ∈ S, a ∈ xEv) : xFr σ σ' := ⟨fun a ha => h.1 a (fun q => ha (hS a q)), by rw [h.2.1]⟩
theorem xFr.rfl' {σ : Mm} : xFr σ σ := ⟨fun _ _ => ⟨rfl, rfl, rfl⟩, rfl⟩
theorem xFr.trans' {a b c : Mm} (h1 : xFr a b) (h2 : xFr b c) : xFr a c := ⟨fun x hx => ⟨(h2.1 x hx).1.trans (h1.1 x hx).1, (h2.1 x hx).2.1.trans (h1.1 x hx).2.1, (h2.1 x hx).2.2.trans (h1.1 x hx).2.2⟩, h2.2.trans h1.2⟩
/-- a call of the class that answers as the check's relation asks -/
abbrev kX (μ : Mm) (σ : Mm) (o : Int → Mm → Prop) (k : Int → Mm → Prop) : Prop := ∀ r σ', xFr σ σ' → (∀ r' μ', o r' μ' → r' = r ∧ XR σ' μ') → k r σ'
theorem kX_0 {σ σ' μ : Mm} {o k : Int → Mm → Prop} {r : Int} (hk : kX μ σ o k) (hF : xFr σ σ') (hR : XR σ' μ) (ho : ∀ r' μ', o r' μ' → r' = r ∧ same [] [] μ μ') : k r σ' := hk r σ' hF (fun r' μ' h => ⟨(ho r' μ' h).1, XR_m (ho r' μ' h).2 hR⟩)
