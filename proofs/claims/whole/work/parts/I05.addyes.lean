/-! a yes added: the class holds what the check holds -/
abbrev adA : List Nat := [2046953351, 2046953345, 453116065, 469893281, 2147614885, 2197815295, 2197815289, 67239952]
/-- the memory after the row is made and laid in -/
def adM (σ1 : Mm) (n h p : Int) (t a : Nat) : Mm := sR (nrow (sI (sI σ1 453116065 0 n h) 469893281 0 n p) t a) 2147614885 0 n (2197815295, (Mc σ1 : Int))
theorem Mi_nr {σ : Mm} {n a r : Nat} (h1 : (Nat.beq r rg_row_cov) = false) (h2 : (Nat.beq r rg_arr_cov) = false) : Mi (nrow σ n a) r = Mi σ r := by
  funext j k
  exact Mi_nrow (by rintro ⟨q, -⟩; rcases q with q | q; exact Nat.ne_of_beq_eq_false h1 q; exact Nat.ne_of_beq_eq_false h2 q)
theorem ne_beq {a b : Nat} (h : a ≠ b) : (Nat.beq a b) = false := by
  cases q : Nat.beq a b with
  | false => rfl
  | true => exact absurd (Nat.eq_of_beq_eq_true q) h
section
variable {σ σ1 σ4 : Mm} {n h p v J : Int} {t a : Nat}
theorem add_fr (hF1 : FrJ 2046953351 0 σ σ1) (hF4 : FrJ 2197815295 J (adM σ1 n h p t a) σ4) : ∀ x, x ∉ adA → Mi (sI σ4 67239952 0 7 v) x = Mi σ x ∧ Ml (sI σ4 67239952 0 7 v) x = Ml σ x ∧ Mr (sI σ4 67239952 0 7 v) x = Mr σ x := by
  intro x hx
  have ne : ∀ y ∈ adA, x ≠ y := fun y hy e => hx (e ▸ hy)
  have g1 := hF1.fr.1 x (fun q => hx (by
    rcases List.mem_cons.mp q with e | q
    · rw [e]; decide
    · rcases List.mem_cons.mp q with e | q
      · rw [e]; decide
      · cases q))
  have g2 := (Fr.sI (S := adA) (r := 469893281) (j := 0) (k := n) (v := p) (by decide) (Fr.sI (S := adA) (σ := σ1) (r := 453116065) (j := 0) (k := n) (v := h) (by decide) Fr.rfl')).1 x hx
  have g3 : Mi (nrow (sI (sI σ1 453116065 0 n h) 469893281 0 n p) t a) x = Mi (sI (sI σ1 453116065 0 n h) 469893281 0 n p) x := Mi_nr (ne_beq (ne _ (by decide))) (ne_beq (ne _ (by decide)))
  have g4 := (Fr.sR (S := adA) (r := 2147614885) (j := 0) (k := n) (v := (2197815295, (Mc σ1 : Int))) (by decide) (Fr.rfl' (σ := nrow (sI (sI σ1 453116065 0 n h) 469893281 0 n p) t a))).1 x hx
  have g5 := hF4.fr.1 x (fun q => hx (by
    rcases List.mem_cons.mp q with e | q
    · rw [e]; decide
    · rcases List.mem_cons.mp q with e | q
      · rw [e]; decide
      · cases q))
  have g6 := (Fr.sI (S := adA) (r := 67239952) (j := 0) (k := 7) (v := v) (by decide) (Fr.rfl' (σ := σ4))).1 x hx
  exact ⟨g6.1.trans (g5.1.trans (g4.1.trans (g3.trans (g2.1.trans g1.1)))), g6.2.1.trans (g5.2.1.trans (g4.2.1.trans (g2.2.1.trans g1.2.1))), g6.2.2.trans (g5.2.2.trans (g4.2.2.trans (g2.2.2.trans g1.2.2)))⟩
theorem add_hand (hF1 : FrJ 2046953351 0 σ σ1) (hF4 : FrJ 2197815295 J (adM σ1 n h p t a) σ4) : Mi (sI σ4 67239952 0 7 v) 453116065 0 = upd1 (Mi σ 453116065 0) n h := by
  rw [Mi_n rfl, hF4.1 453116065 0 (by rintro ⟨q, -⟩; revert q; decide)]
  show Mi (nrow (sI (sI σ1 453116065 0 n h) 469893281 0 n p) t a) 453116065 0 = _
  rw [Mi_nr rfl rfl, Mi_n rfl, Mi_s, hF1.1 453116065 0 (by rintro ⟨q, -⟩; revert q; decide)]
theorem add_piece (hF1 : FrJ 2046953351 0 σ σ1) (hF4 : FrJ 2197815295 J (adM σ1 n h p t a) σ4) : Mi (sI σ4 67239952 0 7 v) 469893281 0 = upd1 (Mi σ 469893281 0) n p := by
  rw [Mi_n rfl, hF4.1 469893281 0 (by rintro ⟨q, -⟩; revert q; decide)]
  show Mi (nrow (sI (sI σ1 453116065 0 n h) 469893281 0 n p) t a) 469893281 0 = _
  rw [Mi_nr rfl rfl, Mi_s, Mi_n rfl, hF1.1 469893281 0 (by rintro ⟨q, -⟩; revert q; decide)]
theorem add_cons (hF1 : FrJ 2046953351 0 σ σ1) (hF4 : FrJ 2197815295 J (adM σ1 n h p t a) σ4) : Mi (sI σ4 67239952 0 7 v) 67239952 0 = upd1 (Mi σ 67239952 0) 7 v := by
  rw [Mi_s, hF4.1 67239952 0 (by rintro ⟨q, -⟩; revert q; decide)]
  show upd1 (Mi (nrow (sI (sI σ1 453116065 0 n h) 469893281 0 n p) t a) 67239952 0) 7 v = _
  rw [Mi_nr rfl rfl, Mi_n rfl, Mi_n rfl, hF1.1 67239952 0 (by rintro ⟨q, -⟩; revert q; decide)]
theorem add_cov (hF1 : FrJ 2046953351 0 σ σ1) (hF4 : FrJ 2197815295 J (adM σ1 n h p t a) σ4) (i : Int) : Mr (sI σ4 67239952 0 7 v) 2147614885 0 i = if i = n then (2197815295, (Mc σ : Int)) else Mr σ 2147614885 0 i := by
  show Mr σ4 2147614885 0 i = _
  rw [hF4.2.2.2.1]
  show up3 (Mr σ1) 2147614885 0 n (2197815295, (Mc σ1 : Int)) 2147614885 0 i = _
  rw [hF1.2.2.2.1, hF1.2.2.2.2.2.1]
  simp [up3]
theorem add_old (hF1 : FrJ 2046953351 0 σ σ1) (hF4 : FrJ 2197815295 (Mc σ) (adM σ1 n h p t a) σ4) {j : Int} (hj : j ≠ (Mc σ : Int)) {r : Nat} (hr : r = 2197815295 ∨ r = 2197815289) : Mi (sI σ4 67239952 0 7 v) r j = Mi σ r j := by
  have e0 : Mc σ1 = Mc σ := hF1.2.2.2.2.2.1
  have n1 : (Nat.beq r 67239952) = false := by rcases hr with rfl | rfl <;> rfl
  have n2 : (Nat.beq r 469893281) = false := by rcases hr with rfl | rfl <;> rfl
  have n3 : (Nat.beq r 453116065) = false := by rcases hr with rfl | rfl <;> rfl
  rw [Mi_n n1, hF4.1 r j (fun q => hj q.2)]
  have e1 : Mi (adM σ1 n h p t a) r j = Mi (sI (sI σ1 453116065 0 n h) 469893281 0 n p) r j := by
    funext k
    exact Mi_nrow (σ := sI (sI σ1 453116065 0 n h) 469893281 0 n p) (n := t) (a := a) (by rintro ⟨-, q⟩; exact hj (by rw [q]; show (Mc σ1 : Int) = _; rw [e0]))
  rw [e1, Mi_n n2, Mi_n n3, hF1.1 r j (by rintro ⟨q, -⟩; rcases hr with rfl | rfl <;> (revert q; decide))]
theorem add_Mn (hF1 : FrJ 2046953351 0 σ σ1) (hF4 : FrJ 2197815295 J (adM σ1 n h p t a) σ4) (j : Int) : Mn (sI σ4 67239952 0 7 v) j = if j = (Mc σ : Int) then t else Mn σ j := by
  show Mn σ4 j = _
  rw [hF4.2.2.2.2.1]
  show (if j = (Mc σ1 : Int) then t else Mn σ1 j) = _
  rw [hF1.2.2.2.2.2.1, hF1.2.2.2.2.1]
theorem add_Mc (hF1 : FrJ 2046953351 0 σ σ1) (hF4 : FrJ 2197815295 J (adM σ1 n h p t a) σ4) : Mc (sI σ4 67239952 0 7 v) = Mc σ + 1 := by
  show Mc σ4 = _
  rw [hF4.2.2.2.2.2.1]
  show Mc σ1 + 1 = _
  rw [hF1.2.2.2.2.2.1]
theorem add_xFr (hF1 : FrJ 2046953351 0 σ σ1) (hF4 : FrJ 2197815295 J (adM σ1 n h p t a) σ4) : xFr σ (sI σ4 67239952 0 7 v) := ⟨fun x hx => add_fr hF1 hF4 x (fun q => hx ((show ∀ y ∈ adA, y ∈ xEv by decide) x q)), by rw [add_Mn hF1 hF4, if_neg (by omega)]⟩
end
theorem yesW_new {μ' : Mm} {n : Int} {T : List Int} (hm : (Mi μ' 1560412321 0) n = T.length) (ha : arL (fun i => (Mi μ' 1577266177 0) (480 * n + i)) T) : yesW μ' n = T := by
  unfold yesW
  rw [hm]
  apply List.ext_getElem?
  intro i
  rw [List.getElem?_map]
  by_cases hi : i < T.length
  · rw [List.getElem?_range (by omega), List.getElem?_eq_getElem hi]
    exact congrArg some (ha i _ (List.getElem?_eq_getElem hi))
  · rw [List.getElem?_eq_none (by simp; omega), List.getElem?_eq_none (by omega)]
    rfl
theorem yesW_old {μ μ' : Mm} {n i : Int} (h0 : 0 ≤ i) (hi : i < n) (hm : (Mi μ' 1560412321 0) i = (Mi μ 1560412321 0) i) (hw : ∀ x, x < 480 * n ∨ 480 * n + 480 ≤ x → (Mi μ' 1577266177 0) x = (Mi μ 1577266177 0) x) (hl : (yesW μ i).length ≤ 240) : yesW μ' i = yesW μ i := by
  unfold yesW at hl ⊢
  rw [List.length_map, List.length_range] at hl
  rw [hm]
  refine List.map_congr_left fun k hk => hw _ (Or.inl ?_)
  have := List.mem_range.mp hk
  omega
theorem XR_add {σ σ1 σ4 μ μ' : Mm} {h p n : Int} {T : List Int} {a : Nat} (hR : XR σ μ) (hn : n = (Mi μ 184680536 0 43)) (hlen : T.length ≤ 240) (hF1 : FrJ 2046953351 0 σ σ1) (hF4 : FrJ 2197815295 (Mc σ) (adM σ1 n h p T.length a) σ4) (hr4 : rowR σ4 2197815295 (Mc σ) T)
    (hs : same lYesA [43] μ μ') (x1 : (Mi μ' 184680536 0 43) = n + 1) (x2 : Mi μ' 1526857889 0 = upd1 (Mi μ 1526857889 0) n h) (x3 : Mi μ' 1543635105 0 = upd1 (Mi μ 1543635105 0) n p) (x4 : Mi μ' 1560412321 0 = upd1 (Mi μ 1560412321 0) n T.length) (x5 : ∀ x, x < 480 * n ∨ 480 * n + 480 ≤ x → (Mi μ' 1577266177 0) x = (Mi μ 1577266177 0) x) (x6 : arL (fun i => (Mi μ' 1577266177 0) (480 * n + i)) T) : XR (sI σ4 67239952 0 7 (n + 1)) μ' := by
  have hF : Fr adA σ ((sI σ4 67239952 0 7 (n + 1)).1, (sI σ4 67239952 0 7 (n + 1)).2.1, (sI σ4 67239952 0 7 (n + 1)).2.2.1, σ.2.2.2) := ⟨add_fr hF1 hF4, rfl, rfl, rfl⟩
  obtain ⟨h1, h2, h3, h4, h5, h6, h7, h8, h9⟩ := hR
  have g1' := xLog_fr hF (by decide) h1
  have g1 : xLog (sI σ4 67239952 0 7 (n + 1)) μ := g1'
  have g2' := xHas_fr hF (by decide) h2
  have g2 : xHas (sI σ4 67239952 0 7 (n + 1)) μ := g2'
  have g3' := xPad_fr hF (by decide) h3
  have g3 : xPad (sI σ4 67239952 0 7 (n + 1)) μ := g3'
  have g4' := xFold_fr hF (by decide) h4
  have g4 : xFold (sI σ4 67239952 0 7 (n + 1)) μ := g4'
  have g7' := xPair_fr hF (by decide) h7
  have g7 : xPair (sI σ4 67239952 0 7 (n + 1)) μ := g7'
  have g8' := xTerm_fr hF (by decide) h8
  have g8 : xTerm (sI σ4 67239952 0 7 (n + 1)) μ := g8'
  have g9' := xShelf_fr hF (by decide) h9
  have g9 : xShelf (sI σ4 67239952 0 7 (n + 1)) μ := g9'
  have e1 : Mi (sI σ4 67239952 0 7 (n + 1)) 419561521 = Mi σ 419561521 := (add_fr hF1 hF4 _ (by decide)).1
  have e2 : Mi (sI σ4 67239952 0 7 (n + 1)) 436338737 = Mi σ 436338737 := (add_fr hF1 hF4 _ (by decide)).1
  have g5 : xRule (sI σ4 67239952 0 7 (n + 1)) μ := by
    unfold xRule at h5 ⊢
    rw [e1, e2, add_cons hF1 hF4, upd1_n (by decide)]
    exact h5
  refine ⟨xLog_m' hs (by decide) rfl g1, xHas_m hs ⟨rfl, rfl⟩ ⟨rfl, rfl⟩ g2, xPad_m hs ⟨rfl, rfl⟩ g3, xFold_m hs rfl rfl g4, xRule_m hs ⟨rfl, rfl⟩ rfl g5, ⟨?_, fun i i0 i1 => ?_⟩, xPair_m hs (by decide) ⟨rfl, rfl⟩ g7, xTerm_m hs ⟨rfl, rfl, rfl⟩ rfl g8, xShelf_m hs ⟨rfl, rfl, rfl, rfl⟩ rfl g9⟩
  · rw [x1, add_cons hF1 hF4, upd1_s]
  · rw [x1] at i1
    rw [x2, x3, add_hand hF1 hF4, add_piece hF1 hF4, add_cov hF1 hF4, add_Mc hF1 hF4]
    simp only [upd1_e]
    by_cases e : i = n
    · rw [if_pos e, if_pos e, if_pos e, if_pos e, if_pos e, e, yesW_new (by rw [x4, upd1_s]) x6]
      refine ⟨rfl, rfl, (Mc σ : Int), ⟨by omega, by omega⟩, rfl, ?_, ?_, hlen⟩
      · unfold rowR at hr4 ⊢
        rw [Mi_n rfl, Mi_n rfl]
        exact hr4
      · rw [add_Mn hF1 hF4, if_pos rfl]
        exact Int.le_refl _
    · rw [if_neg e, if_neg e, if_neg e, if_neg e, if_neg e]
      obtain ⟨y1, y2, J, ⟨j0, j1⟩, y3, y4, y5, y6⟩ := h6.2 i i0 (by omega)
      rw [yesW_old i0 (by omega) (by rw [x4, upd1_n e]) x5 y6]
      refine ⟨y1, y2, J, ⟨j0, by omega⟩, y3, ?_, ?_, y6⟩
      · unfold rowR at y4 ⊢
        rw [add_old hF1 hF4 (by omega) (Or.inl rfl), add_old hF1 hF4 (by omega) (Or.inr rfl)]
        exact y4
      · rw [add_Mn hF1 hF4, if_neg (by omega)]
        exact y5
