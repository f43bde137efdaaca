/-! the class: index -/
noncomputable def edM (μ : Mm) (e w on : Int) : Prop := ∃ p ∈ readL (edB μ e), htE (Mi μ 1073873377 0) (edE μ e) (readL (edB μ e)) (mSay μ (edB μ e) ((Mi μ 1761738801 0) e)) w on p
/-- the hits of l1, and of the lines of p before l -/
def hpM (so : Int → Int) (E : En) (R : List Int) (Sf : Int → List Int) (w : Int) (l1 : List Int) (on : Int) : Prop := ∃ p ∈ l1, htE so E R Sf w on p
def hpL (so : Int → Int) (E : En) (R : List Int) (Sf : Int → List Int) (w : Int) (l1 : List Int) (p : Int) (l : Nat) (on : Int) : Prop := hpM so E R Sf w l1 on ∨ (so p = 1 ∧ ∃ q : Nat, q < l ∧ q < (eL E p).length ∧ lpE E (bfE E R p) p q = on ∧ saidIn (Sf p) (eL E p) q w)
theorem bd_all {μ : Mm} (hI : mI μ) {set : Int64} {t w h : Int} (hh : 10 ≤ h ∧ h ≤ 20) {σ : Mm} {j : Int} (hD : ∀ p ∈ readL (allB μ set), pcD σ j (lastE μ (allB μ set) t w h) (bfE (lastE μ (allB μ set) t w h) (readL (allB μ set)) p) p) : (rnE (lastE μ (allB μ set) t w h) (readL (allB μ set))).1 ≤ 601 := by
  have hM := allB_M hI.1 (s := set)
  have rl := readL_len hM.1
  have := rnE_bd (E := lastE μ (allB μ set) t w h) hh.1 (fun p => (allB_v hI.1 hI.2.1 (s := set) (p := p)).1) (readL (allB μ set)).reverse (fun p hp => by
    have hp := List.mem_reverse.mp hp
    have hp1 := (readL_mem hM.1).mp hp
    have br := bkM_r hM hp1.1
    have bk := (hM.2.2.1 p hp1.1).2
    have hx := (hI.2.1 p br.1 br.2.2).2.2.2.1 bk
    refine ⟨fun c => ?_, fun c => ((hD p hp).2.2 c).1.1⟩
    have c : (Mi μ 1073873377 0) p ≠ 1 := c
    show 0 ≤ (if (Mi μ 1073873377 0) p = 0 then 1 else (Mi μ 1090650593 0) p) ∧ (if (Mi μ 1073873377 0) p = 0 then 1 else (Mi μ 1090650593 0) p) ≤ h
    split
    · omega
    · have := hx.2 (by omega); omega)
  rw [List.reverse_reverse, List.length_reverse] at this
  omega
theorem hpL_0 {so : Int → Int} {E : En} {R : List Int} {Sf : Int → List Int} {w p on : Int} {l1 : List Int} : hpL so E R Sf w l1 p 0 on ↔ hpM so E R Sf w l1 on := by
  unfold hpL
  exact ⟨fun z => z.elim id (fun z => by obtain ⟨-, q, q0, -⟩ := z; omega), Or.inl⟩
theorem hpL_n {so : Int → Int} {E : En} {R : List Int} {Sf : Int → List Int} {w p on : Int} {l1 : List Int} {l : Nat} (h : so p = 1 → (eL E p).length ≤ l) : hpL so E R Sf w l1 p l on ↔ hpM so E R Sf w (l1 ++ [p]) on := by
  unfold hpL hpM
  constructor
  · rintro (⟨q, hq, z⟩ | ⟨z, q, q0, q1, q2, q3⟩)
    · exact ⟨q, List.mem_append_left _ hq, z⟩
    · exact ⟨p, by simp, z, q, q1, q2, q3⟩
  · rintro ⟨q, hq, z⟩
    rcases List.mem_append.mp hq with hq | hq
    · exact Or.inl ⟨q, hq, z⟩
    · rw [List.mem_singleton.mp hq] at z
      obtain ⟨z1, q, q1, q2, q3⟩ := z
      exact Or.inr ⟨z1, q, by have := h z1; omega, q1, q2, q3⟩
theorem hpL_s {so : Int → Int} {E : En} {R : List Int} {Sf : Int → List Int} {w p on : Int} {l1 : List Int} {l : Nat} (hp : so p = 1) (hl : l < (eL E p).length) : hpL so E R Sf w l1 p (l + 1) on ↔ hpL so E R Sf w l1 p l on ∨ (on = lpE E (bfE E R p) p l ∧ saidIn (Sf p) (eL E p) l w) := by
  unfold hpL
  constructor
  · rintro (z | ⟨z, q, q0, q1, q2, q3⟩)
    · exact Or.inl (Or.inl z)
    · by_cases e : q = l
      · subst e; exact Or.inr ⟨q2.symm, q3⟩
      · exact Or.inl (Or.inr ⟨z, q, by omega, q1, q2, q3⟩)
  · rintro ((z | ⟨z, q, q0, q1, q2, q3⟩) | ⟨z, z2⟩)
    · exact Or.inl z
    · exact Or.inr ⟨z, q, by omega, q1, q2, q3⟩
    · exact Or.inr ⟨hp, l, by omega, hl, z.symm, z2⟩
theorem x_index {e w i : Int} {σ μ : Mm} {k : Int → Mm → Prop} (hR : XR σ μ) (hI : mI μ) (he : IR e) (hw : IR w) (hi : IR i) (hk : ∀ σ', Fr scX σ σ' → XR σ' μ → k (aIndex μ e w i) σ') : OkI 242 [vR 16908368 0, vI e, vI w, vI i] σ k := by
  have hM := allB_M hI.1 (s := (Ml μ 1744961587 0) e)
  have hM : bkM μ (edB μ e) := hM
  have nd := readL_nodup hM.1
  have rl := readL_len hM.1
  have rm : ∀ p ∈ readL (edB μ e), 0 ≤ p ∧ p < 60 ∧ p < (Mi μ 184680536 0 10) := fun p hp => bkM_r hM ((readL_mem hM.1).mp hp).1
  have hso : (Mi μ 1073873377 0) = (edE μ e).1 := rfl
  have hsay := fun p (hp : p ∈ readL (edB μ e)) => mSay_rng (t := (Mi μ 1761738801 0) e) hM.2.1 hI.2.2.2.2.2.2.1 (p := p) ⟨(rm p hp).1, (rm p hp).2.1⟩
  generalize hRR : readL (edB μ e) = R at *
  generalize hEE : edE μ e = E at *
  generalize hSf : mSay μ (edB μ e) ((Mi μ 1761738801 0) e) = Sf at *
  have hans : (0 ≤ e ∧ e < (Mi μ 184680536 0 60)) → (1 ≤ w ∧ w ≤ 99) → aIndex μ e w i = nthA (pgG (rnE E R).2.2.1.toNat (hpM E.1 E R Sf w R)) i := fun a b => by
    unfold aIndex
    rw [if_neg (by omega), if_neg (by omega)]
    unfold pgG onHit hpM htE edBf edS
    rw [hRR, hEE, hSf, ← hso]
  refine okI_loop mkX10_index (fun b n ls σ' => (0 ≤ e ∧ e < (Mi μ 184680536 0 60)) ∧ (1 ≤ w ∧ w ≤ 99) ∧ Fr scX σ σ' ∧ XR σ' μ ∧ xBk σ' μ 0 ((Ml μ 1744961587 0) e) (edB μ e) ∧ xSt σ' μ 0 (edB μ e) ((Mi μ 1761738801 0) e) ((Mi μ 1778516017 0) e) ((Mi μ 1795293233 0) e) ∧ ∃ (l1 l2 : List Int) (lat : Int) (F : Nat), R = l1 ++ l2 ∧ (0 ≤ lat ∧ lat ≤ 1000) ∧ F ≤ 9 * 60 ∧ (i < 0 ∨ (F : Int) ≤ i) ∧
    ((b = 1003 ∧ n = 100 * l2.length ∧ F ≤ 9 * l1.length ∧ F = (pgG (rnE E R).2.2.1.toNat (hpM E.1 E R Sf w l1)).length ∧ (∀ on, hpM E.1 E R Sf w l1 on → on ≤ lat) ∧ (lat = 0 ∨ hpM E.1 E R Sf w l1 lat) ∧ ∃ o7 o8 o9, ls = [some (vR 16908368 0), some (vI e), some (vI w), some (vI i), some (vI F), some (vI lat), some (vI l1.length), o7, o8, o9]) ∨
     (b = 1004 ∧ ∃ (p : Int) (l3 : List Int) (l : Nat), l2 = p :: l3 ∧ n = 100 * l3.length + 50 - l ∧ F ≤ 9 * l1.length + l ∧ l ≤ 9 ∧ (E.1 p ≠ 1 → l = 0) ∧ (E.1 p = 1 → l ≤ (eL E p).length) ∧ F = (pgG (rnE E R).2.2.1.toNat (hpL E.1 E R Sf w l1 p l)).length ∧ (∀ on, hpL E.1 E R Sf w l1 p l on → on ≤ lat) ∧ (lat = 0 ∨ hpL E.1 E R Sf w l1 p l lat) ∧ ∃ o9, ls = [some (vR 16908368 0), some (vI e), some (vI w), some (vI i), some (vI F), some (vI lat), some (vI l1.length), some (vI p), some (vI l), o9]))) (Nat.le_of_ble_eq_true rfl) (fun K hK => ?_) (fun b n ls σ' hJ K hK => ?_)
  · simp -implicitDefEqProofs only [↓kI_e, ↓kL_e, ↓kR_e, ↓kV_e, ↓x1, ↓x2, ↓x4, ↓x5, ↓x6, ↓x7, ↓x8, ↓x9, ↓x10, ↓x11, ↓x12, ↓x13, ↓x17, ↓x18, ↓x19, ↓x20, ↓x21, ↓x22, ↓x14, ↓x15, ↓x23, ↓x24, ↓x25, ↓x26, ↓x27, ↓x28, ↓x29, ↓x30, ↓x31, ↓x32, ↓x33, ↓x34, ↓x35i, ↓x35r, ↓x36, ↓x37, ↓x38, ↓x39, ↓x40, ↓x41, ↓x72, ↓x42, ↓x43, ↓x44, ↓x45, ↓x46, ↓x47, ↓x48, ↓x50, ↓x51, ↓x52, ↓x53, ↓x54, ↓x55_0, ↓x56_0, ↓x55_1, ↓x56_1, ↓x55_2, ↓x56_2, ↓x55_3, ↓x56_3, ↓x55_4, ↓x56_4, ↓x55_5, ↓x56_5, ↓x57, ↓x58, ↓x59, ↓x60, ↓x61, ↓x62, ↓x63, ↓x64, ↓x65, ↓x75, ↓x67, ↓x77, ↓x68, ↓x78, ↓x69, ↓x79, ↓x70, ↓x73, ↓x74, ↓ldI_0, ↓ldG_0, ↓ldR_0, ↓stK_0, ↓stK2_0, ↓ldI_1, ↓ldG_1, ↓ldR_1, ↓stK_1I, ↓stK_1R, ↓stK_1N, ↓stK_1G, ↓stK2_1I, ↓stK2_1R, ↓stK2_1N, ↓stK2_1G, ↓ldI_2, ↓ldG_2, ↓ldR_2, ↓stK_2I, ↓stK_2R, ↓stK_2N, ↓stK_2G, ↓stK2_2I, ↓stK2_2R, ↓stK2_2N, ↓stK2_2G, ↓ldI_3, ↓ldG_3, ↓ldR_3, ↓stK_3I, ↓stK_3R, ↓stK_3N, ↓stK_3G, ↓stK2_3I, ↓stK2_3R, ↓stK2_3N, ↓stK2_3G, ↓ldI_4, ↓ldG_4, ↓ldR_4, ↓stK_4I, ↓stK_4R, ↓stK_4N, ↓stK_4G, ↓stK2_4I, ↓stK2_4R, ↓stK2_4N, ↓stK2_4G, ↓ldI_5, ↓ldG_5, ↓ldR_5, ↓stK_5I, ↓stK_5R, ↓stK_5N, ↓stK_5G, ↓stK2_5I, ↓stK2_5R, ↓stK2_5N, ↓stK2_5G, ↓ldI_6, ↓ldG_6, ↓ldR_6, ↓stK_6I, ↓stK_6R, ↓stK_6N, ↓stK_6G, ↓stK2_6I, ↓stK2_6R, ↓stK2_6N, ↓stK2_6G, ↓ldI_7, ↓ldG_7, ↓ldR_7, ↓stK_7I, ↓stK_7R, ↓stK_7N, ↓stK_7G, ↓stK2_7I, ↓stK2_7R, ↓stK2_7N, ↓stK2_7G, ↓ldI_8, ↓ldG_8, ↓ldR_8, ↓stK_8I, ↓stK_8R, ↓stK_8N, ↓stK_8G, ↓stK2_8I, ↓stK2_8R, ↓stK2_8N, ↓stK2_8G, ↓ldI_9, ↓ldG_9, ↓ldR_9, ↓stK_9I, ↓stK_9R, ↓stK_9N, ↓stK_9G, ↓stK2_9I, ↓stK2_9R, ↓stK2_9N, ↓stK2_9G, ↓ldI_10, ↓ldG_10, ↓ldR_10, ↓stK_10I, ↓stK_10R, ↓stK_10N, ↓stK_10G, ↓stK2_10I, ↓stK2_10R, ↓stK2_10N, ↓stK2_10G, ↓ldI_11, ↓ldG_11, ↓ldR_11, ↓stK_11I, ↓stK_11R, ↓stK_11N, ↓stK_11G, ↓stK2_11I, ↓stK2_11R, ↓stK2_11N, ↓stK2_11G, ↓ldI_12, ↓ldG_12, ↓ldR_12, ↓stK_12I, ↓stK_12R, ↓stK_12N, ↓stK_12G, ↓stK2_12I, ↓stK2_12R, ↓stK2_12N, ↓stK2_12G, ↓pN_0, ↓pN_1, ↓pN_2, ↓pN_3, ↓pN_4, ↓pN_5, ↓pN_6, ↓pN_7, ↓ctI_e, ↓ctL_e, ↓ctR_e, ↓ctV_e, ↓tsK_n, ↓tsK_c, ↓go_K, ↓go_X, csum_n, csum_I, csum_R, csum_G, hdCls_r, isCls, elemR, rg_x_pads, rg_log_words, rg_row_pads, rg_row_words, rg_row_led, alen, IR, Nat.reduceMod, Nat.reduceDiv, Nat.reduceSub, Nat.reduceAdd, Nat.reduceLeDiff, Nat.reduceEqDiff, Nat.reduceLT, Int.reduceLE, Int.reduceLT, Int.reduceEq, Int.reduceNe, Int.reduceAdd, Int.reduceSub, Int.reduceNeg, Int.reduceMul, ne_eq, not_true_eq_false, not_false_eq_true, true_and, and_true, false_and, and_false, true_or, or_true, false_or, or_false, and_self, or_self, true_implies, forall_const, false_implies, implies_true, reduceIte, reduceCtorEq, eq_self, Int.le_refl, Nat.le_refl, Int.reduceNatCast, Int.cast_ofNat_Int, ↓eX10_index_0, ↓eX10_index_1, ↓eX10_index_2, ↓eX10_index_3, ↓eX10_index_4, ↓eX10_index_5, ↓eX10_index_6, ↓eX10_index_7, ↓eX10_index_8, ↓eX10_index_9, ↓eX10_index_10, ↓eX10_index_11, lX10_index, ent0, entI, entR, entG, ent_n, List.length_cons, List.length_nil, List.replicate, List.cons_append, List.nil_append, Nat.reduceSub, Nat.reduceAdd]
    refine x_ed hR hI he (fun a b => ?_) (fun a => ?_) <;> simp -implicitDefEqProofs only [↓kI_e, ↓kL_e, ↓kR_e, ↓kV_e, ↓x1, ↓x2, ↓x4, ↓x5, ↓x6, ↓x7, ↓x8, ↓x9, ↓x10, ↓x11, ↓x12, ↓x13, ↓x17, ↓x18, ↓x19, ↓x20, ↓x21, ↓x22, ↓x14, ↓x15, ↓x23, ↓x24, ↓x25, ↓x26, ↓x27, ↓x28, ↓x29, ↓x30, ↓x31, ↓x32, ↓x33, ↓x34, ↓x35i, ↓x35r, ↓x36, ↓x37, ↓x38, ↓x39, ↓x40, ↓x41, ↓x72, ↓x42, ↓x43, ↓x44, ↓x45, ↓x46, ↓x47, ↓x48, ↓x50, ↓x51, ↓x52, ↓x53, ↓x54, ↓x55_0, ↓x56_0, ↓x55_1, ↓x56_1, ↓x55_2, ↓x56_2, ↓x55_3, ↓x56_3, ↓x55_4, ↓x56_4, ↓x55_5, ↓x56_5, ↓x57, ↓x58, ↓x59, ↓x60, ↓x61, ↓x62, ↓x63, ↓x64, ↓x65, ↓x75, ↓x67, ↓x77, ↓x68, ↓x78, ↓x69, ↓x79, ↓x70, ↓x73, ↓x74, ↓ldI_0, ↓ldG_0, ↓ldR_0, ↓stK_0, ↓stK2_0, ↓ldI_1, ↓ldG_1, ↓ldR_1, ↓stK_1I, ↓stK_1R, ↓stK_1N, ↓stK_1G, ↓stK2_1I, ↓stK2_1R, ↓stK2_1N, ↓stK2_1G, ↓ldI_2, ↓ldG_2, ↓ldR_2, ↓stK_2I, ↓stK_2R, ↓stK_2N, ↓stK_2G, ↓stK2_2I, ↓stK2_2R, ↓stK2_2N, ↓stK2_2G, ↓ldI_3, ↓ldG_3, ↓ldR_3, ↓stK_3I, ↓stK_3R, ↓stK_3N, ↓stK_3G, ↓stK2_3I, ↓stK2_3R, ↓stK2_3N, ↓stK2_3G, ↓ldI_4, ↓ldG_4, ↓ldR_4, ↓stK_4I, ↓stK_4R, ↓stK_4N, ↓stK_4G, ↓stK2_4I, ↓stK2_4R, ↓stK2_4N, ↓stK2_4G, ↓ldI_5, ↓ldG_5, ↓ldR_5, ↓stK_5I, ↓stK_5R, ↓stK_5N, ↓stK_5G, ↓stK2_5I, ↓stK2_5R, ↓stK2_5N, ↓stK2_5G, ↓ldI_6, ↓ldG_6, ↓ldR_6, ↓stK_6I, ↓stK_6R, ↓stK_6N, ↓stK_6G, ↓stK2_6I, ↓stK2_6R, ↓stK2_6N, ↓stK2_6G, ↓ldI_7, ↓ldG_7, ↓ldR_7, ↓stK_7I, ↓stK_7R, ↓stK_7N, ↓stK_7G, ↓stK2_7I, ↓stK2_7R, ↓stK2_7N, ↓stK2_7G, ↓ldI_8, ↓ldG_8, ↓ldR_8, ↓stK_8I, ↓stK_8R, ↓stK_8N, ↓stK_8G, ↓stK2_8I, ↓stK2_8R, ↓stK2_8N, ↓stK2_8G, ↓ldI_9, ↓ldG_9, ↓ldR_9, ↓stK_9I, ↓stK_9R, ↓stK_9N, ↓stK_9G, ↓stK2_9I, ↓stK2_9R, ↓stK2_9N, ↓stK2_9G, ↓ldI_10, ↓ldG_10, ↓ldR_10, ↓stK_10I, ↓stK_10R, ↓stK_10N, ↓stK_10G, ↓stK2_10I, ↓stK2_10R, ↓stK2_10N, ↓stK2_10G, ↓ldI_11, ↓ldG_11, ↓ldR_11, ↓stK_11I, ↓stK_11R, ↓stK_11N, ↓stK_11G, ↓stK2_11I, ↓stK2_11R, ↓stK2_11N, ↓stK2_11G, ↓ldI_12, ↓ldG_12, ↓ldR_12, ↓stK_12I, ↓stK_12R, ↓stK_12N, ↓stK_12G, ↓stK2_12I, ↓stK2_12R, ↓stK2_12N, ↓stK2_12G, ↓pN_0, ↓pN_1, ↓pN_2, ↓pN_3, ↓pN_4, ↓pN_5, ↓pN_6, ↓pN_7, ↓ctI_e, ↓ctL_e, ↓ctR_e, ↓ctV_e, ↓tsK_n, ↓tsK_c, ↓go_K, ↓go_X, csum_n, csum_I, csum_R, csum_G, hdCls_r, isCls, elemR, rg_x_pads, rg_log_words, rg_row_pads, rg_row_words, rg_row_led, alen, IR, Nat.reduceMod, Nat.reduceDiv, Nat.reduceSub, Nat.reduceAdd, Nat.reduceLeDiff, Nat.reduceEqDiff, Nat.reduceLT, Int.reduceLE, Int.reduceLT, Int.reduceEq, Int.reduceNe, Int.reduceAdd, Int.reduceSub, Int.reduceNeg, Int.reduceMul, ne_eq, not_true_eq_false, not_false_eq_true, true_and, and_true, false_and, and_false, true_or, or_true, false_or, or_false, and_self, or_self, true_implies, forall_const, false_implies, implies_true, reduceIte, reduceCtorEq, eq_self, Int.le_refl, Nat.le_refl, Int.reduceNatCast, Int.cast_ofNat_Int, ↓eX10_index_0, ↓eX10_index_1, ↓eX10_index_2, ↓eX10_index_3, ↓eX10_index_4, ↓eX10_index_5, ↓eX10_index_6, ↓eX10_index_7, ↓eX10_index_8, ↓eX10_index_9, ↓eX10_index_10, ↓eX10_index_11, lX10_index, ent0, entI, entR, entG, ent_n, List.length_cons, List.length_nil, List.replicate, List.cons_append, List.nil_append, Nat.reduceSub, Nat.reduceAdd]
    rotate_left
    · have := hk σ Fr.rfl' hR
      unfold aIndex at this
      rwa [if_pos a] at this
    refine x_isWord hw (fun c d => ?_) (fun c => ?_) <;> simp -implicitDefEqProofs only [↓kI_e, ↓kL_e, ↓kR_e, ↓kV_e, ↓x1, ↓x2, ↓x4, ↓x5, ↓x6, ↓x7, ↓x8, ↓x9, ↓x10, ↓x11, ↓x12, ↓x13, ↓x17, ↓x18, ↓x19, ↓x20, ↓x21, ↓x22, ↓x14, ↓x15, ↓x23, ↓x24, ↓x25, ↓x26, ↓x27, ↓x28, ↓x29, ↓x30, ↓x31, ↓x32, ↓x33, ↓x34, ↓x35i, ↓x35r, ↓x36, ↓x37, ↓x38, ↓x39, ↓x40, ↓x41, ↓x72, ↓x42, ↓x43, ↓x44, ↓x45, ↓x46, ↓x47, ↓x48, ↓x50, ↓x51, ↓x52, ↓x53, ↓x54, ↓x55_0, ↓x56_0, ↓x55_1, ↓x56_1, ↓x55_2, ↓x56_2, ↓x55_3, ↓x56_3, ↓x55_4, ↓x56_4, ↓x55_5, ↓x56_5, ↓x57, ↓x58, ↓x59, ↓x60, ↓x61, ↓x62, ↓x63, ↓x64, ↓x65, ↓x75, ↓x67, ↓x77, ↓x68, ↓x78, ↓x69, ↓x79, ↓x70, ↓x73, ↓x74, ↓ldI_0, ↓ldG_0, ↓ldR_0, ↓stK_0, ↓stK2_0, ↓ldI_1, ↓ldG_1, ↓ldR_1, ↓stK_1I, ↓stK_1R, ↓stK_1N, ↓stK_1G, ↓stK2_1I, ↓stK2_1R, ↓stK2_1N, ↓stK2_1G, ↓ldI_2, ↓ldG_2, ↓ldR_2, ↓stK_2I, ↓stK_2R, ↓stK_2N, ↓stK_2G, ↓stK2_2I, ↓stK2_2R, ↓stK2_2N, ↓stK2_2G, ↓ldI_3, ↓ldG_3, ↓ldR_3, ↓stK_3I, ↓stK_3R, ↓stK_3N, ↓stK_3G, ↓stK2_3I, ↓stK2_3R, ↓stK2_3N, ↓stK2_3G, ↓ldI_4, ↓ldG_4, ↓ldR_4, ↓stK_4I, ↓stK_4R, ↓stK_4N, ↓stK_4G, ↓stK2_4I, ↓stK2_4R, ↓stK2_4N, ↓stK2_4G, ↓ldI_5, ↓ldG_5, ↓ldR_5, ↓stK_5I, ↓stK_5R, ↓stK_5N, ↓stK_5G, ↓stK2_5I, ↓stK2_5R, ↓stK2_5N, ↓stK2_5G, ↓ldI_6, ↓ldG_6, ↓ldR_6, ↓stK_6I, ↓stK_6R, ↓stK_6N, ↓stK_6G, ↓stK2_6I, ↓stK2_6R, ↓stK2_6N, ↓stK2_6G, ↓ldI_7, ↓ldG_7, ↓ldR_7, ↓stK_7I, ↓stK_7R, ↓stK_7N, ↓stK_7G, ↓stK2_7I, ↓stK2_7R, ↓stK2_7N, ↓stK2_7G, ↓ldI_8, ↓ldG_8, ↓ldR_8, ↓stK_8I, ↓stK_8R, ↓stK_8N, ↓stK_8G, ↓stK2_8I, ↓stK2_8R, ↓stK2_8N, ↓stK2_8G, ↓ldI_9, ↓ldG_9, ↓ldR_9, ↓stK_9I, ↓stK_9R, ↓stK_9N, ↓stK_9G, ↓stK2_9I, ↓stK2_9R, ↓stK2_9N, ↓stK2_9G, ↓ldI_10, ↓ldG_10, ↓ldR_10, ↓stK_10I, ↓stK_10R, ↓stK_10N, ↓stK_10G, ↓stK2_10I, ↓stK2_10R, ↓stK2_10N, ↓stK2_10G, ↓ldI_11, ↓ldG_11, ↓ldR_11, ↓stK_11I, ↓stK_11R, ↓stK_11N, ↓stK_11G, ↓stK2_11I, ↓stK2_11R, ↓stK2_11N, ↓stK2_11G, ↓ldI_12, ↓ldG_12, ↓ldR_12, ↓stK_12I, ↓stK_12R, ↓stK_12N, ↓stK_12G, ↓stK2_12I, ↓stK2_12R, ↓stK2_12N, ↓stK2_12G, ↓pN_0, ↓pN_1, ↓pN_2, ↓pN_3, ↓pN_4, ↓pN_5, ↓pN_6, ↓pN_7, ↓ctI_e, ↓ctL_e, ↓ctR_e, ↓ctV_e, ↓tsK_n, ↓tsK_c, ↓go_K, ↓go_X, csum_n, csum_I, csum_R, csum_G, hdCls_r, isCls, elemR, rg_x_pads, rg_log_words, rg_row_pads, rg_row_words, rg_row_led, alen, IR, Nat.reduceMod, Nat.reduceDiv, Nat.reduceSub, Nat.reduceAdd, Nat.reduceLeDiff, Nat.reduceEqDiff, Nat.reduceLT, Int.reduceLE, Int.reduceLT, Int.reduceEq, Int.reduceNe, Int.reduceAdd, Int.reduceSub, Int.reduceNeg, Int.reduceMul, ne_eq, not_true_eq_false, not_false_eq_true, true_and, and_true, false_and, and_false, true_or, or_true, false_or, or_false, and_self, or_self, true_implies, forall_const, false_implies, implies_true, reduceIte, reduceCtorEq, eq_self, Int.le_refl, Nat.le_refl, Int.reduceNatCast, Int.cast_ofNat_Int, ↓eX10_index_0, ↓eX10_index_1, ↓eX10_index_2, ↓eX10_index_3, ↓eX10_index_4, ↓eX10_index_5, ↓eX10_index_6, ↓eX10_index_7, ↓eX10_index_8, ↓eX10_index_9, ↓eX10_index_10, ↓eX10_index_11, lX10_index, ent0, entI, entR, entG, ent_n, List.length_cons, List.length_nil, List.replicate, List.cons_append, List.nil_append, Nat.reduceSub, Nat.reduceAdd]
    rotate_left
    · have := hk σ Fr.rfl' hR
      unfold aIndex at this
      rwa [if_neg (by omega), if_pos c] at this
    refine x_setEdition hR hI ⟨a, b⟩ (fun σ1 hF hR1 hB hS => ?_)
    simp -implicitDefEqProofs only [↓kI_e, ↓kL_e, ↓kR_e, ↓kV_e, ↓x1, ↓x2, ↓x4, ↓x5, ↓x6, ↓x7, ↓x8, ↓x9, ↓x10, ↓x11, ↓x12, ↓x13, ↓x17, ↓x18, ↓x19, ↓x20, ↓x21, ↓x22, ↓x14, ↓x15, ↓x23, ↓x24, ↓x25, ↓x26, ↓x27, ↓x28, ↓x29, ↓x30, ↓x31, ↓x32, ↓x33, ↓x34, ↓x35i, ↓x35r, ↓x36, ↓x37, ↓x38, ↓x39, ↓x40, ↓x41, ↓x72, ↓x42, ↓x43, ↓x44, ↓x45, ↓x46, ↓x47, ↓x48, ↓x50, ↓x51, ↓x52, ↓x53, ↓x54, ↓x55_0, ↓x56_0, ↓x55_1, ↓x56_1, ↓x55_2, ↓x56_2, ↓x55_3, ↓x56_3, ↓x55_4, ↓x56_4, ↓x55_5, ↓x56_5, ↓x57, ↓x58, ↓x59, ↓x60, ↓x61, ↓x62, ↓x63, ↓x64, ↓x65, ↓x75, ↓x67, ↓x77, ↓x68, ↓x78, ↓x69, ↓x79, ↓x70, ↓x73, ↓x74, ↓ldI_0, ↓ldG_0, ↓ldR_0, ↓stK_0, ↓stK2_0, ↓ldI_1, ↓ldG_1, ↓ldR_1, ↓stK_1I, ↓stK_1R, ↓stK_1N, ↓stK_1G, ↓stK2_1I, ↓stK2_1R, ↓stK2_1N, ↓stK2_1G, ↓ldI_2, ↓ldG_2, ↓ldR_2, ↓stK_2I, ↓stK_2R, ↓stK_2N, ↓stK_2G, ↓stK2_2I, ↓stK2_2R, ↓stK2_2N, ↓stK2_2G, ↓ldI_3, ↓ldG_3, ↓ldR_3, ↓stK_3I, ↓stK_3R, ↓stK_3N, ↓stK_3G, ↓stK2_3I, ↓stK2_3R, ↓stK2_3N, ↓stK2_3G, ↓ldI_4, ↓ldG_4, ↓ldR_4, ↓stK_4I, ↓stK_4R, ↓stK_4N, ↓stK_4G, ↓stK2_4I, ↓stK2_4R, ↓stK2_4N, ↓stK2_4G, ↓ldI_5, ↓ldG_5, ↓ldR_5, ↓stK_5I, ↓stK_5R, ↓stK_5N, ↓stK_5G, ↓stK2_5I, ↓stK2_5R, ↓stK2_5N, ↓stK2_5G, ↓ldI_6, ↓ldG_6, ↓ldR_6, ↓stK_6I, ↓stK_6R, ↓stK_6N, ↓stK_6G, ↓stK2_6I, ↓stK2_6R, ↓stK2_6N, ↓stK2_6G, ↓ldI_7, ↓ldG_7, ↓ldR_7, ↓stK_7I, ↓stK_7R, ↓stK_7N, ↓stK_7G, ↓stK2_7I, ↓stK2_7R, ↓stK2_7N, ↓stK2_7G, ↓ldI_8, ↓ldG_8, ↓ldR_8, ↓stK_8I, ↓stK_8R, ↓stK_8N, ↓stK_8G, ↓stK2_8I, ↓stK2_8R, ↓stK2_8N, ↓stK2_8G, ↓ldI_9, ↓ldG_9, ↓ldR_9, ↓stK_9I, ↓stK_9R, ↓stK_9N, ↓stK_9G, ↓stK2_9I, ↓stK2_9R, ↓stK2_9N, ↓stK2_9G, ↓ldI_10, ↓ldG_10, ↓ldR_10, ↓stK_10I, ↓stK_10R, ↓stK_10N, ↓stK_10G, ↓stK2_10I, ↓stK2_10R, ↓stK2_10N, ↓stK2_10G, ↓ldI_11, ↓ldG_11, ↓ldR_11, ↓stK_11I, ↓stK_11R, ↓stK_11N, ↓stK_11G, ↓stK2_11I, ↓stK2_11R, ↓stK2_11N, ↓stK2_11G, ↓ldI_12, ↓ldG_12, ↓ldR_12, ↓stK_12I, ↓stK_12R, ↓stK_12N, ↓stK_12G, ↓stK2_12I, ↓stK2_12R, ↓stK2_12N, ↓stK2_12G, ↓pN_0, ↓pN_1, ↓pN_2, ↓pN_3, ↓pN_4, ↓pN_5, ↓pN_6, ↓pN_7, ↓ctI_e, ↓ctL_e, ↓ctR_e, ↓ctV_e, ↓tsK_n, ↓tsK_c, ↓go_K, ↓go_X, csum_n, csum_I, csum_R, csum_G, hdCls_r, isCls, elemR, rg_x_pads, rg_log_words, rg_row_pads, rg_row_words, rg_row_led, alen, IR, Nat.reduceMod, Nat.reduceDiv, Nat.reduceSub, Nat.reduceAdd, Nat.reduceLeDiff, Nat.reduceEqDiff, Nat.reduceLT, Int.reduceLE, Int.reduceLT, Int.reduceEq, Int.reduceNe, Int.reduceAdd, Int.reduceSub, Int.reduceNeg, Int.reduceMul, ne_eq, not_true_eq_false, not_false_eq_true, true_and, and_true, false_and, and_false, true_or, or_true, false_or, or_false, and_self, or_self, true_implies, forall_const, false_implies, implies_true, reduceIte, reduceCtorEq, eq_self, Int.le_refl, Nat.le_refl, Int.reduceNatCast, Int.cast_ofNat_Int, ↓eX10_index_0, ↓eX10_index_1, ↓eX10_index_2, ↓eX10_index_3, ↓eX10_index_4, ↓eX10_index_5, ↓eX10_index_6, ↓eX10_index_7, ↓eX10_index_8, ↓eX10_index_9, ↓eX10_index_10, ↓eX10_index_11, lX10_index, ent0, entI, entR, entG, ent_n, List.length_cons, List.length_nil, List.replicate, List.cons_append, List.nil_append, Nat.reduceSub, Nat.reduceAdd]
    have e0 : pgG (rnE E R).2.2.1.toNat (hpM E.1 E R Sf w []) = [] := by
      unfold pgG
      rw [List.filter_eq_nil_iff]
      intro x _ q
      obtain ⟨p, hp, -⟩ := pb_iff.mp q
      simp at hp
    exact hK _ _ _ _ (by decide) ⟨⟨a, b⟩, ⟨c, d⟩, mk_sc hF, hR1, hB, hS, [], R, 0, 0, rfl, by omega, by omega, by omega, Or.inl ⟨rfl, rfl, by omega, by rw [e0]; rfl, fun on q => by obtain ⟨p, hp, -⟩ := q; simp at hp, Or.inl rfl, none, none, none, rfl⟩⟩
  · obtain ⟨he1, hw1, hF, hR1, hB, hS, l1, l2, lat, F, hsp, hlat, hF9, hFi, hJ⟩ := hJ
    have hk := hk σ' hF hR1
    rw [hans he1 hw1] at hk
    have rd1 := hB.2.1.1
    have rd2 := hB.2.1.2.1
    rw [hRR] at rd1 rd2
    have hlR : R.length = l1.length + l2.length := by rw [hsp, List.length_append]
    rcases hJ with ⟨rfl, rfl, hF1, hFe, hle, hlt, o7, o8, o9, rfl⟩ | ⟨rfl, p, l3, l, rfl, rfl, hF1, hl9, hn1, hl1, hFe, hle, hlt, o9, rfl⟩
    · simp -implicitDefEqProofs only [↓kI_e, ↓kL_e, ↓kR_e, ↓kV_e, ↓x1, ↓x2, ↓x4, ↓x5, ↓x6, ↓x7, ↓x8, ↓x9, ↓x10, ↓x11, ↓x12, ↓x13, ↓x17, ↓x18, ↓x19, ↓x20, ↓x21, ↓x22, ↓x14, ↓x15, ↓x23, ↓x24, ↓x25, ↓x26, ↓x27, ↓x28, ↓x29, ↓x30, ↓x31, ↓x32, ↓x33, ↓x34, ↓x35i, ↓x35r, ↓x36, ↓x37, ↓x38, ↓x39, ↓x40, ↓x41, ↓x72, ↓x42, ↓x43, ↓x44, ↓x45, ↓x46, ↓x47, ↓x48, ↓x50, ↓x51, ↓x52, ↓x53, ↓x54, ↓x55_0, ↓x56_0, ↓x55_1, ↓x56_1, ↓x55_2, ↓x56_2, ↓x55_3, ↓x56_3, ↓x55_4, ↓x56_4, ↓x55_5, ↓x56_5, ↓x57, ↓x58, ↓x59, ↓x60, ↓x61, ↓x62, ↓x63, ↓x64, ↓x65, ↓x75, ↓x67, ↓x77, ↓x68, ↓x78, ↓x69, ↓x79, ↓x70, ↓x73, ↓x74, ↓ldI_0, ↓ldG_0, ↓ldR_0, ↓stK_0, ↓stK2_0, ↓ldI_1, ↓ldG_1, ↓ldR_1, ↓stK_1I, ↓stK_1R, ↓stK_1N, ↓stK_1G, ↓stK2_1I, ↓stK2_1R, ↓stK2_1N, ↓stK2_1G, ↓ldI_2, ↓ldG_2, ↓ldR_2, ↓stK_2I, ↓stK_2R, ↓stK_2N, ↓stK_2G, ↓stK2_2I, ↓stK2_2R, ↓stK2_2N, ↓stK2_2G, ↓ldI_3, ↓ldG_3, ↓ldR_3, ↓stK_3I, ↓stK_3R, ↓stK_3N, ↓stK_3G, ↓stK2_3I, ↓stK2_3R, ↓stK2_3N, ↓stK2_3G, ↓ldI_4, ↓ldG_4, ↓ldR_4, ↓stK_4I, ↓stK_4R, ↓stK_4N, ↓stK_4G, ↓stK2_4I, ↓stK2_4R, ↓stK2_4N, ↓stK2_4G, ↓ldI_5, ↓ldG_5, ↓ldR_5, ↓stK_5I, ↓stK_5R, ↓stK_5N, ↓stK_5G, ↓stK2_5I, ↓stK2_5R, ↓stK2_5N, ↓stK2_5G, ↓ldI_6, ↓ldG_6, ↓ldR_6, ↓stK_6I, ↓stK_6R, ↓stK_6N, ↓stK_6G, ↓stK2_6I, ↓stK2_6R, ↓stK2_6N, ↓stK2_6G, ↓ldI_7, ↓ldG_7, ↓ldR_7, ↓stK_7I, ↓stK_7R, ↓stK_7N, ↓stK_7G, ↓stK2_7I, ↓stK2_7R, ↓stK2_7N, ↓stK2_7G, ↓ldI_8, ↓ldG_8, ↓ldR_8, ↓stK_8I, ↓stK_8R, ↓stK_8N, ↓stK_8G, ↓stK2_8I, ↓stK2_8R, ↓stK2_8N, ↓stK2_8G, ↓ldI_9, ↓ldG_9, ↓ldR_9, ↓stK_9I, ↓stK_9R, ↓stK_9N, ↓stK_9G, ↓stK2_9I, ↓stK2_9R, ↓stK2_9N, ↓stK2_9G, ↓ldI_10, ↓ldG_10, ↓ldR_10, ↓stK_10I, ↓stK_10R, ↓stK_10N, ↓stK_10G, ↓stK2_10I, ↓stK2_10R, ↓stK2_10N, ↓stK2_10G, ↓ldI_11, ↓ldG_11, ↓ldR_11, ↓stK_11I, ↓stK_11R, ↓stK_11N, ↓stK_11G, ↓stK2_11I, ↓stK2_11R, ↓stK2_11N, ↓stK2_11G, ↓ldI_12, ↓ldG_12, ↓ldR_12, ↓stK_12I, ↓stK_12R, ↓stK_12N, ↓stK_12G, ↓stK2_12I, ↓stK2_12R, ↓stK2_12N, ↓stK2_12G, ↓pN_0, ↓pN_1, ↓pN_2, ↓pN_3, ↓pN_4, ↓pN_5, ↓pN_6, ↓pN_7, ↓ctI_e, ↓ctL_e, ↓ctR_e, ↓ctV_e, ↓tsK_n, ↓tsK_c, ↓go_K, ↓go_X, csum_n, csum_I, csum_R, csum_G, hdCls_r, isCls, elemR, rg_x_pads, rg_log_words, rg_row_pads, rg_row_words, rg_row_led, alen, IR, Nat.reduceMod, Nat.reduceDiv, Nat.reduceSub, Nat.reduceAdd, Nat.reduceLeDiff, Nat.reduceEqDiff, Nat.reduceLT, Int.reduceLE, Int.reduceLT, Int.reduceEq, Int.reduceNe, Int.reduceAdd, Int.reduceSub, Int.reduceNeg, Int.reduceMul, ne_eq, not_true_eq_false, not_false_eq_true, true_and, and_true, false_and, and_false, true_or, or_true, false_or, or_false, and_self, or_self, true_implies, forall_const, false_implies, implies_true, reduceIte, reduceCtorEq, eq_self, Int.le_refl, Nat.le_refl, Int.reduceNatCast, Int.cast_ofNat_Int, ↓eX10_index_0, ↓eX10_index_1, ↓eX10_index_2, ↓eX10_index_3, ↓eX10_index_4, ↓eX10_index_5, ↓eX10_index_6, ↓eX10_index_7, ↓eX10_index_8, ↓eX10_index_9, ↓eX10_index_10, ↓eX10_index_11, lX10_index, ent0, entI, entR, entG, ent_n, List.length_cons, List.length_nil, List.replicate, List.cons_append, List.nil_append, Nat.reduceSub, Nat.reduceAdd]
      rw [rd1]
      cases l2 with
      | nil =>
        simp only [List.length_nil] at hlR
        rw [List.append_nil] at hsp
        rw [← hsp] at hFe
        have hend : i < 0 ∨ ((pgG (rnE E R).2.2.1.toNat (hpM E.1 E R Sf w R)).length : Int) ≤ i := by rw [← hFe]; exact hFi
        rw [nthA_end hend, ← hFe] at hk
        refine ⟨⟨⟨by omega, by omega⟩, by omega, by omega⟩, fun _ => ⟨hi, fun c => ?_, fun c => ?_⟩, fun c => by omega⟩
        · rw [if_neg c] at hk; exact hk
        · rw [if_pos c] at hk; exact hk
      | cons p l3 =>
        rw [List.length_cons] at hlR
        have hpr : (Mi σ' 805568993) 0 l1.length = p := rd2 l1.length p (by rw [hsp]; simp)
        have ec : ∀ on, hpL E.1 E R Sf w l1 p 0 on ↔ hpM E.1 E R Sf w l1 on := fun on => hpL_0
        rw [hpr]
        refine ⟨⟨⟨by omega, by omega⟩, by omega, by omega⟩, fun c => by omega, fun _ => ⟨by omega, ?_⟩⟩
        exact hK 1004 (100 * l3.length + 50 - 0) _ _ (by decide) (by simp; omega) ⟨he1, hw1, hF, hR1, hB, hS, l1, p :: l3, lat, F, hsp, hlat, hF9, hFi, Or.inr ⟨rfl, p, l3, 0, rfl, rfl, by omega, by omega, fun _ => rfl, fun _ => by omega, by rw [pgG_congr ec]; exact hFe, fun on q => hle on ((ec on).mp q), hlt.imp id (fun q => (ec lat).mpr q), o9, rfl⟩⟩
    · have hpR : p ∈ R := by rw [hsp]; simp
      have hpe := rm p hpR
      have t3 := (hI.2.2.2.2.2.2.2.2.2 e he1.1 he1.2).2.2
      have hDall := hS.1.2.2.2
      have hb601 := bd_all hI t3 hDall
      have hb601 : (rnE (edE μ e) (readL (edB μ e))).1 ≤ 601 := hb601
      rw [hEE, hRR] at hb601
      have hD := hDall p (by rw [hRR]; exact hpR)
      have hD : pcD σ' 0 (edE μ e) (bfE (edE μ e) (readL (edB μ e)) p) p := hD
      rw [hEE, hRR] at hD
      obtain ⟨-, d2, d3⟩ := hD
      have hsdX := hS.2.2.2.1 p hpe.1 hpe.2.2
      obtain ⟨⟨r, jr, s1, s2, s3⟩, -⟩ := hsdX
      rw [hSf] at s2
      rw [List.length_cons] at hlR
      have hp1 : p ∉ l1 := by
        have := nd
        rw [hsp, List.nodup_append] at this
        exact fun q => this.2.2 p q p (by simp) rfl
      have hbf : bfE E R p = rnE E l1 := by rw [hsp]; exact bfE_at hp1
      have lo1 := rnE_lo1 (E := E) l1
      have loR := rnE_lo1 (E := E) R
      have nx3 : (E.1 p = 1 → (eL E p).length ≤ l) → ∀ o7 o8 o9, K 1003 [some (vR 16908368 0), some (vI e), some (vI w), some (vI i), some (vI F), some (vI lat), some (vI ((l1.length : Int) + 1)), o7, o8, o9] [] σ' := fun hh o7 o8 o9 => by
        have ec : ∀ on, hpL E.1 E R Sf w l1 p l on ↔ hpM E.1 E R Sf w (l1 ++ [p]) on := fun on => hpL_n hh
        exact hK 1003 (100 * l3.length) _ _ (by decide) (by omega) ⟨he1, hw1, hF, hR1, hB, hS, l1 ++ [p], l3, lat, F, by rw [hsp]; simp, hlat, hF9, hFi, Or.inl ⟨rfl, rfl, by simp; omega, by rw [← pgG_congr ec]; exact hFe, fun on q => hle on ((ec on).mpr q), hlt.imp id (fun q => (ec lat).mp q), o7, o8, o9, by simp⟩⟩
      simp -implicitDefEqProofs only [↓kI_e, ↓kL_e, ↓kR_e, ↓kV_e, ↓x1, ↓x2, ↓x4, ↓x5, ↓x6, ↓x7, ↓x8, ↓x9, ↓x10, ↓x11, ↓x12, ↓x13, ↓x17, ↓x18, ↓x19, ↓x20, ↓x21, ↓x22, ↓x14, ↓x15, ↓x23, ↓x24, ↓x25, ↓x26, ↓x27, ↓x28, ↓x29, ↓x30, ↓x31, ↓x32, ↓x33, ↓x34, ↓x35i, ↓x35r, ↓x36, ↓x37, ↓x38, ↓x39, ↓x40, ↓x41, ↓x72, ↓x42, ↓x43, ↓x44, ↓x45, ↓x46, ↓x47, ↓x48, ↓x50, ↓x51, ↓x52, ↓x53, ↓x54, ↓x55_0, ↓x56_0, ↓x55_1, ↓x56_1, ↓x55_2, ↓x56_2, ↓x55_3, ↓x56_3, ↓x55_4, ↓x56_4, ↓x55_5, ↓x56_5, ↓x57, ↓x58, ↓x59, ↓x60, ↓x61, ↓x62, ↓x63, ↓x64, ↓x65, ↓x75, ↓x67, ↓x77, ↓x68, ↓x78, ↓x69, ↓x79, ↓x70, ↓x73, ↓x74, ↓ldI_0, ↓ldG_0, ↓ldR_0, ↓stK_0, ↓stK2_0, ↓ldI_1, ↓ldG_1, ↓ldR_1, ↓stK_1I, ↓stK_1R, ↓stK_1N, ↓stK_1G, ↓stK2_1I, ↓stK2_1R, ↓stK2_1N, ↓stK2_1G, ↓ldI_2, ↓ldG_2, ↓ldR_2, ↓stK_2I, ↓stK_2R, ↓stK_2N, ↓stK_2G, ↓stK2_2I, ↓stK2_2R, ↓stK2_2N, ↓stK2_2G, ↓ldI_3, ↓ldG_3, ↓ldR_3, ↓stK_3I, ↓stK_3R, ↓stK_3N, ↓stK_3G, ↓stK2_3I, ↓stK2_3R, ↓stK2_3N, ↓stK2_3G, ↓ldI_4, ↓ldG_4, ↓ldR_4, ↓stK_4I, ↓stK_4R, ↓stK_4N, ↓stK_4G, ↓stK2_4I, ↓stK2_4R, ↓stK2_4N, ↓stK2_4G, ↓ldI_5, ↓ldG_5, ↓ldR_5, ↓stK_5I, ↓stK_5R, ↓stK_5N, ↓stK_5G, ↓stK2_5I, ↓stK2_5R, ↓stK2_5N, ↓stK2_5G, ↓ldI_6, ↓ldG_6, ↓ldR_6, ↓stK_6I, ↓stK_6R, ↓stK_6N, ↓stK_6G, ↓stK2_6I, ↓stK2_6R, ↓stK2_6N, ↓stK2_6G, ↓ldI_7, ↓ldG_7, ↓ldR_7, ↓stK_7I, ↓stK_7R, ↓stK_7N, ↓stK_7G, ↓stK2_7I, ↓stK2_7R, ↓stK2_7N, ↓stK2_7G, ↓ldI_8, ↓ldG_8, ↓ldR_8, ↓stK_8I, ↓stK_8R, ↓stK_8N, ↓stK_8G, ↓stK2_8I, ↓stK2_8R, ↓stK2_8N, ↓stK2_8G, ↓ldI_9, ↓ldG_9, ↓ldR_9, ↓stK_9I, ↓stK_9R, ↓stK_9N, ↓stK_9G, ↓stK2_9I, ↓stK2_9R, ↓stK2_9N, ↓stK2_9G, ↓ldI_10, ↓ldG_10, ↓ldR_10, ↓stK_10I, ↓stK_10R, ↓stK_10N, ↓stK_10G, ↓stK2_10I, ↓stK2_10R, ↓stK2_10N, ↓stK2_10G, ↓ldI_11, ↓ldG_11, ↓ldR_11, ↓stK_11I, ↓stK_11R, ↓stK_11N, ↓stK_11G, ↓stK2_11I, ↓stK2_11R, ↓stK2_11N, ↓stK2_11G, ↓ldI_12, ↓ldG_12, ↓ldR_12, ↓stK_12I, ↓stK_12R, ↓stK_12N, ↓stK_12G, ↓stK2_12I, ↓stK2_12R, ↓stK2_12N, ↓stK2_12G, ↓pN_0, ↓pN_1, ↓pN_2, ↓pN_3, ↓pN_4, ↓pN_5, ↓pN_6, ↓pN_7, ↓ctI_e, ↓ctL_e, ↓ctR_e, ↓ctV_e, ↓tsK_n, ↓tsK_c, ↓go_K, ↓go_X, csum_n, csum_I, csum_R, csum_G, hdCls_r, isCls, elemR, rg_x_pads, rg_log_words, rg_row_pads, rg_row_words, rg_row_led, alen, IR, Nat.reduceMod, Nat.reduceDiv, Nat.reduceSub, Nat.reduceAdd, Nat.reduceLeDiff, Nat.reduceEqDiff, Nat.reduceLT, Int.reduceLE, Int.reduceLT, Int.reduceEq, Int.reduceNe, Int.reduceAdd, Int.reduceSub, Int.reduceNeg, Int.reduceMul, ne_eq, not_true_eq_false, not_false_eq_true, true_and, and_true, false_and, and_false, true_or, or_true, false_or, or_false, and_self, or_self, true_implies, forall_const, false_implies, implies_true, reduceIte, reduceCtorEq, eq_self, Int.le_refl, Nat.le_refl, Int.reduceNatCast, Int.cast_ofNat_Int, ↓eX10_index_0, ↓eX10_index_1, ↓eX10_index_2, ↓eX10_index_3, ↓eX10_index_4, ↓eX10_index_5, ↓eX10_index_6, ↓eX10_index_7, ↓eX10_index_8, ↓eX10_index_9, ↓eX10_index_10, ↓eX10_index_11, lX10_index, ent0, entI, entR, entG, ent_n, List.length_cons, List.length_nil, List.replicate, List.cons_append, List.nil_append, Nat.reduceSub, Nat.reduceAdd]
      rw [d2]
      by_cases c1 : E.1 p = 1
      · obtain ⟨d4, d5⟩ := d3 c1
        have d9 := d4.1
        have hl1 := hl1 c1
        rw [if_pos c1]
        refine ⟨⟨hpe.1, hpe.2.1⟩, ⟨⟨by omega, by omega⟩, by omega, by omega⟩, fun c => nx3 (fun _ => by omega) _ _ _, fun c => ?_⟩
        have hll : l < (eL E p).length := by omega
        have hlp := (d5 l hll).1
        rw [show p * 9 + (l : Int) = 9 * p + (l : Int) by omega, hlp]
        have hmo := (stE_mo (E := E) (s := rnE E l1) (p := p)).2.2 c1 l hll
        have hm2 := rnE_mo (E := E) l3 (l1 ++ [p]) (rnE_lo1 (E := E) (l1 ++ [p])).1
        rw [List.append_assoc, List.singleton_append, rnE_s, ← hsp] at hm2
        have hlm := fun (q : Nat) (hq : q < l) => lpE_mo (E := E) (s := rnE E l1) (p := p) (l := q) (l' := l) (by omega)
        have hS1 := fun {on : Int} => hpL_s (E := E) (R := R) (Sf := Sf) (w := w) (l1 := l1) (so := E.1) (on := on) c1 hll
        have hb1 : (bfE E R p).1 = (rnE E l1).1 := by rw [hbf]
        have hb2 : (stE E (bfE E R p) p).1 = (stE E (rnE E l1) p).1 := by rw [hbf]
        have hb3 : (stE E (bfE E R p) p).2.2.1 = (stE E (rnE E l1) p).2.2.1 := by rw [hbf]
        rw [← hbf] at hmo hlm
        generalize hQ : lpE E (bfE E R p) p l = Q at *
        have hQ1 : 1 ≤ Q ∧ Q ≤ (rnE E R).2.2.1 := ⟨by omega, by omega⟩
        have hMle : ∀ on, hpL E.1 E R Sf w l1 p l on → on ≤ Q := fun on q => by
          rcases q with ⟨p', hp', q⟩ | ⟨-, q, q0, -, q2, -⟩
          · rw [hsp] at q
            have := ht_2 rfl (by rw [← hsp]; exact nd) hp' q
            rw [hbf] at hmo
            omega
          · have := hlm q q0
            omega
        have hlQ : lat ≤ Q := hlt.elim (fun q => by omega) (fun q => hMle lat q)
        have same4 : (∀ on, hpL E.1 E R Sf w l1 p (l + 1) on ↔ hpL E.1 E R Sf w l1 p l on) → K 1004 [some (vR 16908368 0), some (vI e), some (vI w), some (vI i), some (vI F), some (vI lat), some (vI l1.length), some (vI p), some (vI ((l : Int) + 1)), some (vI Q)] [] σ' := fun ec =>
          hK 1004 (100 * l3.length + 50 - (l + 1)) _ _ (by decide) (by omega) ⟨he1, hw1, hF, hR1, hB, hS, l1, p :: l3, lat, F, hsp, hlat, hF9, hFi, Or.inr ⟨rfl, p, l3, l + 1, rfl, rfl, by omega, by omega, fun q => absurd c1 q, fun _ => by omega, by rw [pgG_congr ec]; exact hFe, fun on q => hle on ((ec on).mp q), hlt.imp id (fun q => (ec lat).mpr q), some (vI Q), by simp⟩⟩
        refine ⟨by omega, ⟨⟨by omega, by omega⟩, by omega, by omega⟩, fun d => same4 (fun on => ?_), fun d => ?_⟩
        · rw [hS1 (on := on)]
          refine ⟨fun z => z.elim id (fun z => ?_), Or.inl⟩
          rw [z.1, d]
          exact hlt.resolve_left (by omega)
        · refine x_isSaidInLine ⟨hpe.1, hpe.2.1⟩ d4 (fun q hq => (d5 q hq).2) ⟨by omega, by omega⟩ s1 s2 (hsay p hpR).1 hw (fun g => ?_) (fun g => ?_) <;> rw [Int.toNat_natCast] at g <;> simp -implicitDefEqProofs only [↓kI_e, ↓kL_e, ↓kR_e, ↓kV_e, ↓x1, ↓x2, ↓x4, ↓x5, ↓x6, ↓x7, ↓x8, ↓x9, ↓x10, ↓x11, ↓x12, ↓x13, ↓x17, ↓x18, ↓x19, ↓x20, ↓x21, ↓x22, ↓x14, ↓x15, ↓x23, ↓x24, ↓x25, ↓x26, ↓x27, ↓x28, ↓x29, ↓x30, ↓x31, ↓x32, ↓x33, ↓x34, ↓x35i, ↓x35r, ↓x36, ↓x37, ↓x38, ↓x39, ↓x40, ↓x41, ↓x72, ↓x42, ↓x43, ↓x44, ↓x45, ↓x46, ↓x47, ↓x48, ↓x50, ↓x51, ↓x52, ↓x53, ↓x54, ↓x55_0, ↓x56_0, ↓x55_1, ↓x56_1, ↓x55_2, ↓x56_2, ↓x55_3, ↓x56_3, ↓x55_4, ↓x56_4, ↓x55_5, ↓x56_5, ↓x57, ↓x58, ↓x59, ↓x60, ↓x61, ↓x62, ↓x63, ↓x64, ↓x65, ↓x75, ↓x67, ↓x77, ↓x68, ↓x78, ↓x69, ↓x79, ↓x70, ↓x73, ↓x74, ↓ldI_0, ↓ldG_0, ↓ldR_0, ↓stK_0, ↓stK2_0, ↓ldI_1, ↓ldG_1, ↓ldR_1, ↓stK_1I, ↓stK_1R, ↓stK_1N, ↓stK_1G, ↓stK2_1I, ↓stK2_1R, ↓stK2_1N, ↓stK2_1G, ↓ldI_2, ↓ldG_2, ↓ldR_2, ↓stK_2I, ↓stK_2R, ↓stK_2N, ↓stK_2G, ↓stK2_2I, ↓stK2_2R, ↓stK2_2N, ↓stK2_2G, ↓ldI_3, ↓ldG_3, ↓ldR_3, ↓stK_3I, ↓stK_3R, ↓stK_3N, ↓stK_3G, ↓stK2_3I, ↓stK2_3R, ↓stK2_3N, ↓stK2_3G, ↓ldI_4, ↓ldG_4, ↓ldR_4, ↓stK_4I, ↓stK_4R, ↓stK_4N, ↓stK_4G, ↓stK2_4I, ↓stK2_4R, ↓stK2_4N, ↓stK2_4G, ↓ldI_5, ↓ldG_5, ↓ldR_5, ↓stK_5I, ↓stK_5R, ↓stK_5N, ↓stK_5G, ↓stK2_5I, ↓stK2_5R, ↓stK2_5N, ↓stK2_5G, ↓ldI_6, ↓ldG_6, ↓ldR_6, ↓stK_6I, ↓stK_6R, ↓stK_6N, ↓stK_6G, ↓stK2_6I, ↓stK2_6R, ↓stK2_6N, ↓stK2_6G, ↓ldI_7, ↓ldG_7, ↓ldR_7, ↓stK_7I, ↓stK_7R, ↓stK_7N, ↓stK_7G, ↓stK2_7I, ↓stK2_7R, ↓stK2_7N, ↓stK2_7G, ↓ldI_8, ↓ldG_8, ↓ldR_8, ↓stK_8I, ↓stK_8R, ↓stK_8N, ↓stK_8G, ↓stK2_8I, ↓stK2_8R, ↓stK2_8N, ↓stK2_8G, ↓ldI_9, ↓ldG_9, ↓ldR_9, ↓stK_9I, ↓stK_9R, ↓stK_9N, ↓stK_9G, ↓stK2_9I, ↓stK2_9R, ↓stK2_9N, ↓stK2_9G, ↓ldI_10, ↓ldG_10, ↓ldR_10, ↓stK_10I, ↓stK_10R, ↓stK_10N, ↓stK_10G, ↓stK2_10I, ↓stK2_10R, ↓stK2_10N, ↓stK2_10G, ↓ldI_11, ↓ldG_11, ↓ldR_11, ↓stK_11I, ↓stK_11R, ↓stK_11N, ↓stK_11G, ↓stK2_11I, ↓stK2_11R, ↓stK2_11N, ↓stK2_11G, ↓ldI_12, ↓ldG_12, ↓ldR_12, ↓stK_12I, ↓stK_12R, ↓stK_12N, ↓stK_12G, ↓stK2_12I, ↓stK2_12R, ↓stK2_12N, ↓stK2_12G, ↓pN_0, ↓pN_1, ↓pN_2, ↓pN_3, ↓pN_4, ↓pN_5, ↓pN_6, ↓pN_7, ↓ctI_e, ↓ctL_e, ↓ctR_e, ↓ctV_e, ↓tsK_n, ↓tsK_c, ↓go_K, ↓go_X, csum_n, csum_I, csum_R, csum_G, hdCls_r, isCls, elemR, rg_x_pads, rg_log_words, rg_row_pads, rg_row_words, rg_row_led, alen, IR, Nat.reduceMod, Nat.reduceDiv, Nat.reduceSub, Nat.reduceAdd, Nat.reduceLeDiff, Nat.reduceEqDiff, Nat.reduceLT, Int.reduceLE, Int.reduceLT, Int.reduceEq, Int.reduceNe, Int.reduceAdd, Int.reduceSub, Int.reduceNeg, Int.reduceMul, ne_eq, not_true_eq_false, not_false_eq_true, true_and, and_true, false_and, and_false, true_or, or_true, false_or, or_false, and_self, or_self, true_implies, forall_const, false_implies, implies_true, reduceIte, reduceCtorEq, eq_self, Int.le_refl, Nat.le_refl, Int.reduceNatCast, Int.cast_ofNat_Int, ↓eX10_index_0, ↓eX10_index_1, ↓eX10_index_2, ↓eX10_index_3, ↓eX10_index_4, ↓eX10_index_5, ↓eX10_index_6, ↓eX10_index_7, ↓eX10_index_8, ↓eX10_index_9, ↓eX10_index_10, ↓eX10_index_11, lX10_index, ent0, entI, entR, entG, ent_n, List.length_cons, List.length_nil, List.replicate, List.cons_append, List.nil_append, Nat.reduceSub, Nat.reduceAdd]
          · have ltM : ∀ on, hpL E.1 E R Sf w l1 p l on → on < Q := fun on q => by have := hle on q; omega
            have hTq : hpL E.1 E R Sf w l1 p (l + 1) Q := (hS1 (on := Q)).mpr (Or.inr ⟨rfl, g⟩)
            obtain ⟨C, hC, hC0⟩ := pgG_cut (N := (rnE E R).2.2.1.toNat) (M := hpL E.1 E R Sf w l1 p l) (T := hpL E.1 E R Sf w l1 p (l + 1)) (q := Q) ⟨by omega, by omega⟩ ltM hTq (fun on hon => by
              rw [hS1 (on := on)]
              exact ⟨fun z => z.elim id (fun z => absurd z.1 (by omega)), Or.inl⟩)
            have hC0 := hC0 (fun on q => by
              rcases (hS1 (on := on)).mp q with z | z
              · exact hMle on z
              · omega)
            obtain ⟨C2, hC2, -⟩ := pgG_cut (N := (rnE E R).2.2.1.toNat) (M := hpL E.1 E R Sf w l1 p l) (T := hpM E.1 E R Sf w R) (q := Q) ⟨by omega, by omega⟩ ltM ⟨p, hpR, c1, l, hll, hQ, g⟩ (fun on hon => by
              constructor
              · rintro ⟨p', hp', z⟩
                rw [hsp] at hp'
                rcases List.mem_append.mp hp' with hp' | hp'
                · exact Or.inl ⟨p', hp', z⟩
                · rcases List.mem_cons.mp hp' with rfl | hp'
                  · obtain ⟨z1, q, q1, q2, q3⟩ := z
                    refine Or.inr ⟨z1, q, ?_, q1, q2, q3⟩
                    refine Classical.byContradiction (fun nq => ?_)
                    have := lpE_mo (E := E) (s := bfE E R p') (p := p') (l := l) (l' := q) (by omega)
                    simp only at q2
                    omega
                  · have e2 : R = (l1 ++ [p]) ++ l3 := by rw [hsp]; simp
                    rw [e2] at z
                    have := ht_3 rfl (by rw [← e2]; exact nd) hp' z
                    rw [rnE_s] at this
                    omega
              · rintro (⟨p', hp', z⟩ | ⟨z1, q, -, q1, q2, q3⟩)
                · exact ⟨p', by rw [hsp]; exact List.mem_append_left _ hp', z⟩
                · exact ⟨p, hpR, z1, q, q1, q2, q3⟩)
            refine ⟨⟨⟨by omega, by omega⟩, hi⟩, fun q => ?_, fun q => ?_⟩
            · have hF' : F + 1 = (pgG (rnE E R).2.2.1.toNat (hpL E.1 E R Sf w l1 p (l + 1))).length := by
                rw [hC, hC0, List.length_append, ← hFe]; rfl
              exact hK 1004 (100 * l3.length + 50 - (l + 1)) _ _ (by decide) (by omega) ⟨he1, hw1, hF, hR1, hB, hS, l1, p :: l3, Q, F + 1, hsp, by omega, by omega, by omega, Or.inr ⟨rfl, p, l3, l + 1, rfl, rfl, by omega, by omega, fun q => absurd c1 q, fun _ => by omega, hF', fun on z => by
                rcases (hS1 (on := on)).mp z with z | z
                · exact hMle on z
                · omega, Or.inr hTq, some (vI Q), by simp⟩⟩
            · rw [hC2, nthA_at (by rw [← hFe]; omega)] at hk
              exact hk
          · refine same4 (fun on => ?_)
            rw [hS1 (on := on)]
            exact ⟨fun z => z.elim id (fun z => absurd z.2 g), Or.inl⟩
      · have hl0 := hn1 c1
        subst hl0
        rw [if_neg c1]
        exact ⟨⟨hpe.1, hpe.2.1⟩, ⟨⟨by omega, by omega⟩, by omega, by omega⟩, fun _ => nx3 (fun q => absurd q c1) _ _ _, fun c => by omega⟩
