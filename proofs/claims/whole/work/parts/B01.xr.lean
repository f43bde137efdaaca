/-! the class holds what the check holds -/
def xHas (σ μ : Mm) : Prop := (∀ h : Int, 0 ≤ h → h < 6 → (Ml σ 201457715 0) h = (Ml μ 1140981811 0) h) ∧ (Mi σ 16908368 0 4) = (Mi μ 184680536 0 13) ∧ (∀ i : Int, 0 ≤ i → i < (Mi μ 184680536 0 13) → (Ml σ 218234947 0) i = (Ml μ 1157759043 0) i) ∧ (Mi σ 16908368 0 5) = (Mi μ 184680536 0 16)
def xPad (σ μ : Mm) : Prop := ∀ h : Int, 0 ≤ h → h < 6 → rowR σ 2064384071 h (padL μ h)
def xFold (σ μ : Mm) : Prop := (Mi σ 50462744 0 2) = (Mi μ 184680536 0 35) ∧ ∀ w : Int, 0 ≤ w → w < 100 → (Mi σ 386007841 0) w = (Mi μ 1476526881 0) w
def xRule (σ μ : Mm) : Prop := (Mi σ 67239952 0 3) = (Mi μ 184680536 0 38) ∧ ∀ i : Int, 0 ≤ i → i < (Mi μ 184680536 0 38) → (Mi σ 419561521 0) i = (Mi μ 1493303345 0) i ∧ (Mi σ 436338737 0) i = (Mi μ 1510080561 0) i
def xYes (σ μ : Mm) : Prop := (Mi σ 67239952 0 7) = (Mi μ 184680536 0 43) ∧ ∀ i : Int, 0 ≤ i → i < (Mi μ 184680536 0 43) → (Mi σ 453116065 0) i = (Mi μ 1526857889 0) i ∧ (Mi σ 469893281 0) i = (Mi μ 1543635105 0) i ∧ ∃ J : Int, (0 ≤ J ∧ J < Mc σ) ∧ Mr σ 2147614885 0 i = (2197815295, J) ∧ rowR σ 2197815295 J (yesW μ i) ∧ ((yesW μ i).length : Int) ≤ Mn σ J ∧ (yesW μ i).length ≤ 240
def xPair (σ μ : Mm) : Prop := (Mi σ 84017224 0 6) = (Mi μ 184680536 0 50) ∧ ∀ i : Int, 0 ≤ i → i < (Mi μ 184680536 0 50) → (Mi σ 486670529 0) i = (Mi μ 1627521217 0) i ∧ (Mi σ 503447745 0) i = (Mi μ 1610744001 0) i ∧ rowR σ 2083520583 i (mpW μ i 1) ∧ (0 ≤ (Mi σ 520224961 0) i ∧ (Mi σ 520224961 0) i < (Mi μ 184680536 0 10)) ∧ (Mi μ 973210081 0) ((Mi σ 520224961 0) i) = 3 ∧ cW μ ((Mi σ 520224961 0) i) = mpW μ i 0
def xTerm (σ μ : Mm) : Prop := (Mi σ 84017224 0 10) = (Mi μ 184680536 0 54) ∧ ∀ i : Int, 0 ≤ i → i < (Mi μ 184680536 0 54) → (Mi σ 537002033 0) i = (Mi μ 1694629937 0) i ∧ (Mi σ 553779249 0) i = (Mi μ 1677852721 0) i ∧ (Mi σ 570556465 0) i = (Mi μ 1711407153 0) i
def xShelf (σ μ : Mm) : Prop := (Mi σ 100794432 0 4) = (Mi μ 184680536 0 60) ∧ ∀ i : Int, 0 ≤ i → i < (Mi μ 184680536 0 60) → (Ml σ 587333683 0) i = (Ml μ 1744961587 0) i ∧ (Mi σ 604110897 0) i = (Mi μ 1761738801 0) i ∧ (Mi σ 620888113 0) i = (Mi μ 1778516017 0) i ∧ (Mi σ 637665329 0) i = (Mi μ 1795293233 0) i
def XR (σ μ : Mm) : Prop := xLog σ μ ∧ xHas σ μ ∧ xPad σ μ ∧ xFold σ μ ∧ xRule σ μ ∧ xYes σ μ ∧ xPair σ μ ∧ xTerm σ μ ∧ xShelf σ μ
abbrev xhA : List Nat := [16908368, 201457715, 218234947]
abbrev xpA : List Nat := [2064384071, 2064384065]
abbrev xfA : List Nat := [50462744, 386007841]
abbrev xcA : List Nat := [67239952, 419561521, 436338737, 453116065, 469893281, 2147614885, 2197815295, 2197815289]
abbrev xtA : List Nat := [84017224, 486670529, 503447745, 520224961, 2083520583, 2083520577, 537002033, 553779249, 570556465]
abbrev xsA : List Nat := [100794432, 587333683, 604110897, 620888113, 637665329]
theorem xHas_fr {σ σ' μ : Mm} {S : List Nat} (hF : Fr S σ σ') (hS : (xhA.all fun a => !S.contains a) = true) (h : xHas σ μ) : xHas σ' μ := by
  have g : ∀ a ∈ xhA, S.contains a = false := fun a ha => by simpa using List.all_eq_true.mp hS a ha
  unfold xHas at h ⊢
  rw [hF.i _ (g 16908368 (by simp)), hF.l _ (g 201457715 (by simp)), hF.l _ (g 218234947 (by simp))]
  exact h
theorem xPad_fr {σ σ' μ : Mm} {S : List Nat} (hF : Fr S σ σ') (hS : (xpA.all fun a => !S.contains a) = true) (h : xPad σ μ) : xPad σ' μ := by
  have g : ∀ a ∈ xpA, S.contains a = false := fun a ha => by simpa using List.all_eq_true.mp hS a ha
  unfold xPad rowR at h ⊢
  rw [hF.i _ (g 2064384071 (by simp)), hF.i _ (g (2064384071 - 6) (by simp))]
  exact h
theorem xFold_fr {σ σ' μ : Mm} {S : List Nat} (hF : Fr S σ σ') (hS : (xfA.all fun a => !S.contains a) = true) (h : xFold σ μ) : xFold σ' μ := by
  have g : ∀ a ∈ xfA, S.contains a = false := fun a ha => by simpa using List.all_eq_true.mp hS a ha
  unfold xFold at h ⊢
  rw [hF.i _ (g 50462744 (by simp)), hF.i _ (g 386007841 (by simp))]
  exact h
theorem xRule_fr {σ σ' μ : Mm} {S : List Nat} (hF : Fr S σ σ') (hS : (xcA.all fun a => !S.contains a) = true) (h : xRule σ μ) : xRule σ' μ := by
  have g : ∀ a ∈ xcA, S.contains a = false := fun a ha => by simpa using List.all_eq_true.mp hS a ha
  unfold xRule at h ⊢
  rw [hF.i _ (g 67239952 (by simp)), hF.i _ (g 419561521 (by simp)), hF.i _ (g 436338737 (by simp))]
  exact h
theorem xYes_fr {σ σ' μ : Mm} {S : List Nat} (hF : Fr S σ σ') (hS : (xcA.all fun a => !S.contains a) = true) (h : xYes σ μ) : xYes σ' μ := by
  have g : ∀ a ∈ xcA, S.contains a = false := fun a ha => by simpa using List.all_eq_true.mp hS a ha
  unfold xYes rowR at h ⊢
  rw [hF.i _ (g 67239952 (by simp)), hF.i _ (g 453116065 (by simp)), hF.i _ (g 469893281 (by simp)), hF.r _ (g 2147614885 (by simp)), hF.i _ (g 2197815295 (by simp)), hF.i _ (g (2197815295 - 6) (by simp)), hF.2.1, hF.2.2.1]
  exact h
theorem xPair_fr {σ σ' μ : Mm} {S : List Nat} (hF : Fr S σ σ') (hS : (xtA.all fun a => !S.contains a) = true) (h : xPair σ μ) : xPair σ' μ := by
  have g : ∀ a ∈ xtA, S.contains a = false := fun a ha => by simpa using List.all_eq_true.mp hS a ha
  unfold xPair rowR at h ⊢
  rw [hF.i _ (g 84017224 (by simp)), hF.i _ (g 486670529 (by simp)), hF.i _ (g 503447745 (by simp)), hF.i _ (g 520224961 (by simp)), hF.i _ (g 2083520583 (by simp)), hF.i _ (g (2083520583 - 6) (by simp))]
  exact h
theorem xTerm_fr {σ σ' μ : Mm} {S : List Nat} (hF : Fr S σ σ') (hS : (xtA.all fun a => !S.contains a) = true) (h : xTerm σ μ) : xTerm σ' μ := by
  have g : ∀ a ∈ xtA, S.contains a = false := fun a ha => by simpa using List.all_eq_true.mp hS a ha
  unfold xTerm at h ⊢
  rw [hF.i _ (g 84017224 (by simp)), hF.i _ (g 537002033 (by simp)), hF.i _ (g 553779249 (by simp)), hF.i _ (g 570556465 (by simp))]
  exact h
theorem xShelf_fr {σ σ' μ : Mm} {S : List Nat} (hF : Fr S σ σ') (hS : (xsA.all fun a => !S.contains a) = true) (h : xShelf σ μ) : xShelf σ' μ := by
  have g : ∀ a ∈ xsA, S.contains a = false := fun a ha => by simpa using List.all_eq_true.mp hS a ha
  unfold xShelf at h ⊢
  rw [hF.i _ (g 100794432 (by simp)), hF.l _ (g 587333683 (by simp)), hF.i _ (g 604110897 (by simp)), hF.i _ (g 620888113 (by simp)), hF.i _ (g 637665329 (by simp))]
  exact h
abbrev xAllA : List Nat := lgA ++ xhA ++ xpA ++ xfA ++ xcA ++ xtA ++ xsA
theorem XR_fr {σ σ' μ : Mm} {S : List Nat} (hF : Fr S σ σ') (hS : (xAllA.all fun a => !S.contains a) = true) (h : XR σ μ) : XR σ' μ := by
  obtain ⟨h1, h2, h3, h4, h5, h6, h7, h8, h9⟩ := h
  have g : ∀ L : List Nat, (∀ a ∈ L, a ∈ xAllA) → (L.all fun a => !S.contains a) = true := fun L hL => List.all_eq_true.mpr (fun a ha => List.all_eq_true.mp hS a (hL a ha))
  exact ⟨xLog_fr hF (g _ (by decide)) h1, xHas_fr hF (g _ (by decide)) h2, xPad_fr hF (g _ (by decide)) h3, xFold_fr hF (g _ (by decide)) h4, xRule_fr hF (g _ (by decide)) h5, xYes_fr hF (g _ (by decide)) h6, xPair_fr hF (g _ (by decide)) h7, xTerm_fr hF (g _ (by decide)) h8, xShelf_fr hF (g _ (by decide)) h9⟩
/-- the scratch of the class -/
abbrev scX : List Nat := [654574049, 671351265, 738460129, 772014561, 788791777, 755240705, 688128481, 704905697, 721682921, 805568993, 117702656, 134479928, 822346209, 839123425, 855900641, 872677857, 889458913, 906236129, 2164523493, 151257096, 923009097, 939786321, 956563537, 168034344, 402784329, 2046953351, 2046953345]
theorem XR_sc {σ σ' μ : Mm} (hF : Fr scX σ σ') (h : XR σ μ) : XR σ' μ := XR_fr hF (by decide) h
theorem bk_sc {j : Int} {σ σ' : Mm} (h : FrI bkA j σ σ') : Fr scX σ σ' := h.fr.mono (by decide)
theorem XR_set {σ μ : Mm} (h : XR σ μ) {s : Int} (hs : isS μ s) : (if s < 6 then (Ml σ 201457715 0) s else (Ml σ 218234947 0) (s - 10)) = mSet μ s := by
  unfold mSet
  unfold isS at hs
  split
  · exact h.2.1.1 s (by omega) (by omega)
  · exact h.2.1.2.2.1 (s - 10) (by omega) (by omega)
theorem x_bookOf {σ μ : Mm} {s : Int} {k : Nat → Int → Mm → Prop} (h : XR σ μ) (hI : mI μ) (hs : isS μ s) (hk : ∀ σ', Fr scX σ σ' → FrI bkA 0 σ σ' → XR σ' μ → xBk σ' μ 0 (mSet μ s) (allB μ (mSet μ s)) → k 117702656 0 σ') : OkR 202 [vR 16908368 0, vI s] σ k := by
  have hst := hI.2.2.1.2.1
  refine okR_run mkX10_bookOf (Nat.le_of_ble_eq_true rfl) (fun K => ?_)
  simp only [↓kI_e, ↓kL_e, ↓kR_e, ↓kV_e, ↓x1, ↓x2, ↓x4, ↓x5, ↓x6, ↓x7, ↓x8, ↓x9, ↓x10, ↓x11, ↓x12, ↓x13, ↓x17, ↓x18, ↓x19, ↓x20, ↓x21, ↓x22, ↓x14, ↓x15, ↓x23, ↓x24, ↓x25, ↓x26, ↓x27, ↓x28, ↓x29, ↓x30, ↓x31, ↓x32, ↓x33, ↓x34, ↓x35i, ↓x35r, ↓x36, ↓x37, ↓x38, ↓x39, ↓x40, ↓x41, ↓x72, ↓x42, ↓x43, ↓x44, ↓x45, ↓x46, ↓x47, ↓x48, ↓x50, ↓x51, ↓x52, ↓x53, ↓x54, ↓x55_0, ↓x56_0, ↓x55_1, ↓x56_1, ↓x55_2, ↓x56_2, ↓x55_3, ↓x56_3, ↓x55_4, ↓x56_4, ↓x55_5, ↓x56_5, ↓x57, ↓x58, ↓x59, ↓x60, ↓x61, ↓x62, ↓x63, ↓x64, ↓x65, ↓x75, ↓x67, ↓x77, ↓x68, ↓x78, ↓x69, ↓x79, ↓x70, ↓x73, ↓x74, ↓ldI_0, ↓ldG_0, ↓ldR_0, ↓stK_0, ↓stK2_0, ↓ldI_1, ↓ldG_1, ↓ldR_1, ↓stK_1I, ↓stK_1R, ↓stK_1N, ↓stK_1G, ↓stK2_1I, ↓stK2_1R, ↓stK2_1N, ↓stK2_1G, ↓ldI_2, ↓ldG_2, ↓ldR_2, ↓stK_2I, ↓stK_2R, ↓stK_2N, ↓stK_2G, ↓stK2_2I, ↓stK2_2R, ↓stK2_2N, ↓stK2_2G, ↓ldI_3, ↓ldG_3, ↓ldR_3, ↓stK_3I, ↓stK_3R, ↓stK_3N, ↓stK_3G, ↓stK2_3I, ↓stK2_3R, ↓stK2_3N, ↓stK2_3G, ↓ldI_4, ↓ldG_4, ↓ldR_4, ↓stK_4I, ↓stK_4R, ↓stK_4N, ↓stK_4G, ↓stK2_4I, ↓stK2_4R, ↓stK2_4N, ↓stK2_4G, ↓ldI_5, ↓ldG_5, ↓ldR_5, ↓stK_5I, ↓stK_5R, ↓stK_5N, ↓stK_5G, ↓stK2_5I, ↓stK2_5R, ↓stK2_5N, ↓stK2_5G, ↓ldI_6, ↓ldG_6, ↓ldR_6, ↓stK_6I, ↓stK_6R, ↓stK_6N, ↓stK_6G, ↓stK2_6I, ↓stK2_6R, ↓stK2_6N, ↓stK2_6G, ↓ldI_7, ↓ldG_7, ↓ldR_7, ↓stK_7I, ↓stK_7R, ↓stK_7N, ↓stK_7G, ↓stK2_7I, ↓stK2_7R, ↓stK2_7N, ↓stK2_7G, ↓ldI_8, ↓ldG_8, ↓ldR_8, ↓stK_8I, ↓stK_8R, ↓stK_8N, ↓stK_8G, ↓stK2_8I, ↓stK2_8R, ↓stK2_8N, ↓stK2_8G, ↓ldI_9, ↓ldG_9, ↓ldR_9, ↓stK_9I, ↓stK_9R, ↓stK_9N, ↓stK_9G, ↓stK2_9I, ↓stK2_9R, ↓stK2_9N, ↓stK2_9G, ↓ldI_10, ↓ldG_10, ↓ldR_10, ↓stK_10I, ↓stK_10R, ↓stK_10N, ↓stK_10G, ↓stK2_10I, ↓stK2_10R, ↓stK2_10N, ↓stK2_10G, ↓ldI_11, ↓ldG_11, ↓ldR_11, ↓stK_11I, ↓stK_11R, ↓stK_11N, ↓stK_11G, ↓stK2_11I, ↓stK2_11R, ↓stK2_11N, ↓stK2_11G, ↓ldI_12, ↓ldG_12, ↓ldR_12, ↓stK_12I, ↓stK_12R, ↓stK_12N, ↓stK_12G, ↓stK2_12I, ↓stK2_12R, ↓stK2_12N, ↓stK2_12G, ↓pN_0, ↓pN_1, ↓pN_2, ↓pN_3, ↓pN_4, ↓pN_5, ↓pN_6, ↓pN_7, ↓ctI_e, ↓ctL_e, ↓ctR_e, ↓ctV_e, ↓tsK_n, ↓tsK_c, ↓go_K, ↓go_X, csum_n, csum_I, csum_R, csum_G, hdCls_r, isCls, elemR, rg_x_pads, rg_log_words, rg_row_pads, rg_row_words, rg_row_led, alen, IR, Nat.reduceMod, Nat.reduceDiv, Nat.reduceSub, Nat.reduceAdd, Nat.reduceLeDiff, Nat.reduceEqDiff, Nat.reduceLT, Int.reduceLE, Int.reduceLT, Int.reduceEq, Int.reduceNe, Int.reduceAdd, Int.reduceSub, Int.reduceNeg, Int.reduceMul, ne_eq, not_true_eq_false, not_false_eq_true, true_and, and_true, false_and, and_false, true_or, or_true, false_or, or_false, and_self, or_self, true_implies, forall_const, false_implies, implies_true, reduceIte, reduceCtorEq, eq_self, Int.le_refl, Nat.le_refl, Int.reduceNatCast, Int.cast_ofNat_Int, ↓eX10_bookOf_0, lX10_bookOf, ent0, entI, entR, entG, ent_n, List.length_cons, List.length_nil, List.replicate, List.cons_append, List.nil_append, Nat.reduceSub, Nat.reduceAdd]
  refine x_setOf hst hs ?_
  rw [XR_set h hs]
  simp only [↓kI_e, ↓kL_e, ↓kR_e, ↓kV_e, ↓x1, ↓x2, ↓x4, ↓x5, ↓x6, ↓x7, ↓x8, ↓x9, ↓x10, ↓x11, ↓x12, ↓x13, ↓x17, ↓x18, ↓x19, ↓x20, ↓x21, ↓x22, ↓x14, ↓x15, ↓x23, ↓x24, ↓x25, ↓x26, ↓x27, ↓x28, ↓x29, ↓x30, ↓x31, ↓x32, ↓x33, ↓x34, ↓x35i, ↓x35r, ↓x36, ↓x37, ↓x38, ↓x39, ↓x40, ↓x41, ↓x72, ↓x42, ↓x43, ↓x44, ↓x45, ↓x46, ↓x47, ↓x48, ↓x50, ↓x51, ↓x52, ↓x53, ↓x54, ↓x55_0, ↓x56_0, ↓x55_1, ↓x56_1, ↓x55_2, ↓x56_2, ↓x55_3, ↓x56_3, ↓x55_4, ↓x56_4, ↓x55_5, ↓x56_5, ↓x57, ↓x58, ↓x59, ↓x60, ↓x61, ↓x62, ↓x63, ↓x64, ↓x65, ↓x75, ↓x67, ↓x77, ↓x68, ↓x78, ↓x69, ↓x79, ↓x70, ↓x73, ↓x74, ↓ldI_0, ↓ldG_0, ↓ldR_0, ↓stK_0, ↓stK2_0, ↓ldI_1, ↓ldG_1, ↓ldR_1, ↓stK_1I, ↓stK_1R, ↓stK_1N, ↓stK_1G, ↓stK2_1I, ↓stK2_1R, ↓stK2_1N, ↓stK2_1G, ↓ldI_2, ↓ldG_2, ↓ldR_2, ↓stK_2I, ↓stK_2R, ↓stK_2N, ↓stK_2G, ↓stK2_2I, ↓stK2_2R, ↓stK2_2N, ↓stK2_2G, ↓ldI_3, ↓ldG_3, ↓ldR_3, ↓stK_3I, ↓stK_3R, ↓stK_3N, ↓stK_3G, ↓stK2_3I, ↓stK2_3R, ↓stK2_3N, ↓stK2_3G, ↓ldI_4, ↓ldG_4, ↓ldR_4, ↓stK_4I, ↓stK_4R, ↓stK_4N, ↓stK_4G, ↓stK2_4I, ↓stK2_4R, ↓stK2_4N, ↓stK2_4G, ↓ldI_5, ↓ldG_5, ↓ldR_5, ↓stK_5I, ↓stK_5R, ↓stK_5N, ↓stK_5G, ↓stK2_5I, ↓stK2_5R, ↓stK2_5N, ↓stK2_5G, ↓ldI_6, ↓ldG_6, ↓ldR_6, ↓stK_6I, ↓stK_6R, ↓stK_6N, ↓stK_6G, ↓stK2_6I, ↓stK2_6R, ↓stK2_6N, ↓stK2_6G, ↓ldI_7, ↓ldG_7, ↓ldR_7, ↓stK_7I, ↓stK_7R, ↓stK_7N, ↓stK_7G, ↓stK2_7I, ↓stK2_7R, ↓stK2_7N, ↓stK2_7G, ↓ldI_8, ↓ldG_8, ↓ldR_8, ↓stK_8I, ↓stK_8R, ↓stK_8N, ↓stK_8G, ↓stK2_8I, ↓stK2_8R, ↓stK2_8N, ↓stK2_8G, ↓ldI_9, ↓ldG_9, ↓ldR_9, ↓stK_9I, ↓stK_9R, ↓stK_9N, ↓stK_9G, ↓stK2_9I, ↓stK2_9R, ↓stK2_9N, ↓stK2_9G, ↓ldI_10, ↓ldG_10, ↓ldR_10, ↓stK_10I, ↓stK_10R, ↓stK_10N, ↓stK_10G, ↓stK2_10I, ↓stK2_10R, ↓stK2_10N, ↓stK2_10G, ↓ldI_11, ↓ldG_11, ↓ldR_11, ↓stK_11I, ↓stK_11R, ↓stK_11N, ↓stK_11G, ↓stK2_11I, ↓stK2_11R, ↓stK2_11N, ↓stK2_11G, ↓ldI_12, ↓ldG_12, ↓ldR_12, ↓stK_12I, ↓stK_12R, ↓stK_12N, ↓stK_12G, ↓stK2_12I, ↓stK2_12R, ↓stK2_12N, ↓stK2_12G, ↓pN_0, ↓pN_1, ↓pN_2, ↓pN_3, ↓pN_4, ↓pN_5, ↓pN_6, ↓pN_7, ↓ctI_e, ↓ctL_e, ↓ctR_e, ↓ctV_e, ↓tsK_n, ↓tsK_c, ↓go_K, ↓go_X, csum_n, csum_I, csum_R, csum_G, hdCls_r, isCls, elemR, rg_x_pads, rg_log_words, rg_row_pads, rg_row_words, rg_row_led, alen, IR, Nat.reduceMod, Nat.reduceDiv, Nat.reduceSub, Nat.reduceAdd, Nat.reduceLeDiff, Nat.reduceEqDiff, Nat.reduceLT, Int.reduceLE, Int.reduceLT, Int.reduceEq, Int.reduceNe, Int.reduceAdd, Int.reduceSub, Int.reduceNeg, Int.reduceMul, ne_eq, not_true_eq_false, not_false_eq_true, true_and, and_true, false_and, and_false, true_or, or_true, false_or, or_false, and_self, or_self, true_implies, forall_const, false_implies, implies_true, reduceIte, reduceCtorEq, eq_self, Int.le_refl, Nat.le_refl, Int.reduceNatCast, Int.cast_ofNat_Int, ↓eX10_bookOf_0, lX10_bookOf, ent0, entI, entR, entG, ent_n, List.length_cons, List.length_nil, List.replicate, List.cons_append, List.nil_append, Nat.reduceSub, Nat.reduceAdd]
  refine x_work h.1 hI.1 h.2.1.2.2.2 hI.2.2.1.2.2.1 (fun σ1 hF hX => ?_)
  simp only [↓kI_e, ↓kL_e, ↓kR_e, ↓kV_e, ↓x1, ↓x2, ↓x4, ↓x5, ↓x6, ↓x7, ↓x8, ↓x9, ↓x10, ↓x11, ↓x12, ↓x13, ↓x17, ↓x18, ↓x19, ↓x20, ↓x21, ↓x22, ↓x14, ↓x15, ↓x23, ↓x24, ↓x25, ↓x26, ↓x27, ↓x28, ↓x29, ↓x30, ↓x31, ↓x32, ↓x33, ↓x34, ↓x35i, ↓x35r, ↓x36, ↓x37, ↓x38, ↓x39, ↓x40, ↓x41, ↓x72, ↓x42, ↓x43, ↓x44, ↓x45, ↓x46, ↓x47, ↓x48, ↓x50, ↓x51, ↓x52, ↓x53, ↓x54, ↓x55_0, ↓x56_0, ↓x55_1, ↓x56_1, ↓x55_2, ↓x56_2, ↓x55_3, ↓x56_3, ↓x55_4, ↓x56_4, ↓x55_5, ↓x56_5, ↓x57, ↓x58, ↓x59, ↓x60, ↓x61, ↓x62, ↓x63, ↓x64, ↓x65, ↓x75, ↓x67, ↓x77, ↓x68, ↓x78, ↓x69, ↓x79, ↓x70, ↓x73, ↓x74, ↓ldI_0, ↓ldG_0, ↓ldR_0, ↓stK_0, ↓stK2_0, ↓ldI_1, ↓ldG_1, ↓ldR_1, ↓stK_1I, ↓stK_1R, ↓stK_1N, ↓stK_1G, ↓stK2_1I, ↓stK2_1R, ↓stK2_1N, ↓stK2_1G, ↓ldI_2, ↓ldG_2, ↓ldR_2, ↓stK_2I, ↓stK_2R, ↓stK_2N, ↓stK_2G, ↓stK2_2I, ↓stK2_2R, ↓stK2_2N, ↓stK2_2G, ↓ldI_3, ↓ldG_3, ↓ldR_3, ↓stK_3I, ↓stK_3R, ↓stK_3N, ↓stK_3G, ↓stK2_3I, ↓stK2_3R, ↓stK2_3N, ↓stK2_3G, ↓ldI_4, ↓ldG_4, ↓ldR_4, ↓stK_4I, ↓stK_4R, ↓stK_4N, ↓stK_4G, ↓stK2_4I, ↓stK2_4R, ↓stK2_4N, ↓stK2_4G, ↓ldI_5, ↓ldG_5, ↓ldR_5, ↓stK_5I, ↓stK_5R, ↓stK_5N, ↓stK_5G, ↓stK2_5I, ↓stK2_5R, ↓stK2_5N, ↓stK2_5G, ↓ldI_6, ↓ldG_6, ↓ldR_6, ↓stK_6I, ↓stK_6R, ↓stK_6N, ↓stK_6G, ↓stK2_6I, ↓stK2_6R, ↓stK2_6N, ↓stK2_6G, ↓ldI_7, ↓ldG_7, ↓ldR_7, ↓stK_7I, ↓stK_7R, ↓stK_7N, ↓stK_7G, ↓stK2_7I, ↓stK2_7R, ↓stK2_7N, ↓stK2_7G, ↓ldI_8, ↓ldG_8, ↓ldR_8, ↓stK_8I, ↓stK_8R, ↓stK_8N, ↓stK_8G, ↓stK2_8I, ↓stK2_8R, ↓stK2_8N, ↓stK2_8G, ↓ldI_9, ↓ldG_9, ↓ldR_9, ↓stK_9I, ↓stK_9R, ↓stK_9N, ↓stK_9G, ↓stK2_9I, ↓stK2_9R, ↓stK2_9N, ↓stK2_9G, ↓ldI_10, ↓ldG_10, ↓ldR_10, ↓stK_10I, ↓stK_10R, ↓stK_10N, ↓stK_10G, ↓stK2_10I, ↓stK2_10R, ↓stK2_10N, ↓stK2_10G, ↓ldI_11, ↓ldG_11, ↓ldR_11, ↓stK_11I, ↓stK_11R, ↓stK_11N, ↓stK_11G, ↓stK2_11I, ↓stK2_11R, ↓stK2_11N, ↓stK2_11G, ↓ldI_12, ↓ldG_12, ↓ldR_12, ↓stK_12I, ↓stK_12R, ↓stK_12N, ↓stK_12G, ↓stK2_12I, ↓stK2_12R, ↓stK2_12N, ↓stK2_12G, ↓pN_0, ↓pN_1, ↓pN_2, ↓pN_3, ↓pN_4, ↓pN_5, ↓pN_6, ↓pN_7, ↓ctI_e, ↓ctL_e, ↓ctR_e, ↓ctV_e, ↓tsK_n, ↓tsK_c, ↓go_K, ↓go_X, csum_n, csum_I, csum_R, csum_G, hdCls_r, isCls, elemR, rg_x_pads, rg_log_words, rg_row_pads, rg_row_words, rg_row_led, alen, IR, Nat.reduceMod, Nat.reduceDiv, Nat.reduceSub, Nat.reduceAdd, Nat.reduceLeDiff, Nat.reduceEqDiff, Nat.reduceLT, Int.reduceLE, Int.reduceLT, Int.reduceEq, Int.reduceNe, Int.reduceAdd, Int.reduceSub, Int.reduceNeg, Int.reduceMul, ne_eq, not_true_eq_false, not_false_eq_true, true_and, and_true, false_and, and_false, true_or, or_true, false_or, or_false, and_self, or_self, true_implies, forall_const, false_implies, implies_true, reduceIte, reduceCtorEq, eq_self, Int.le_refl, Nat.le_refl, Int.reduceNatCast, Int.cast_ofNat_Int, ↓eX10_bookOf_0, lX10_bookOf, ent0, entI, entR, entG, ent_n, List.length_cons, List.length_nil, List.replicate, List.cons_append, List.nil_append, Nat.reduceSub, Nat.reduceAdd]
  exact hk _ (bk_sc hF) hF (XR_sc (bk_sc hF) h) hX
/-- a bare hand's book, as sources are -/
theorem hand_S {μ : Mm} {h : Int} (h0 : 0 ≤ h) (h5 : h ≤ 5) : isS μ h ∧ mSet μ h = (Ml μ 1140981811 0) h := by
  refine ⟨Or.inl ⟨h0, by omega⟩, ?_⟩
  unfold mSet
  rw [if_pos (by omega)]
