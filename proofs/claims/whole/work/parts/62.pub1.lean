/-! the check's calls: those that write a row -/
theorem same.on {S : List Nat} {fs : List Int} {σ σ' : Mm} (h : same S fs σ σ') (L : List Nat) (hL : (L.all fun a => perM.contains a && !(S.contains a)) = true) : ∀ a ∈ L, Mi σ' a = Mi σ a ∧ Ml σ' a = Ml σ a := fun a ha => by
  have := List.all_eq_true.mp hL a ha
  rw [Bool.and_eq_true] at this
  refine h.1 a (by simpa using this.1) (fun q => ?_)
  have h2 := this.2
  rw [show S.contains a = true by simpa using q] at h2
  cases h2
abbrev lLog : List Nat := [973210081, 1006764513, 989987297, 1023541729, 1040318945, 1057096161, 1107427809, 1124208385, 1073873377, 1090650593, 1140981811]
abbrev lPad : List Nat := [1174536577, 1191313457]
abbrev lRule : List Nat := [1493303345, 1510080561]
abbrev lYes : List Nat := [1526857889, 1543635105, 1560412321, 1577266177, 1476526881]
abbrev lPair : List Nat := [1627521217, 1610744001, 1644298625, 1661078529, 1476526881]
abbrev lTerm : List Nat := [1694629937, 1677852721, 1711407153]
abbrev lEd : List Nat := [1761738801, 1778516017, 1795293233]
abbrev eqL (L : List Nat) (σ σ' : Mm) : Prop := ∀ a ∈ L, Mi σ' a = Mi σ a ∧ Ml σ' a = Ml σ a
theorem logM_s {σ σ' : Mm} (h : eqL lLog σ σ') (e1 : (Mi σ' 184680536 0 10) = (Mi σ 184680536 0 10)) (e3 : IR (Mi σ' 184680536 0 16)) (i1 : logM σ) : logM σ' := by
  unfold logM stOk chM chB at i1 ⊢
  rw [e1, (h 973210081 (by decide)).1, (h 1006764513 (by decide)).1, (h 989987297 (by decide)).1, (h 1023541729 (by decide)).1, (h 1040318945 (by decide)).1, (h 1057096161 (by decide)).1, (h 1107427809 (by decide)).1, (h 1124208385 (by decide)).1]
  exact ⟨i1.1, e3, i1.2.2⟩
theorem logX_s {σ σ' : Mm} (h : eqL lLog σ σ') (e1 : (Mi σ' 184680536 0 10) = (Mi σ 184680536 0 10)) (i2 : logX σ) : logX σ' := by
  unfold logX at i2 ⊢
  rw [e1, (h 973210081 (by decide)).1, (h 1006764513 (by decide)).1, (h 989987297 (by decide)).1, (h 1023541729 (by decide)).1, (h 1040318945 (by decide)).1, (h 1073873377 (by decide)).1, (h 1090650593 (by decide)).1, (h 1140981811 (by decide)).2]
  exact i2
theorem hasR_s {σ σ' : Mm} (h : eqL [1140981811] σ σ') (e1 : (Mi σ' 184680536 0 10) = (Mi σ 184680536 0 10)) (e2 : 0 ≤ (Mi σ' 184680536 0 13) ∧ (Mi σ' 184680536 0 13) ≤ 8) (e3 : (Mi σ' 184680536 0 16) = 0 ∨ (Mi σ' 184680536 0 16) = 1) (e4 : 0 ≤ (Mi σ' 184680536 0 35) ∧ (Mi σ' 184680536 0 35) ≤ 8) (i : hasR σ) : hasR σ' := by
  unfold hasR at i ⊢
  rw [e1, (h 1140981811 (by decide)).2]
  exact ⟨i.1, e2, e3, e4⟩
theorem padR_s {σ σ' : Mm} (h : eqL lPad σ σ') (i : padR σ) : padR σ' := by
  unfold padR at i ⊢
  rw [(h 1174536577 (by decide)).1, (h 1191313457 (by decide)).1]
  exact i
theorem ruleR_s {σ σ' : Mm} (h : eqL lRule σ σ') (e : (Mi σ' 184680536 0 38) = (Mi σ 184680536 0 38)) (i : ruleR σ) : ruleR σ' := by
  unfold ruleR at i ⊢
  rw [e, (h 1493303345 (by decide)).1, (h 1510080561 (by decide)).1]
  exact i
theorem yesR_s {σ σ' : Mm} (h : eqL lYes σ σ') (e : (Mi σ' 184680536 0 43) = (Mi σ 184680536 0 43)) (i : yesR σ) : yesR σ' := by
  unfold yesR at i ⊢
  rw [e, (h 1526857889 (by decide)).1, (h 1543635105 (by decide)).1, (h 1560412321 (by decide)).1, (h 1577266177 (by decide)).1, (h 1476526881 (by decide)).1]
  exact i
theorem pairS_s {σ σ' : Mm} (h : eqL lPair σ σ') (e : (Mi σ' 184680536 0 50) = (Mi σ 184680536 0 50)) (i : pairS σ) : pairS σ' := pairS_eq (fun a ha => (h a ha).1) e i
theorem termR_s {σ σ' : Mm} (h : eqL lTerm σ σ') (e : (Mi σ' 184680536 0 54) = (Mi σ 184680536 0 54)) (i : termR σ) : termR σ' := by
  unfold termR at i ⊢
  rw [e, (h 1694629937 (by decide)).1, (h 1677852721 (by decide)).1, (h 1711407153 (by decide)).1]
  exact i
theorem edR_s {σ σ' : Mm} (h : eqL lEd σ σ') (e : (Mi σ' 184680536 0 60) = (Mi σ 184680536 0 60)) (i : edR σ) : edR σ' := by
  unfold edR at i ⊢
  rw [e, (h 1761738801 (by decide)).1, (h 1778516017 (by decide)).1, (h 1795293233 (by decide)).1]
  exact i
def mFr (σ σ' : Mm) : Prop := Fr allM σ σ'
/-- the end of a call of the check: what came of it, and what stays -/
abbrev kM (σ : Mm) (o : Int → Mm → Prop) (k : Int → Mm → Prop) : Prop := ∀ r σ', o r σ' → mFr σ σ' → mI σ' → k r σ'
theorem kM_0 {σ : Mm} {o k : Int → Mm → Prop} (hI : mI σ) (h : kM σ o k) {r : Int} (ho : o r σ) : k r σ := h r σ ho Fr.rfl' hI
theorem kM_s {σ σ' : Mm} {o k : Int → Mm → Prop} (hI : mI σ) (h : kM σ o k) {r : Int} (hF : mFr σ σ') (hs : same [] [] σ σ') (ho : o r σ') : k r σ' := h r σ' ho hF (mI_same hs hI)
theorem same_sI {S : List Nat} {fs : List Int} {σ : Mm} {r : Nat} {j k v : Int} (hr : r ∈ S) (hm : r ≠ 184680536) : same S fs σ (sI σ r j k v) := ⟨fun a _ hn => ⟨by
  have hne : a ≠ r := fun e => hn (e ▸ hr)
  refine Mi_n ?_
  cases hb : Nat.beq a r with
  | false => rfl
  | true => exact absurd (Nat.eq_of_beq_eq_true hb) hne, rfl⟩, fun f _ _ => by
  have : Mi (sI σ r j k v) 184680536 = Mi σ 184680536 := Mi_n (by
    cases hb : Nat.beq 184680536 r with
    | false => rfl
    | true => exact absurd (Nat.eq_of_beq_eq_true hb).symm hm)
  rw [this]⟩
theorem same_sL {S : List Nat} {fs : List Int} {σ : Mm} {r : Nat} {j k : Int} {v : Int64} (hr : r ∈ S) : same S fs σ (sL σ r j k v) := ⟨fun a _ hn => ⟨rfl, by
  have hne : a ≠ r := fun e => hn (e ▸ hr)
  refine Ml_n ?_
  cases hb : Nat.beq a r with
  | false => rfl
  | true => exact absurd (Nat.eq_of_beq_eq_true hb) hne⟩, fun f _ _ => rfl⟩
theorem same_sF {S : List Nat} {fs : List Int} {σ : Mm} {f v : Int} (hf : f ∈ fs) : same S fs σ (sI σ 184680536 0 f v) := ⟨fun a ha _ => ⟨by
  refine Mi_n ?_
  cases hb : Nat.beq a 184680536 with
  | false => rfl
  | true =>
    rw [Nat.eq_of_beq_eq_true hb] at ha
    revert ha; decide, rfl⟩, fun g _ hn => by rw [Mi_s, upd1_n (fun (e : g = f) => hn (by rw [e]; exact hf))]⟩
def oWord (σ : Mm) (h w r : Int) (σ' : Mm) : Prop :=
  if h < 0 ∨ 5 < h then r = -1 ∧ same [] [] σ σ'
  else if w < 1 ∨ 99 < w then r = -2 ∧ same [] [] σ σ'
  else if (Mi σ 1191313457 0) h = 8 then r = -4 ∧ same [] [] σ σ'
  else r = (Mi σ 1191313457 0) h + 1 ∧ same [1174536577, 1191313457] [] σ σ' ∧ (Mi σ' 1174536577 0) = upd1 (Mi σ 1174536577 0) (8 * h + (Mi σ 1191313457 0) h) w ∧ (Mi σ' 1191313457 0) = upd1 (Mi σ 1191313457 0) h ((Mi σ 1191313457 0) h + 1)
theorem m_word {h w : Int} {σ : Mm} {k : Int → Mm → Prop} (hI : mI σ) (hh : IR h) (hw : IR w) (hk : kM σ (oWord σ h w) k) : OkI 152 [vR 184680536 0, vI h, vI w] σ k := by
  refine okI_run mkX11_word (Nat.le_of_ble_eq_true rfl) (fun K => ?_)
  have end0 : ∀ r, oWord σ h w r σ → k r σ := fun r ho => kM_0 hI hk ho
  simp only [↓kI_e, ↓kL_e, ↓kR_e, ↓kV_e, ↓x1, ↓x2, ↓x4, ↓x5, ↓x6, ↓x7, ↓x8, ↓x9, ↓x10, ↓x11, ↓x12, ↓x13, ↓x17, ↓x18, ↓x19, ↓x20, ↓x21, ↓x22, ↓x14, ↓x15, ↓x23, ↓x24, ↓x25, ↓x26, ↓x27, ↓x28, ↓x29, ↓x30, ↓x31, ↓x32, ↓x33, ↓x34, ↓x35i, ↓x35r, ↓x36, ↓x37, ↓x38, ↓x39, ↓x40, ↓x41, ↓x72, ↓x42, ↓x43, ↓x44, ↓x45, ↓x46, ↓x47, ↓x48, ↓x50, ↓x51, ↓x52, ↓x53, ↓x54, ↓x55_0, ↓x56_0, ↓x55_1, ↓x56_1, ↓x55_2, ↓x56_2, ↓x55_3, ↓x56_3, ↓x55_4, ↓x56_4, ↓x55_5, ↓x56_5, ↓x57, ↓x58, ↓x59, ↓x60, ↓x61, ↓x62, ↓x63, ↓x64, ↓x65, ↓x75, ↓x67, ↓x77, ↓x68, ↓x78, ↓x69, ↓x79, ↓x70, ↓x73, ↓x74, ↓ldI_0, ↓ldG_0, ↓ldR_0, ↓stK_0, ↓stK2_0, ↓ldI_1, ↓ldG_1, ↓ldR_1, ↓stK_1I, ↓stK_1R, ↓stK_1N, ↓stK_1G, ↓stK2_1I, ↓stK2_1R, ↓stK2_1N, ↓stK2_1G, ↓ldI_2, ↓ldG_2, ↓ldR_2, ↓stK_2I, ↓stK_2R, ↓stK_2N, ↓stK_2G, ↓stK2_2I, ↓stK2_2R, ↓stK2_2N, ↓stK2_2G, ↓ldI_3, ↓ldG_3, ↓ldR_3, ↓stK_3I, ↓stK_3R, ↓stK_3N, ↓stK_3G, ↓stK2_3I, ↓stK2_3R, ↓stK2_3N, ↓stK2_3G, ↓ldI_4, ↓ldG_4, ↓ldR_4, ↓stK_4I, ↓stK_4R, ↓stK_4N, ↓stK_4G, ↓stK2_4I, ↓stK2_4R, ↓stK2_4N, ↓stK2_4G, ↓ldI_5, ↓ldG_5, ↓ldR_5, ↓stK_5I, ↓stK_5R, ↓stK_5N, ↓stK_5G, ↓stK2_5I, ↓stK2_5R, ↓stK2_5N, ↓stK2_5G, ↓ldI_6, ↓ldG_6, ↓ldR_6, ↓stK_6I, ↓stK_6R, ↓stK_6N, ↓stK_6G, ↓stK2_6I, ↓stK2_6R, ↓stK2_6N, ↓stK2_6G, ↓ldI_7, ↓ldG_7, ↓ldR_7, ↓stK_7I, ↓stK_7R, ↓stK_7N, ↓stK_7G, ↓stK2_7I, ↓stK2_7R, ↓stK2_7N, ↓stK2_7G, ↓ldI_8, ↓ldG_8, ↓ldR_8, ↓stK_8I, ↓stK_8R, ↓stK_8N, ↓stK_8G, ↓stK2_8I, ↓stK2_8R, ↓stK2_8N, ↓stK2_8G, ↓ldI_9, ↓ldG_9, ↓ldR_9, ↓stK_9I, ↓stK_9R, ↓stK_9N, ↓stK_9G, ↓stK2_9I, ↓stK2_9R, ↓stK2_9N, ↓stK2_9G, ↓ldI_10, ↓ldG_10, ↓ldR_10, ↓stK_10I, ↓stK_10R, ↓stK_10N, ↓stK_10G, ↓stK2_10I, ↓stK2_10R, ↓stK2_10N, ↓stK2_10G, ↓ldI_11, ↓ldG_11, ↓ldR_11, ↓stK_11I, ↓stK_11R, ↓stK_11N, ↓stK_11G, ↓stK2_11I, ↓stK2_11R, ↓stK2_11N, ↓stK2_11G, ↓ldI_12, ↓ldG_12, ↓ldR_12, ↓stK_12I, ↓stK_12R, ↓stK_12N, ↓stK_12G, ↓stK2_12I, ↓stK2_12R, ↓stK2_12N, ↓stK2_12G, ↓pN_0, ↓pN_1, ↓pN_2, ↓pN_3, ↓pN_4, ↓pN_5, ↓pN_6, ↓pN_7, ↓ctI_e, ↓ctL_e, ↓ctR_e, ↓ctV_e, ↓tsK_n, ↓tsK_c, ↓go_K, ↓go_X, csum_n, csum_I, csum_R, csum_G, hdCls_r, isCls, elemR, rg_x_pads, rg_log_words, rg_row_pads, rg_row_words, rg_row_led, alen, IR, Nat.reduceMod, Nat.reduceDiv, Nat.reduceSub, Nat.reduceAdd, Nat.reduceLeDiff, Nat.reduceEqDiff, Nat.reduceLT, Int.reduceLE, Int.reduceLT, Int.reduceEq, Int.reduceNe, Int.reduceAdd, Int.reduceSub, Int.reduceNeg, Int.reduceMul, ne_eq, not_true_eq_false, not_false_eq_true, true_and, and_true, false_and, and_false, true_or, or_true, false_or, or_false, and_self, or_self, true_implies, forall_const, false_implies, implies_true, reduceIte, reduceCtorEq, eq_self, Int.le_refl, Nat.le_refl, Int.reduceNatCast, Int.cast_ofNat_Int, ↓eX11_word_0, ↓eX11_word_1, ↓eX11_word_2, ↓eX11_word_3, lX11_word, ent0, entI, entR, entG, ent_n, List.length_cons, List.length_nil, List.replicate, List.cons_append, List.nil_append, Nat.reduceSub, Nat.reduceAdd]
  refine m_isHand hh (fun a b => ?_) (fun a => ?_) <;> simp only [↓kI_e, ↓kL_e, ↓kR_e, ↓kV_e, ↓x1, ↓x2, ↓x4, ↓x5, ↓x6, ↓x7, ↓x8, ↓x9, ↓x10, ↓x11, ↓x12, ↓x13, ↓x17, ↓x18, ↓x19, ↓x20, ↓x21, ↓x22, ↓x14, ↓x15, ↓x23, ↓x24, ↓x25, ↓x26, ↓x27, ↓x28, ↓x29, ↓x30, ↓x31, ↓x32, ↓x33, ↓x34, ↓x35i, ↓x35r, ↓x36, ↓x37, ↓x38, ↓x39, ↓x40, ↓x41, ↓x72, ↓x42, ↓x43, ↓x44, ↓x45, ↓x46, ↓x47, ↓x48, ↓x50, ↓x51, ↓x52, ↓x53, ↓x54, ↓x55_0, ↓x56_0, ↓x55_1, ↓x56_1, ↓x55_2, ↓x56_2, ↓x55_3, ↓x56_3, ↓x55_4, ↓x56_4, ↓x55_5, ↓x56_5, ↓x57, ↓x58, ↓x59, ↓x60, ↓x61, ↓x62, ↓x63, ↓x64, ↓x65, ↓x75, ↓x67, ↓x77, ↓x68, ↓x78, ↓x69, ↓x79, ↓x70, ↓x73, ↓x74, ↓ldI_0, ↓ldG_0, ↓ldR_0, ↓stK_0, ↓stK2_0, ↓ldI_1, ↓ldG_1, ↓ldR_1, ↓stK_1I, ↓stK_1R, ↓stK_1N, ↓stK_1G, ↓stK2_1I, ↓stK2_1R, ↓stK2_1N, ↓stK2_1G, ↓ldI_2, ↓ldG_2, ↓ldR_2, ↓stK_2I, ↓stK_2R, ↓stK_2N, ↓stK_2G, ↓stK2_2I, ↓stK2_2R, ↓stK2_2N, ↓stK2_2G, ↓ldI_3, ↓ldG_3, ↓ldR_3, ↓stK_3I, ↓stK_3R, ↓stK_3N, ↓stK_3G, ↓stK2_3I, ↓stK2_3R, ↓stK2_3N, ↓stK2_3G, ↓ldI_4, ↓ldG_4, ↓ldR_4, ↓stK_4I, ↓stK_4R, ↓stK_4N, ↓stK_4G, ↓stK2_4I, ↓stK2_4R, ↓stK2_4N, ↓stK2_4G, ↓ldI_5, ↓ldG_5, ↓ldR_5, ↓stK_5I, ↓stK_5R, ↓stK_5N, ↓stK_5G, ↓stK2_5I, ↓stK2_5R, ↓stK2_5N, ↓stK2_5G, ↓ldI_6, ↓ldG_6, ↓ldR_6, ↓stK_6I, ↓stK_6R, ↓stK_6N, ↓stK_6G, ↓stK2_6I, ↓stK2_6R, ↓stK2_6N, ↓stK2_6G, ↓ldI_7, ↓ldG_7, ↓ldR_7, ↓stK_7I, ↓stK_7R, ↓stK_7N, ↓stK_7G, ↓stK2_7I, ↓stK2_7R, ↓stK2_7N, ↓stK2_7G, ↓ldI_8, ↓ldG_8, ↓ldR_8, ↓stK_8I, ↓stK_8R, ↓stK_8N, ↓stK_8G, ↓stK2_8I, ↓stK2_8R, ↓stK2_8N, ↓stK2_8G, ↓ldI_9, ↓ldG_9, ↓ldR_9, ↓stK_9I, ↓stK_9R, ↓stK_9N, ↓stK_9G, ↓stK2_9I, ↓stK2_9R, ↓stK2_9N, ↓stK2_9G, ↓ldI_10, ↓ldG_10, ↓ldR_10, ↓stK_10I, ↓stK_10R, ↓stK_10N, ↓stK_10G, ↓stK2_10I, ↓stK2_10R, ↓stK2_10N, ↓stK2_10G, ↓ldI_11, ↓ldG_11, ↓ldR_11, ↓stK_11I, ↓stK_11R, ↓stK_11N, ↓stK_11G, ↓stK2_11I, ↓stK2_11R, ↓stK2_11N, ↓stK2_11G, ↓ldI_12, ↓ldG_12, ↓ldR_12, ↓stK_12I, ↓stK_12R, ↓stK_12N, ↓stK_12G, ↓stK2_12I, ↓stK2_12R, ↓stK2_12N, ↓stK2_12G, ↓pN_0, ↓pN_1, ↓pN_2, ↓pN_3, ↓pN_4, ↓pN_5, ↓pN_6, ↓pN_7, ↓ctI_e, ↓ctL_e, ↓ctR_e, ↓ctV_e, ↓tsK_n, ↓tsK_c, ↓go_K, ↓go_X, csum_n, csum_I, csum_R, csum_G, hdCls_r, isCls, elemR, rg_x_pads, rg_log_words, rg_row_pads, rg_row_words, rg_row_led, alen, IR, Nat.reduceMod, Nat.reduceDiv, Nat.reduceSub, Nat.reduceAdd, Nat.reduceLeDiff, Nat.reduceEqDiff, Nat.reduceLT, Int.reduceLE, Int.reduceLT, Int.reduceEq, Int.reduceNe, Int.reduceAdd, Int.reduceSub, Int.reduceNeg, Int.reduceMul, ne_eq, not_true_eq_false, not_false_eq_true, true_and, and_true, false_and, and_false, true_or, or_true, false_or, or_false, and_self, or_self, true_implies, forall_const, false_implies, implies_true, reduceIte, reduceCtorEq, eq_self, Int.le_refl, Nat.le_refl, Int.reduceNatCast, Int.cast_ofNat_Int, ↓eX11_word_0, ↓eX11_word_1, ↓eX11_word_2, ↓eX11_word_3, lX11_word, ent0, entI, entR, entG, ent_n, List.length_cons, List.length_nil, List.replicate, List.cons_append, List.nil_append, Nat.reduceSub, Nat.reduceAdd]
  · have hp := hI.2.2.2.1 h a (by omega)
    refine ⟨hw, m_in hw (by first | omega | (unfold IR; omega)) (by first | omega | (unfold IR; omega)) (fun c d => ?_) (fun c => ?_)⟩ <;> simp only [↓kI_e, ↓kL_e, ↓kR_e, ↓kV_e, ↓x1, ↓x2, ↓x4, ↓x5, ↓x6, ↓x7, ↓x8, ↓x9, ↓x10, ↓x11, ↓x12, ↓x13, ↓x17, ↓x18, ↓x19, ↓x20, ↓x21, ↓x22, ↓x14, ↓x15, ↓x23, ↓x24, ↓x25, ↓x26, ↓x27, ↓x28, ↓x29, ↓x30, ↓x31, ↓x32, ↓x33, ↓x34, ↓x35i, ↓x35r, ↓x36, ↓x37, ↓x38, ↓x39, ↓x40, ↓x41, ↓x72, ↓x42, ↓x43, ↓x44, ↓x45, ↓x46, ↓x47, ↓x48, ↓x50, ↓x51, ↓x52, ↓x53, ↓x54, ↓x55_0, ↓x56_0, ↓x55_1, ↓x56_1, ↓x55_2, ↓x56_2, ↓x55_3, ↓x56_3, ↓x55_4, ↓x56_4, ↓x55_5, ↓x56_5, ↓x57, ↓x58, ↓x59, ↓x60, ↓x61, ↓x62, ↓x63, ↓x64, ↓x65, ↓x75, ↓x67, ↓x77, ↓x68, ↓x78, ↓x69, ↓x79, ↓x70, ↓x73, ↓x74, ↓ldI_0, ↓ldG_0, ↓ldR_0, ↓stK_0, ↓stK2_0, ↓ldI_1, ↓ldG_1, ↓ldR_1, ↓stK_1I, ↓stK_1R, ↓stK_1N, ↓stK_1G, ↓stK2_1I, ↓stK2_1R, ↓stK2_1N, ↓stK2_1G, ↓ldI_2, ↓ldG_2, ↓ldR_2, ↓stK_2I, ↓stK_2R, ↓stK_2N, ↓stK_2G, ↓stK2_2I, ↓stK2_2R, ↓stK2_2N, ↓stK2_2G, ↓ldI_3, ↓ldG_3, ↓ldR_3, ↓stK_3I, ↓stK_3R, ↓stK_3N, ↓stK_3G, ↓stK2_3I, ↓stK2_3R, ↓stK2_3N, ↓stK2_3G, ↓ldI_4, ↓ldG_4, ↓ldR_4, ↓stK_4I, ↓stK_4R, ↓stK_4N, ↓stK_4G, ↓stK2_4I, ↓stK2_4R, ↓stK2_4N, ↓stK2_4G, ↓ldI_5, ↓ldG_5, ↓ldR_5, ↓stK_5I, ↓stK_5R, ↓stK_5N, ↓stK_5G, ↓stK2_5I, ↓stK2_5R, ↓stK2_5N, ↓stK2_5G, ↓ldI_6, ↓ldG_6, ↓ldR_6, ↓stK_6I, ↓stK_6R, ↓stK_6N, ↓stK_6G, ↓stK2_6I, ↓stK2_6R, ↓stK2_6N, ↓stK2_6G, ↓ldI_7, ↓ldG_7, ↓ldR_7, ↓stK_7I, ↓stK_7R, ↓stK_7N, ↓stK_7G, ↓stK2_7I, ↓stK2_7R, ↓stK2_7N, ↓stK2_7G, ↓ldI_8, ↓ldG_8, ↓ldR_8, ↓stK_8I, ↓stK_8R, ↓stK_8N, ↓stK_8G, ↓stK2_8I, ↓stK2_8R, ↓stK2_8N, ↓stK2_8G, ↓ldI_9, ↓ldG_9, ↓ldR_9, ↓stK_9I, ↓stK_9R, ↓stK_9N, ↓stK_9G, ↓stK2_9I, ↓stK2_9R, ↓stK2_9N, ↓stK2_9G, ↓ldI_10, ↓ldG_10, ↓ldR_10, ↓stK_10I, ↓stK_10R, ↓stK_10N, ↓stK_10G, ↓stK2_10I, ↓stK2_10R, ↓stK2_10N, ↓stK2_10G, ↓ldI_11, ↓ldG_11, ↓ldR_11, ↓stK_11I, ↓stK_11R, ↓stK_11N, ↓stK_11G, ↓stK2_11I, ↓stK2_11R, ↓stK2_11N, ↓stK2_11G, ↓ldI_12, ↓ldG_12, ↓ldR_12, ↓stK_12I, ↓stK_12R, ↓stK_12N, ↓stK_12G, ↓stK2_12I, ↓stK2_12R, ↓stK2_12N, ↓stK2_12G, ↓pN_0, ↓pN_1, ↓pN_2, ↓pN_3, ↓pN_4, ↓pN_5, ↓pN_6, ↓pN_7, ↓ctI_e, ↓ctL_e, ↓ctR_e, ↓ctV_e, ↓tsK_n, ↓tsK_c, ↓go_K, ↓go_X, csum_n, csum_I, csum_R, csum_G, hdCls_r, isCls, elemR, rg_x_pads, rg_log_words, rg_row_pads, rg_row_words, rg_row_led, alen, IR, Nat.reduceMod, Nat.reduceDiv, Nat.reduceSub, Nat.reduceAdd, Nat.reduceLeDiff, Nat.reduceEqDiff, Nat.reduceLT, Int.reduceLE, Int.reduceLT, Int.reduceEq, Int.reduceNe, Int.reduceAdd, Int.reduceSub, Int.reduceNeg, Int.reduceMul, ne_eq, not_true_eq_false, not_false_eq_true, true_and, and_true, false_and, and_false, true_or, or_true, false_or, or_false, and_self, or_self, true_implies, forall_const, false_implies, implies_true, reduceIte, reduceCtorEq, eq_self, Int.le_refl, Nat.le_refl, Int.reduceNatCast, Int.cast_ofNat_Int, ↓eX11_word_0, ↓eX11_word_1, ↓eX11_word_2, ↓eX11_word_3, lX11_word, ent0, entI, entR, entG, ent_n, List.length_cons, List.length_nil, List.replicate, List.cons_append, List.nil_append, Nat.reduceSub, Nat.reduceAdd]
    · refine ⟨by omega, (by first | omega | (unfold IR; omega)), fun f => ?_, fun f => end0 _ (by unfold oWord; rw [if_neg (by omega), if_neg (by omega), if_pos f]; exact ⟨rfl, same_rfl⟩)⟩
      have e1 : ∀ v, Mi (sI σ 1174536577 0 (8 * h + (Mi σ 1191313457 0) h) v) 1191313457 0 h = (Mi σ 1191313457 0) h := fun v => by rw [Mi_n rfl]
      have e2 : ∀ v u, Mi (sI (sI σ 1174536577 0 (8 * h + (Mi σ 1191313457 0) h) v) 1191313457 0 h u) 1191313457 0 h = u := fun v u => by rw [Mi_s, upd1_s]
      rw [e1, e2]
      refine ⟨by omega, by omega, by omega, by omega, by omega, ?_⟩
      have hs : same [1174536577, 1191313457] [] σ (sI (sI σ 1174536577 0 (8 * h + (Mi σ 1191313457 0) h) w) 1191313457 0 h ((Mi σ 1191313457 0) h + 1)) := same_trans (same_sI (by decide) (by decide)) (same_sI (by decide) (by decide))
      obtain ⟨i1, i2, i3, i4, i5, i6, i7, i8, i9⟩ := hI
      refine hk _ _ (by unfold oWord; rw [if_neg (by omega), if_neg (by omega), if_neg f]; exact ⟨rfl, hs, by rw [Mi_n rfl, Mi_s], by rw [Mi_s, Mi_n rfl]⟩) (Fr.sI (by decide) (Fr.sI (by decide) Fr.rfl')) ⟨logM_s (hs.on _ rfl) (hs.f _ rfl rfl) (by rw [hs.f 16 rfl rfl]; exact i1.2.1) i1, logX_s (hs.on _ rfl) (hs.f _ rfl rfl) i2, hasR_s (hs.on _ rfl) (hs.f _ rfl rfl) (by rw [hs.f 13 rfl rfl]; exact i3.2.1) (by rw [hs.f 16 rfl rfl]; exact i3.2.2.1) (by rw [hs.f 35 rfl rfl]; exact i3.2.2.2) i3, fun g g0 g1 => ?_, ruleR_s (hs.on _ rfl) (hs.f _ rfl rfl) i5, yesR_s (hs.on _ rfl) (hs.f _ rfl rfl) i6, pairS_s (hs.on _ rfl) (hs.f _ rfl rfl) i7, termR_s (hs.on _ rfl) (hs.f _ rfl rfl) i8, edR_s (hs.on _ rfl) (hs.f _ rfl rfl) i9⟩
      have hg := i4 g g0 g1
      have e3 : Mi (sI (sI σ 1174536577 0 (8 * h + (Mi σ 1191313457 0) h) w) 1191313457 0 h ((Mi σ 1191313457 0) h + 1)) 1191313457 0 g = if g = h then (Mi σ 1191313457 0) h + 1 else (Mi σ 1191313457 0) g := by rw [Mi_s, Mi_n rfl, upd1_e]
      rw [e3]
      refine ⟨by split <;> omega, fun i i0 i1 => ?_⟩
      rw [Mi_n rfl, Mi_s, upd1_e]
      split
      · omega
      · rename_i c
        exact hg.2 i i0 (by split at i1 <;> rename_i d; subst d; omega; exact i1)
    · exact end0 _ (by unfold oWord; rw [if_neg (by omega), if_pos (by omega)]; exact ⟨rfl, same_rfl⟩)
  · exact end0 _ (by unfold oWord; rw [if_pos (by omega)]; exact ⟨rfl, same_rfl⟩)
