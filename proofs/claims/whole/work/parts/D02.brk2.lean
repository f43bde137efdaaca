/-! the class: lines -/
def brD (σ : Mm) (j N w : Int) : Prop := Mi σ 151257096 j 3 = N ∧ (Mi σ 939786321) j N = 0 ∧ ∀ i, 0 ≤ i → i < N → bkE ((Mi σ 923009097) j) N w ((Mi σ 939786321) j) i ((Mi σ 956563537) j i - i)
theorem bkE_u {f : Int → Int} {N w : Int} {b b' : Int → Int} {a i p : Int} (he : ∀ x, x ≠ a → b' x = b x) (hi : a < i) (h : bkE f N w b i p) : bkE f N w b' i p := by
  have cs : ∀ n, fitP f N w i n → csF f N w b' i n = csF f N w b i n := fun n hn => by
    have := hn.1
    unfold csF
    rw [he (i + n) (by omega)]
  obtain ⟨⟨h1, h2, h3⟩, h4⟩ := h
  have e := he i (by omega)
  refine ⟨⟨h1, by rw [cs p h1, e]; exact h2, fun n hn hp => by rw [cs n hn, e]; exact h3 n hn hp⟩, fun n hn => by rw [cs n hn, e]; exact h4 n hn⟩
theorem x_breakUp {j w : Int} {W : List Int} {σ : Mm} {k : Mm → Prop} (hm : Mi σ 151257096 j 3 = W.length) (hW : W.length ≤ 9) (ha : arL ((Mi σ 923009097) j) W) (hr : ∀ x ∈ W, 0 ≤ x ∧ x ≤ 10) (hw : 10 ≤ w ∧ w ≤ 60) (hk : ∀ σ', FrI [939786321, 956563537] j σ σ' → brD σ' j W.length w → k σ') : OkV 110 [vR 151257096 j, vI w] σ k := by
  have hf : ∀ x, 0 ≤ x → x < (W.length : Int) → 0 ≤ (Mi σ 923009097) j x ∧ (Mi σ 923009097) j x ≤ 10 := fun x h0 h1 => by
    obtain ⟨n, rfl⟩ := Int.eq_ofNat_of_zero_le h0
    have hn : n < W.length := by omega
    rw [ha n W[n] (List.getElem?_eq_getElem hn)]
    exact hr _ (List.getElem_mem hn)
  generalize hff : (Mi σ 923009097) j = f at *
  refine okV_loop mkX1_breakUp (fun b q ls σ' => b = 1001 ∧ FrI [939786321, 956563537] j σ σ' ∧ ∃ i : Nat, i ≤ W.length ∧ q = i ∧ ls = [some (vR 151257096 j), some (vI w), some (vI ((i : Int) - 1))] ∧ (Mi σ' 939786321) j W.length = 0 ∧ bRg W.length ((Mi σ' 939786321) j) i ∧ ∀ a : Int, i ≤ a → a < W.length → bkE f W.length w ((Mi σ' 939786321) j) a ((Mi σ' 956563537) j a - a)) (Nat.le_of_ble_eq_true rfl) (fun K hK => ?_) (fun b q ls σ' hJ K hK => ?_)
  · simp -implicitDefEqProofs only [↓kI_e, ↓kL_e, ↓kR_e, ↓kV_e, ↓x1, ↓x2, ↓x4, ↓x5, ↓x6, ↓x7, ↓x8, ↓x9, ↓x10, ↓x11, ↓x12, ↓x13, ↓x17, ↓x18, ↓x19, ↓x20, ↓x21, ↓x22, ↓x14, ↓x15, ↓x23, ↓x24, ↓x25, ↓x26, ↓x27, ↓x28, ↓x29, ↓x30, ↓x31, ↓x32, ↓x33, ↓x34, ↓x35i, ↓x35r, ↓x36, ↓x37, ↓x38, ↓x39, ↓x40, ↓x41, ↓x72, ↓x42, ↓x43, ↓x44, ↓x45, ↓x46, ↓x47, ↓x48, ↓x50, ↓x51, ↓x52, ↓x53, ↓x54, ↓x55_0, ↓x56_0, ↓x55_1, ↓x56_1, ↓x55_2, ↓x56_2, ↓x55_3, ↓x56_3, ↓x55_4, ↓x56_4, ↓x55_5, ↓x56_5, ↓x57, ↓x58, ↓x59, ↓x60, ↓x61, ↓x62, ↓x63, ↓x64, ↓x65, ↓x75, ↓x67, ↓x77, ↓x68, ↓x78, ↓x69, ↓x79, ↓x70, ↓x73, ↓x74, ↓ldI_0, ↓ldG_0, ↓ldR_0, ↓stK_0, ↓stK2_0, ↓ldI_1, ↓ldG_1, ↓ldR_1, ↓stK_1I, ↓stK_1R, ↓stK_1N, ↓stK_1G, ↓stK2_1I, ↓stK2_1R, ↓stK2_1N, ↓stK2_1G, ↓ldI_2, ↓ldG_2, ↓ldR_2, ↓stK_2I, ↓stK_2R, ↓stK_2N, ↓stK_2G, ↓stK2_2I, ↓stK2_2R, ↓stK2_2N, ↓stK2_2G, ↓ldI_3, ↓ldG_3, ↓ldR_3, ↓stK_3I, ↓stK_3R, ↓stK_3N, ↓stK_3G, ↓stK2_3I, ↓stK2_3R, ↓stK2_3N, ↓stK2_3G, ↓ldI_4, ↓ldG_4, ↓ldR_4, ↓stK_4I, ↓stK_4R, ↓stK_4N, ↓stK_4G, ↓stK2_4I, ↓stK2_4R, ↓stK2_4N, ↓stK2_4G, ↓ldI_5, ↓ldG_5, ↓ldR_5, ↓stK_5I, ↓stK_5R, ↓stK_5N, ↓stK_5G, ↓stK2_5I, ↓stK2_5R, ↓stK2_5N, ↓stK2_5G, ↓ldI_6, ↓ldG_6, ↓ldR_6, ↓stK_6I, ↓stK_6R, ↓stK_6N, ↓stK_6G, ↓stK2_6I, ↓stK2_6R, ↓stK2_6N, ↓stK2_6G, ↓ldI_7, ↓ldG_7, ↓ldR_7, ↓stK_7I, ↓stK_7R, ↓stK_7N, ↓stK_7G, ↓stK2_7I, ↓stK2_7R, ↓stK2_7N, ↓stK2_7G, ↓ldI_8, ↓ldG_8, ↓ldR_8, ↓stK_8I, ↓stK_8R, ↓stK_8N, ↓stK_8G, ↓stK2_8I, ↓stK2_8R, ↓stK2_8N, ↓stK2_8G, ↓ldI_9, ↓ldG_9, ↓ldR_9, ↓stK_9I, ↓stK_9R, ↓stK_9N, ↓stK_9G, ↓stK2_9I, ↓stK2_9R, ↓stK2_9N, ↓stK2_9G, ↓ldI_10, ↓ldG_10, ↓ldR_10, ↓stK_10I, ↓stK_10R, ↓stK_10N, ↓stK_10G, ↓stK2_10I, ↓stK2_10R, ↓stK2_10N, ↓stK2_10G, ↓ldI_11, ↓ldG_11, ↓ldR_11, ↓stK_11I, ↓stK_11R, ↓stK_11N, ↓stK_11G, ↓stK2_11I, ↓stK2_11R, ↓stK2_11N, ↓stK2_11G, ↓ldI_12, ↓ldG_12, ↓ldR_12, ↓stK_12I, ↓stK_12R, ↓stK_12N, ↓stK_12G, ↓stK2_12I, ↓stK2_12R, ↓stK2_12N, ↓stK2_12G, ↓pN_0, ↓pN_1, ↓pN_2, ↓pN_3, ↓pN_4, ↓pN_5, ↓pN_6, ↓pN_7, ↓ctI_e, ↓ctL_e, ↓ctR_e, ↓ctV_e, ↓tsK_n, ↓tsK_c, ↓go_K, ↓go_X, csum_n, csum_I, csum_R, csum_G, hdCls_r, isCls, elemR, rg_x_pads, rg_log_words, rg_row_pads, rg_row_words, rg_row_led, alen, IR, Nat.reduceMod, Nat.reduceDiv, Nat.reduceSub, Nat.reduceAdd, Nat.reduceLeDiff, Nat.reduceEqDiff, Nat.reduceLT, Int.reduceLE, Int.reduceLT, Int.reduceEq, Int.reduceNe, Int.reduceAdd, Int.reduceSub, Int.reduceNeg, Int.reduceMul, ne_eq, not_true_eq_false, not_false_eq_true, true_and, and_true, false_and, and_false, true_or, or_true, false_or, or_false, and_self, or_self, true_implies, forall_const, false_implies, implies_true, reduceIte, reduceCtorEq, eq_self, Int.le_refl, Nat.le_refl, Int.reduceNatCast, Int.cast_ofNat_Int, ↓eX1_breakUp_0, ↓eX1_breakUp_1, ↓eX1_breakUp_2, lX1_breakUp, ent0, entI, entR, entG, ent_n, List.length_cons, List.length_nil, List.replicate, List.cons_append, List.nil_append, Nat.reduceSub, Nat.reduceAdd]
    have e3 : Mi (sI σ 939786321 j W.length 0) 151257096 j 3 = W.length := by rw [Mi_n (by decide)]; exact hm
    rw [hm, e3]
    refine ⟨by omega, hK _ _ _ _ (by decide) ⟨rfl, FrI.sI (by decide) FrI.rfl', W.length, by omega, rfl, rfl, ?_, fun x x0 x1 => ?_, fun a a0 a1 => by omega⟩⟩
    · rw [Mi_s, upd1_s]
    · rw [Mi_s, show x = (W.length : Int) by omega, upd1_s]; omega
  · obtain ⟨rfl, hF, i, hi, hq, rfl, hN, hb, hE⟩ := hJ
    have em : Mi σ' 151257096 j 3 = W.length := by rw [(hF.1 _ _ (fun q => absurd q.1 (by decide))).1]; exact hm
    have ew : (Mi σ' 923009097) j = f := by
      rw [← hff]
      rw [(hF.1 923009097 j (fun q => absurd q.1 (by decide))).1]
    simp -implicitDefEqProofs only [↓kI_e, ↓kL_e, ↓kR_e, ↓kV_e, ↓x1, ↓x2, ↓x4, ↓x5, ↓x6, ↓x7, ↓x8, ↓x9, ↓x10, ↓x11, ↓x12, ↓x13, ↓x17, ↓x18, ↓x19, ↓x20, ↓x21, ↓x22, ↓x14, ↓x15, ↓x23, ↓x24, ↓x25, ↓x26, ↓x27, ↓x28, ↓x29, ↓x30, ↓x31, ↓x32, ↓x33, ↓x34, ↓x35i, ↓x35r, ↓x36, ↓x37, ↓x38, ↓x39, ↓x40, ↓x41, ↓x72, ↓x42, ↓x43, ↓x44, ↓x45, ↓x46, ↓x47, ↓x48, ↓x50, ↓x51, ↓x52, ↓x53, ↓x54, ↓x55_0, ↓x56_0, ↓x55_1, ↓x56_1, ↓x55_2, ↓x56_2, ↓x55_3, ↓x56_3, ↓x55_4, ↓x56_4, ↓x55_5, ↓x56_5, ↓x57, ↓x58, ↓x59, ↓x60, ↓x61, ↓x62, ↓x63, ↓x64, ↓x65, ↓x75, ↓x67, ↓x77, ↓x68, ↓x78, ↓x69, ↓x79, ↓x70, ↓x73, ↓x74, ↓ldI_0, ↓ldG_0, ↓ldR_0, ↓stK_0, ↓stK2_0, ↓ldI_1, ↓ldG_1, ↓ldR_1, ↓stK_1I, ↓stK_1R, ↓stK_1N, ↓stK_1G, ↓stK2_1I, ↓stK2_1R, ↓stK2_1N, ↓stK2_1G, ↓ldI_2, ↓ldG_2, ↓ldR_2, ↓stK_2I, ↓stK_2R, ↓stK_2N, ↓stK_2G, ↓stK2_2I, ↓stK2_2R, ↓stK2_2N, ↓stK2_2G, ↓ldI_3, ↓ldG_3, ↓ldR_3, ↓stK_3I, ↓stK_3R, ↓stK_3N, ↓stK_3G, ↓stK2_3I, ↓stK2_3R, ↓stK2_3N, ↓stK2_3G, ↓ldI_4, ↓ldG_4, ↓ldR_4, ↓stK_4I, ↓stK_4R, ↓stK_4N, ↓stK_4G, ↓stK2_4I, ↓stK2_4R, ↓stK2_4N, ↓stK2_4G, ↓ldI_5, ↓ldG_5, ↓ldR_5, ↓stK_5I, ↓stK_5R, ↓stK_5N, ↓stK_5G, ↓stK2_5I, ↓stK2_5R, ↓stK2_5N, ↓stK2_5G, ↓ldI_6, ↓ldG_6, ↓ldR_6, ↓stK_6I, ↓stK_6R, ↓stK_6N, ↓stK_6G, ↓stK2_6I, ↓stK2_6R, ↓stK2_6N, ↓stK2_6G, ↓ldI_7, ↓ldG_7, ↓ldR_7, ↓stK_7I, ↓stK_7R, ↓stK_7N, ↓stK_7G, ↓stK2_7I, ↓stK2_7R, ↓stK2_7N, ↓stK2_7G, ↓ldI_8, ↓ldG_8, ↓ldR_8, ↓stK_8I, ↓stK_8R, ↓stK_8N, ↓stK_8G, ↓stK2_8I, ↓stK2_8R, ↓stK2_8N, ↓stK2_8G, ↓ldI_9, ↓ldG_9, ↓ldR_9, ↓stK_9I, ↓stK_9R, ↓stK_9N, ↓stK_9G, ↓stK2_9I, ↓stK2_9R, ↓stK2_9N, ↓stK2_9G, ↓ldI_10, ↓ldG_10, ↓ldR_10, ↓stK_10I, ↓stK_10R, ↓stK_10N, ↓stK_10G, ↓stK2_10I, ↓stK2_10R, ↓stK2_10N, ↓stK2_10G, ↓ldI_11, ↓ldG_11, ↓ldR_11, ↓stK_11I, ↓stK_11R, ↓stK_11N, ↓stK_11G, ↓stK2_11I, ↓stK2_11R, ↓stK2_11N, ↓stK2_11G, ↓ldI_12, ↓ldG_12, ↓ldR_12, ↓stK_12I, ↓stK_12R, ↓stK_12N, ↓stK_12G, ↓stK2_12I, ↓stK2_12R, ↓stK2_12N, ↓stK2_12G, ↓pN_0, ↓pN_1, ↓pN_2, ↓pN_3, ↓pN_4, ↓pN_5, ↓pN_6, ↓pN_7, ↓ctI_e, ↓ctL_e, ↓ctR_e, ↓ctV_e, ↓tsK_n, ↓tsK_c, ↓go_K, ↓go_X, csum_n, csum_I, csum_R, csum_G, hdCls_r, isCls, elemR, rg_x_pads, rg_log_words, rg_row_pads, rg_row_words, rg_row_led, alen, IR, Nat.reduceMod, Nat.reduceDiv, Nat.reduceSub, Nat.reduceAdd, Nat.reduceLeDiff, Nat.reduceEqDiff, Nat.reduceLT, Int.reduceLE, Int.reduceLT, Int.reduceEq, Int.reduceNe, Int.reduceAdd, Int.reduceSub, Int.reduceNeg, Int.reduceMul, ne_eq, not_true_eq_false, not_false_eq_true, true_and, and_true, false_and, and_false, true_or, or_true, false_or, or_false, and_self, or_self, true_implies, forall_const, false_implies, implies_true, reduceIte, reduceCtorEq, eq_self, Int.le_refl, Nat.le_refl, Int.reduceNatCast, Int.cast_ofNat_Int, ↓eX1_breakUp_0, ↓eX1_breakUp_1, ↓eX1_breakUp_2, lX1_breakUp, ent0, entI, entR, entG, ent_n, List.length_cons, List.length_nil, List.replicate, List.cons_append, List.nil_append, Nat.reduceSub, Nat.reduceAdd]
    refine ⟨(by first | omega | (unfold IR; omega)), fun c => hk σ' hF ⟨em, hN, fun a a0 a1 => by rw [ew]; exact hE a (by omega) a1⟩, fun c => ?_⟩
    have hb' : bRg W.length ((Mi σ' 939786321) j) ((i : Int) - 1 + 1) := by rw [Int.sub_add_cancel]; exact hb
    refine x_breakFrom (N := W.length) (f := f) ⟨by omega, by omega⟩ em ew hf hw ⟨by omega, by omega⟩ hb' hN (fun σ2 p hF2 hx he hp => ?_)
    simp -implicitDefEqProofs only [↓kI_e, ↓kL_e, ↓kR_e, ↓kV_e, ↓x1, ↓x2, ↓x4, ↓x5, ↓x6, ↓x7, ↓x8, ↓x9, ↓x10, ↓x11, ↓x12, ↓x13, ↓x17, ↓x18, ↓x19, ↓x20, ↓x21, ↓x22, ↓x14, ↓x15, ↓x23, ↓x24, ↓x25, ↓x26, ↓x27, ↓x28, ↓x29, ↓x30, ↓x31, ↓x32, ↓x33, ↓x34, ↓x35i, ↓x35r, ↓x36, ↓x37, ↓x38, ↓x39, ↓x40, ↓x41, ↓x72, ↓x42, ↓x43, ↓x44, ↓x45, ↓x46, ↓x47, ↓x48, ↓x50, ↓x51, ↓x52, ↓x53, ↓x54, ↓x55_0, ↓x56_0, ↓x55_1, ↓x56_1, ↓x55_2, ↓x56_2, ↓x55_3, ↓x56_3, ↓x55_4, ↓x56_4, ↓x55_5, ↓x56_5, ↓x57, ↓x58, ↓x59, ↓x60, ↓x61, ↓x62, ↓x63, ↓x64, ↓x65, ↓x75, ↓x67, ↓x77, ↓x68, ↓x78, ↓x69, ↓x79, ↓x70, ↓x73, ↓x74, ↓ldI_0, ↓ldG_0, ↓ldR_0, ↓stK_0, ↓stK2_0, ↓ldI_1, ↓ldG_1, ↓ldR_1, ↓stK_1I, ↓stK_1R, ↓stK_1N, ↓stK_1G, ↓stK2_1I, ↓stK2_1R, ↓stK2_1N, ↓stK2_1G, ↓ldI_2, ↓ldG_2, ↓ldR_2, ↓stK_2I, ↓stK_2R, ↓stK_2N, ↓stK_2G, ↓stK2_2I, ↓stK2_2R, ↓stK2_2N, ↓stK2_2G, ↓ldI_3, ↓ldG_3, ↓ldR_3, ↓stK_3I, ↓stK_3R, ↓stK_3N, ↓stK_3G, ↓stK2_3I, ↓stK2_3R, ↓stK2_3N, ↓stK2_3G, ↓ldI_4, ↓ldG_4, ↓ldR_4, ↓stK_4I, ↓stK_4R, ↓stK_4N, ↓stK_4G, ↓stK2_4I, ↓stK2_4R, ↓stK2_4N, ↓stK2_4G, ↓ldI_5, ↓ldG_5, ↓ldR_5, ↓stK_5I, ↓stK_5R, ↓stK_5N, ↓stK_5G, ↓stK2_5I, ↓stK2_5R, ↓stK2_5N, ↓stK2_5G, ↓ldI_6, ↓ldG_6, ↓ldR_6, ↓stK_6I, ↓stK_6R, ↓stK_6N, ↓stK_6G, ↓stK2_6I, ↓stK2_6R, ↓stK2_6N, ↓stK2_6G, ↓ldI_7, ↓ldG_7, ↓ldR_7, ↓stK_7I, ↓stK_7R, ↓stK_7N, ↓stK_7G, ↓stK2_7I, ↓stK2_7R, ↓stK2_7N, ↓stK2_7G, ↓ldI_8, ↓ldG_8, ↓ldR_8, ↓stK_8I, ↓stK_8R, ↓stK_8N, ↓stK_8G, ↓stK2_8I, ↓stK2_8R, ↓stK2_8N, ↓stK2_8G, ↓ldI_9, ↓ldG_9, ↓ldR_9, ↓stK_9I, ↓stK_9R, ↓stK_9N, ↓stK_9G, ↓stK2_9I, ↓stK2_9R, ↓stK2_9N, ↓stK2_9G, ↓ldI_10, ↓ldG_10, ↓ldR_10, ↓stK_10I, ↓stK_10R, ↓stK_10N, ↓stK_10G, ↓stK2_10I, ↓stK2_10R, ↓stK2_10N, ↓stK2_10G, ↓ldI_11, ↓ldG_11, ↓ldR_11, ↓stK_11I, ↓stK_11R, ↓stK_11N, ↓stK_11G, ↓stK2_11I, ↓stK2_11R, ↓stK2_11N, ↓stK2_11G, ↓ldI_12, ↓ldG_12, ↓ldR_12, ↓stK_12I, ↓stK_12R, ↓stK_12N, ↓stK_12G, ↓stK2_12I, ↓stK2_12R, ↓stK2_12N, ↓stK2_12G, ↓pN_0, ↓pN_1, ↓pN_2, ↓pN_3, ↓pN_4, ↓pN_5, ↓pN_6, ↓pN_7, ↓ctI_e, ↓ctL_e, ↓ctR_e, ↓ctV_e, ↓tsK_n, ↓tsK_c, ↓go_K, ↓go_X, csum_n, csum_I, csum_R, csum_G, hdCls_r, isCls, elemR, rg_x_pads, rg_log_words, rg_row_pads, rg_row_words, rg_row_led, alen, IR, Nat.reduceMod, Nat.reduceDiv, Nat.reduceSub, Nat.reduceAdd, Nat.reduceLeDiff, Nat.reduceEqDiff, Nat.reduceLT, Int.reduceLE, Int.reduceLT, Int.reduceEq, Int.reduceNe, Int.reduceAdd, Int.reduceSub, Int.reduceNeg, Int.reduceMul, ne_eq, not_true_eq_false, not_false_eq_true, true_and, and_true, false_and, and_false, true_or, or_true, false_or, or_false, and_self, or_self, true_implies, forall_const, false_implies, implies_true, reduceIte, reduceCtorEq, eq_self, Int.le_refl, Nat.le_refl, Int.reduceNatCast, Int.cast_ofNat_Int, ↓eX1_breakUp_0, ↓eX1_breakUp_1, ↓eX1_breakUp_2, lX1_breakUp, ent0, entI, entR, entG, ent_n, List.length_cons, List.length_nil, List.replicate, List.cons_append, List.nil_append, Nat.reduceSub, Nat.reduceAdd]
    have hl2 : ∀ x, x ≠ (i : Int) - 1 → (Mi σ2 939786321) j x = (Mi σ' 939786321) j x := fun x hxa => (hx x hxa).1
    refine hK _ (i - 1) _ _ (by decide) (by omega) ⟨rfl, hF.trans' hF2, i - 1, by omega, rfl, ?_, ?_, fun x x0 x1 => ?_, fun a a0 a1 => ?_⟩
    · rw [show (((i - 1 : Nat) : Int)) - 1 = (i : Int) - 1 + -1 by omega]
    · rw [hl2 _ (by omega)]; exact hN
    · by_cases q : x = (i : Int) - 1
      · subst q
        have := cs_rng (b := (Mi σ2 939786321) j) ⟨by omega, by omega⟩ (fun x x0 x1 => (hf x x0 x1).1) (by omega) (fun x x0 x1 => by rw [hl2 x (by omega)]; exact hb x (by omega) x1) hp.1.1
        rw [hp.1.2.1]; exact this
      · rw [hl2 x q]; exact hb x (by omega) x1
    · by_cases q : a = (i : Int) - 1
      · subst q
        rw [he, show (i : Int) - 1 + p - ((i : Int) - 1) = p by omega]
        exact hp
      · rw [(hx a q).2]
        exact bkE_u hl2 (by omega) (hE a (by omega) a1)
theorem lns_ex {f : Int → Int} {N w : Int} {b e : Int → Int} (h : ∀ i, 0 ≤ i → i < N → pckR f N w b i (e i - i)) : ∀ (d : Nat) (i : Int), 0 ≤ i → i ≤ N → N - i ≤ d → ∃ l, lnsR f N w b i l
  | 0, i, h0, h1, h2 => ⟨[], show i = N by omega⟩
  | d + 1, i, h0, h1, h2 => by
    by_cases q : i = N
    · exact ⟨[], q⟩
    · have hp := h i h0 (by omega)
      have f1 := hp.1.1
      have f2 := hp.1.2.1
      obtain ⟨l, hl⟩ := lns_ex h d (i + (e i - i)) (by omega) (by omega) (by omega)
      exact ⟨(e i - i) :: l, hp, hl⟩
/-- the lines as the class breaks them are the check's -/
theorem brD_O {σ : Mm} {j w : Int} {W : List Int} (h : brD σ j W.length w) (ha : arL ((Mi σ 923009097) j) W) : lnsR ((Mi σ 923009097) j) W.length w ((Mi σ 939786321) j) 0 (brO W w).1 ∧ (brO W w).2 = (Mi σ 939786321) j 0 := by
  obtain ⟨h1, h2, h3⟩ := h
  obtain ⟨l, hl⟩ := lns_ex (fun i i0 i1 => (h3 i i0 i1).1) W.length 0 (by omega) (by omega) (by omega)
  have e := brO_eq (w := w) (L := l) (q := (Mi σ 939786321) j 0) ha ⟨(Mi σ 939786321) j, ⟨h2, fun i i0 i1 => ⟨⟨_, (h3 i i0 i1).1.1, (h3 i i0 i1).1.2.1⟩, (h3 i i0 i1).2⟩⟩, hl, rfl⟩
  rw [e]
  exact ⟨hl, rfl⟩
theorem pck_uniq {f : Int → Int} {N w : Int} {b : Int → Int} {i n m : Int} (h : pckR f N w b i n) (h' : pckR f N w b i m) : n = m := by
  rcases Int.lt_trichotomy n m with q | q | q
  · exact absurd h'.2.1 (h.2.2 m h'.1 q)
  · exact q
  · exact absurd h.2.1 (h'.2.2 n h.1 q)
theorem lns_drop {f : Int → Int} {N w : Int} {b : Int → Int} : ∀ {L : List Int} {i : Int} {l : Nat}, lnsR f N w b i L → l ≤ L.length → lnsR f N w b (i + (L.take l).sum) (L.drop l)
  | L, i, 0, h, _ => by simpa using h
  | [], i, l + 1, h, hl => by simp at hl
  | n :: L, i, l + 1, h, hl => by
    have := lns_drop (l := l) h.2 (by simpa using hl)
    rw [List.take_succ_cons, List.sum_cons, List.drop_succ_cons, ← Int.add_assoc]
    exact this
