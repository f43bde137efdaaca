/-! the class: words broken into lines -/
def wdS (S : List Int) (d : Int) : List Int := S.map (fun x => 1 + x % 7) ++ (if 0 < d then [d] else [])
theorem x_fill {r : Nat} {jr j d : Int} {S : List Int} {σ : Mm} {k : Mm → Prop} (hrow : row2 σ r jr S) (hS : S.length ≤ 8) (hSr : ∀ x ∈ S, 0 ≤ x) (hd : 0 ≤ d ∧ d ≤ 10) (ne : ([151257096, 923009097] : List Nat).contains r = false ∧ ([151257096, 923009097] : List Nat).contains (r - 6) = false) (hk : ∀ σ', FrI [151257096, 923009097] j σ σ' → Mi σ' 151257096 j 3 = (wdS S d).length → arL ((Mi σ' 923009097) j) (wdS S d) → k σ') : OkV 49 [vR 151257096 j, vR r jr, vI d] σ k := by
  refine okV_loop mkX1_fill (fun b n ls σ' => b = 1001 ∧ FrI [151257096, 923009097] j σ σ' ∧ ∃ i : Nat, i ≤ S.length ∧ n = 10 - i ∧ ls = [some (vR 151257096 j), some (vR r jr), some (vI d), some (vI i)] ∧ Mi σ' 151257096 j 3 = i ∧ arL ((Mi σ' 923009097) j) ((S.take i).map (fun x => 1 + x % 7))) (Nat.le_of_ble_eq_true rfl) (fun K hK => ?_) (fun b n ls σ' hJ K hK => ?_)
  · simp only [↓kI_e, ↓kL_e, ↓kR_e, ↓kV_e, ↓x1, ↓x2, ↓x4, ↓x5, ↓x6, ↓x7, ↓x8, ↓x9, ↓x10, ↓x11, ↓x12, ↓x13, ↓x17, ↓x18, ↓x19, ↓x20, ↓x21, ↓x22, ↓x14, ↓x15, ↓x23, ↓x24, ↓x25, ↓x26, ↓x27, ↓x28, ↓x29, ↓x30, ↓x31, ↓x32, ↓x33, ↓x34, ↓x35i, ↓x35r, ↓x36, ↓x37, ↓x38, ↓x39, ↓x40, ↓x41, ↓x72, ↓x42, ↓x43, ↓x44, ↓x45, ↓x46, ↓x47, ↓x48, ↓x50, ↓x51, ↓x52, ↓x53, ↓x54, ↓x55_0, ↓x56_0, ↓x55_1, ↓x56_1, ↓x55_2, ↓x56_2, ↓x55_3, ↓x56_3, ↓x55_4, ↓x56_4, ↓x55_5, ↓x56_5, ↓x57, ↓x58, ↓x59, ↓x60, ↓x61, ↓x62, ↓x63, ↓x64, ↓x65, ↓x75, ↓x67, ↓x77, ↓x68, ↓x78, ↓x69, ↓x79, ↓x70, ↓x73, ↓x74, ↓ldI_0, ↓ldG_0, ↓ldR_0, ↓stK_0, ↓stK2_0, ↓ldI_1, ↓ldG_1, ↓ldR_1, ↓stK_1I, ↓stK_1R, ↓stK_1N, ↓stK_1G, ↓stK2_1I, ↓stK2_1R, ↓stK2_1N, ↓stK2_1G, ↓ldI_2, ↓ldG_2, ↓ldR_2, ↓stK_2I, ↓stK_2R, ↓stK_2N, ↓stK_2G, ↓stK2_2I, ↓stK2_2R, ↓stK2_2N, ↓stK2_2G, ↓ldI_3, ↓ldG_3, ↓ldR_3, ↓stK_3I, ↓stK_3R, ↓stK_3N, ↓stK_3G, ↓stK2_3I, ↓stK2_3R, ↓stK2_3N, ↓stK2_3G, ↓ldI_4, ↓ldG_4, ↓ldR_4, ↓stK_4I, ↓stK_4R, ↓stK_4N, ↓stK_4G, ↓stK2_4I, ↓stK2_4R, ↓stK2_4N, ↓stK2_4G, ↓ldI_5, ↓ldG_5, ↓ldR_5, ↓stK_5I, ↓stK_5R, ↓stK_5N, ↓stK_5G, ↓stK2_5I, ↓stK2_5R, ↓stK2_5N, ↓stK2_5G, ↓ldI_6, ↓ldG_6, ↓ldR_6, ↓stK_6I, ↓stK_6R, ↓stK_6N, ↓stK_6G, ↓stK2_6I, ↓stK2_6R, ↓stK2_6N, ↓stK2_6G, ↓ldI_7, ↓ldG_7, ↓ldR_7, ↓stK_7I, ↓stK_7R, ↓stK_7N, ↓stK_7G, ↓stK2_7I, ↓stK2_7R, ↓stK2_7N, ↓stK2_7G, ↓ldI_8, ↓ldG_8, ↓ldR_8, ↓stK_8I, ↓stK_8R, ↓stK_8N, ↓stK_8G, ↓stK2_8I, ↓stK2_8R, ↓stK2_8N, ↓stK2_8G, ↓ldI_9, ↓ldG_9, ↓ldR_9, ↓stK_9I, ↓stK_9R, ↓stK_9N, ↓stK_9G, ↓stK2_9I, ↓stK2_9R, ↓stK2_9N, ↓stK2_9G, ↓ldI_10, ↓ldG_10, ↓ldR_10, ↓stK_10I, ↓stK_10R, ↓stK_10N, ↓stK_10G, ↓stK2_10I, ↓stK2_10R, ↓stK2_10N, ↓stK2_10G, ↓ldI_11, ↓ldG_11, ↓ldR_11, ↓stK_11I, ↓stK_11R, ↓stK_11N, ↓stK_11G, ↓stK2_11I, ↓stK2_11R, ↓stK2_11N, ↓stK2_11G, ↓ldI_12, ↓ldG_12, ↓ldR_12, ↓stK_12I, ↓stK_12R, ↓stK_12N, ↓stK_12G, ↓stK2_12I, ↓stK2_12R, ↓stK2_12N, ↓stK2_12G, ↓pN_0, ↓pN_1, ↓pN_2, ↓pN_3, ↓pN_4, ↓pN_5, ↓pN_6, ↓pN_7, ↓ctI_e, ↓ctL_e, ↓ctR_e, ↓ctV_e, ↓tsK_n, ↓tsK_c, ↓go_K, ↓go_X, csum_n, csum_I, csum_R, csum_G, hdCls_r, isCls, elemR, rg_x_pads, rg_log_words, rg_row_pads, rg_row_words, rg_row_led, alen, IR, Nat.reduceMod, Nat.reduceDiv, Nat.reduceSub, Nat.reduceAdd, Nat.reduceLeDiff, Nat.reduceEqDiff, Nat.reduceLT, Int.reduceLE, Int.reduceLT, Int.reduceEq, Int.reduceNe, Int.reduceAdd, Int.reduceSub, Int.reduceNeg, Int.reduceMul, ne_eq, not_true_eq_false, not_false_eq_true, true_and, and_true, false_and, and_false, true_or, or_true, false_or, or_false, and_self, or_self, true_implies, forall_const, false_implies, implies_true, reduceIte, reduceCtorEq, eq_self, Int.le_refl, Nat.le_refl, Int.reduceNatCast, Int.cast_ofNat_Int, ↓eX1_fill_0, ↓eX1_fill_1, ↓eX1_fill_2, ↓eX1_fill_3, lX1_fill, ent0, entI, entR, entG, ent_n, List.length_cons, List.length_nil, List.replicate, List.cons_append, List.nil_append, Nat.reduceSub, Nat.reduceAdd]
    exact hK _ _ _ _ (by decide) ⟨rfl, FrI.sI (by decide) FrI.rfl', 0, by omega, rfl, rfl, by rw [Mi_s, upd1_s]; rfl, fun i x hx => by simp at hx⟩
  · obtain ⟨rfl, hF, i, hi, rfl, rfl, hc, ha⟩ := hJ
    have hr1 := row2_fr hrow hF.fr ne.1 ne.2
    have e1 := hr1.2.1.1
    have h7 := hr1.1
    have hlen : ((S.take i).map (fun x => 1 + x % 7)).length = i := by simp; omega
    have l := hr1.2.2.1
    generalize hA : alen σ' (r - 6) jr = A at l
    unfold alen at hA
    simp only [↓kI_e, ↓kL_e, ↓kR_e, ↓kV_e, ↓x1, ↓x2, ↓x4, ↓x5, ↓x6, ↓x7, ↓x8, ↓x9, ↓x10, ↓x11, ↓x12, ↓x13, ↓x17, ↓x18, ↓x19, ↓x20, ↓x21, ↓x22, ↓x14, ↓x15, ↓x23, ↓x24, ↓x25, ↓x26, ↓x27, ↓x28, ↓x29, ↓x30, ↓x31, ↓x32, ↓x33, ↓x34, ↓x35i, ↓x35r, ↓x36, ↓x37, ↓x38, ↓x39, ↓x40, ↓x41, ↓x72, ↓x42, ↓x43, ↓x44, ↓x45, ↓x46, ↓x47, ↓x48, ↓x50, ↓x51, ↓x52, ↓x53, ↓x54, ↓x55_0, ↓x56_0, ↓x55_1, ↓x56_1, ↓x55_2, ↓x56_2, ↓x55_3, ↓x56_3, ↓x55_4, ↓x56_4, ↓x55_5, ↓x56_5, ↓x57, ↓x58, ↓x59, ↓x60, ↓x61, ↓x62, ↓x63, ↓x64, ↓x65, ↓x75, ↓x67, ↓x77, ↓x68, ↓x78, ↓x69, ↓x79, ↓x70, ↓x73, ↓x74, ↓ldI_0, ↓ldG_0, ↓ldR_0, ↓stK_0, ↓stK2_0, ↓ldI_1, ↓ldG_1, ↓ldR_1, ↓stK_1I, ↓stK_1R, ↓stK_1N, ↓stK_1G, ↓stK2_1I, ↓stK2_1R, ↓stK2_1N, ↓stK2_1G, ↓ldI_2, ↓ldG_2, ↓ldR_2, ↓stK_2I, ↓stK_2R, ↓stK_2N, ↓stK_2G, ↓stK2_2I, ↓stK2_2R, ↓stK2_2N, ↓stK2_2G, ↓ldI_3, ↓ldG_3, ↓ldR_3, ↓stK_3I, ↓stK_3R, ↓stK_3N, ↓stK_3G, ↓stK2_3I, ↓stK2_3R, ↓stK2_3N, ↓stK2_3G, ↓ldI_4, ↓ldG_4, ↓ldR_4, ↓stK_4I, ↓stK_4R, ↓stK_4N, ↓stK_4G, ↓stK2_4I, ↓stK2_4R, ↓stK2_4N, ↓stK2_4G, ↓ldI_5, ↓ldG_5, ↓ldR_5, ↓stK_5I, ↓stK_5R, ↓stK_5N, ↓stK_5G, ↓stK2_5I, ↓stK2_5R, ↓stK2_5N, ↓stK2_5G, ↓ldI_6, ↓ldG_6, ↓ldR_6, ↓stK_6I, ↓stK_6R, ↓stK_6N, ↓stK_6G, ↓stK2_6I, ↓stK2_6R, ↓stK2_6N, ↓stK2_6G, ↓ldI_7, ↓ldG_7, ↓ldR_7, ↓stK_7I, ↓stK_7R, ↓stK_7N, ↓stK_7G, ↓stK2_7I, ↓stK2_7R, ↓stK2_7N, ↓stK2_7G, ↓ldI_8, ↓ldG_8, ↓ldR_8, ↓stK_8I, ↓stK_8R, ↓stK_8N, ↓stK_8G, ↓stK2_8I, ↓stK2_8R, ↓stK2_8N, ↓stK2_8G, ↓ldI_9, ↓ldG_9, ↓ldR_9, ↓stK_9I, ↓stK_9R, ↓stK_9N, ↓stK_9G, ↓stK2_9I, ↓stK2_9R, ↓stK2_9N, ↓stK2_9G, ↓ldI_10, ↓ldG_10, ↓ldR_10, ↓stK_10I, ↓stK_10R, ↓stK_10N, ↓stK_10G, ↓stK2_10I, ↓stK2_10R, ↓stK2_10N, ↓stK2_10G, ↓ldI_11, ↓ldG_11, ↓ldR_11, ↓stK_11I, ↓stK_11R, ↓stK_11N, ↓stK_11G, ↓stK2_11I, ↓stK2_11R, ↓stK2_11N, ↓stK2_11G, ↓ldI_12, ↓ldG_12, ↓ldR_12, ↓stK_12I, ↓stK_12R, ↓stK_12N, ↓stK_12G, ↓stK2_12I, ↓stK2_12R, ↓stK2_12N, ↓stK2_12G, ↓pN_0, ↓pN_1, ↓pN_2, ↓pN_3, ↓pN_4, ↓pN_5, ↓pN_6, ↓pN_7, ↓ctI_e, ↓ctL_e, ↓ctR_e, ↓ctV_e, ↓tsK_n, ↓tsK_c, ↓go_K, ↓go_X, csum_n, csum_I, csum_R, csum_G, hdCls_r, isCls, elemR, rg_x_pads, rg_log_words, rg_row_pads, rg_row_words, rg_row_led, alen, IR, Nat.reduceMod, Nat.reduceDiv, Nat.reduceSub, Nat.reduceAdd, Nat.reduceLeDiff, Nat.reduceEqDiff, Nat.reduceLT, Int.reduceLE, Int.reduceLT, Int.reduceEq, Int.reduceNe, Int.reduceAdd, Int.reduceSub, Int.reduceNeg, Int.reduceMul, ne_eq, not_true_eq_false, not_false_eq_true, true_and, and_true, false_and, and_false, true_or, or_true, false_or, or_false, and_self, or_self, true_implies, forall_const, false_implies, implies_true, reduceIte, reduceCtorEq, eq_self, Int.le_refl, Nat.le_refl, Int.reduceNatCast, Int.cast_ofNat_Int, ↓eX1_fill_0, ↓eX1_fill_1, ↓eX1_fill_2, ↓eX1_fill_3, lX1_fill, ent0, entI, entR, entG, ent_n, List.length_cons, List.length_nil, List.replicate, List.cons_append, List.nil_append, Nat.reduceSub, Nat.reduceAdd]
    rw [e1, hc, hA]
    refine ⟨h7, ⟨⟨by omega, by omega⟩, by omega, by omega⟩, fun g => ⟨by omega, fun q => ?_, fun q => ⟨by omega, fun q2 => by omega, fun _ => ⟨by omega, ?_⟩⟩⟩, fun g => ⟨by omega, fun q => by omega, fun _ => ?_⟩⟩
    · refine hk _ hF ?_ ?_
      · rw [hc, wdS, if_neg (by omega)]; simp; omega
      · rw [wdS, if_neg (by omega), List.append_nil]
        rw [List.take_of_length_le (by omega)] at ha
        exact ha
    · have e3 : Mi (sI σ' 923009097 j i d) 151257096 j 3 = i := by rw [Mi_n (by decide)]; exact hc
      rw [e3]
      refine hk _ (FrI.sI (by decide) (FrI.sI (by decide) hF)) ?_ ?_
      · rw [Mi_s, upd1_s, wdS, if_pos q]; simp; omega
      · rw [Mi_n (by decide), Mi_s, wdS, if_pos q]
        rw [List.take_of_length_le (by omega)] at ha hlen
        have := arL_snoc (v := d) ha
        rw [hlen] at this
        exact this
    · have gg := row2_n hr1 (i := i) (by omega)
      have hi2 : i < S.length := by omega
      have hx := List.getElem_mem hi2
      have h0 := hSr _ hx
      have e4 : Mi σ' (r - 6) jr i = S[i] := by
        rw [gg.1, List.getD_eq_getElem?_getD, List.getElem?_eq_getElem hi2]; rfl
      have hir := hr1.2.2.2.2 _ hx
      have e3 : ∀ v, Mi (sI σ' 923009097 j i v) 151257096 j 3 = i := fun v => by rw [Mi_n (by decide)]; exact hc
      rw [e3, e4]
      refine ⟨h7, Or.inl (by omega), ⟨by omega, by omega⟩, ⟨h0, hir.2⟩, by omega, hK _ (10 - (i + 1)) _ _ (by decide) (by omega) ⟨rfl, FrI.sI (by decide) (FrI.sI (by decide) hF), i + 1, by omega, rfl, rfl, ?_, ?_⟩⟩
      · rw [Mi_s, upd1_s]; rfl
      · rw [Mi_n (by decide), Mi_s, List.take_succ_eq_append_getElem hi2, List.map_append]
        have := arL_snoc (v := 1 + S[i] % 7) ha
        rw [hlen] at this
        exact this
/-- what a search at one place has found -/
def bkI (f : Int → Int) (N w : Int) (b e : Int → Int) (a : Int) (m : Nat) : Prop := (m = 0 ∧ b a = 1000000 ∧ e a = a + 1) ∨ (1 ≤ m ∧ ∃ p : Int, (1 ≤ p ∧ p ≤ m) ∧ e a = a + p ∧ b a = csF f N w b a p ∧ (∀ n : Int, 1 ≤ n → n ≤ m → b a ≤ csF f N w b a n) ∧ ∀ n : Int, p < n → n ≤ m → b a ≠ csF f N w b a n)
/-- and where it ends -/
def bkE (f : Int → Int) (N w : Int) (b : Int → Int) (a p : Int) : Prop := pckR f N w b a p ∧ (∀ n, fitP f N w a n → b a ≤ csF f N w b a n)
theorem csF_u {f : Int → Int} {N w : Int} {b : Int → Int} {a i n v : Int} (h : i + n ≠ a) : csF f N w (upd1 b a v) i n = csF f N w b i n := by unfold csF; rw [upd1_n h]
theorem bkI_s {f : Int → Int} {N w : Int} {b e : Int → Int} {a v : Int} {m : Nat} (hv : v = csF f N w b a (m + 1)) (h0 : v ≤ 40000) (hI : bkI f N w b e a m) : (b a < v → bkI f N w b e a (m + 1)) ∧ (v ≤ b a → bkI f N w (upd1 b a v) (upd1 e a (a + m + 1)) a (m + 1)) := by
  refine ⟨fun h => ?_, fun h => ?_⟩
  · rcases hI with ⟨-, q, -⟩ | ⟨m1, p, p1, p2, p3, p4, p5⟩
    · omega
    · refine Or.inr ⟨by omega, p, ⟨p1.1, by omega⟩, p2, p3, fun n n0 n1 => ?_, fun n n0 n1 => ?_⟩
      · by_cases q : n = m + 1
        · rw [q, ← hv]; omega
        · exact p4 n n0 (by omega)
      · by_cases q : n = m + 1
        · rw [q, ← hv]; omega
        · exact p5 n n0 (by omega)
  · refine Or.inr ⟨by omega, m + 1, ⟨by omega, by omega⟩, by rw [upd1_s]; omega, by rw [upd1_s, csF_u (by omega)]; exact hv, fun n n0 n1 => ?_, fun n n0 n1 => by omega⟩
    rw [upd1_s, csF_u (by omega)]
    by_cases q : n = m + 1
    · rw [q, ← hv]; omega
    · rcases hI with ⟨q, -⟩ | ⟨m1, p, p1, p2, p3, p4, p5⟩
      · omega
      · have := p4 n n0 (by omega)
        omega
theorem x_breakFrom {j a w N : Int} {f : Int → Int} {σ : Mm} {k : Mm → Prop} (hN : 0 ≤ N ∧ N ≤ 9) (hm : Mi σ 151257096 j 3 = N) (hf0 : (Mi σ 923009097) j = f) (hf : ∀ x, 0 ≤ x → x < N → 0 ≤ f x ∧ f x ≤ 10) (hw : 10 ≤ w ∧ w ≤ 60) (ha : 0 ≤ a ∧ a < N) (hb : bRg N ((Mi σ 939786321) j) (a + 1)) (hbN : (Mi σ 939786321) j N = 0)
    (hk : ∀ σ' p, FrI [939786321, 956563537] j σ σ' → (∀ x, x ≠ a → (Mi σ' 939786321) j x = (Mi σ 939786321) j x ∧ (Mi σ' 956563537) j x = (Mi σ 956563537) j x) → (Mi σ' 956563537) j a = a + p → bkE f N w ((Mi σ' 939786321) j) a p → k σ') : OkV 48 [vR 151257096 j, vI a, vI w] σ k := by
  have wr : ∀ n : Int, 0 ≤ n → a + n ≤ N → -1 ≤ wdF f a n ∧ wdF f a n ≤ 10010 := fun n h0 h1 => wd_rng ⟨h0, by omega⟩ (fun x x0 x1 => by have := hf x (by omega) (by omega); omega)
  refine okV_loop mkX1_breakFrom (fun bk q ls σ' => bk = 1001 ∧ FrI [939786321, 956563537] j σ σ' ∧ (∀ x, x ≠ a → (Mi σ' 939786321) j x = (Mi σ 939786321) j x ∧ (Mi σ' 956563537) j x = (Mi σ 956563537) j x) ∧ ∃ (m : Nat) (o : Option Vv), a + m ≤ N ∧ q = 10 - m ∧ ls = [some (vR 151257096 j), some (vI a), some (vI w), some (vI (w - wdF f a m)), some (vI (a + m)), o] ∧ brFt f N w a (m + 1) ∧ bkI f N w ((Mi σ' 939786321) j) ((Mi σ' 956563537) j) a m) (Nat.le_of_ble_eq_true rfl) (fun K hK => ?_) (fun bk q ls σ' hJ K hK => ?_)
  · simp -implicitDefEqProofs only [↓kI_e, ↓kL_e, ↓kR_e, ↓kV_e, ↓x1, ↓x2, ↓x4, ↓x5, ↓x6, ↓x7, ↓x8, ↓x9, ↓x10, ↓x11, ↓x12, ↓x13, ↓x17, ↓x18, ↓x19, ↓x20, ↓x21, ↓x22, ↓x14, ↓x15, ↓x23, ↓x24, ↓x25, ↓x26, ↓x27, ↓x28, ↓x29, ↓x30, ↓x31, ↓x32, ↓x33, ↓x34, ↓x35i, ↓x35r, ↓x36, ↓x37, ↓x38, ↓x39, ↓x40, ↓x41, ↓x72, ↓x42, ↓x43, ↓x44, ↓x45, ↓x46, ↓x47, ↓x48, ↓x50, ↓x51, ↓x52, ↓x53, ↓x54, ↓x55_0, ↓x56_0, ↓x55_1, ↓x56_1, ↓x55_2, ↓x56_2, ↓x55_3, ↓x56_3, ↓x55_4, ↓x56_4, ↓x55_5, ↓x56_5, ↓x57, ↓x58, ↓x59, ↓x60, ↓x61, ↓x62, ↓x63, ↓x64, ↓x65, ↓x75, ↓x67, ↓x77, ↓x68, ↓x78, ↓x69, ↓x79, ↓x70, ↓x73, ↓x74, ↓ldI_0, ↓ldG_0, ↓ldR_0, ↓stK_0, ↓stK2_0, ↓ldI_1, ↓ldG_1, ↓ldR_1, ↓stK_1I, ↓stK_1R, ↓stK_1N, ↓stK_1G, ↓stK2_1I, ↓stK2_1R, ↓stK2_1N, ↓stK2_1G, ↓ldI_2, ↓ldG_2, ↓ldR_2, ↓stK_2I, ↓stK_2R, ↓stK_2N, ↓stK_2G, ↓stK2_2I, ↓stK2_2R, ↓stK2_2N, ↓stK2_2G, ↓ldI_3, ↓ldG_3, ↓ldR_3, ↓stK_3I, ↓stK_3R, ↓stK_3N, ↓stK_3G, ↓stK2_3I, ↓stK2_3R, ↓stK2_3N, ↓stK2_3G, ↓ldI_4, ↓ldG_4, ↓ldR_4, ↓stK_4I, ↓stK_4R, ↓stK_4N, ↓stK_4G, ↓stK2_4I, ↓stK2_4R, ↓stK2_4N, ↓stK2_4G, ↓ldI_5, ↓ldG_5, ↓ldR_5, ↓stK_5I, ↓stK_5R, ↓stK_5N, ↓stK_5G, ↓stK2_5I, ↓stK2_5R, ↓stK2_5N, ↓stK2_5G, ↓ldI_6, ↓ldG_6, ↓ldR_6, ↓stK_6I, ↓stK_6R, ↓stK_6N, ↓stK_6G, ↓stK2_6I, ↓stK2_6R, ↓stK2_6N, ↓stK2_6G, ↓ldI_7, ↓ldG_7, ↓ldR_7, ↓stK_7I, ↓stK_7R, ↓stK_7N, ↓stK_7G, ↓stK2_7I, ↓stK2_7R, ↓stK2_7N, ↓stK2_7G, ↓ldI_8, ↓ldG_8, ↓ldR_8, ↓stK_8I, ↓stK_8R, ↓stK_8N, ↓stK_8G, ↓stK2_8I, ↓stK2_8R, ↓stK2_8N, ↓stK2_8G, ↓ldI_9, ↓ldG_9, ↓ldR_9, ↓stK_9I, ↓stK_9R, ↓stK_9N, ↓stK_9G, ↓stK2_9I, ↓stK2_9R, ↓stK2_9N, ↓stK2_9G, ↓ldI_10, ↓ldG_10, ↓ldR_10, ↓stK_10I, ↓stK_10R, ↓stK_10N, ↓stK_10G, ↓stK2_10I, ↓stK2_10R, ↓stK2_10N, ↓stK2_10G, ↓ldI_11, ↓ldG_11, ↓ldR_11, ↓stK_11I, ↓stK_11R, ↓stK_11N, ↓stK_11G, ↓stK2_11I, ↓stK2_11R, ↓stK2_11N, ↓stK2_11G, ↓ldI_12, ↓ldG_12, ↓ldR_12, ↓stK_12I, ↓stK_12R, ↓stK_12N, ↓stK_12G, ↓stK2_12I, ↓stK2_12R, ↓stK2_12N, ↓stK2_12G, ↓pN_0, ↓pN_1, ↓pN_2, ↓pN_3, ↓pN_4, ↓pN_5, ↓pN_6, ↓pN_7, ↓ctI_e, ↓ctL_e, ↓ctR_e, ↓ctV_e, ↓tsK_n, ↓tsK_c, ↓go_K, ↓go_X, csum_n, csum_I, csum_R, csum_G, hdCls_r, isCls, elemR, rg_x_pads, rg_log_words, rg_row_pads, rg_row_words, rg_row_led, alen, IR, Nat.reduceMod, Nat.reduceDiv, Nat.reduceSub, Nat.reduceAdd, Nat.reduceLeDiff, Nat.reduceEqDiff, Nat.reduceLT, Int.reduceLE, Int.reduceLT, Int.reduceEq, Int.reduceNe, Int.reduceAdd, Int.reduceSub, Int.reduceNeg, Int.reduceMul, ne_eq, not_true_eq_false, not_false_eq_true, true_and, and_true, false_and, and_false, true_or, or_true, false_or, or_false, and_self, or_self, true_implies, forall_const, false_implies, implies_true, reduceIte, reduceCtorEq, eq_self, Int.le_refl, Nat.le_refl, Int.reduceNatCast, Int.cast_ofNat_Int, ↓eX1_breakFrom_0, ↓eX1_breakFrom_1, ↓eX1_breakFrom_2, ↓eX1_breakFrom_3, ↓eX1_breakFrom_4, ↓eX1_breakFrom_5, ↓eX1_breakFrom_6, lX1_breakFrom, ent0, entI, entR, entG, ent_n, List.length_cons, List.length_nil, List.replicate, List.cons_append, List.nil_append, Nat.reduceSub, Nat.reduceAdd]
    refine ⟨by omega, by omega, ?_⟩
    have e : w - wdF f a (0 : Nat) = w + 1 := by unfold wdF; simp [sumF]
    refine hK _ _ _ _ (by decide) ⟨rfl, FrI.sI (by decide) (FrI.sI (by decide) FrI.rfl'), fun x hx => ?_, 0, none, by omega, rfl, ?_, fun n h1 h2 => by omega, Or.inl ⟨rfl, ?_, ?_⟩⟩
    · simp (decide := true) only [Mi_s, Mi_n, Mi_sL, Mi_sR, Ml_sI, Ml_sR, Mr_sI, Mr_sL, Mn_sI, Mc_sI]
      rw [upd1_n hx, upd1_n hx]; exact ⟨rfl, rfl⟩
    · rw [e]; simp
    · simp (decide := true) only [Mi_s, Mi_n, Mi_sL, Mi_sR, Ml_sI, Ml_sR, Mr_sI, Mr_sL, Mn_sI, Mc_sI]
      rw [upd1_s]
    · simp (decide := true) only [Mi_s, Mi_n, Mi_sL, Mi_sR, Ml_sI, Ml_sR, Mr_sI, Mr_sL, Mn_sI, Mc_sI]
      rw [upd1_s]
  · obtain ⟨rfl, hF, hx, m, o, hmN, rfl, rfl, hft, hI⟩ := hJ
    have em : Mi σ' 151257096 j 3 = N := by rw [(hF.1 _ _ (fun q => absurd q.1 (by decide))).1]; exact hm
    have ew : (Mi σ' 923009097) j = f := by
      funext x
      rw [← hf0]
      rw [(hF.1 923009097 j (fun q => absurd q.1 (by decide))).1]
    have fin : (∀ n, fitP f N w a n → n ≤ m) → 1 ≤ m → k σ' := fun hall h1 => by
      rcases hI with ⟨q, -⟩ | ⟨-, p, p1, p2, p3, p4, p5⟩
      · omega
      · exact hk σ' p hF hx p2 ⟨⟨hft p p1.1 (by omega), p3, fun n hn hpn => p5 n hpn (hall n hn)⟩, fun n hn => p4 n hn.1 (hall n hn)⟩
    have wm := wr m (by omega) hmN
    simp -implicitDefEqProofs only [↓kI_e, ↓kL_e, ↓kR_e, ↓kV_e, ↓x1, ↓x2, ↓x4, ↓x5, ↓x6, ↓x7, ↓x8, ↓x9, ↓x10, ↓x11, ↓x12, ↓x13, ↓x17, ↓x18, ↓x19, ↓x20, ↓x21, ↓x22, ↓x14, ↓x15, ↓x23, ↓x24, ↓x25, ↓x26, ↓x27, ↓x28, ↓x29, ↓x30, ↓x31, ↓x32, ↓x33, ↓x34, ↓x35i, ↓x35r, ↓x36, ↓x37, ↓x38, ↓x39, ↓x40, ↓x41, ↓x72, ↓x42, ↓x43, ↓x44, ↓x45, ↓x46, ↓x47, ↓x48, ↓x50, ↓x51, ↓x52, ↓x53, ↓x54, ↓x55_0, ↓x56_0, ↓x55_1, ↓x56_1, ↓x55_2, ↓x56_2, ↓x55_3, ↓x56_3, ↓x55_4, ↓x56_4, ↓x55_5, ↓x56_5, ↓x57, ↓x58, ↓x59, ↓x60, ↓x61, ↓x62, ↓x63, ↓x64, ↓x65, ↓x75, ↓x67, ↓x77, ↓x68, ↓x78, ↓x69, ↓x79, ↓x70, ↓x73, ↓x74, ↓ldI_0, ↓ldG_0, ↓ldR_0, ↓stK_0, ↓stK2_0, ↓ldI_1, ↓ldG_1, ↓ldR_1, ↓stK_1I, ↓stK_1R, ↓stK_1N, ↓stK_1G, ↓stK2_1I, ↓stK2_1R, ↓stK2_1N, ↓stK2_1G, ↓ldI_2, ↓ldG_2, ↓ldR_2, ↓stK_2I, ↓stK_2R, ↓stK_2N, ↓stK_2G, ↓stK2_2I, ↓stK2_2R, ↓stK2_2N, ↓stK2_2G, ↓ldI_3, ↓ldG_3, ↓ldR_3, ↓stK_3I, ↓stK_3R, ↓stK_3N, ↓stK_3G, ↓stK2_3I, ↓stK2_3R, ↓stK2_3N, ↓stK2_3G, ↓ldI_4, ↓ldG_4, ↓ldR_4, ↓stK_4I, ↓stK_4R, ↓stK_4N, ↓stK_4G, ↓stK2_4I, ↓stK2_4R, ↓stK2_4N, ↓stK2_4G, ↓ldI_5, ↓ldG_5, ↓ldR_5, ↓stK_5I, ↓stK_5R, ↓stK_5N, ↓stK_5G, ↓stK2_5I, ↓stK2_5R, ↓stK2_5N, ↓stK2_5G, ↓ldI_6, ↓ldG_6, ↓ldR_6, ↓stK_6I, ↓stK_6R, ↓stK_6N, ↓stK_6G, ↓stK2_6I, ↓stK2_6R, ↓stK2_6N, ↓stK2_6G, ↓ldI_7, ↓ldG_7, ↓ldR_7, ↓stK_7I, ↓stK_7R, ↓stK_7N, ↓stK_7G, ↓stK2_7I, ↓stK2_7R, ↓stK2_7N, ↓stK2_7G, ↓ldI_8, ↓ldG_8, ↓ldR_8, ↓stK_8I, ↓stK_8R, ↓stK_8N, ↓stK_8G, ↓stK2_8I, ↓stK2_8R, ↓stK2_8N, ↓stK2_8G, ↓ldI_9, ↓ldG_9, ↓ldR_9, ↓stK_9I, ↓stK_9R, ↓stK_9N, ↓stK_9G, ↓stK2_9I, ↓stK2_9R, ↓stK2_9N, ↓stK2_9G, ↓ldI_10, ↓ldG_10, ↓ldR_10, ↓stK_10I, ↓stK_10R, ↓stK_10N, ↓stK_10G, ↓stK2_10I, ↓stK2_10R, ↓stK2_10N, ↓stK2_10G, ↓ldI_11, ↓ldG_11, ↓ldR_11, ↓stK_11I, ↓stK_11R, ↓stK_11N, ↓stK_11G, ↓stK2_11I, ↓stK2_11R, ↓stK2_11N, ↓stK2_11G, ↓ldI_12, ↓ldG_12, ↓ldR_12, ↓stK_12I, ↓stK_12R, ↓stK_12N, ↓stK_12G, ↓stK2_12I, ↓stK2_12R, ↓stK2_12N, ↓stK2_12G, ↓pN_0, ↓pN_1, ↓pN_2, ↓pN_3, ↓pN_4, ↓pN_5, ↓pN_6, ↓pN_7, ↓ctI_e, ↓ctL_e, ↓ctR_e, ↓ctV_e, ↓tsK_n, ↓tsK_c, ↓go_K, ↓go_X, csum_n, csum_I, csum_R, csum_G, hdCls_r, isCls, elemR, rg_x_pads, rg_log_words, rg_row_pads, rg_row_words, rg_row_led, alen, IR, Nat.reduceMod, Nat.reduceDiv, Nat.reduceSub, Nat.reduceAdd, Nat.reduceLeDiff, Nat.reduceEqDiff, Nat.reduceLT, Int.reduceLE, Int.reduceLT, Int.reduceEq, Int.reduceNe, Int.reduceAdd, Int.reduceSub, Int.reduceNeg, Int.reduceMul, ne_eq, not_true_eq_false, not_false_eq_true, true_and, and_true, false_and, and_false, true_or, or_true, false_or, or_false, and_self, or_self, true_implies, forall_const, false_implies, implies_true, reduceIte, reduceCtorEq, eq_self, Int.le_refl, Nat.le_refl, Int.reduceNatCast, Int.cast_ofNat_Int, ↓eX1_breakFrom_0, ↓eX1_breakFrom_1, ↓eX1_breakFrom_2, ↓eX1_breakFrom_3, ↓eX1_breakFrom_4, ↓eX1_breakFrom_5, ↓eX1_breakFrom_6, lX1_breakFrom, ent0, entI, entR, entG, ent_n, List.length_cons, List.length_nil, List.replicate, List.cons_append, List.nil_append, Nat.reduceSub, Nat.reduceAdd]
    rw [em, ew]
    have hnf : ∀ n, fitP f N w a n → n ≤ m ∨ (a + (m : Int) < N ∧ 0 ≤ w - wdF f a (m + 1)) := fun n hn => by
      by_cases q : n ≤ m
      · exact Or.inl q
      · right
        by_cases q2 : fitP f N w a (m + 1)
        · exact ⟨by have := q2.2.1; omega, by have := q2.2.2; omega⟩
        · have := fit_all (fun x x0 x1 => (hf x x0 x1).1) ha.1 (by omega) q2 hn
          omega
    have m1 : (a + (m : Int) < N → w - wdF f a (m + 1) < 0) → 1 ≤ m := fun q => by
      by_cases e : m = 0
      · subst e
        have h1 := q (by omega)
        rw [show ((0 : Nat) : Int) + 1 = 1 from rfl, wdF_1] at h1
        have := hf a ha.1 ha.2
        omega
      · omega
    have hbl : bRg N ((Mi σ' 939786321) j) (a + 1) := fun x x0 x1 => by rw [(hx x (by omega)).1]; exact hb x x0 x1
    have hbn : (Mi σ' 939786321) j N = 0 := by rw [(hx N (by omega)).1]; exact hbN
    refine ⟨⟨⟨by omega, by omega⟩, by omega, by omega⟩, fun c => fin (fun n hn => (hnf n hn).elim id (fun q => by omega)) (m1 (fun q => by omega)), fun c => ?_⟩
    have hfm := hf (a + m) (by omega) c
    have wm1 := wr (m + 1) (by omega) (by omega)
    rw [show w - wdF f a m - (1 + f (a + m)) = w - wdF f a (m + 1) by rw [wdF_s (by omega)]; omega]
    refine ⟨by omega, by omega, fun d => ?_, fun d => fin (fun n hn => (hnf n hn).elim id (fun q => by omega)) (m1 (fun _ => d))⟩
    have hft1 : fitP f N w a (m + 1) := ⟨by omega, by omega, by omega⟩
    have cr := cs_rng ⟨by omega, by omega⟩ (fun x x0 x1 => (hf x x0 x1).1) ha.1 hbl hft1
    have br : -1 ≤ Mi σ' 939786321 j a ∧ Mi σ' 939786321 j a ≤ 1000000 := by
      rcases hI with ⟨-, q, -⟩ | ⟨mm1, p, p1, p2, p3, -⟩
      · omega
      · have := cs_rng ⟨by omega, by omega⟩ (fun x x0 x1 => (hf x x0 x1).1) ha.1 hbl (hft p p1.1 (by omega))
        rw [p3]; omega
    have st := fun v hv h0 => bkI_s (v := v) hv h0 hI
    have nx : ∀ v, v = csF f N w ((Mi σ' 939786321) j) a (m + 1) → (Mi σ' 939786321 j a < v → K 1001 [some (vR 151257096 j), some (vI a), some (vI w), some (vI (w - wdF f a (m + 1))), some (vI (a + m + 1)), some (vI v)] [] σ') ∧ (v ≤ Mi σ' 939786321 j a → K 1001 [some (vR 151257096 j), some (vI a), some (vI w), some (vI (w - wdF f a (m + 1))), some (vI (a + m + 1)), some (vI v)] [] (sI (sI σ' 939786321 j a v) 956563537 j a (a + m + 1))) := fun v hv => by
      have s2 := st v hv (by omega)
      refine ⟨fun q => ?_, fun q => ?_⟩
      · exact hK _ (10 - (m + 1)) _ _ (by decide) (by omega) ⟨rfl, hF, hx, m + 1, some (vI v), by omega, rfl, by simp [Int.add_assoc], fit_next hft hft1, s2.1 q⟩
      · refine hK _ (10 - (m + 1)) _ _ (by decide) (by omega) ⟨rfl, FrI.sI (by decide) (FrI.sI (by decide) hF), fun x hxa => ?_, m + 1, some (vI v), by omega, rfl, by simp [Int.add_assoc], fit_next hft hft1, ?_⟩
        · simp (decide := true) only [Mi_s, Mi_n, Mi_sL, Mi_sR, Ml_sI, Ml_sR, Mr_sI, Mr_sL, Mn_sI, Mc_sI]
          rw [upd1_n hxa, upd1_n hxa]; exact hx x hxa
        · simp (decide := true) only [Mi_s, Mi_n, Mi_sL, Mi_sR, Ml_sI, Ml_sR, Mr_sI, Mr_sL, Mn_sI, Mc_sI]
          exact s2.2 q
    refine ⟨⟨⟨by omega, by omega⟩, by omega, by omega⟩, fun e => ?_, fun e => ?_⟩
    · have ev : (w - wdF f a (m + 1)) * (w - wdF f a (m + 1)) + Mi σ' 939786321 j (a + m + 1) = csF f N w ((Mi σ' 939786321) j) a (m + 1) := by
        unfold csF
        rw [if_neg (by omega), Int.add_assoc a]
      have := nx _ ev
      rw [ev] at this ⊢
      refine ⟨by omega, by omega, ⟨⟨by omega, by omega⟩, by omega, by omega⟩, this.1, fun q => ⟨by omega, by omega, this.2 q⟩⟩
    · have ev : 0 = csF f N w ((Mi σ' 939786321) j) a (m + 1) := by
        unfold csF
        rw [if_pos (by omega), show a + ((m : Int) + 1) = N by omega, hbn]; rfl
      have := nx _ ev
      refine ⟨by omega, ⟨by omega, by omega⟩, this.1, fun q => ⟨by omega, by omega, this.2 q⟩⟩
