/-! the class: an edition made -/
theorem x_isOther {j : Int} {R : List Int} {σ : Mm} {k : Int → Mm → Prop} (hm : Mi σ 117702656 j 16 = R.length) (ha : arL ((Mi σ 805568993) j) R) (hl : R.length ≤ 60) (hr : ∀ p ∈ R, (0 ≤ p ∧ p < 60) ∧ IR ((Mi σ 839123425) j p) ∧ IR ((Mi σ 855900641) j p)) (h1 : ¬ (∀ p ∈ R, (Mi σ 839123425) j p = (Mi σ 855900641) j p) → k 1 σ) (h0 : (∀ p ∈ R, (Mi σ 839123425) j p = (Mi σ 855900641) j p) → k 0 σ) : OkI 64 [vR 134479928 j] σ k := by
  refine okI_loop mkX7_isOtherThanBefore (fun b n ls σ' => b = 1001 ∧ σ' = σ ∧ ∃ (l1 l2 : List Int) (o : Option Vv), R = l1 ++ l2 ∧ n = l2.length ∧ ls = [some (vR 134479928 j), some (vI l1.length), o] ∧ ∀ p ∈ l1, (Mi σ 839123425) j p = (Mi σ 855900641) j p) (Nat.le_of_ble_eq_true rfl) (fun K hK => ?_) (fun b n ls σ' hJ K hK => ?_)
  · simp -implicitDefEqProofs only [↓kI_e, ↓kL_e, ↓kR_e, ↓kV_e, ↓x1, ↓x2, ↓x4, ↓x5, ↓x6, ↓x7, ↓x8, ↓x9, ↓x10, ↓x11, ↓x12, ↓x13, ↓x17, ↓x18, ↓x19, ↓x20, ↓x21, ↓x22, ↓x14, ↓x15, ↓x23, ↓x24, ↓x25, ↓x26, ↓x27, ↓x28, ↓x29, ↓x30, ↓x31, ↓x32, ↓x33, ↓x34, ↓x35i, ↓x35r, ↓x36, ↓x37, ↓x38, ↓x39, ↓x40, ↓x41, ↓x72, ↓x42, ↓x43, ↓x44, ↓x45, ↓x46, ↓x47, ↓x48, ↓x50, ↓x51, ↓x52, ↓x53, ↓x54, ↓x55_0, ↓x56_0, ↓x55_1, ↓x56_1, ↓x55_2, ↓x56_2, ↓x55_3, ↓x56_3, ↓x55_4, ↓x56_4, ↓x55_5, ↓x56_5, ↓x57, ↓x58, ↓x59, ↓x60, ↓x61, ↓x62, ↓x63, ↓x64, ↓x65, ↓x75, ↓x67, ↓x77, ↓x68, ↓x78, ↓x69, ↓x79, ↓x70, ↓x73, ↓x74, ↓ldI_0, ↓ldG_0, ↓ldR_0, ↓stK_0, ↓stK2_0, ↓ldI_1, ↓ldG_1, ↓ldR_1, ↓stK_1I, ↓stK_1R, ↓stK_1N, ↓stK_1G, ↓stK2_1I, ↓stK2_1R, ↓stK2_1N, ↓stK2_1G, ↓ldI_2, ↓ldG_2, ↓ldR_2, ↓stK_2I, ↓stK_2R, ↓stK_2N, ↓stK_2G, ↓stK2_2I, ↓stK2_2R, ↓stK2_2N, ↓stK2_2G, ↓ldI_3, ↓ldG_3, ↓ldR_3, ↓stK_3I, ↓stK_3R, ↓stK_3N, ↓stK_3G, ↓stK2_3I, ↓stK2_3R, ↓stK2_3N, ↓stK2_3G, ↓ldI_4, ↓ldG_4, ↓ldR_4, ↓stK_4I, ↓stK_4R, ↓stK_4N, ↓stK_4G, ↓stK2_4I, ↓stK2_4R, ↓stK2_4N, ↓stK2_4G, ↓ldI_5, ↓ldG_5, ↓ldR_5, ↓stK_5I, ↓stK_5R, ↓stK_5N, ↓stK_5G, ↓stK2_5I, ↓stK2_5R, ↓stK2_5N, ↓stK2_5G, ↓ldI_6, ↓ldG_6, ↓ldR_6, ↓stK_6I, ↓stK_6R, ↓stK_6N, ↓stK_6G, ↓stK2_6I, ↓stK2_6R, ↓stK2_6N, ↓stK2_6G, ↓ldI_7, ↓ldG_7, ↓ldR_7, ↓stK_7I, ↓stK_7R, ↓stK_7N, ↓stK_7G, ↓stK2_7I, ↓stK2_7R, ↓stK2_7N, ↓stK2_7G, ↓ldI_8, ↓ldG_8, ↓ldR_8, ↓stK_8I, ↓stK_8R, ↓stK_8N, ↓stK_8G, ↓stK2_8I, ↓stK2_8R, ↓stK2_8N, ↓stK2_8G, ↓ldI_9, ↓ldG_9, ↓ldR_9, ↓stK_9I, ↓stK_9R, ↓stK_9N, ↓stK_9G, ↓stK2_9I, ↓stK2_9R, ↓stK2_9N, ↓stK2_9G, ↓ldI_10, ↓ldG_10, ↓ldR_10, ↓stK_10I, ↓stK_10R, ↓stK_10N, ↓stK_10G, ↓stK2_10I, ↓stK2_10R, ↓stK2_10N, ↓stK2_10G, ↓ldI_11, ↓ldG_11, ↓ldR_11, ↓stK_11I, ↓stK_11R, ↓stK_11N, ↓stK_11G, ↓stK2_11I, ↓stK2_11R, ↓stK2_11N, ↓stK2_11G, ↓ldI_12, ↓ldG_12, ↓ldR_12, ↓stK_12I, ↓stK_12R, ↓stK_12N, ↓stK_12G, ↓stK2_12I, ↓stK2_12R, ↓stK2_12N, ↓stK2_12G, ↓pN_0, ↓pN_1, ↓pN_2, ↓pN_3, ↓pN_4, ↓pN_5, ↓pN_6, ↓pN_7, ↓ctI_e, ↓ctL_e, ↓ctR_e, ↓ctV_e, ↓tsK_n, ↓tsK_c, ↓go_K, ↓go_X, csum_n, csum_I, csum_R, csum_G, hdCls_r, isCls, elemR, rg_x_pads, rg_log_words, rg_row_pads, rg_row_words, rg_row_led, alen, IR, Nat.reduceMod, Nat.reduceDiv, Nat.reduceSub, Nat.reduceAdd, Nat.reduceLeDiff, Nat.reduceEqDiff, Nat.reduceLT, Int.reduceLE, Int.reduceLT, Int.reduceEq, Int.reduceNe, Int.reduceAdd, Int.reduceSub, Int.reduceNeg, Int.reduceMul, ne_eq, not_true_eq_false, not_false_eq_true, true_and, and_true, false_and, and_false, true_or, or_true, false_or, or_false, and_self, or_self, true_implies, forall_const, false_implies, implies_true, reduceIte, reduceCtorEq, eq_self, Int.le_refl, Nat.le_refl, Int.reduceNatCast, Int.cast_ofNat_Int, ↓eX7_isOtherThanBefore_0, ↓eX7_isOtherThanBefore_1, ↓eX7_isOtherThanBefore_2, ↓eX7_isOtherThanBefore_3, lX7_isOtherThanBefore, ent0, entI, entR, entG, ent_n, List.length_cons, List.length_nil, List.replicate, List.cons_append, List.nil_append, Nat.reduceSub, Nat.reduceAdd]
    exact hK _ _ _ _ (by decide) ⟨rfl, rfl, [], R, none, rfl, rfl, rfl, by simp⟩
  · obtain ⟨rfl, rfl, l1, l2, o, hsp, rfl, rfl, hD⟩ := hJ
    have hlR : R.length = l1.length + l2.length := by rw [hsp, List.length_append]
    simp -implicitDefEqProofs only [↓kI_e, ↓kL_e, ↓kR_e, ↓kV_e, ↓x1, ↓x2, ↓x4, ↓x5, ↓x6, ↓x7, ↓x8, ↓x9, ↓x10, ↓x11, ↓x12, ↓x13, ↓x17, ↓x18, ↓x19, ↓x20, ↓x21, ↓x22, ↓x14, ↓x15, ↓x23, ↓x24, ↓x25, ↓x26, ↓x27, ↓x28, ↓x29, ↓x30, ↓x31, ↓x32, ↓x33, ↓x34, ↓x35i, ↓x35r, ↓x36, ↓x37, ↓x38, ↓x39, ↓x40, ↓x41, ↓x72, ↓x42, ↓x43, ↓x44, ↓x45, ↓x46, ↓x47, ↓x48, ↓x50, ↓x51, ↓x52, ↓x53, ↓x54, ↓x55_0, ↓x56_0, ↓x55_1, ↓x56_1, ↓x55_2, ↓x56_2, ↓x55_3, ↓x56_3, ↓x55_4, ↓x56_4, ↓x55_5, ↓x56_5, ↓x57, ↓x58, ↓x59, ↓x60, ↓x61, ↓x62, ↓x63, ↓x64, ↓x65, ↓x75, ↓x67, ↓x77, ↓x68, ↓x78, ↓x69, ↓x79, ↓x70, ↓x73, ↓x74, ↓ldI_0, ↓ldG_0, ↓ldR_0, ↓stK_0, ↓stK2_0, ↓ldI_1, ↓ldG_1, ↓ldR_1, ↓stK_1I, ↓stK_1R, ↓stK_1N, ↓stK_1G, ↓stK2_1I, ↓stK2_1R, ↓stK2_1N, ↓stK2_1G, ↓ldI_2, ↓ldG_2, ↓ldR_2, ↓stK_2I, ↓stK_2R, ↓stK_2N, ↓stK_2G, ↓stK2_2I, ↓stK2_2R, ↓stK2_2N, ↓stK2_2G, ↓ldI_3, ↓ldG_3, ↓ldR_3, ↓stK_3I, ↓stK_3R, ↓stK_3N, ↓stK_3G, ↓stK2_3I, ↓stK2_3R, ↓stK2_3N, ↓stK2_3G, ↓ldI_4, ↓ldG_4, ↓ldR_4, ↓stK_4I, ↓stK_4R, ↓stK_4N, ↓stK_4G, ↓stK2_4I, ↓stK2_4R, ↓stK2_4N, ↓stK2_4G, ↓ldI_5, ↓ldG_5, ↓ldR_5, ↓stK_5I, ↓stK_5R, ↓stK_5N, ↓stK_5G, ↓stK2_5I, ↓stK2_5R, ↓stK2_5N, ↓stK2_5G, ↓ldI_6, ↓ldG_6, ↓ldR_6, ↓stK_6I, ↓stK_6R, ↓stK_6N, ↓stK_6G, ↓stK2_6I, ↓stK2_6R, ↓stK2_6N, ↓stK2_6G, ↓ldI_7, ↓ldG_7, ↓ldR_7, ↓stK_7I, ↓stK_7R, ↓stK_7N, ↓stK_7G, ↓stK2_7I, ↓stK2_7R, ↓stK2_7N, ↓stK2_7G, ↓ldI_8, ↓ldG_8, ↓ldR_8, ↓stK_8I, ↓stK_8R, ↓stK_8N, ↓stK_8G, ↓stK2_8I, ↓stK2_8R, ↓stK2_8N, ↓stK2_8G, ↓ldI_9, ↓ldG_9, ↓ldR_9, ↓stK_9I, ↓stK_9R, ↓stK_9N, ↓stK_9G, ↓stK2_9I, ↓stK2_9R, ↓stK2_9N, ↓stK2_9G, ↓ldI_10, ↓ldG_10, ↓ldR_10, ↓stK_10I, ↓stK_10R, ↓stK_10N, ↓stK_10G, ↓stK2_10I, ↓stK2_10R, ↓stK2_10N, ↓stK2_10G, ↓ldI_11, ↓ldG_11, ↓ldR_11, ↓stK_11I, ↓stK_11R, ↓stK_11N, ↓stK_11G, ↓stK2_11I, ↓stK2_11R, ↓stK2_11N, ↓stK2_11G, ↓ldI_12, ↓ldG_12, ↓ldR_12, ↓stK_12I, ↓stK_12R, ↓stK_12N, ↓stK_12G, ↓stK2_12I, ↓stK2_12R, ↓stK2_12N, ↓stK2_12G, ↓pN_0, ↓pN_1, ↓pN_2, ↓pN_3, ↓pN_4, ↓pN_5, ↓pN_6, ↓pN_7, ↓ctI_e, ↓ctL_e, ↓ctR_e, ↓ctV_e, ↓tsK_n, ↓tsK_c, ↓go_K, ↓go_X, csum_n, csum_I, csum_R, csum_G, hdCls_r, isCls, elemR, rg_x_pads, rg_log_words, rg_row_pads, rg_row_words, rg_row_led, alen, IR, Nat.reduceMod, Nat.reduceDiv, Nat.reduceSub, Nat.reduceAdd, Nat.reduceLeDiff, Nat.reduceEqDiff, Nat.reduceLT, Int.reduceLE, Int.reduceLT, Int.reduceEq, Int.reduceNe, Int.reduceAdd, Int.reduceSub, Int.reduceNeg, Int.reduceMul, ne_eq, not_true_eq_false, not_false_eq_true, true_and, and_true, false_and, and_false, true_or, or_true, false_or, or_false, and_self, or_self, true_implies, forall_const, false_implies, implies_true, reduceIte, reduceCtorEq, eq_self, Int.le_refl, Nat.le_refl, Int.reduceNatCast, Int.cast_ofNat_Int, ↓eX7_isOtherThanBefore_0, ↓eX7_isOtherThanBefore_1, ↓eX7_isOtherThanBefore_2, ↓eX7_isOtherThanBefore_3, lX7_isOtherThanBefore, ent0, entI, entR, entG, ent_n, List.length_cons, List.length_nil, List.replicate, List.cons_append, List.nil_append, Nat.reduceSub, Nat.reduceAdd]
    rw [hm]
    cases l2 with
    | nil =>
      simp only [List.length_nil] at hlR
      rw [List.append_nil] at hsp
      refine ⟨⟨⟨by omega, by omega⟩, by omega, by omega⟩, fun _ => h0 (by rw [hsp]; exact hD), fun c => by omega⟩
    | cons p l3 =>
      rw [List.length_cons] at hlR
      have hpr : (Mi σ' 805568993) j l1.length = p := ha l1.length p (by rw [hsp]; simp)
      have hpR : p ∈ R := by rw [hsp]; simp
      obtain ⟨g1, g2, g3⟩ := hr p hpR
      rw [hpr]
      have nx : (Mi σ' 839123425) j p = (Mi σ' 855900641) j p → K 1001 [some (vR 134479928 j), some (vI ((l1.length : Int) + 1)), some (vI p)] [] σ' := fun c => by
        refine hK _ l3.length _ _ (by decide) (by simp) ⟨rfl, rfl, l1 ++ [p], l3, some (vI p), by rw [hsp]; simp, rfl, by simp, fun q hq => ?_⟩
        rcases List.mem_append.mp hq with hq | hq
        · exact hD q hq
        · rw [List.mem_singleton.mp hq]; exact c
      exact ⟨⟨⟨by omega, by omega⟩, by omega, by omega⟩, fun c => by omega, fun _ => ⟨by omega, g1, g1, ⟨g2, g3⟩, nx, fun c => h1 (fun z => c (z p hpR))⟩⟩
/-- the pages are fewer than a thousand -/
theorem rnE_bd {E : En} (hh : 10 ≤ E.2.2.2.2.2) (hn : ∀ p, 0 ≤ E.2.2.1 p ∧ E.2.2.1 p ≤ 3) : ∀ (l : List Int), (∀ p ∈ l, (E.1 p ≠ 1 → 0 ≤ (if E.1 p = 0 then 1 else E.2.1 p) ∧ (if E.1 p = 0 then 1 else E.2.1 p) ≤ E.2.2.2.2.2) ∧ (E.1 p = 1 → (eL E p).length ≤ 9)) → (1 ≤ (rnE E l.reverse).1 ∧ (rnE E l.reverse).1 ≤ 1 + 10 * l.length) ∧ 0 ≤ (rnE E l.reverse).2.1 ∧ (rnE E l.reverse).2.1 ≤ E.2.2.2.2.2
  | [], _ => by simp [rnE, s60]; omega
  | p :: l, h => by
    have ih := rnE_bd hh hn l (fun q hq => h q (List.mem_cons_of_mem _ hq))
    have hp := h p List.mem_cons_self
    have st := stE_rng (s := rnE E l.reverse) hh (hn p) ih.2 hp.1 hp.2
    rw [List.reverse_cons, rnE_s, List.length_cons]
    obtain ⟨s1, s2⟩ := st
    refine ⟨⟨by omega, by omega⟩, ?_⟩
    exact s2
theorem pg_bd {E : En} {R : List Int} {p : Int} (hh : 10 ≤ E.2.2.2.2.2) (hn : ∀ p, 0 ≤ E.2.2.1 p ∧ E.2.2.1 p ≤ 3) (hl : R.length ≤ 60) (hnd : R.Nodup) (h : ∀ p ∈ R, (E.1 p ≠ 1 → 0 ≤ (if E.1 p = 0 then 1 else E.2.1 p) ∧ (if E.1 p = 0 then 1 else E.2.1 p) ≤ E.2.2.2.2.2) ∧ (E.1 p = 1 → (eL E p).length ≤ 9)) (hp : p ∈ R) : 1 ≤ pgE E (bfE E R p) p ∧ pgE E (bfE E R p) p ≤ 999 := by
  obtain ⟨l1, l2, rfl⟩ := List.append_of_mem hp
  have hp1 : p ∉ l1 := by
    rw [List.nodup_append] at hnd
    exact fun q => hnd.2.2 p q p (by simp) rfl
  rw [bfE_at hp1]
  have b := rnE_bd hh hn l1.reverse (fun q hq => h q (List.mem_append_left _ (List.mem_reverse.mp hq)))
  rw [List.reverse_reverse, List.length_reverse] at b
  have := pgE_rng (s := rnE E l1) hh (hn p) b.2 (h p hp).1
  rw [List.length_append, List.length_cons] at hl
  omega
theorem mk_eq {μ : Mm} {B : Bk} {t w h : Int} {pw pw' : Int → Int} (he : ∀ q, sn B q → pw q = pw' q) : mkE μ B t w h pw = mkE μ B t w h pw' := by
  have : (fun p => (mSay μ B t p).map (fun x => 1 + x % 7) ++ (if tlb (Mi μ 1073873377 0) B p = true then [dig (pw (B.1 4 p))] else [])) = (fun p => (mSay μ B t p).map (fun x => 1 + x % 7) ++ (if tlb (Mi μ 1073873377 0) B p = true then [dig (pw' (B.1 4 p))] else [])) := by
    funext p
    by_cases c : tlb (Mi μ 1073873377 0) B p = true
    · rw [if_pos c, if_pos c]
      have := (tlb_iff.mp c).2.2
      rw [he _ this]
    · rw [if_neg c, if_neg c]
  unfold mkE envB
  rw [this]
/-- a round may begin -/
theorem pcE_mk {σ μ : Mm} {j : Int} {set : Int64} {t w h p : Int} (hB : xBk σ μ j set (allB μ set)) (hR : XR σ μ) (hI : mI μ) (hS : sdX σ μ j (allB μ set) t (Mi μ 184680536 0 10)) (hL : ∀ p ∈ readL (allB μ set), (Mi μ 1073873377 0) p ≠ 1 → (Mi σ 872677857) j p = 0) (hw : ∀ p ∈ readL (allB μ set), 1 ≤ (Mi σ 855900641) j p ∧ (Mi σ 855900641) j p < 1000) (hp : p ∈ readL (allB μ set)) : pcE σ j (mkE μ (allB μ set) t w h ((Mi σ 855900641) j)) p := by
  have hM := allB_M hI.1 (s := set)
  have hv := allB_v hI.1 hI.2.1 (s := set) (p := p)
  have hp1 := (readL_mem hM.1).mp hp
  have br := bkM_r hM hp1.1
  have bk := (hM.2.2.1 p hp1.1).2
  have hx := hI.2.1 p br.1 br.2.2
  have hlog := hR.1.2.1 p br.1 br.2.2
  have hbk := hB.1.2.1 p br.1 br.2.2
  obtain ⟨⟨r, jr, d1, d2, d3⟩, d4⟩ := hS p br.1 br.2.2
  have hsr := mSay_rng (t := t) hM.2.1 hI.2.2.2.2.2.2.1 (p := p) ⟨br.1, br.2.1⟩
  have hL' := hL p hp
  have hsn : ∀ q, sn (allB μ set) q → q ∈ readL (allB μ set) := fun q hq => (readL_mem hM.1).mpr hq
  have hin : ∀ q, sn (allB μ set) q → 0 ≤ q ∧ q < 60 := fun q hq => hM.1.2.1 q hq.1
  generalize allB μ set = B at *
  refine ⟨⟨br.1, br.2.1⟩, hlog.2.2.2.2.2.2.1, (hx.2.2.2.1 bk).1, hlog.2.2.2.2.2.2.2, (hx.2.2.2.1 bk).2, hbk.2.2.2.1, hv.1, hL', fun e => ?_⟩
  have e : (Mi μ 1073873377 0) p = 1 := e
  refine ⟨mSay μ B t p, r, jr, d1, d2, hsr.1, fun x hx => (hsr.2 x hx).1, d3, ?_, fun q => ?_, ?_⟩
  · rw [d4]; split
    · exact hv.2.1
    · omega
  · rw [d4] at q ⊢
    by_cases c : snb B (B.1 4 p) = true
    · rw [if_pos c]
      exact hw _ (hsn _ (snb_iff.mp c))
    · rw [if_neg c] at q; exact absurd rfl q
  · unfold tdX wdS
    rw [d4]
    show (mSay μ B t p).map (fun x => 1 + x % 7) ++ (if tlb (Mi μ 1073873377 0) B p = true then [dig ((Mi σ 855900641) j (B.1 4 p))] else []) = _
    congr 1
    by_cases c : snb B (B.1 4 p) = true
    · have h4 := hin _ (snb_iff.mp c)
      have ct : tlb (Mi μ 1073873377 0) B p = true := tlb_iff.mpr ⟨e, by omega, snb_iff.mp c⟩
      rw [if_pos ct, if_pos c, if_neg (show ¬ B.1 4 p = -1 by omega), if_pos (by unfold dig; split; omega; split <;> omega)]
    · have ct : ¬ tlb (Mi μ 1073873377 0) B p = true := fun z => c (snb_iff.mpr (tlb_iff.mp z).2.2)
      rw [if_neg ct, if_neg c, if_pos (show (-1 : Int) = -1 from rfl), if_neg (show ¬ (0 : Int) < 0 by omega)]
