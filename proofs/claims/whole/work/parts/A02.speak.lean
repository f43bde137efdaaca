/-! the class: words anew -/
theorem smF_is {a b : Int → Int} {m n : Int} : ∀ {f : Nat} {s t : Int}, s ≤ t → t - s ≤ f → (∀ q, s ≤ q → q < t → q < m ∧ q < n ∧ a q = b q) → ¬ (t < m ∧ t < n ∧ a t = b t) → smF a b m n f s = t
  | 0, s, t, h1, h2, _, _ => by
    have : t = s := by omega
    rw [this]; rfl
  | f + 1, s, t, h1, h2, h3, h4 => by
    unfold smF
    by_cases e : s = t
    · rw [if_neg (by rw [e]; exact h4)]; exact e
    · rw [if_pos (h3 s (by omega) (by omega))]
      exact smF_is (by omega) (by omega) (fun q q1 q2 => h3 q (by omega) q2) h4
theorem bWd_get {mn wd : Int → Int} {B : Bk} {p : Int} {i : Nat} (h : i < (bWd mn wd B p).length) : (bWd mn wd B p).getD i 0 = wd (8 * B.1 6 p + i) := by
  rw [List.getD_eq_getElem?_getD, List.getElem?_eq_getElem h]
  simp [bWd]
theorem cW_get {μ : Mm} {c : Int} {i : Nat} (h : i < (cW μ c).length) : (cW μ c).getD i 0 = (Mi μ 1124208385 0) (8 * c + i) := by
  rw [List.getD_eq_getElem?_getD, List.getElem?_eq_getElem h]
  simp [cW]
theorem getD_q {l m : List Int} {i : Nat} (h : l[i]? = m[i]?) : l.getD i 0 = m.getD i 0 := by rw [List.getD_eq_getElem?_getD, List.getD_eq_getElem?_getD, h]
theorem cpl_smA {W N : List Int} {a b : Int → Int} (hW : ∀ i : Nat, i < W.length → W.getD i 0 = a i) (hN : ∀ i : Nat, i < N.length → N.getD i 0 = b i) (hl : W.length ≤ 8) : smA a b W.length N.length = cpl W N := by
  have hle := cpl_le (l := W) (m := N)
  refine smF_is (by omega) (by omega) (fun q q1 q2 => ?_) (fun h => ?_)
  · obtain ⟨q, rfl⟩ := Int.eq_ofNat_of_zero_le q1
    refine ⟨by omega, by omega, ?_⟩
    rw [← hW q (by omega), ← hN q (by omega)]
    exact getD_q (cpl_get (by omega))
  · have h1 := hW (cpl W N) (by omega)
    have h2 := hN (cpl W N) (by omega)
    rw [← h1, ← h2] at h
    refine cpl_stop (l := W) (m := N) (by omega) (by omega) ?_
    rw [getD_some (l := W) (by omega), getD_some (l := N) (by omega), h.2.2]
theorem x_speak {σ μ : Mm} {j p c : Int} {B : Bk} {k : Mm → Prop} (h : XB σ μ j B) (hM : bkM μ B) (hL : xLog σ μ) (hI : logM μ) (hp : 0 ≤ p ∧ p < (Mi μ 184680536 0 10)) (hc : 0 ≤ c ∧ c < (Mi μ 184680536 0 10)) (hkd : (Mi μ 973210081 0) c = 3)
    (hk : ∀ σ', FrI [755240705, 738460129] j σ σ' → (Mi σ' 738460129) j = upd1 ((Mi σ 738460129) j) p c → (∀ x, x < 8 * p ∨ 8 * p + 8 ≤ x → (Mi σ' 755240705) j x = (Mi σ 755240705) j x) → (∀ i, 0 ≤ i → i < (Mi μ 1107427809 0) c → (Mi σ' 755240705) j (8 * p + i) = (wrdB (Mi μ 1107427809 0) (Mi μ 1124208385 0) B p c).2.2 p i) → k σ') : OkV 131 [vR 117702656 j, vI p, vI c] σ k := by
  have hn := hI.1.1
  have hw := MB_wk hM.2.1 (p := p) (by omega)
  have hcl := cW_len hI hc
  have hmn := (hI.2.2 c hc.1 hc.2).1.2.1
  have hbl : (mbW μ B p).length = (mWk (Mi μ 1107427809 0) B p).toNat := bWd_len
  have r2 := row2_words hL hI hc hkd
  have eA : smA (fun i => (Mi μ 1124208385 0) (8 * B.1 6 p + i)) (fun i => (Mi μ 1124208385 0) (8 * c + i)) (mWk (Mi μ 1107427809 0) B p) ((Mi μ 1107427809 0) c) = cpl (mbW μ B p) (cW μ c) := by
    have := cpl_smA (W := mbW μ B p) (N := cW μ c) (a := fun i => (Mi μ 1124208385 0) (8 * B.1 6 p + i)) (b := fun i => (Mi μ 1124208385 0) (8 * c + i)) (fun i hi => bWd_get hi) (fun i hi => cW_get hi) (by omega)
    rw [← this]
    congr 1 <;> omega
  have eW : ∀ i, (wrdB (Mi μ 1107427809 0) (Mi μ 1124208385 0) B p c).2.2 p i = rwW (B.2.2 p) (mWk (Mi μ 1107427809 0) B p) ((Mi μ 1107427809 0) c) (cpl (mbW μ B p) (cW μ c)) (smZ (fun i => (Mi μ 1124208385 0) (8 * B.1 6 p + i)) (fun i => (Mi μ 1124208385 0) (8 * c + i)) (mWk (Mi μ 1107427809 0) B p) ((Mi μ 1107427809 0) c)) c i := fun i => by
    rw [← eA]
    show (if p = p then _ else _) = _
    rw [if_pos rfl]
  have hwho := (h.2.1 p hp.1 hp.2).2.2.2.2.2
  have zI : ∀ e : Nat, e + cpl (mbW μ B p) (cW μ c) ≤ (mbW μ B p).length → e + cpl (mbW μ B p) (cW μ c) ≤ (cW μ c).length → (∀ q : Nat, q < e → (mbW μ B p).getD ((mbW μ B p).length - 1 - q) 0 = (cW μ c).getD ((cW μ c).length - 1 - q) 0) → (e + cpl (mbW μ B p) (cW μ c) = (mbW μ B p).length ∨ e + cpl (mbW μ B p) (cW μ c) = (cW μ c).length ∨ (mbW μ B p).getD ((mbW μ B p).length - 1 - e) 0 ≠ (cW μ c).getD ((cW μ c).length - 1 - e) 0) → smZ (fun i => (Mi μ 1124208385 0) (8 * B.1 6 p + i)) (fun i => (Mi μ 1124208385 0) (8 * c + i)) (mWk (Mi μ 1107427809 0) B p) ((Mi μ 1107427809 0) c) = e := fun e e1 e2 e3 e4 => by
    have gW : ∀ q : Nat, q < (mbW μ B p).length → (mbW μ B p).getD ((mbW μ B p).length - 1 - q) 0 = (Mi μ 1124208385 0) (8 * B.1 6 p + (mWk (Mi μ 1107427809 0) B p - 1 - q)) := fun q hq => by
      have := bWd_get (mn := (Mi μ 1107427809 0)) (wd := (Mi μ 1124208385 0)) (B := B) (p := p) (i := (mbW μ B p).length - 1 - q) (by show _ < (mbW μ B p).length; omega)
      refine this.trans ?_
      congr 1
      omega
    have gN : ∀ q : Nat, q < (cW μ c).length → (cW μ c).getD ((cW μ c).length - 1 - q) 0 = (Mi μ 1124208385 0) (8 * c + ((Mi μ 1107427809 0) c - 1 - q)) := fun q hq => by
      rw [cW_get (by omega)]
      congr 1
      omega
    unfold smZ
    rw [eA]
    refine smF_is (by omega) (by omega) (fun q q1 q2 => ?_) (fun z => ?_)
    · obtain ⟨q, rfl⟩ := Int.eq_ofNat_of_zero_le q1
      refine ⟨by omega, by omega, ?_⟩
      have := e3 q (by omega)
      rw [gW q (by omega), gN q (by omega)] at this
      exact this
    · obtain ⟨z1, z2, z3⟩ := z
      rcases e4 with e4 | e4 | e4
      · omega
      · omega
      · refine e4 ?_
        rw [gW e (by omega), gN e (by omega)]
        exact z3
  have hcp := cpl_le (l := mbW μ B p) (m := cW μ c)
  generalize hF0 : cpl (mbW μ B p) (cW μ c) = F0 at *
  generalize hZ0 : smZ (fun i => (Mi μ 1124208385 0) (8 * B.1 6 p + i)) (fun i => (Mi μ 1124208385 0) (8 * c + i)) (mWk (Mi μ 1107427809 0) B p) ((Mi μ 1107427809 0) c) = Z0 at *
  refine okV_loop mkX0_speak (fun b n ls σ' => b = 1001 ∧ ∃ (e i : Nat) (r : Nat) (jj : Int), Z0 = e ∧ e + F0 ≤ (mbW μ B p).length ∧ F0 ≤ i ∧ i + e ≤ (cW μ c).length ∧ n = (cW μ c).length - i ∧ ls = [some (vR 117702656 j), some (vI p), some (vI c), some (vR r jj), some (vR 2021130311 c), some (vI F0), some (vI e), some (vI (p * 8)), some (vI i)] ∧ FrI [755240705] j σ σ' ∧ ∀ x, (Mi σ' 755240705) j x = if 8 * p + F0 ≤ x ∧ x < 8 * p + i then c else if 8 * p + (cW μ c).length - e ≤ x ∧ x < 8 * p + (cW μ c).length then (Mi σ 755240705) j (x - (cW μ c).length + (mbW μ B p).length) else (Mi σ 755240705) j x) (Nat.le_of_ble_eq_true rfl) (fun K hK => ?_) (fun b n ls σ' hJ K hK => ?_)
  · simp only [↓kI_e, ↓kL_e, ↓kR_e, ↓kV_e, ↓x1, ↓x2, ↓x4, ↓x5, ↓x6, ↓x7, ↓x8, ↓x9, ↓x10, ↓x11, ↓x12, ↓x13, ↓x17, ↓x18, ↓x19, ↓x20, ↓x21, ↓x22, ↓x14, ↓x15, ↓x23, ↓x24, ↓x25, ↓x26, ↓x27, ↓x28, ↓x29, ↓x30, ↓x31, ↓x32, ↓x33, ↓x34, ↓x35i, ↓x35r, ↓x36, ↓x37, ↓x38, ↓x39, ↓x40, ↓x41, ↓x72, ↓x42, ↓x43, ↓x44, ↓x45, ↓x46, ↓x47, ↓x48, ↓x50, ↓x51, ↓x52, ↓x53, ↓x54, ↓x55_0, ↓x56_0, ↓x55_1, ↓x56_1, ↓x55_2, ↓x56_2, ↓x55_3, ↓x56_3, ↓x55_4, ↓x56_4, ↓x55_5, ↓x56_5, ↓x57, ↓x58, ↓x59, ↓x60, ↓x61, ↓x62, ↓x63, ↓x64, ↓x65, ↓x75, ↓x67, ↓x77, ↓x68, ↓x78, ↓x69, ↓x79, ↓x70, ↓x73, ↓x74, ↓ldI_0, ↓ldG_0, ↓ldR_0, ↓stK_0, ↓stK2_0, ↓ldI_1, ↓ldG_1, ↓ldR_1, ↓stK_1I, ↓stK_1R, ↓stK_1N, ↓stK_1G, ↓stK2_1I, ↓stK2_1R, ↓stK2_1N, ↓stK2_1G, ↓ldI_2, ↓ldG_2, ↓ldR_2, ↓stK_2I, ↓stK_2R, ↓stK_2N, ↓stK_2G, ↓stK2_2I, ↓stK2_2R, ↓stK2_2N, ↓stK2_2G, ↓ldI_3, ↓ldG_3, ↓ldR_3, ↓stK_3I, ↓stK_3R, ↓stK_3N, ↓stK_3G, ↓stK2_3I, ↓stK2_3R, ↓stK2_3N, ↓stK2_3G, ↓ldI_4, ↓ldG_4, ↓ldR_4, ↓stK_4I, ↓stK_4R, ↓stK_4N, ↓stK_4G, ↓stK2_4I, ↓stK2_4R, ↓stK2_4N, ↓stK2_4G, ↓ldI_5, ↓ldG_5, ↓ldR_5, ↓stK_5I, ↓stK_5R, ↓stK_5N, ↓stK_5G, ↓stK2_5I, ↓stK2_5R, ↓stK2_5N, ↓stK2_5G, ↓ldI_6, ↓ldG_6, ↓ldR_6, ↓stK_6I, ↓stK_6R, ↓stK_6N, ↓stK_6G, ↓stK2_6I, ↓stK2_6R, ↓stK2_6N, ↓stK2_6G, ↓ldI_7, ↓ldG_7, ↓ldR_7, ↓stK_7I, ↓stK_7R, ↓stK_7N, ↓stK_7G, ↓stK2_7I, ↓stK2_7R, ↓stK2_7N, ↓stK2_7G, ↓ldI_8, ↓ldG_8, ↓ldR_8, ↓stK_8I, ↓stK_8R, ↓stK_8N, ↓stK_8G, ↓stK2_8I, ↓stK2_8R, ↓stK2_8N, ↓stK2_8G, ↓ldI_9, ↓ldG_9, ↓ldR_9, ↓stK_9I, ↓stK_9R, ↓stK_9N, ↓stK_9G, ↓stK2_9I, ↓stK2_9R, ↓stK2_9N, ↓stK2_9G, ↓ldI_10, ↓ldG_10, ↓ldR_10, ↓stK_10I, ↓stK_10R, ↓stK_10N, ↓stK_10G, ↓stK2_10I, ↓stK2_10R, ↓stK2_10N, ↓stK2_10G, ↓ldI_11, ↓ldG_11, ↓ldR_11, ↓stK_11I, ↓stK_11R, ↓stK_11N, ↓stK_11G, ↓stK2_11I, ↓stK2_11R, ↓stK2_11N, ↓stK2_11G, ↓ldI_12, ↓ldG_12, ↓ldR_12, ↓stK_12I, ↓stK_12R, ↓stK_12N, ↓stK_12G, ↓stK2_12I, ↓stK2_12R, ↓stK2_12N, ↓stK2_12G, ↓pN_0, ↓pN_1, ↓pN_2, ↓pN_3, ↓pN_4, ↓pN_5, ↓pN_6, ↓pN_7, ↓ctI_e, ↓ctL_e, ↓ctR_e, ↓ctV_e, ↓tsK_n, ↓tsK_c, ↓go_K, ↓go_X, csum_n, csum_I, csum_R, csum_G, hdCls_r, isCls, elemR, rg_x_pads, rg_log_words, rg_row_pads, rg_row_words, rg_row_led, alen, IR, Nat.reduceMod, Nat.reduceDiv, Nat.reduceSub, Nat.reduceAdd, Nat.reduceLeDiff, Nat.reduceEqDiff, Nat.reduceLT, Int.reduceLE, Int.reduceLT, Int.reduceEq, Int.reduceNe, Int.reduceAdd, Int.reduceSub, Int.reduceNeg, Int.reduceMul, ne_eq, not_true_eq_false, not_false_eq_true, true_and, and_true, false_and, and_false, true_or, or_true, false_or, or_false, and_self, or_self, true_implies, forall_const, false_implies, implies_true, reduceIte, reduceCtorEq, eq_self, Int.le_refl, Nat.le_refl, Int.reduceNatCast, Int.cast_ofNat_Int, ↓eX0_speak_0, ↓eX0_speak_1, ↓eX0_speak_2, lX0_speak, ent0, entI, entR, entG, ent_n, List.length_cons, List.length_nil, List.replicate, List.cons_append, List.nil_append, Nat.reduceSub, Nat.reduceAdd]
    refine x_wordsOf h hM hL hI hp (fun r i hr hri => ?_)
    simp only [↓kI_e, ↓kL_e, ↓kR_e, ↓kV_e, ↓x1, ↓x2, ↓x4, ↓x5, ↓x6, ↓x7, ↓x8, ↓x9, ↓x10, ↓x11, ↓x12, ↓x13, ↓x17, ↓x18, ↓x19, ↓x20, ↓x21, ↓x22, ↓x14, ↓x15, ↓x23, ↓x24, ↓x25, ↓x26, ↓x27, ↓x28, ↓x29, ↓x30, ↓x31, ↓x32, ↓x33, ↓x34, ↓x35i, ↓x35r, ↓x36, ↓x37, ↓x38, ↓x39, ↓x40, ↓x41, ↓x72, ↓x42, ↓x43, ↓x44, ↓x45, ↓x46, ↓x47, ↓x48, ↓x50, ↓x51, ↓x52, ↓x53, ↓x54, ↓x55_0, ↓x56_0, ↓x55_1, ↓x56_1, ↓x55_2, ↓x56_2, ↓x55_3, ↓x56_3, ↓x55_4, ↓x56_4, ↓x55_5, ↓x56_5, ↓x57, ↓x58, ↓x59, ↓x60, ↓x61, ↓x62, ↓x63, ↓x64, ↓x65, ↓x75, ↓x67, ↓x77, ↓x68, ↓x78, ↓x69, ↓x79, ↓x70, ↓x73, ↓x74, ↓ldI_0, ↓ldG_0, ↓ldR_0, ↓stK_0, ↓stK2_0, ↓ldI_1, ↓ldG_1, ↓ldR_1, ↓stK_1I, ↓stK_1R, ↓stK_1N, ↓stK_1G, ↓stK2_1I, ↓stK2_1R, ↓stK2_1N, ↓stK2_1G, ↓ldI_2, ↓ldG_2, ↓ldR_2, ↓stK_2I, ↓stK_2R, ↓stK_2N, ↓stK_2G, ↓stK2_2I, ↓stK2_2R, ↓stK2_2N, ↓stK2_2G, ↓ldI_3, ↓ldG_3, ↓ldR_3, ↓stK_3I, ↓stK_3R, ↓stK_3N, ↓stK_3G, ↓stK2_3I, ↓stK2_3R, ↓stK2_3N, ↓stK2_3G, ↓ldI_4, ↓ldG_4, ↓ldR_4, ↓stK_4I, ↓stK_4R, ↓stK_4N, ↓stK_4G, ↓stK2_4I, ↓stK2_4R, ↓stK2_4N, ↓stK2_4G, ↓ldI_5, ↓ldG_5, ↓ldR_5, ↓stK_5I, ↓stK_5R, ↓stK_5N, ↓stK_5G, ↓stK2_5I, ↓stK2_5R, ↓stK2_5N, ↓stK2_5G, ↓ldI_6, ↓ldG_6, ↓ldR_6, ↓stK_6I, ↓stK_6R, ↓stK_6N, ↓stK_6G, ↓stK2_6I, ↓stK2_6R, ↓stK2_6N, ↓stK2_6G, ↓ldI_7, ↓ldG_7, ↓ldR_7, ↓stK_7I, ↓stK_7R, ↓stK_7N, ↓stK_7G, ↓stK2_7I, ↓stK2_7R, ↓stK2_7N, ↓stK2_7G, ↓ldI_8, ↓ldG_8, ↓ldR_8, ↓stK_8I, ↓stK_8R, ↓stK_8N, ↓stK_8G, ↓stK2_8I, ↓stK2_8R, ↓stK2_8N, ↓stK2_8G, ↓ldI_9, ↓ldG_9, ↓ldR_9, ↓stK_9I, ↓stK_9R, ↓stK_9N, ↓stK_9G, ↓stK2_9I, ↓stK2_9R, ↓stK2_9N, ↓stK2_9G, ↓ldI_10, ↓ldG_10, ↓ldR_10, ↓stK_10I, ↓stK_10R, ↓stK_10N, ↓stK_10G, ↓stK2_10I, ↓stK2_10R, ↓stK2_10N, ↓stK2_10G, ↓ldI_11, ↓ldG_11, ↓ldR_11, ↓stK_11I, ↓stK_11R, ↓stK_11N, ↓stK_11G, ↓stK2_11I, ↓stK2_11R, ↓stK2_11N, ↓stK2_11G, ↓ldI_12, ↓ldG_12, ↓ldR_12, ↓stK_12I, ↓stK_12R, ↓stK_12N, ↓stK_12G, ↓stK2_12I, ↓stK2_12R, ↓stK2_12N, ↓stK2_12G, ↓pN_0, ↓pN_1, ↓pN_2, ↓pN_3, ↓pN_4, ↓pN_5, ↓pN_6, ↓pN_7, ↓ctI_e, ↓ctL_e, ↓ctR_e, ↓ctV_e, ↓tsK_n, ↓tsK_c, ↓go_K, ↓go_X, csum_n, csum_I, csum_R, csum_G, hdCls_r, isCls, elemR, rg_x_pads, rg_log_words, rg_row_pads, rg_row_words, rg_row_led, alen, IR, Nat.reduceMod, Nat.reduceDiv, Nat.reduceSub, Nat.reduceAdd, Nat.reduceLeDiff, Nat.reduceEqDiff, Nat.reduceLT, Int.reduceLE, Int.reduceLT, Int.reduceEq, Int.reduceNe, Int.reduceAdd, Int.reduceSub, Int.reduceNeg, Int.reduceMul, ne_eq, not_true_eq_false, not_false_eq_true, true_and, and_true, false_and, and_false, true_or, or_true, false_or, or_false, and_self, or_self, true_implies, forall_const, false_implies, implies_true, reduceIte, reduceCtorEq, eq_self, Int.le_refl, Nat.le_refl, Int.reduceNatCast, Int.cast_ofNat_Int, ↓eX0_speak_0, ↓eX0_speak_1, ↓eX0_speak_2, lX0_speak, ent0, entI, entR, entG, ent_n, List.length_cons, List.length_nil, List.replicate, List.cons_append, List.nil_append, Nat.reduceSub, Nat.reduceAdd]
    refine ⟨by omega, hr.1, x_sameFromFirst hr r2 ?_⟩
    rw [hF0]
    simp only [↓kI_e, ↓kL_e, ↓kR_e, ↓kV_e, ↓x1, ↓x2, ↓x4, ↓x5, ↓x6, ↓x7, ↓x8, ↓x9, ↓x10, ↓x11, ↓x12, ↓x13, ↓x17, ↓x18, ↓x19, ↓x20, ↓x21, ↓x22, ↓x14, ↓x15, ↓x23, ↓x24, ↓x25, ↓x26, ↓x27, ↓x28, ↓x29, ↓x30, ↓x31, ↓x32, ↓x33, ↓x34, ↓x35i, ↓x35r, ↓x36, ↓x37, ↓x38, ↓x39, ↓x40, ↓x41, ↓x72, ↓x42, ↓x43, ↓x44, ↓x45, ↓x46, ↓x47, ↓x48, ↓x50, ↓x51, ↓x52, ↓x53, ↓x54, ↓x55_0, ↓x56_0, ↓x55_1, ↓x56_1, ↓x55_2, ↓x56_2, ↓x55_3, ↓x56_3, ↓x55_4, ↓x56_4, ↓x55_5, ↓x56_5, ↓x57, ↓x58, ↓x59, ↓x60, ↓x61, ↓x62, ↓x63, ↓x64, ↓x65, ↓x75, ↓x67, ↓x77, ↓x68, ↓x78, ↓x69, ↓x79, ↓x70, ↓x73, ↓x74, ↓ldI_0, ↓ldG_0, ↓ldR_0, ↓stK_0, ↓stK2_0, ↓ldI_1, ↓ldG_1, ↓ldR_1, ↓stK_1I, ↓stK_1R, ↓stK_1N, ↓stK_1G, ↓stK2_1I, ↓stK2_1R, ↓stK2_1N, ↓stK2_1G, ↓ldI_2, ↓ldG_2, ↓ldR_2, ↓stK_2I, ↓stK_2R, ↓stK_2N, ↓stK_2G, ↓stK2_2I, ↓stK2_2R, ↓stK2_2N, ↓stK2_2G, ↓ldI_3, ↓ldG_3, ↓ldR_3, ↓stK_3I, ↓stK_3R, ↓stK_3N, ↓stK_3G, ↓stK2_3I, ↓stK2_3R, ↓stK2_3N, ↓stK2_3G, ↓ldI_4, ↓ldG_4, ↓ldR_4, ↓stK_4I, ↓stK_4R, ↓stK_4N, ↓stK_4G, ↓stK2_4I, ↓stK2_4R, ↓stK2_4N, ↓stK2_4G, ↓ldI_5, ↓ldG_5, ↓ldR_5, ↓stK_5I, ↓stK_5R, ↓stK_5N, ↓stK_5G, ↓stK2_5I, ↓stK2_5R, ↓stK2_5N, ↓stK2_5G, ↓ldI_6, ↓ldG_6, ↓ldR_6, ↓stK_6I, ↓stK_6R, ↓stK_6N, ↓stK_6G, ↓stK2_6I, ↓stK2_6R, ↓stK2_6N, ↓stK2_6G, ↓ldI_7, ↓ldG_7, ↓ldR_7, ↓stK_7I, ↓stK_7R, ↓stK_7N, ↓stK_7G, ↓stK2_7I, ↓stK2_7R, ↓stK2_7N, ↓stK2_7G, ↓ldI_8, ↓ldG_8, ↓ldR_8, ↓stK_8I, ↓stK_8R, ↓stK_8N, ↓stK_8G, ↓stK2_8I, ↓stK2_8R, ↓stK2_8N, ↓stK2_8G, ↓ldI_9, ↓ldG_9, ↓ldR_9, ↓stK_9I, ↓stK_9R, ↓stK_9N, ↓stK_9G, ↓stK2_9I, ↓stK2_9R, ↓stK2_9N, ↓stK2_9G, ↓ldI_10, ↓ldG_10, ↓ldR_10, ↓stK_10I, ↓stK_10R, ↓stK_10N, ↓stK_10G, ↓stK2_10I, ↓stK2_10R, ↓stK2_10N, ↓stK2_10G, ↓ldI_11, ↓ldG_11, ↓ldR_11, ↓stK_11I, ↓stK_11R, ↓stK_11N, ↓stK_11G, ↓stK2_11I, ↓stK2_11R, ↓stK2_11N, ↓stK2_11G, ↓ldI_12, ↓ldG_12, ↓ldR_12, ↓stK_12I, ↓stK_12R, ↓stK_12N, ↓stK_12G, ↓stK2_12I, ↓stK2_12R, ↓stK2_12N, ↓stK2_12G, ↓pN_0, ↓pN_1, ↓pN_2, ↓pN_3, ↓pN_4, ↓pN_5, ↓pN_6, ↓pN_7, ↓ctI_e, ↓ctL_e, ↓ctR_e, ↓ctV_e, ↓tsK_n, ↓tsK_c, ↓go_K, ↓go_X, csum_n, csum_I, csum_R, csum_G, hdCls_r, isCls, elemR, rg_x_pads, rg_log_words, rg_row_pads, rg_row_words, rg_row_led, alen, IR, Nat.reduceMod, Nat.reduceDiv, Nat.reduceSub, Nat.reduceAdd, Nat.reduceLeDiff, Nat.reduceEqDiff, Nat.reduceLT, Int.reduceLE, Int.reduceLT, Int.reduceEq, Int.reduceNe, Int.reduceAdd, Int.reduceSub, Int.reduceNeg, Int.reduceMul, ne_eq, not_true_eq_false, not_false_eq_true, true_and, and_true, false_and, and_false, true_or, or_true, false_or, or_false, and_self, or_self, true_implies, forall_const, false_implies, implies_true, reduceIte, reduceCtorEq, eq_self, Int.le_refl, Nat.le_refl, Int.reduceNatCast, Int.cast_ofNat_Int, ↓eX0_speak_0, ↓eX0_speak_1, ↓eX0_speak_2, lX0_speak, ent0, entI, entR, entG, ent_n, List.length_cons, List.length_nil, List.replicate, List.cons_append, List.nil_append, Nat.reduceSub, Nat.reduceAdd]
    refine ⟨hr.1, x_sameFromLast hr r2 (c := F0) (by omega) (fun e e1 e2 e3 e4 => ?_)⟩
    have eZ := zI e e1 e2 e3 e4
    simp only [↓kI_e, ↓kL_e, ↓kR_e, ↓kV_e, ↓x1, ↓x2, ↓x4, ↓x5, ↓x6, ↓x7, ↓x8, ↓x9, ↓x10, ↓x11, ↓x12, ↓x13, ↓x17, ↓x18, ↓x19, ↓x20, ↓x21, ↓x22, ↓x14, ↓x15, ↓x23, ↓x24, ↓x25, ↓x26, ↓x27, ↓x28, ↓x29, ↓x30, ↓x31, ↓x32, ↓x33, ↓x34, ↓x35i, ↓x35r, ↓x36, ↓x37, ↓x38, ↓x39, ↓x40, ↓x41, ↓x72, ↓x42, ↓x43, ↓x44, ↓x45, ↓x46, ↓x47, ↓x48, ↓x50, ↓x51, ↓x52, ↓x53, ↓x54, ↓x55_0, ↓x56_0, ↓x55_1, ↓x56_1, ↓x55_2, ↓x56_2, ↓x55_3, ↓x56_3, ↓x55_4, ↓x56_4, ↓x55_5, ↓x56_5, ↓x57, ↓x58, ↓x59, ↓x60, ↓x61, ↓x62, ↓x63, ↓x64, ↓x65, ↓x75, ↓x67, ↓x77, ↓x68, ↓x78, ↓x69, ↓x79, ↓x70, ↓x73, ↓x74, ↓ldI_0, ↓ldG_0, ↓ldR_0, ↓stK_0, ↓stK2_0, ↓ldI_1, ↓ldG_1, ↓ldR_1, ↓stK_1I, ↓stK_1R, ↓stK_1N, ↓stK_1G, ↓stK2_1I, ↓stK2_1R, ↓stK2_1N, ↓stK2_1G, ↓ldI_2, ↓ldG_2, ↓ldR_2, ↓stK_2I, ↓stK_2R, ↓stK_2N, ↓stK_2G, ↓stK2_2I, ↓stK2_2R, ↓stK2_2N, ↓stK2_2G, ↓ldI_3, ↓ldG_3, ↓ldR_3, ↓stK_3I, ↓stK_3R, ↓stK_3N, ↓stK_3G, ↓stK2_3I, ↓stK2_3R, ↓stK2_3N, ↓stK2_3G, ↓ldI_4, ↓ldG_4, ↓ldR_4, ↓stK_4I, ↓stK_4R, ↓stK_4N, ↓stK_4G, ↓stK2_4I, ↓stK2_4R, ↓stK2_4N, ↓stK2_4G, ↓ldI_5, ↓ldG_5, ↓ldR_5, ↓stK_5I, ↓stK_5R, ↓stK_5N, ↓stK_5G, ↓stK2_5I, ↓stK2_5R, ↓stK2_5N, ↓stK2_5G, ↓ldI_6, ↓ldG_6, ↓ldR_6, ↓stK_6I, ↓stK_6R, ↓stK_6N, ↓stK_6G, ↓stK2_6I, ↓stK2_6R, ↓stK2_6N, ↓stK2_6G, ↓ldI_7, ↓ldG_7, ↓ldR_7, ↓stK_7I, ↓stK_7R, ↓stK_7N, ↓stK_7G, ↓stK2_7I, ↓stK2_7R, ↓stK2_7N, ↓stK2_7G, ↓ldI_8, ↓ldG_8, ↓ldR_8, ↓stK_8I, ↓stK_8R, ↓stK_8N, ↓stK_8G, ↓stK2_8I, ↓stK2_8R, ↓stK2_8N, ↓stK2_8G, ↓ldI_9, ↓ldG_9, ↓ldR_9, ↓stK_9I, ↓stK_9R, ↓stK_9N, ↓stK_9G, ↓stK2_9I, ↓stK2_9R, ↓stK2_9N, ↓stK2_9G, ↓ldI_10, ↓ldG_10, ↓ldR_10, ↓stK_10I, ↓stK_10R, ↓stK_10N, ↓stK_10G, ↓stK2_10I, ↓stK2_10R, ↓stK2_10N, ↓stK2_10G, ↓ldI_11, ↓ldG_11, ↓ldR_11, ↓stK_11I, ↓stK_11R, ↓stK_11N, ↓stK_11G, ↓stK2_11I, ↓stK2_11R, ↓stK2_11N, ↓stK2_11G, ↓ldI_12, ↓ldG_12, ↓ldR_12, ↓stK_12I, ↓stK_12R, ↓stK_12N, ↓stK_12G, ↓stK2_12I, ↓stK2_12R, ↓stK2_12N, ↓stK2_12G, ↓pN_0, ↓pN_1, ↓pN_2, ↓pN_3, ↓pN_4, ↓pN_5, ↓pN_6, ↓pN_7, ↓ctI_e, ↓ctL_e, ↓ctR_e, ↓ctV_e, ↓tsK_n, ↓tsK_c, ↓go_K, ↓go_X, csum_n, csum_I, csum_R, csum_G, hdCls_r, isCls, elemR, rg_x_pads, rg_log_words, rg_row_pads, rg_row_words, rg_row_led, alen, IR, Nat.reduceMod, Nat.reduceDiv, Nat.reduceSub, Nat.reduceAdd, Nat.reduceLeDiff, Nat.reduceEqDiff, Nat.reduceLT, Int.reduceLE, Int.reduceLT, Int.reduceEq, Int.reduceNe, Int.reduceAdd, Int.reduceSub, Int.reduceNeg, Int.reduceMul, ne_eq, not_true_eq_false, not_false_eq_true, true_and, and_true, false_and, and_false, true_or, or_true, false_or, or_false, and_self, or_self, true_implies, forall_const, false_implies, implies_true, reduceIte, reduceCtorEq, eq_self, Int.le_refl, Nat.le_refl, Int.reduceNatCast, Int.cast_ofNat_Int, ↓eX0_speak_0, ↓eX0_speak_1, ↓eX0_speak_2, lX0_speak, ent0, entI, entR, entG, ent_n, List.length_cons, List.length_nil, List.replicate, List.cons_append, List.nil_append, Nat.reduceSub, Nat.reduceAdd]
    rw [hr.2.1.1, r2.2.1.1]
    refine ⟨hr.1, by omega, ?_⟩
    refine hK 1001 ((cW μ c).length - F0) _ _ (by decide) ⟨rfl, e, F0, r, i, eZ, by omega, by omega, by omega, rfl, rfl, FrI.cpI (by decide) FrI.rfl', fun x => ?_⟩
    rw [if_neg (by omega)]
    show (if _ then _ else _) = _
    by_cases q : 8 * p + (cW μ c).length - e ≤ x ∧ x < 8 * p + (cW μ c).length
    · rw [if_pos ⟨rfl, rfl, by omega, by omega⟩, if_pos q]
      congr 1
      omega
    · rw [if_neg (fun z => q (by omega)), if_neg q]
  · obtain ⟨rfl, e, i, r, jj, eZ, e1, i1, i2, rfl, rfl, hFr, hx⟩ := hJ
    have r2' := row2_fr r2 hFr.fr rfl rfl
    simp only [↓kI_e, ↓kL_e, ↓kR_e, ↓kV_e, ↓x1, ↓x2, ↓x4, ↓x5, ↓x6, ↓x7, ↓x8, ↓x9, ↓x10, ↓x11, ↓x12, ↓x13, ↓x17, ↓x18, ↓x19, ↓x20, ↓x21, ↓x22, ↓x14, ↓x15, ↓x23, ↓x24, ↓x25, ↓x26, ↓x27, ↓x28, ↓x29, ↓x30, ↓x31, ↓x32, ↓x33, ↓x34, ↓x35i, ↓x35r, ↓x36, ↓x37, ↓x38, ↓x39, ↓x40, ↓x41, ↓x72, ↓x42, ↓x43, ↓x44, ↓x45, ↓x46, ↓x47, ↓x48, ↓x50, ↓x51, ↓x52, ↓x53, ↓x54, ↓x55_0, ↓x56_0, ↓x55_1, ↓x56_1, ↓x55_2, ↓x56_2, ↓x55_3, ↓x56_3, ↓x55_4, ↓x56_4, ↓x55_5, ↓x56_5, ↓x57, ↓x58, ↓x59, ↓x60, ↓x61, ↓x62, ↓x63, ↓x64, ↓x65, ↓x75, ↓x67, ↓x77, ↓x68, ↓x78, ↓x69, ↓x79, ↓x70, ↓x73, ↓x74, ↓ldI_0, ↓ldG_0, ↓ldR_0, ↓stK_0, ↓stK2_0, ↓ldI_1, ↓ldG_1, ↓ldR_1, ↓stK_1I, ↓stK_1R, ↓stK_1N, ↓stK_1G, ↓stK2_1I, ↓stK2_1R, ↓stK2_1N, ↓stK2_1G, ↓ldI_2, ↓ldG_2, ↓ldR_2, ↓stK_2I, ↓stK_2R, ↓stK_2N, ↓stK_2G, ↓stK2_2I, ↓stK2_2R, ↓stK2_2N, ↓stK2_2G, ↓ldI_3, ↓ldG_3, ↓ldR_3, ↓stK_3I, ↓stK_3R, ↓stK_3N, ↓stK_3G, ↓stK2_3I, ↓stK2_3R, ↓stK2_3N, ↓stK2_3G, ↓ldI_4, ↓ldG_4, ↓ldR_4, ↓stK_4I, ↓stK_4R, ↓stK_4N, ↓stK_4G, ↓stK2_4I, ↓stK2_4R, ↓stK2_4N, ↓stK2_4G, ↓ldI_5, ↓ldG_5, ↓ldR_5, ↓stK_5I, ↓stK_5R, ↓stK_5N, ↓stK_5G, ↓stK2_5I, ↓stK2_5R, ↓stK2_5N, ↓stK2_5G, ↓ldI_6, ↓ldG_6, ↓ldR_6, ↓stK_6I, ↓stK_6R, ↓stK_6N, ↓stK_6G, ↓stK2_6I, ↓stK2_6R, ↓stK2_6N, ↓stK2_6G, ↓ldI_7, ↓ldG_7, ↓ldR_7, ↓stK_7I, ↓stK_7R, ↓stK_7N, ↓stK_7G, ↓stK2_7I, ↓stK2_7R, ↓stK2_7N, ↓stK2_7G, ↓ldI_8, ↓ldG_8, ↓ldR_8, ↓stK_8I, ↓stK_8R, ↓stK_8N, ↓stK_8G, ↓stK2_8I, ↓stK2_8R, ↓stK2_8N, ↓stK2_8G, ↓ldI_9, ↓ldG_9, ↓ldR_9, ↓stK_9I, ↓stK_9R, ↓stK_9N, ↓stK_9G, ↓stK2_9I, ↓stK2_9R, ↓stK2_9N, ↓stK2_9G, ↓ldI_10, ↓ldG_10, ↓ldR_10, ↓stK_10I, ↓stK_10R, ↓stK_10N, ↓stK_10G, ↓stK2_10I, ↓stK2_10R, ↓stK2_10N, ↓stK2_10G, ↓ldI_11, ↓ldG_11, ↓ldR_11, ↓stK_11I, ↓stK_11R, ↓stK_11N, ↓stK_11G, ↓stK2_11I, ↓stK2_11R, ↓stK2_11N, ↓stK2_11G, ↓ldI_12, ↓ldG_12, ↓ldR_12, ↓stK_12I, ↓stK_12R, ↓stK_12N, ↓stK_12G, ↓stK2_12I, ↓stK2_12R, ↓stK2_12N, ↓stK2_12G, ↓pN_0, ↓pN_1, ↓pN_2, ↓pN_3, ↓pN_4, ↓pN_5, ↓pN_6, ↓pN_7, ↓ctI_e, ↓ctL_e, ↓ctR_e, ↓ctV_e, ↓tsK_n, ↓tsK_c, ↓go_K, ↓go_X, csum_n, csum_I, csum_R, csum_G, hdCls_r, isCls, elemR, rg_x_pads, rg_log_words, rg_row_pads, rg_row_words, rg_row_led, alen, IR, Nat.reduceMod, Nat.reduceDiv, Nat.reduceSub, Nat.reduceAdd, Nat.reduceLeDiff, Nat.reduceEqDiff, Nat.reduceLT, Int.reduceLE, Int.reduceLT, Int.reduceEq, Int.reduceNe, Int.reduceAdd, Int.reduceSub, Int.reduceNeg, Int.reduceMul, ne_eq, not_true_eq_false, not_false_eq_true, true_and, and_true, false_and, and_false, true_or, or_true, false_or, or_false, and_self, or_self, true_implies, forall_const, false_implies, implies_true, reduceIte, reduceCtorEq, eq_self, Int.le_refl, Nat.le_refl, Int.reduceNatCast, Int.cast_ofNat_Int, ↓eX0_speak_0, ↓eX0_speak_1, ↓eX0_speak_2, lX0_speak, ent0, entI, entR, entG, ent_n, List.length_cons, List.length_nil, List.replicate, List.cons_append, List.nil_append, Nat.reduceSub, Nat.reduceAdd]
    rw [r2'.2.1.1]
    refine ⟨⟨by omega, by omega⟩, fun g => ?_, fun g => ?_⟩
    · refine ⟨by omega, hk _ (FrI.sI (by decide) (hFr.mono (by decide))) ?_ (fun x hx2 => ?_) (fun x x1 x2 => ?_)⟩
      · rw [Mi_s, hFr.i _ rfl]
      · rw [Mi_n rfl, hx, if_neg (by omega), if_neg (by omega)]
      · rw [Mi_n rfl, hx, eW, eZ]
        unfold rwW
        by_cases c1 : x < F0
        · rw [if_pos c1, if_neg (by omega), if_neg (by omega)]
          exact hwho x x1 (by omega)
        · rw [if_neg c1]
          by_cases c2 : (Mi μ 1107427809 0) c - e ≤ x
          · rw [if_pos c2, if_neg (by omega), if_pos (by omega)]
            have := hwho (mWk (Mi μ 1107427809 0) B p - (Mi μ 1107427809 0) c + x) (by omega) (by omega)
            rw [← this]
            congr 1
            omega
          · rw [if_neg c2, if_pos (by omega)]
    · refine ⟨by omega, hK 1001 ((cW μ c).length - (i + 1)) _ _ (by decide) (by omega) ⟨rfl, e, i + 1, r, jj, eZ, e1, by omega, by omega, rfl, rfl, FrI.sI (by decide) hFr, fun x => ?_⟩⟩
      rw [Mi_s, upd1_e]
      by_cases q : x = p * 8 + i
      · rw [if_pos q, if_pos (by omega)]
      · rw [if_neg q, hx]
        by_cases q2 : 8 * p + F0 ≤ x ∧ x < 8 * p + i
        · rw [if_pos q2, if_pos (by omega)]
        · rw [if_neg q2, if_neg (show ¬ (8 * p + (F0 : Int) ≤ x ∧ x < 8 * p + ((i + 1 : Nat) : Int)) by omega)]
