/-! the text of a part, of a book -/
def txB (σ : Mm) (B : Bk) (part : Int) : List Int := ((readL B).filter (fun p => decide (part = -1) || wth (B.1 2) 61 p part)).flatMap (mbW σ B)
theorem flatMap_congr_filter {P Q : Int → Bool} {f g : Int → List Int} : ∀ {l : List Int}, (∀ p ∈ l, P p = Q p ∧ f p = g p) → (l.filter P).flatMap f = (l.filter Q).flatMap g
  | [], _ => rfl
  | p :: l, h => by
    have ih := flatMap_congr_filter (l := l) (fun q hq => h q (List.mem_cons_of_mem _ hq))
    have := h p List.mem_cons_self
    rw [List.filter_cons, List.filter_cons, this.1]
    split
    · rw [List.flatMap_cons, List.flatMap_cons, this.2, ih]
    · exact ih
theorem txB_eq {σ σ1 : Mm} {B : Bk} (hM : MB σ1 B) (ok : okB B) (e1 : Mi σ1 1107427809 = Mi σ 1107427809) (e2 : Mi σ1 1124208385 = Mi σ 1124208385) (part : Int) : txtOf σ1 B part = txB σ B part := by
  unfold txtOf gat txB
  refine flatMap_congr_filter (fun p hp => ?_)
  have hp1 := ((readL_mem ok).mp hp).1
  have hP : ∀ x, B.1 0 x = 1 → (Mi σ1 1258422753 0) x = B.1 2 x ∧ (B.1 2 x = -1 ∨ B.1 0 (B.1 2 x) = 1) := fun x hx => ⟨(hM.1 x (ok.2.1 x hx).1 (ok.2.1 x hx).2).2.2.2.2.2.1 hx, (ok.2.2.2.2 x hx).1⟩
  refine ⟨?_, ?_⟩
  · unfold inP
    rw [wth_congr (w := part) (fun x => B.1 0 x = 1) hP 61 p (Or.inr hp1)]
  · rw [wrd_B hM (ok.2.1 p hp1), mbW_eq e1 e2]
/-- is a rule met in a book -/
def yesB (σ : Mm) (B : Bk) (r y : Int) : Bool := decide ((Mi σ 1526857889 0) y = (Mi σ 1493303345 0) r) && (decide ((Mi σ 1543635105 0) y = -1) || (decide ((Mi σ 1510080561 0) r ≠ -1) && wth (B.1 2) 61 ((Mi σ 1510080561 0) r) ((Mi σ 1543635105 0) y)))
def yesW (σ : Mm) (y : Int) : List Int := (List.range ((Mi σ 1560412321 0) y).toNat).map (fun (i : Nat) => (Mi σ 1577266177 0) (480 * y + i))
def metB (σ : Mm) (B : Bk) (r : Int) : Bool :=
  (decide ((Mi σ 1510080561 0) r ≠ -1) && !snb B ((Mi σ 1510080561 0) r)) || (decide (lastF (yesB σ B r) ((Mi σ 184680536 0 43)).toNat ≠ -1) && decide ((txB σ B ((Mi σ 1543635105 0) (lastF (yesB σ B r) ((Mi σ 184680536 0 43)).toNat))).map (Mi σ 1476526881 0) = (yesW σ (lastF (yesB σ B r) ((Mi σ 184680536 0 43)).toNat)).map (Mi σ 1476526881 0)))
theorem lastF_congr {P Q : Int → Bool} : ∀ {n : Nat}, (∀ x : Int, 0 ≤ x → x < n → P x = Q x) → lastF P n = lastF Q n
  | 0, _ => rfl
  | n + 1, h => by unfold lastF; rw [h n (by omega) (by omega), lastF_congr (n := n) (fun x a b => h x a (by omega))]
theorem metP_iff {σ σ1 : Mm} {B : Bk} {r : Int} (hM : MB σ1 B) (ok : okB B) (h : same [] [] σ σ1) (hI : mI σ) (hr : 0 ≤ r ∧ r < (Mi σ 184680536 0 38)) (hso : (Mi σ 1510080561 0) r = -1 ∨ sn B ((Mi σ 1510080561 0) r) ∨ ¬ sn B ((Mi σ 1510080561 0) r)) : metP σ1 B r ↔ metB σ B r = true := by
  have hP : ∀ x, B.1 0 x = 1 → (Mi σ1 1258422753 0) x = B.1 2 x ∧ (B.1 2 x = -1 ∨ B.1 0 (B.1 2 x) = 1) := fun x hx => ⟨(hM.1 x (ok.2.1 x hx).1 (ok.2.1 x hx).2).2.2.2.2.2.1 hx, (ok.2.2.2.2 x hx).1⟩
  have tx := fun part => txB_eq (σ := σ) hM ok (h.i _ rfl rfl) (h.i _ rfl rfl) part
  have hy0 := hI.2.2.2.2.2.1.1
  unfold metP metB
  rw [h.i 1510080561 rfl rfl, h.i 1560412321 rfl rfl, h.i 1577266177 rfl rfl, h.i 1543635105 rfl rfl, h.i 1476526881 rfl rfl]
  simp only [Bool.or_eq_true, Bool.and_eq_true, decide_eq_true_eq, Bool.not_eq_true', tx]
  by_cases c : (Mi σ 1510080561 0) r ≠ -1 ∧ ¬ sn B ((Mi σ 1510080561 0) r)
  · have c2 : snb B ((Mi σ 1510080561 0) r) = false := by cases q : snb B ((Mi σ 1510080561 0) r) with | false => rfl | true => exact absurd (snb_iff.mp q) c.2
    exact ⟨fun _ => Or.inl ⟨c.1, c2⟩, fun _ => Or.inl c⟩
  · have c2 : ¬ ((Mi σ 1510080561 0) r ≠ -1 ∧ snb B ((Mi σ 1510080561 0) r) = false) := fun q => c ⟨q.1, fun z => by rw [snb_iff.mpr z] at q; exact absurd q.2 (by simp)⟩
    have ey : yesOf σ1 r = lastF (yesB σ B r) ((Mi σ 184680536 0 43)).toNat := by
      unfold yesOf
      rw [h.f 43 rfl rfl]
      refine lastF_congr (fun y y0 y1 => ?_)
      unfold yesFor yesB
      rw [h.i 1510080561 rfl rfl, h.i 1526857889 rfl rfl, h.i 1543635105 rfl rfl, h.i 1493303345 rfl rfl]
      congr 1
      congr 1
      by_cases q : (Mi σ 1510080561 0) r = -1
      · rw [q]; simp
      · have hs : sn B ((Mi σ 1510080561 0) r) := Classical.byContradiction fun z => c ⟨q, z⟩
        rw [wth_congr (w := (Mi σ 1543635105 0) y) (fun x => B.1 0 x = 1) hP 61 _ (Or.inr hs.1)]
    have rg := lastF_rng (P := yesB σ B r) (n := ((Mi σ 184680536 0 43)).toNat)
    rw [ey]
    generalize lastF (yesB σ B r) ((Mi σ 184680536 0 43)).toNat = Y at rg ⊢
    have lists : 0 ≤ Y → ((((txB σ B ((Mi σ 1543635105 0) Y)).length : Int) = (Mi σ 1560412321 0) Y ∧ alikeT (Mi σ 1476526881 0) (Mi σ 1577266177 0) Y (txB σ B ((Mi σ 1543635105 0) Y))) ↔ (txB σ B ((Mi σ 1543635105 0) Y)).map (Mi σ 1476526881 0) = (yesW σ Y).map (Mi σ 1476526881 0)) := fun hY => by
      have hym := (hI.2.2.2.2.2.1.2.1 Y hY (by omega)).2.2
      generalize txB σ B ((Mi σ 1543635105 0) Y) = T
      unfold alikeT
      constructor
      · rintro ⟨a, b⟩
        apply List.ext_getElem
        · simp [yesW]; omega
        · intro i h1 h2
          simp at h1
          have := b i _ (List.getElem?_eq_getElem h1)
          simp [yesW]; exact this
      · intro q
        have hl := congrArg List.length q
        simp [yesW] at hl
        refine ⟨by omega, fun i x hx => ?_⟩
        have h1 := (List.getElem?_eq_some_iff.mp hx)
        obtain ⟨h1, h2⟩ := h1
        have := congrArg (fun l => l[i]?) q
        simp [yesW, h1] at this
        rw [List.getElem?_eq_getElem (by simp; omega)] at this
        simp at this
        rw [← h2]; exact this
    constructor
    · rintro (q | ⟨q1, q2⟩)
      · exact absurd q c
      · exact Or.inr ⟨by omega, (lists q1).mp q2⟩
    · rintro (q | ⟨q1, q2⟩)
      · exact absurd q c2
      · exact Or.inr ⟨by omega, (lists (by omega)).mpr q2⟩
def unB (σ : Mm) (B : Bk) : Int := unF (metB σ B) ((Mi σ 184680536 0 38)).toNat
def aOpen (σ : Mm) (s : Int) : Int := if ¬ isS σ s then -1 else unB σ (allB σ (mSet σ s))
theorem unF_congr {P Q : Int → Bool} : ∀ {n : Nat}, (∀ x : Int, 0 ≤ x → x < n → P x = Q x) → unF P n = unF Q n
  | 0, _ => rfl
  | n + 1, h => by rw [unF_s, unF_s, unF_congr (n := n) (fun x a b => h x a (by omega)), h n (by omega) (by omega)]
theorem m_unmetB {B : Bk} {σ σ1 : Mm} {k : Int → Mm → Prop} (hI : mI σ) (hs : same [] [] σ σ1) (hin : inR σ1 B) (h : ∀ σ', fT σ1 σ' → k (unB σ B) σ') : OkI 176 [vR 184680536 0] σ1 k := by
  have hI1 := mI_same hs hI
  refine m_unmet (mt := metB σ B) hin hI1.2.2.2.2.1 hI1.2.2.2.2.2.1 (fun i a b => ?_) (fun σ' hT => ?_)
  · rw [hs.f 38 rfl rfl] at b
    exact (metP_iff hin.1 hin.2.1 hs hI ⟨a, b⟩ (Or.inr (Classical.em _))).symm
  · rw [hs.f 38 rfl rfl]
    exact h σ' hT
theorem m_open {s : Int} {σ : Mm} {k : Int → Mm → Prop} (hI : mI σ) (hs : IR s) (hk : kM σ (fun r σ' => r = aOpen σ s ∧ same [] [] σ σ') k) : OkI 207 [vR 184680536 0, vI s] σ k := by
  refine okI_run mkX11_open (Nat.le_of_ble_eq_true rfl) (fun K => ?_)
  have end0 : ∀ r, r = aOpen σ s → k r σ := fun r ho => kM_0 hI hk ⟨ho, same_rfl⟩
  have hst := hI.2.2.1.2.1
  simp only [↓kI_e, ↓kL_e, ↓kR_e, ↓kV_e, ↓x1, ↓x2, ↓x4, ↓x5, ↓x6, ↓x7, ↓x8, ↓x9, ↓x10, ↓x11, ↓x12, ↓x13, ↓x17, ↓x18, ↓x19, ↓x20, ↓x21, ↓x22, ↓x14, ↓x15, ↓x23, ↓x24, ↓x25, ↓x26, ↓x27, ↓x28, ↓x29, ↓x30, ↓x31, ↓x32, ↓x33, ↓x34, ↓x35i, ↓x35r, ↓x36, ↓x37, ↓x38, ↓x39, ↓x40, ↓x41, ↓x72, ↓x42, ↓x43, ↓x44, ↓x45, ↓x46, ↓x47, ↓x48, ↓x50, ↓x51, ↓x52, ↓x53, ↓x54, ↓x55_0, ↓x56_0, ↓x55_1, ↓x56_1, ↓x55_2, ↓x56_2, ↓x55_3, ↓x56_3, ↓x55_4, ↓x56_4, ↓x55_5, ↓x56_5, ↓x57, ↓x58, ↓x59, ↓x60, ↓x61, ↓x62, ↓x63, ↓x64, ↓x65, ↓x75, ↓x67, ↓x77, ↓x68, ↓x78, ↓x69, ↓x79, ↓x70, ↓x73, ↓x74, ↓ldI_0, ↓ldG_0, ↓ldR_0, ↓stK_0, ↓stK2_0, ↓ldI_1, ↓ldG_1, ↓ldR_1, ↓stK_1I, ↓stK_1R, ↓stK_1N, ↓stK_1G, ↓stK2_1I, ↓stK2_1R, ↓stK2_1N, ↓stK2_1G, ↓ldI_2, ↓ldG_2, ↓ldR_2, ↓stK_2I, ↓stK_2R, ↓stK_2N, ↓stK_2G, ↓stK2_2I, ↓stK2_2R, ↓stK2_2N, ↓stK2_2G, ↓ldI_3, ↓ldG_3, ↓ldR_3, ↓stK_3I, ↓stK_3R, ↓stK_3N, ↓stK_3G, ↓stK2_3I, ↓stK2_3R, ↓stK2_3N, ↓stK2_3G, ↓ldI_4, ↓ldG_4, ↓ldR_4, ↓stK_4I, ↓stK_4R, ↓stK_4N, ↓stK_4G, ↓stK2_4I, ↓stK2_4R, ↓stK2_4N, ↓stK2_4G, ↓ldI_5, ↓ldG_5, ↓ldR_5, ↓stK_5I, ↓stK_5R, ↓stK_5N, ↓stK_5G, ↓stK2_5I, ↓stK2_5R, ↓stK2_5N, ↓stK2_5G, ↓ldI_6, ↓ldG_6, ↓ldR_6, ↓stK_6I, ↓stK_6R, ↓stK_6N, ↓stK_6G, ↓stK2_6I, ↓stK2_6R, ↓stK2_6N, ↓stK2_6G, ↓ldI_7, ↓ldG_7, ↓ldR_7, ↓stK_7I, ↓stK_7R, ↓stK_7N, ↓stK_7G, ↓stK2_7I, ↓stK2_7R, ↓stK2_7N, ↓stK2_7G, ↓ldI_8, ↓ldG_8, ↓ldR_8, ↓stK_8I, ↓stK_8R, ↓stK_8N, ↓stK_8G, ↓stK2_8I, ↓stK2_8R, ↓stK2_8N, ↓stK2_8G, ↓ldI_9, ↓ldG_9, ↓ldR_9, ↓stK_9I, ↓stK_9R, ↓stK_9N, ↓stK_9G, ↓stK2_9I, ↓stK2_9R, ↓stK2_9N, ↓stK2_9G, ↓ldI_10, ↓ldG_10, ↓ldR_10, ↓stK_10I, ↓stK_10R, ↓stK_10N, ↓stK_10G, ↓stK2_10I, ↓stK2_10R, ↓stK2_10N, ↓stK2_10G, ↓ldI_11, ↓ldG_11, ↓ldR_11, ↓stK_11I, ↓stK_11R, ↓stK_11N, ↓stK_11G, ↓stK2_11I, ↓stK2_11R, ↓stK2_11N, ↓stK2_11G, ↓ldI_12, ↓ldG_12, ↓ldR_12, ↓stK_12I, ↓stK_12R, ↓stK_12N, ↓stK_12G, ↓stK2_12I, ↓stK2_12R, ↓stK2_12N, ↓stK2_12G, ↓pN_0, ↓pN_1, ↓pN_2, ↓pN_3, ↓pN_4, ↓pN_5, ↓pN_6, ↓pN_7, ↓ctI_e, ↓ctL_e, ↓ctR_e, ↓ctV_e, ↓tsK_n, ↓tsK_c, ↓go_K, ↓go_X, csum_n, csum_I, csum_R, csum_G, hdCls_r, isCls, elemR, rg_x_pads, rg_log_words, rg_row_pads, rg_row_words, rg_row_led, alen, IR, Nat.reduceMod, Nat.reduceDiv, Nat.reduceSub, Nat.reduceAdd, Nat.reduceLeDiff, Nat.reduceEqDiff, Nat.reduceLT, Int.reduceLE, Int.reduceLT, Int.reduceEq, Int.reduceNe, Int.reduceAdd, Int.reduceSub, Int.reduceNeg, Int.reduceMul, ne_eq, not_true_eq_false, not_false_eq_true, true_and, and_true, false_and, and_false, true_or, or_true, false_or, or_false, and_self, or_self, true_implies, forall_const, false_implies, implies_true, reduceIte, reduceCtorEq, eq_self, Int.le_refl, Nat.le_refl, Int.reduceNatCast, Int.cast_ofNat_Int, ↓eX11_open_0, ↓eX11_open_1, lX11_open, ent0, entI, entR, entG, ent_n, List.length_cons, List.length_nil, List.replicate, List.cons_append, List.nil_append, Nat.reduceSub, Nat.reduceAdd]
  refine m_isSource hs hst (fun a => ?_) (fun a => ?_) <;> simp only [↓kI_e, ↓kL_e, ↓kR_e, ↓kV_e, ↓x1, ↓x2, ↓x4, ↓x5, ↓x6, ↓x7, ↓x8, ↓x9, ↓x10, ↓x11, ↓x12, ↓x13, ↓x17, ↓x18, ↓x19, ↓x20, ↓x21, ↓x22, ↓x14, ↓x15, ↓x23, ↓x24, ↓x25, ↓x26, ↓x27, ↓x28, ↓x29, ↓x30, ↓x31, ↓x32, ↓x33, ↓x34, ↓x35i, ↓x35r, ↓x36, ↓x37, ↓x38, ↓x39, ↓x40, ↓x41, ↓x72, ↓x42, ↓x43, ↓x44, ↓x45, ↓x46, ↓x47, ↓x48, ↓x50, ↓x51, ↓x52, ↓x53, ↓x54, ↓x55_0, ↓x56_0, ↓x55_1, ↓x56_1, ↓x55_2, ↓x56_2, ↓x55_3, ↓x56_3, ↓x55_4, ↓x56_4, ↓x55_5, ↓x56_5, ↓x57, ↓x58, ↓x59, ↓x60, ↓x61, ↓x62, ↓x63, ↓x64, ↓x65, ↓x75, ↓x67, ↓x77, ↓x68, ↓x78, ↓x69, ↓x79, ↓x70, ↓x73, ↓x74, ↓ldI_0, ↓ldG_0, ↓ldR_0, ↓stK_0, ↓stK2_0, ↓ldI_1, ↓ldG_1, ↓ldR_1, ↓stK_1I, ↓stK_1R, ↓stK_1N, ↓stK_1G, ↓stK2_1I, ↓stK2_1R, ↓stK2_1N, ↓stK2_1G, ↓ldI_2, ↓ldG_2, ↓ldR_2, ↓stK_2I, ↓stK_2R, ↓stK_2N, ↓stK_2G, ↓stK2_2I, ↓stK2_2R, ↓stK2_2N, ↓stK2_2G, ↓ldI_3, ↓ldG_3, ↓ldR_3, ↓stK_3I, ↓stK_3R, ↓stK_3N, ↓stK_3G, ↓stK2_3I, ↓stK2_3R, ↓stK2_3N, ↓stK2_3G, ↓ldI_4, ↓ldG_4, ↓ldR_4, ↓stK_4I, ↓stK_4R, ↓stK_4N, ↓stK_4G, ↓stK2_4I, ↓stK2_4R, ↓stK2_4N, ↓stK2_4G, ↓ldI_5, ↓ldG_5, ↓ldR_5, ↓stK_5I, ↓stK_5R, ↓stK_5N, ↓stK_5G, ↓stK2_5I, ↓stK2_5R, ↓stK2_5N, ↓stK2_5G, ↓ldI_6, ↓ldG_6, ↓ldR_6, ↓stK_6I, ↓stK_6R, ↓stK_6N, ↓stK_6G, ↓stK2_6I, ↓stK2_6R, ↓stK2_6N, ↓stK2_6G, ↓ldI_7, ↓ldG_7, ↓ldR_7, ↓stK_7I, ↓stK_7R, ↓stK_7N, ↓stK_7G, ↓stK2_7I, ↓stK2_7R, ↓stK2_7N, ↓stK2_7G, ↓ldI_8, ↓ldG_8, ↓ldR_8, ↓stK_8I, ↓stK_8R, ↓stK_8N, ↓stK_8G, ↓stK2_8I, ↓stK2_8R, ↓stK2_8N, ↓stK2_8G, ↓ldI_9, ↓ldG_9, ↓ldR_9, ↓stK_9I, ↓stK_9R, ↓stK_9N, ↓stK_9G, ↓stK2_9I, ↓stK2_9R, ↓stK2_9N, ↓stK2_9G, ↓ldI_10, ↓ldG_10, ↓ldR_10, ↓stK_10I, ↓stK_10R, ↓stK_10N, ↓stK_10G, ↓stK2_10I, ↓stK2_10R, ↓stK2_10N, ↓stK2_10G, ↓ldI_11, ↓ldG_11, ↓ldR_11, ↓stK_11I, ↓stK_11R, ↓stK_11N, ↓stK_11G, ↓stK2_11I, ↓stK2_11R, ↓stK2_11N, ↓stK2_11G, ↓ldI_12, ↓ldG_12, ↓ldR_12, ↓stK_12I, ↓stK_12R, ↓stK_12N, ↓stK_12G, ↓stK2_12I, ↓stK2_12R, ↓stK2_12N, ↓stK2_12G, ↓pN_0, ↓pN_1, ↓pN_2, ↓pN_3, ↓pN_4, ↓pN_5, ↓pN_6, ↓pN_7, ↓ctI_e, ↓ctL_e, ↓ctR_e, ↓ctV_e, ↓tsK_n, ↓tsK_c, ↓go_K, ↓go_X, csum_n, csum_I, csum_R, csum_G, hdCls_r, isCls, elemR, rg_x_pads, rg_log_words, rg_row_pads, rg_row_words, rg_row_led, alen, IR, Nat.reduceMod, Nat.reduceDiv, Nat.reduceSub, Nat.reduceAdd, Nat.reduceLeDiff, Nat.reduceEqDiff, Nat.reduceLT, Int.reduceLE, Int.reduceLT, Int.reduceEq, Int.reduceNe, Int.reduceAdd, Int.reduceSub, Int.reduceNeg, Int.reduceMul, ne_eq, not_true_eq_false, not_false_eq_true, true_and, and_true, false_and, and_false, true_or, or_true, false_or, or_false, and_self, or_self, true_implies, forall_const, false_implies, implies_true, reduceIte, reduceCtorEq, eq_self, Int.le_refl, Nat.le_refl, Int.reduceNatCast, Int.cast_ofNat_Int, ↓eX11_open_0, ↓eX11_open_1, lX11_open, ent0, entI, entR, entG, ent_n, List.length_cons, List.length_nil, List.replicate, List.cons_append, List.nil_append, Nat.reduceSub, Nat.reduceAdd]
  · refine m_unroll (isS_r hI.2.2.1 a) hI.1 (fun σ1 hU => ?_)
    obtain ⟨u1, u2⟩ := U_all hU
    have hin := unM_inR hI.1 hU
    simp only [↓kI_e, ↓kL_e, ↓kR_e, ↓kV_e, ↓x1, ↓x2, ↓x4, ↓x5, ↓x6, ↓x7, ↓x8, ↓x9, ↓x10, ↓x11, ↓x12, ↓x13, ↓x17, ↓x18, ↓x19, ↓x20, ↓x21, ↓x22, ↓x14, ↓x15, ↓x23, ↓x24, ↓x25, ↓x26, ↓x27, ↓x28, ↓x29, ↓x30, ↓x31, ↓x32, ↓x33, ↓x34, ↓x35i, ↓x35r, ↓x36, ↓x37, ↓x38, ↓x39, ↓x40, ↓x41, ↓x72, ↓x42, ↓x43, ↓x44, ↓x45, ↓x46, ↓x47, ↓x48, ↓x50, ↓x51, ↓x52, ↓x53, ↓x54, ↓x55_0, ↓x56_0, ↓x55_1, ↓x56_1, ↓x55_2, ↓x56_2, ↓x55_3, ↓x56_3, ↓x55_4, ↓x56_4, ↓x55_5, ↓x56_5, ↓x57, ↓x58, ↓x59, ↓x60, ↓x61, ↓x62, ↓x63, ↓x64, ↓x65, ↓x75, ↓x67, ↓x77, ↓x68, ↓x78, ↓x69, ↓x79, ↓x70, ↓x73, ↓x74, ↓ldI_0, ↓ldG_0, ↓ldR_0, ↓stK_0, ↓stK2_0, ↓ldI_1, ↓ldG_1, ↓ldR_1, ↓stK_1I, ↓stK_1R, ↓stK_1N, ↓stK_1G, ↓stK2_1I, ↓stK2_1R, ↓stK2_1N, ↓stK2_1G, ↓ldI_2, ↓ldG_2, ↓ldR_2, ↓stK_2I, ↓stK_2R, ↓stK_2N, ↓stK_2G, ↓stK2_2I, ↓stK2_2R, ↓stK2_2N, ↓stK2_2G, ↓ldI_3, ↓ldG_3, ↓ldR_3, ↓stK_3I, ↓stK_3R, ↓stK_3N, ↓stK_3G, ↓stK2_3I, ↓stK2_3R, ↓stK2_3N, ↓stK2_3G, ↓ldI_4, ↓ldG_4, ↓ldR_4, ↓stK_4I, ↓stK_4R, ↓stK_4N, ↓stK_4G, ↓stK2_4I, ↓stK2_4R, ↓stK2_4N, ↓stK2_4G, ↓ldI_5, ↓ldG_5, ↓ldR_5, ↓stK_5I, ↓stK_5R, ↓stK_5N, ↓stK_5G, ↓stK2_5I, ↓stK2_5R, ↓stK2_5N, ↓stK2_5G, ↓ldI_6, ↓ldG_6, ↓ldR_6, ↓stK_6I, ↓stK_6R, ↓stK_6N, ↓stK_6G, ↓stK2_6I, ↓stK2_6R, ↓stK2_6N, ↓stK2_6G, ↓ldI_7, ↓ldG_7, ↓ldR_7, ↓stK_7I, ↓stK_7R, ↓stK_7N, ↓stK_7G, ↓stK2_7I, ↓stK2_7R, ↓stK2_7N, ↓stK2_7G, ↓ldI_8, ↓ldG_8, ↓ldR_8, ↓stK_8I, ↓stK_8R, ↓stK_8N, ↓stK_8G, ↓stK2_8I, ↓stK2_8R, ↓stK2_8N, ↓stK2_8G, ↓ldI_9, ↓ldG_9, ↓ldR_9, ↓stK_9I, ↓stK_9R, ↓stK_9N, ↓stK_9G, ↓stK2_9I, ↓stK2_9R, ↓stK2_9N, ↓stK2_9G, ↓ldI_10, ↓ldG_10, ↓ldR_10, ↓stK_10I, ↓stK_10R, ↓stK_10N, ↓stK_10G, ↓stK2_10I, ↓stK2_10R, ↓stK2_10N, ↓stK2_10G, ↓ldI_11, ↓ldG_11, ↓ldR_11, ↓stK_11I, ↓stK_11R, ↓stK_11N, ↓stK_11G, ↓stK2_11I, ↓stK2_11R, ↓stK2_11N, ↓stK2_11G, ↓ldI_12, ↓ldG_12, ↓ldR_12, ↓stK_12I, ↓stK_12R, ↓stK_12N, ↓stK_12G, ↓stK2_12I, ↓stK2_12R, ↓stK2_12N, ↓stK2_12G, ↓pN_0, ↓pN_1, ↓pN_2, ↓pN_3, ↓pN_4, ↓pN_5, ↓pN_6, ↓pN_7, ↓ctI_e, ↓ctL_e, ↓ctR_e, ↓ctV_e, ↓tsK_n, ↓tsK_c, ↓go_K, ↓go_X, csum_n, csum_I, csum_R, csum_G, hdCls_r, isCls, elemR, rg_x_pads, rg_log_words, rg_row_pads, rg_row_words, rg_row_led, alen, IR, Nat.reduceMod, Nat.reduceDiv, Nat.reduceSub, Nat.reduceAdd, Nat.reduceLeDiff, Nat.reduceEqDiff, Nat.reduceLT, Int.reduceLE, Int.reduceLT, Int.reduceEq, Int.reduceNe, Int.reduceAdd, Int.reduceSub, Int.reduceNeg, Int.reduceMul, ne_eq, not_true_eq_false, not_false_eq_true, true_and, and_true, false_and, and_false, true_or, or_true, false_or, or_false, and_self, or_self, true_implies, forall_const, false_implies, implies_true, reduceIte, reduceCtorEq, eq_self, Int.le_refl, Nat.le_refl, Int.reduceNatCast, Int.cast_ofNat_Int, ↓eX11_open_0, ↓eX11_open_1, lX11_open, ent0, entI, entR, entG, ent_n, List.length_cons, List.length_nil, List.replicate, List.cons_append, List.nil_append, Nat.reduceSub, Nat.reduceAdd]
    refine m_unmetB hI u2 hin (fun σ2 hT => ?_)
    simp only [↓kI_e, ↓kL_e, ↓kR_e, ↓kV_e, ↓x1, ↓x2, ↓x4, ↓x5, ↓x6, ↓x7, ↓x8, ↓x9, ↓x10, ↓x11, ↓x12, ↓x13, ↓x17, ↓x18, ↓x19, ↓x20, ↓x21, ↓x22, ↓x14, ↓x15, ↓x23, ↓x24, ↓x25, ↓x26, ↓x27, ↓x28, ↓x29, ↓x30, ↓x31, ↓x32, ↓x33, ↓x34, ↓x35i, ↓x35r, ↓x36, ↓x37, ↓x38, ↓x39, ↓x40, ↓x41, ↓x72, ↓x42, ↓x43, ↓x44, ↓x45, ↓x46, ↓x47, ↓x48, ↓x50, ↓x51, ↓x52, ↓x53, ↓x54, ↓x55_0, ↓x56_0, ↓x55_1, ↓x56_1, ↓x55_2, ↓x56_2, ↓x55_3, ↓x56_3, ↓x55_4, ↓x56_4, ↓x55_5, ↓x56_5, ↓x57, ↓x58, ↓x59, ↓x60, ↓x61, ↓x62, ↓x63, ↓x64, ↓x65, ↓x75, ↓x67, ↓x77, ↓x68, ↓x78, ↓x69, ↓x79, ↓x70, ↓x73, ↓x74, ↓ldI_0, ↓ldG_0, ↓ldR_0, ↓stK_0, ↓stK2_0, ↓ldI_1, ↓ldG_1, ↓ldR_1, ↓stK_1I, ↓stK_1R, ↓stK_1N, ↓stK_1G, ↓stK2_1I, ↓stK2_1R, ↓stK2_1N, ↓stK2_1G, ↓ldI_2, ↓ldG_2, ↓ldR_2, ↓stK_2I, ↓stK_2R, ↓stK_2N, ↓stK_2G, ↓stK2_2I, ↓stK2_2R, ↓stK2_2N, ↓stK2_2G, ↓ldI_3, ↓ldG_3, ↓ldR_3, ↓stK_3I, ↓stK_3R, ↓stK_3N, ↓stK_3G, ↓stK2_3I, ↓stK2_3R, ↓stK2_3N, ↓stK2_3G, ↓ldI_4, ↓ldG_4, ↓ldR_4, ↓stK_4I, ↓stK_4R, ↓stK_4N, ↓stK_4G, ↓stK2_4I, ↓stK2_4R, ↓stK2_4N, ↓stK2_4G, ↓ldI_5, ↓ldG_5, ↓ldR_5, ↓stK_5I, ↓stK_5R, ↓stK_5N, ↓stK_5G, ↓stK2_5I, ↓stK2_5R, ↓stK2_5N, ↓stK2_5G, ↓ldI_6, ↓ldG_6, ↓ldR_6, ↓stK_6I, ↓stK_6R, ↓stK_6N, ↓stK_6G, ↓stK2_6I, ↓stK2_6R, ↓stK2_6N, ↓stK2_6G, ↓ldI_7, ↓ldG_7, ↓ldR_7, ↓stK_7I, ↓stK_7R, ↓stK_7N, ↓stK_7G, ↓stK2_7I, ↓stK2_7R, ↓stK2_7N, ↓stK2_7G, ↓ldI_8, ↓ldG_8, ↓ldR_8, ↓stK_8I, ↓stK_8R, ↓stK_8N, ↓stK_8G, ↓stK2_8I, ↓stK2_8R, ↓stK2_8N, ↓stK2_8G, ↓ldI_9, ↓ldG_9, ↓ldR_9, ↓stK_9I, ↓stK_9R, ↓stK_9N, ↓stK_9G, ↓stK2_9I, ↓stK2_9R, ↓stK2_9N, ↓stK2_9G, ↓ldI_10, ↓ldG_10, ↓ldR_10, ↓stK_10I, ↓stK_10R, ↓stK_10N, ↓stK_10G, ↓stK2_10I, ↓stK2_10R, ↓stK2_10N, ↓stK2_10G, ↓ldI_11, ↓ldG_11, ↓ldR_11, ↓stK_11I, ↓stK_11R, ↓stK_11N, ↓stK_11G, ↓stK2_11I, ↓stK2_11R, ↓stK2_11N, ↓stK2_11G, ↓ldI_12, ↓ldG_12, ↓ldR_12, ↓stK_12I, ↓stK_12R, ↓stK_12N, ↓stK_12G, ↓stK2_12I, ↓stK2_12R, ↓stK2_12N, ↓stK2_12G, ↓pN_0, ↓pN_1, ↓pN_2, ↓pN_3, ↓pN_4, ↓pN_5, ↓pN_6, ↓pN_7, ↓ctI_e, ↓ctL_e, ↓ctR_e, ↓ctV_e, ↓tsK_n, ↓tsK_c, ↓go_K, ↓go_X, csum_n, csum_I, csum_R, csum_G, hdCls_r, isCls, elemR, rg_x_pads, rg_log_words, rg_row_pads, rg_row_words, rg_row_led, alen, IR, Nat.reduceMod, Nat.reduceDiv, Nat.reduceSub, Nat.reduceAdd, Nat.reduceLeDiff, Nat.reduceEqDiff, Nat.reduceLT, Int.reduceLE, Int.reduceLT, Int.reduceEq, Int.reduceNe, Int.reduceAdd, Int.reduceSub, Int.reduceNeg, Int.reduceMul, ne_eq, not_true_eq_false, not_false_eq_true, true_and, and_true, false_and, and_false, true_or, or_true, false_or, or_false, and_self, or_self, true_implies, forall_const, false_implies, implies_true, reduceIte, reduceCtorEq, eq_self, Int.le_refl, Nat.le_refl, Int.reduceNatCast, Int.cast_ofNat_Int, ↓eX11_open_0, ↓eX11_open_1, lX11_open, ent0, entI, entR, entG, ent_n, List.length_cons, List.length_nil, List.replicate, List.cons_append, List.nil_append, Nat.reduceSub, Nat.reduceAdd]
    have s2 := same_trans u2 (same_T hT.1 hT.2)
    exact kM_s hI hk (u1.trans' (hT.1.mono (by decide))) s2 ⟨by unfold aOpen; rw [if_neg (fun z => z a)], s2⟩
  · exact end0 _ (by unfold aOpen; rw [if_pos a])
