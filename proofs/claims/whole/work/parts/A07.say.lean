/-! the class: has a change a say -/
theorem ahd_tr {ct hd : Int → Int} {a b c : Int} (h1 : ahd ct hd a b) (h2 : ahd ct hd b c) : ahd ct hd a c := by unfold ahd at *; omega
theorem ahd_as {ct hd : Int → Int} {a b : Int} (h1 : ahd ct hd a b) : ¬ ahd ct hd b a := by unfold ahd at *; omega
theorem ordL_srt {ct hd : Int → Int} : ∀ {n : Nat}, (∀ a b : Int, 0 ≤ a → a < n → 0 ≤ b → b < n → a ≠ b → ahd ct hd a b ∨ ahd ct hd b a) → (ordL ct hd n).Pairwise (ahd ct hd)
  | 0, _ => List.Pairwise.nil
  | n + 1, h => by
    have ih := ordL_srt (ct := ct) (hd := hd) (n := n) (fun a b a0 a1 b0 b1 e => h a b a0 (by omega) b0 (by omega) e)
    have hm : ∀ x ∈ ordL ct hd n, 0 ≤ x ∧ x < n := fun x hx => ordL_mem.mp hx
    show (insE _ _ _).Pairwise _
    obtain ⟨l1, l2, hl, e2, e1⟩ : ∃ l1 l2, ordL ct hd n = l1 ++ l2 ∧ (∀ x ∈ l2, ahB ct hd n x = true) ∧ ∀ x, l1.getLast? = some x → ahB ct hd n x = false := by
      refine ⟨((ordL ct hd n).reverse.dropWhile (ahB ct hd n)).reverse, ((ordL ct hd n).reverse.takeWhile (ahB ct hd n)).reverse, ?_, fun x hx => ?_, fun x hx => ?_⟩
      · rw [← List.reverse_append, List.takeWhile_append_dropWhile, List.reverse_reverse]
      · exact List.all_eq_true.mp (List.all_takeWhile (p := ahB ct hd n) (l := (ordL ct hd n).reverse)) x (List.mem_reverse.mp hx)
      · rw [List.getLast?_reverse] at hx
        cases hd2 : (ordL ct hd n).reverse.dropWhile (ahB ct hd n) with
        | nil => rw [hd2] at hx; cases hx
        | cons a l =>
          rw [hd2] at hx
          have := List.head_dropWhile_not (ahB ct hd n) (l := (ordL ct hd n).reverse) (by rw [hd2]; simp)
          simp only [hd2, List.head_cons] at this
          simp at hx
          rw [← hx]; exact this
    rw [hl, insE_split e2 e1]
    rw [hl, List.pairwise_append] at ih
    obtain ⟨p1, p2, p3⟩ := ih
    have key : ∀ x ∈ l1, ahd ct hd x n := fun x hx => by
      rcases List.eq_nil_or_concat l1 with e | ⟨l0, y, e⟩
      · rw [e] at hx; simp at hx
      · rw [List.concat_eq_append] at e
        subst e
        have hy := e1 y (by simp)
        have hym := hm y (by rw [hl]; simp)
        have hyn : ahd ct hd y n := by
          rcases h y n hym.1 (by omega) (by omega) (by omega) (by omega) with q | q
          · exact q
          · rw [ahB_iff.mpr q] at hy; cases hy
        rcases List.mem_append.mp hx with q | q
        · exact ahd_tr ((List.pairwise_append.mp p1).2.2 x q y (by simp)) hyn
        · rw [List.mem_singleton.mp q]; exact hyn
    rw [List.pairwise_append, List.pairwise_cons]
    refine ⟨p1, ⟨fun x hx => ahB_iff.mp (e2 x hx), p2⟩, fun x hx y hy => ?_⟩
    rcases List.mem_cons.mp hy with rfl | hy
    · exact key x hx
    · exact p3 x hx y hy
theorem mOrd_srt {μ : Mm} (hI : mI μ) : (mOrd μ).Pairwise (ahd (Mi μ 1006764513 0) (Mi μ 989987297 0)) := by
  have hn := hI.1.1.1
  have hx := hI.2.1
  refine ordL_srt (fun a b a0 a1 b0 b1 e => ?_)
  have go : ∀ a b : Int, 0 ≤ a → a < b → b < (Mi μ 184680536 0 10) → ahd (Mi μ 1006764513 0) (Mi μ 989987297 0) a b ∨ ahd (Mi μ 1006764513 0) (Mi μ 989987297 0) b a := fun a b a0 ab b1 => by
    have h := (hx a a0 (by omega)).2.2.2.2.2.2.2.2.2.2 b ab b1
    unfold ahd
    omega
  rcases Int.lt_or_gt_of_ne e with q | q
  · exact go a b a0 q (by omega)
  · exact (go b a b0 q (by omega)).symm
/-- what a put leaves there -/
theorem stS_0n {kd pc wh bh mn wd : Int → Int} {fm : Int} {B : Bk} {c x : Int} (h : kd c ≠ 0 ∨ pc c ≠ x) : (stS kd pc wh bh mn wd fm B c).1 0 x = B.1 0 x := by
  have rs : ∀ B' : Bk, (rsB fm B' (pc c)).1 0 x = B'.1 0 x := fun B' => by unfold rsB; split; rfl; exact setB_ne (by decide)
  unfold stS
  split
  · rfl
  · split
    · rename_i e
      have hp : pc c ≠ x := by rcases h with h | h; exact absurd e h; exact h
      show (if 0 = 0 ∧ x = pc c then 1 else B.1 0 x) = _
      rw [if_neg (fun z => hp z.2.symm)]
    · split
      · exact setB_ne (by decide)
      · split
        · rw [rs]; rfl
        · split
          · rw [rs]; show (setB B 6 (pc c) c).1 0 x = _; exact setB_ne (by decide)
          · split
            · exact setB_ne (by decide)
            · split
              · exact setB_ne (by decide)
              · exact setB_ne (by decide)
theorem fold_0 {kd pc wh bh mn wd : Int → Int} {fm : Int} {set : Int64} {c : Int} : ∀ (l : List Int) (B : Bk), c ∉ l → (∀ x ∈ l, kd x = 0 → pc x = x) → (l.foldl (stp kd pc wh bh mn wd fm set) B).1 0 c = B.1 0 c
  | [], _, _, _ => rfl
  | a :: l, B, h, hp => by
    simp only [List.mem_cons, not_or] at h
    rw [List.foldl_cons, fold_0 l _ h.2 (fun x hx => hp x (List.mem_cons_of_mem _ hx))]
    unfold stp
    split
    · show (setB _ 5 a _).1 0 c = _
      rw [setB_ne (by decide)]
      refine stS_0n ?_
      by_cases e : kd a = 0
      · right; rw [hp a (by simp) e]; exact fun z => h.1 z.symm
      · exact Or.inl e
    · rfl
theorem put_there {μ : Mm} (hI : logM μ) {s : Int64} {c : Int} (hc : 0 ≤ c ∧ c < (Mi μ 184680536 0 10)) (hk : (Mi μ 973210081 0) c = 0) (hb : hasB s c) : (allB μ s).1 5 c = 0 ↔ (allB μ s).1 0 c = 1 := by
  obtain ⟨l2, e, n1, n2⟩ := takeWhile_split mOrd_nodup ((mOrd_mem hI.1.1.1).mpr hc)
  generalize (mOrd μ).takeWhile (fun x => decide (x ≠ c)) = l1 at e n1
  have hpc : ∀ x ∈ mOrd μ, (Mi μ 973210081 0) x = 0 → (Mi μ 1023541729 0) x = x := fun x hx => by
    have := (mOrd_mem hI.1.1.1).mp hx
    exact (hI.2.2 x this.1 this.2).1.1.2.2.1
  unfold allB mBk
  rw [e] at hpc ⊢
  rw [bkL_5 n1 n2 (hasb_iff.mpr hb)]
  unfold bkL
  rw [List.foldl_append, List.foldl_cons, fold_0 l2 _ n2 (fun x hx => hpc x (by simp [hx]))]
  have h1 : (l1.foldl (stp (Mi μ 973210081 0) (Mi μ 1023541729 0) (Mi μ 1040318945 0) (Mi μ 1057096161 0) (Mi μ 1107427809 0) (Mi μ 1124208385 0) (Mi μ 184680536 0 16) s) bk0).1 0 c = 0 := by
    rw [fold_0 l1 _ n1 (fun x hx => hpc x (by simp [hx]))]; rfl
  generalize l1.foldl (stp (Mi μ 973210081 0) (Mi μ 1023541729 0) (Mi μ 1040318945 0) (Mi μ 1057096161 0) (Mi μ 1107427809 0) (Mi μ 1124208385 0) (Mi μ 184680536 0 16) s) bk0 = B at *
  unfold stp
  rw [if_pos (hasb_iff.mpr hb)]
  show _ ↔ (setB (stS _ _ _ _ _ _ _ B c) 5 c _).1 0 c = 1
  rw [setB_ne (by decide)]
  unfold stS
  by_cases z : stR (Mi μ 973210081 0) (Mi μ 1023541729 0) (Mi μ 1040318945 0) B c = 0
  · rw [if_neg (fun q => q z), if_pos hk, hpc c (by simp) hk]
    refine ⟨fun _ => ?_, fun _ => z⟩
    show (if 0 = 0 ∧ c = c then 1 else _) = 1
    rw [if_pos ⟨rfl, rfl⟩]
  · rw [if_pos z, h1]
    exact ⟨fun q => absurd q z, fun q => absurd q (by decide)⟩
theorem x_countsBeside {σ μ : Mm} {j kd d : Int} {B : Bk} {k : Int → Mm → Prop} (h : XB σ μ j B) (hL : xLog σ μ) (hI : logM μ) (hd : 0 ≤ d ∧ d < (Mi μ 184680536 0 10)) (hkd : IR kd) (hc5 : IR (B.1 5 d)) (hfm : Mi σ 117702656 j 2 = (Mi μ 184680536 0 16))
    (h1 : (if kd = 1 then (Mi μ 973210081 0) d = 1 ∨ (Mi μ 973210081 0) d = 6 ∨ ((Mi μ 184680536 0 16) = 0 ∧ B.1 5 d = 0 ∧ ((Mi μ 973210081 0) d = 2 ∨ (Mi μ 973210081 0) d = 3)) else (Mi μ 973210081 0) d = kd ∧ B.1 5 d = 0) → k 1 σ)
    (h0 : ¬ (if kd = 1 then (Mi μ 973210081 0) d = 1 ∨ (Mi μ 973210081 0) d = 6 ∨ ((Mi μ 184680536 0 16) = 0 ∧ B.1 5 d = 0 ∧ ((Mi μ 973210081 0) d = 2 ∨ (Mi μ 973210081 0) d = 3)) else (Mi μ 973210081 0) d = kd ∧ B.1 5 d = 0) → k 0 σ) : OkI 5 [vR 117702656 j, vI kd, vI d] σ k := by
  have hn := hI.1.1
  have lg := (hL.2.1 d hd.1 hd.2).1
  have hcm := (h.2.1 d hd.1 hd.2).1
  have kr := (hI.2.2 d hd.1 hd.2).1.1.1
  have f0 := hI.2.1
  refine okI_run mkX0_countsBeside (Nat.le_of_ble_eq_true rfl) (fun K => ?_)
  simp only [↓kI_e, ↓kL_e, ↓kR_e, ↓kV_e, ↓x1, ↓x2, ↓x4, ↓x5, ↓x6, ↓x7, ↓x8, ↓x9, ↓x10, ↓x11, ↓x12, ↓x13, ↓x17, ↓x18, ↓x19, ↓x20, ↓x21, ↓x22, ↓x14, ↓x15, ↓x23, ↓x24, ↓x25, ↓x26, ↓x27, ↓x28, ↓x29, ↓x30, ↓x31, ↓x32, ↓x33, ↓x34, ↓x35i, ↓x35r, ↓x36, ↓x37, ↓x38, ↓x39, ↓x40, ↓x41, ↓x72, ↓x42, ↓x43, ↓x44, ↓x45, ↓x46, ↓x47, ↓x48, ↓x50, ↓x51, ↓x52, ↓x53, ↓x54, ↓x55_0, ↓x56_0, ↓x55_1, ↓x56_1, ↓x55_2, ↓x56_2, ↓x55_3, ↓x56_3, ↓x55_4, ↓x56_4, ↓x55_5, ↓x56_5, ↓x57, ↓x58, ↓x59, ↓x60, ↓x61, ↓x62, ↓x63, ↓x64, ↓x65, ↓x75, ↓x67, ↓x77, ↓x68, ↓x78, ↓x69, ↓x79, ↓x70, ↓x73, ↓x74, ↓ldI_0, ↓ldG_0, ↓ldR_0, ↓stK_0, ↓stK2_0, ↓ldI_1, ↓ldG_1, ↓ldR_1, ↓stK_1I, ↓stK_1R, ↓stK_1N, ↓stK_1G, ↓stK2_1I, ↓stK2_1R, ↓stK2_1N, ↓stK2_1G, ↓ldI_2, ↓ldG_2, ↓ldR_2, ↓stK_2I, ↓stK_2R, ↓stK_2N, ↓stK_2G, ↓stK2_2I, ↓stK2_2R, ↓stK2_2N, ↓stK2_2G, ↓ldI_3, ↓ldG_3, ↓ldR_3, ↓stK_3I, ↓stK_3R, ↓stK_3N, ↓stK_3G, ↓stK2_3I, ↓stK2_3R, ↓stK2_3N, ↓stK2_3G, ↓ldI_4, ↓ldG_4, ↓ldR_4, ↓stK_4I, ↓stK_4R, ↓stK_4N, ↓stK_4G, ↓stK2_4I, ↓stK2_4R, ↓stK2_4N, ↓stK2_4G, ↓ldI_5, ↓ldG_5, ↓ldR_5, ↓stK_5I, ↓stK_5R, ↓stK_5N, ↓stK_5G, ↓stK2_5I, ↓stK2_5R, ↓stK2_5N, ↓stK2_5G, ↓ldI_6, ↓ldG_6, ↓ldR_6, ↓stK_6I, ↓stK_6R, ↓stK_6N, ↓stK_6G, ↓stK2_6I, ↓stK2_6R, ↓stK2_6N, ↓stK2_6G, ↓ldI_7, ↓ldG_7, ↓ldR_7, ↓stK_7I, ↓stK_7R, ↓stK_7N, ↓stK_7G, ↓stK2_7I, ↓stK2_7R, ↓stK2_7N, ↓stK2_7G, ↓ldI_8, ↓ldG_8, ↓ldR_8, ↓stK_8I, ↓stK_8R, ↓stK_8N, ↓stK_8G, ↓stK2_8I, ↓stK2_8R, ↓stK2_8N, ↓stK2_8G, ↓ldI_9, ↓ldG_9, ↓ldR_9, ↓stK_9I, ↓stK_9R, ↓stK_9N, ↓stK_9G, ↓stK2_9I, ↓stK2_9R, ↓stK2_9N, ↓stK2_9G, ↓ldI_10, ↓ldG_10, ↓ldR_10, ↓stK_10I, ↓stK_10R, ↓stK_10N, ↓stK_10G, ↓stK2_10I, ↓stK2_10R, ↓stK2_10N, ↓stK2_10G, ↓ldI_11, ↓ldG_11, ↓ldR_11, ↓stK_11I, ↓stK_11R, ↓stK_11N, ↓stK_11G, ↓stK2_11I, ↓stK2_11R, ↓stK2_11N, ↓stK2_11G, ↓ldI_12, ↓ldG_12, ↓ldR_12, ↓stK_12I, ↓stK_12R, ↓stK_12N, ↓stK_12G, ↓stK2_12I, ↓stK2_12R, ↓stK2_12N, ↓stK2_12G, ↓pN_0, ↓pN_1, ↓pN_2, ↓pN_3, ↓pN_4, ↓pN_5, ↓pN_6, ↓pN_7, ↓ctI_e, ↓ctL_e, ↓ctR_e, ↓ctV_e, ↓tsK_n, ↓tsK_c, ↓go_K, ↓go_X, csum_n, csum_I, csum_R, csum_G, hdCls_r, isCls, elemR, rg_x_pads, rg_log_words, rg_row_pads, rg_row_words, rg_row_led, alen, IR, Nat.reduceMod, Nat.reduceDiv, Nat.reduceSub, Nat.reduceAdd, Nat.reduceLeDiff, Nat.reduceEqDiff, Nat.reduceLT, Int.reduceLE, Int.reduceLT, Int.reduceEq, Int.reduceNe, Int.reduceAdd, Int.reduceSub, Int.reduceNeg, Int.reduceMul, ne_eq, not_true_eq_false, not_false_eq_true, true_and, and_true, false_and, and_false, true_or, or_true, false_or, or_false, and_self, or_self, true_implies, forall_const, false_implies, implies_true, reduceIte, reduceCtorEq, eq_self, Int.le_refl, Nat.le_refl, Int.reduceNatCast, Int.cast_ofNat_Int, ↓eX0_countsBeside_0, ↓eX0_countsBeside_1, ↓eX0_countsBeside_2, ↓eX0_countsBeside_3, ↓eX0_countsBeside_4, ↓eX0_countsBeside_5, ↓eX0_countsBeside_6, ↓eX0_countsBeside_7, ↓eX0_countsBeside_8, lX0_countsBeside, ent0, entI, entR, entG, ent_n, List.length_cons, List.length_nil, List.replicate, List.cons_append, List.nil_append, Nat.reduceSub, Nat.reduceAdd]
  rw [lg, hcm, hfm]
  refine ⟨by omega, hkd, fun e => ?_, fun e => ?_⟩
  · rw [if_pos e] at h1 h0
    refine ⟨(by first | omega | (unfold IR; omega)), fun a => h1 (Or.inl a), fun a => ⟨(by first | omega | (unfold IR; omega)), fun b => ?_, fun b => h1 (Or.inr (Or.inl b))⟩⟩
    refine ⟨f0, fun c => h0 (by omega), fun c => ⟨(by first | omega | (unfold IR; omega)), fun b2 => ⟨by omega, hc5, fun z => h0 (by omega), fun z => h1 (by omega)⟩, fun b2 => ⟨(by first | omega | (unfold IR; omega)), fun b3 => h0 (by omega), fun b3 => ⟨by omega, hc5, fun z => h0 (by omega), fun z => h1 (by omega)⟩⟩⟩⟩
  · rw [if_neg e] at h1 h0
    refine ⟨⟨(by first | omega | (unfold IR; omega)), hkd⟩, fun a => h0 (fun q => a q.1), fun a => ⟨by omega, hc5, fun z => h0 (fun q => z q.2), fun z => h1 ⟨a, z⟩⟩⟩
