/-! the class: the first page that would be otherwise -/
def wlS (h : Int) (s : S6) : Int := if h < s.2.1 + 1 then s.1 + 1 else s.1
theorem wl_ge {h : Int} {s : S6} : s.1 ≤ wlS h s := by unfold wlS; split <;> omega
theorem wl_tk {h n : Int} {s : S6} (hn : 1 ≤ n) : wlS h s ≤ (tk h n s).1 := by
  unfold wlS tk
  by_cases c : h < s.2.1 + n
  · rw [if_pos c]
    show _ ≤ s.1 + 1
    split <;> omega
  · rw [if_neg c]
    show _ ≤ s.1
    rw [if_neg (by omega)]
    omega
theorem pg_wl {E : En} {s : S6} {p : Int} (hn : 0 ≤ E.2.2.1 p) (h1 : E.1 p ≠ 1 → 1 ≤ (if E.1 p = 0 then 1 else E.2.1 p)) : wlS E.2.2.2.2.2 s ≤ pgE E s p ∧ pgE E s p ≤ wlS E.2.2.2.2.2 (stE E s p) := by
  unfold pgE
  by_cases c : E.1 p = 1
  · rw [if_pos c]
    have hst : stE E s p = tkS E.2.2.2.2.2 (E.2.2.1 p) (eL E p).length (eL E p).length (ln1 E s p) := by unfold stE; rw [if_pos c]
    rw [hst]
    by_cases z : (eL E p).length = 0
    · rw [if_pos z, z]
      exact ⟨Int.le_refl _, Int.le_refl _⟩
    · rw [if_neg z]
      have m := tkS_mo (h := E.2.2.2.2.2) (nt := E.2.2.1 p) (len := (eL E p).length) (s := ln1 E s p) 1 ((eL E p).length - 1)
      rw [show 1 + ((eL E p).length - 1) = (eL E p).length by omega] at m
      refine ⟨?_, Int.le_trans m wl_ge⟩
      exact wl_tk (s := ln1 E s p) (by split <;> omega)
  · rw [if_neg c]
    refine ⟨?_, wl_ge⟩
    unfold stE
    rw [if_neg c]
    exact wl_tk (h1 c)
theorem wl_mo {E : En} {R : List Int} (hn : ∀ p, 0 ≤ E.2.2.1 p) (h1 : ∀ p ∈ R, E.1 p ≠ 1 → 1 ≤ (if E.1 p = 0 then 1 else E.2.1 p)) : ∀ (l' l : List Int), (∀ p ∈ l', p ∈ R) → wlS E.2.2.2.2.2 (rnE E l) ≤ wlS E.2.2.2.2.2 (rnE E (l ++ l'))
  | [], l, _ => by rw [List.append_nil]; exact Int.le_refl _
  | p :: l', l, h => by
    have ih := wl_mo hn h1 l' (l ++ [p]) (fun q hq => h q (List.mem_cons_of_mem _ hq))
    have st := pg_wl (E := E) (s := rnE E l) (hn p) (h1 p (h p List.mem_cons_self))
    rw [← rnE_s] at st
    rw [show l ++ p :: l' = (l ++ [p]) ++ l' by simp]
    omega
theorem pg_mo {E : En} {l1 l2 : List Int} {p q : Int} (hn : ∀ p, 0 ≤ E.2.2.1 p) (h1 : ∀ x ∈ l1 ++ p :: l2, E.1 x ≠ 1 → 1 ≤ (if E.1 x = 0 then 1 else E.2.1 x)) (hnd : (l1 ++ p :: l2).Nodup) (hq : q ∈ p :: l2) : pgE E (bfE E (l1 ++ p :: l2) p) p ≤ pgE E (bfE E (l1 ++ p :: l2) q) q := by
  rcases List.mem_cons.mp hq with rfl | hq
  · exact Int.le_refl _
  · obtain ⟨a, b, rfl⟩ := List.append_of_mem hq
    have hp1 : p ∉ l1 := by
      rw [List.nodup_append] at hnd
      exact fun z => hnd.2.2 p z p (by simp) rfl
    have hq1 : q ∉ l1 ++ p :: a := by
      rw [show l1 ++ p :: (a ++ q :: b) = (l1 ++ p :: a) ++ q :: b by simp, List.nodup_append] at hnd
      exact fun z => hnd.2.2 q z q (by simp) rfl
    rw [bfE_at hp1, show l1 ++ p :: (a ++ q :: b) = (l1 ++ p :: a) ++ q :: b by simp, bfE_at hq1]
    have s1 := (pg_wl (E := E) (s := rnE E l1) (hn p) (h1 p (by simp))).2
    have s2 := (pg_wl (E := E) (s := rnE E (l1 ++ p :: a)) (hn q) (h1 q (by simp))).1
    have s3 := wl_mo hn h1 a (l1 ++ [p]) (fun x hx => by simp [hx])
    rw [rnE_s, show l1 ++ [p] ++ a = l1 ++ p :: a by simp] at s3
    omega
theorem pgL_E {μ : Mm} {B : Bk} {t w h p : Int} : pgL μ B t w h p = pgE (lastE μ B t w h) (bfE (lastE μ B t w h) (readL B) p) p := by
  have hn := rdE_rng (mk := mkE μ B t w h) (R := readL B) (f := 9) (r := 1)
  unfold pgL lastE
  have hnr : 1 ≤ nrE μ B t w h := hn.1
  obtain ⟨m, hm⟩ : ∃ m, nrE μ B t w h = m + 1 := ⟨nrE μ B t w h - 1, by omega⟩
  rw [hm]
  rfl
theorem lsF_c {μ : Mm} {e s : Int} (hP : ∀ p, elsB μ e s p = true → snb (edB μ e) p = true → 1 ≤ edP μ e p) : ∀ n : Nat, (lsF μ e s n = -6 ∧ ∀ p : Int, 0 ≤ p → p < n → ¬ (elsB μ e s p = true ∧ snb (edB μ e) p = true)) ∨ (∃ p : Int, (0 ≤ p ∧ p < n) ∧ (elsB μ e s p = true ∧ snb (edB μ e) p = true) ∧ lsF μ e s n = edP μ e p ∧ ∀ q : Int, 0 ≤ q → q < n → elsB μ e s q = true ∧ snb (edB μ e) q = true → edP μ e p ≤ edP μ e q)
  | 0 => Or.inl ⟨rfl, fun p p0 p1 => by omega⟩
  | n + 1 => by
    have ih := lsF_c hP n
    by_cases c : elsB μ e s n = true ∧ snb (edB μ e) n = true ∧ (lsF μ e s n < 0 ∨ edP μ e n < lsF μ e s n)
    · have ev : lsF μ e s (n + 1) = edP μ e n := by
        show (if _ then _ else _) = _
        rw [if_pos c]
      refine Or.inr ⟨n, ⟨by omega, by omega⟩, ⟨c.1, c.2.1⟩, ev, fun q q0 q1 hq => ?_⟩
      by_cases z : q = n
      · rw [z]; exact Int.le_refl _
      · rcases ih with ⟨i1, i2⟩ | ⟨p, p1, p2, p3, p4⟩
        · exact absurd hq (i2 q q0 (by omega))
        · have := p4 q q0 (by omega) hq
          have := hP p p2.1 p2.2
          rcases c.2.2 with z | z <;> omega
    · have ev : lsF μ e s (n + 1) = lsF μ e s n := by
        show (if _ then _ else _) = _
        rw [if_neg c]
      rw [ev]
      rcases ih with ⟨i1, i2⟩ | ⟨p, p1, p2, p3, p4⟩
      · refine Or.inl ⟨i1, fun q q0 q1 hq => ?_⟩
        by_cases z : q = n
        · rw [z] at hq; exact c ⟨hq.1, hq.2, Or.inl (by omega)⟩
        · exact i2 q q0 (by omega) hq
      · refine Or.inr ⟨p, ⟨p1.1, by omega⟩, p2, p3, fun q q0 q1 hq => ?_⟩
        by_cases z : q = n
        · rw [z] at hq ⊢
          refine Classical.byContradiction (fun y => c ⟨hq.1, hq.2, Or.inr (by omega)⟩)
        · exact p4 q q0 (by omega) hq
theorem x_first {e s : Int} {σ μ : Mm} {k : Int → Mm → Prop} (hI : mI μ) (h : twX σ μ e s) (hk : k (lsF μ e s ((Mi μ 184680536 0 10)).toNat) σ) : OkI 185 [vR 16908368 0] σ k := by
  have h60 := hI.1.1.1
  have h' := h
  obtain ⟨b0, s0, b1, s1, hR⟩ := h
  have hM0 : bkM μ (edB μ e) := allB_M hI.1
  have rl := readL_len hM0.1
  have nd := readL_nodup hM0.1
  have rm : ∀ p ∈ readL (edB μ e), 0 ≤ p ∧ p < 60 ∧ p < (Mi μ 184680536 0 10) := fun p hp => bkM_r hM0 ((readL_mem hM0.1).mp hp).1
  have hin : ∀ p, snb (edB μ e) p = true → p ∈ readL (edB μ e) := fun p hp => (readL_mem hM0.1).mpr (snb_iff.mp hp)
  have hpg : ∀ p ∈ readL (edB μ e), Mi σ 839123425 0 p = edP μ e p ∧ 1 ≤ edP μ e p ∧ edP μ e p ≤ 999 := s0.2.2.2.2
  have hc := lsF_c (μ := μ) (e := e) (s := s) (fun p _ hp => (hpg p (hin p hp)).2.1) ((Mi μ 184680536 0 10)).toNat
  have hE1 : ∀ x ∈ readL (edB μ e), (edE μ e).1 x ≠ 1 → 1 ≤ (if (edE μ e).1 x = 0 then 1 else (edE μ e).2.1 x) := fun x hx c => by
    have hp1 := (readL_mem hM0.1).mp hx
    have br := bkM_r hM0 hp1.1
    have bk := (hM0.2.2.1 x hp1.1).2
    have hx := (hI.2.1 x br.1 br.2.2).2.2.2.1 bk
    have c : (Mi μ 1073873377 0) x ≠ 1 := c
    show 1 ≤ (if (Mi μ 1073873377 0) x = 0 then 1 else (Mi μ 1090650593 0) x)
    split
    · omega
    · exact (hx.2 (by omega)).1
  have hE2 : ∀ p, 0 ≤ (edE μ e).2.2.1 p := fun p => (allB_v hI.1 hI.2.1 (s := (Ml μ 1744961587 0) e) (p := p)).1.1
  have rd1 := b0.2.1.1
  have rd2 := b0.2.1.2.1
  have ePE : ∀ p, edP μ e p = pgE (edE μ e) (bfE (edE μ e) (readL (edB μ e)) p) p := fun p => pgL_E
  generalize hRR : readL (edB μ e) = R at *
  refine okI_loop mkX10_firstPageElsewhere (fun b n ls σ' => b = 1001 ∧ σ' = σ ∧ ∃ (l1 l2 : List Int), R = l1 ++ l2 ∧ n = l2.length ∧ ls = [some (vR 16908368 0), some (vI l1.length)] ∧ ∀ p ∈ l1, elsB μ e s p = false) (Nat.le_of_ble_eq_true rfl) (fun K hK => ?_) (fun b n ls σ' hJ K hK => ?_)
  · simp -implicitDefEqProofs only [↓kI_e, ↓kL_e, ↓kR_e, ↓kV_e, ↓x1, ↓x2, ↓x4, ↓x5, ↓x6, ↓x7, ↓x8, ↓x9, ↓x10, ↓x11, ↓x12, ↓x13, ↓x17, ↓x18, ↓x19, ↓x20, ↓x21, ↓x22, ↓x14, ↓x15, ↓x23, ↓x24, ↓x25, ↓x26, ↓x27, ↓x28, ↓x29, ↓x30, ↓x31, ↓x32, ↓x33, ↓x34, ↓x35i, ↓x35r, ↓x36, ↓x37, ↓x38, ↓x39, ↓x40, ↓x41, ↓x72, ↓x42, ↓x43, ↓x44, ↓x45, ↓x46, ↓x47, ↓x48, ↓x50, ↓x51, ↓x52, ↓x53, ↓x54, ↓x55_0, ↓x56_0, ↓x55_1, ↓x56_1, ↓x55_2, ↓x56_2, ↓x55_3, ↓x56_3, ↓x55_4, ↓x56_4, ↓x55_5, ↓x56_5, ↓x57, ↓x58, ↓x59, ↓x60, ↓x61, ↓x62, ↓x63, ↓x64, ↓x65, ↓x75, ↓x67, ↓x77, ↓x68, ↓x78, ↓x69, ↓x79, ↓x70, ↓x73, ↓x74, ↓ldI_0, ↓ldG_0, ↓ldR_0, ↓stK_0, ↓stK2_0, ↓ldI_1, ↓ldG_1, ↓ldR_1, ↓stK_1I, ↓stK_1R, ↓stK_1N, ↓stK_1G, ↓stK2_1I, ↓stK2_1R, ↓stK2_1N, ↓stK2_1G, ↓ldI_2, ↓ldG_2, ↓ldR_2, ↓stK_2I, ↓stK_2R, ↓stK_2N, ↓stK_2G, ↓stK2_2I, ↓stK2_2R, ↓stK2_2N, ↓stK2_2G, ↓ldI_3, ↓ldG_3, ↓ldR_3, ↓stK_3I, ↓stK_3R, ↓stK_3N, ↓stK_3G, ↓stK2_3I, ↓stK2_3R, ↓stK2_3N, ↓stK2_3G, ↓ldI_4, ↓ldG_4, ↓ldR_4, ↓stK_4I, ↓stK_4R, ↓stK_4N, ↓stK_4G, ↓stK2_4I, ↓stK2_4R, ↓stK2_4N, ↓stK2_4G, ↓ldI_5, ↓ldG_5, ↓ldR_5, ↓stK_5I, ↓stK_5R, ↓stK_5N, ↓stK_5G, ↓stK2_5I, ↓stK2_5R, ↓stK2_5N, ↓stK2_5G, ↓ldI_6, ↓ldG_6, ↓ldR_6, ↓stK_6I, ↓stK_6R, ↓stK_6N, ↓stK_6G, ↓stK2_6I, ↓stK2_6R, ↓stK2_6N, ↓stK2_6G, ↓ldI_7, ↓ldG_7, ↓ldR_7, ↓stK_7I, ↓stK_7R, ↓stK_7N, ↓stK_7G, ↓stK2_7I, ↓stK2_7R, ↓stK2_7N, ↓stK2_7G, ↓ldI_8, ↓ldG_8, ↓ldR_8, ↓stK_8I, ↓stK_8R, ↓stK_8N, ↓stK_8G, ↓stK2_8I, ↓stK2_8R, ↓stK2_8N, ↓stK2_8G, ↓ldI_9, ↓ldG_9, ↓ldR_9, ↓stK_9I, ↓stK_9R, ↓stK_9N, ↓stK_9G, ↓stK2_9I, ↓stK2_9R, ↓stK2_9N, ↓stK2_9G, ↓ldI_10, ↓ldG_10, ↓ldR_10, ↓stK_10I, ↓stK_10R, ↓stK_10N, ↓stK_10G, ↓stK2_10I, ↓stK2_10R, ↓stK2_10N, ↓stK2_10G, ↓ldI_11, ↓ldG_11, ↓ldR_11, ↓stK_11I, ↓stK_11R, ↓stK_11N, ↓stK_11G, ↓stK2_11I, ↓stK2_11R, ↓stK2_11N, ↓stK2_11G, ↓ldI_12, ↓ldG_12, ↓ldR_12, ↓stK_12I, ↓stK_12R, ↓stK_12N, ↓stK_12G, ↓stK2_12I, ↓stK2_12R, ↓stK2_12N, ↓stK2_12G, ↓pN_0, ↓pN_1, ↓pN_2, ↓pN_3, ↓pN_4, ↓pN_5, ↓pN_6, ↓pN_7, ↓ctI_e, ↓ctL_e, ↓ctR_e, ↓ctV_e, ↓tsK_n, ↓tsK_c, ↓go_K, ↓go_X, csum_n, csum_I, csum_R, csum_G, hdCls_r, isCls, elemR, rg_x_pads, rg_log_words, rg_row_pads, rg_row_words, rg_row_led, alen, IR, Nat.reduceMod, Nat.reduceDiv, Nat.reduceSub, Nat.reduceAdd, Nat.reduceLeDiff, Nat.reduceEqDiff, Nat.reduceLT, Int.reduceLE, Int.reduceLT, Int.reduceEq, Int.reduceNe, Int.reduceAdd, Int.reduceSub, Int.reduceNeg, Int.reduceMul, ne_eq, not_true_eq_false, not_false_eq_true, true_and, and_true, false_and, and_false, true_or, or_true, false_or, or_false, and_self, or_self, true_implies, forall_const, false_implies, implies_true, reduceIte, reduceCtorEq, eq_self, Int.le_refl, Nat.le_refl, Int.reduceNatCast, Int.cast_ofNat_Int, ↓eX10_firstPageElsewhere_0, ↓eX10_firstPageElsewhere_1, ↓eX10_firstPageElsewhere_2, ↓eX10_firstPageElsewhere_3, lX10_firstPageElsewhere, ent0, entI, entR, entG, ent_n, List.length_cons, List.length_nil, List.replicate, List.cons_append, List.nil_append, Nat.reduceSub, Nat.reduceAdd]
    exact hK _ _ _ _ (by decide) ⟨rfl, rfl, [], R, rfl, rfl, rfl, by simp⟩
  · obtain ⟨rfl, rfl, l1, l2, hsp, rfl, rfl, hno⟩ := hJ
    have hlR : R.length = l1.length + l2.length := by rw [hsp, List.length_append]
    simp -implicitDefEqProofs only [↓kI_e, ↓kL_e, ↓kR_e, ↓kV_e, ↓x1, ↓x2, ↓x4, ↓x5, ↓x6, ↓x7, ↓x8, ↓x9, ↓x10, ↓x11, ↓x12, ↓x13, ↓x17, ↓x18, ↓x19, ↓x20, ↓x21, ↓x22, ↓x14, ↓x15, ↓x23, ↓x24, ↓x25, ↓x26, ↓x27, ↓x28, ↓x29, ↓x30, ↓x31, ↓x32, ↓x33, ↓x34, ↓x35i, ↓x35r, ↓x36, ↓x37, ↓x38, ↓x39, ↓x40, ↓x41, ↓x72, ↓x42, ↓x43, ↓x44, ↓x45, ↓x46, ↓x47, ↓x48, ↓x50, ↓x51, ↓x52, ↓x53, ↓x54, ↓x55_0, ↓x56_0, ↓x55_1, ↓x56_1, ↓x55_2, ↓x56_2, ↓x55_3, ↓x56_3, ↓x55_4, ↓x56_4, ↓x55_5, ↓x56_5, ↓x57, ↓x58, ↓x59, ↓x60, ↓x61, ↓x62, ↓x63, ↓x64, ↓x65, ↓x75, ↓x67, ↓x77, ↓x68, ↓x78, ↓x69, ↓x79, ↓x70, ↓x73, ↓x74, ↓ldI_0, ↓ldG_0, ↓ldR_0, ↓stK_0, ↓stK2_0, ↓ldI_1, ↓ldG_1, ↓ldR_1, ↓stK_1I, ↓stK_1R, ↓stK_1N, ↓stK_1G, ↓stK2_1I, ↓stK2_1R, ↓stK2_1N, ↓stK2_1G, ↓ldI_2, ↓ldG_2, ↓ldR_2, ↓stK_2I, ↓stK_2R, ↓stK_2N, ↓stK_2G, ↓stK2_2I, ↓stK2_2R, ↓stK2_2N, ↓stK2_2G, ↓ldI_3, ↓ldG_3, ↓ldR_3, ↓stK_3I, ↓stK_3R, ↓stK_3N, ↓stK_3G, ↓stK2_3I, ↓stK2_3R, ↓stK2_3N, ↓stK2_3G, ↓ldI_4, ↓ldG_4, ↓ldR_4, ↓stK_4I, ↓stK_4R, ↓stK_4N, ↓stK_4G, ↓stK2_4I, ↓stK2_4R, ↓stK2_4N, ↓stK2_4G, ↓ldI_5, ↓ldG_5, ↓ldR_5, ↓stK_5I, ↓stK_5R, ↓stK_5N, ↓stK_5G, ↓stK2_5I, ↓stK2_5R, ↓stK2_5N, ↓stK2_5G, ↓ldI_6, ↓ldG_6, ↓ldR_6, ↓stK_6I, ↓stK_6R, ↓stK_6N, ↓stK_6G, ↓stK2_6I, ↓stK2_6R, ↓stK2_6N, ↓stK2_6G, ↓ldI_7, ↓ldG_7, ↓ldR_7, ↓stK_7I, ↓stK_7R, ↓stK_7N, ↓stK_7G, ↓stK2_7I, ↓stK2_7R, ↓stK2_7N, ↓stK2_7G, ↓ldI_8, ↓ldG_8, ↓ldR_8, ↓stK_8I, ↓stK_8R, ↓stK_8N, ↓stK_8G, ↓stK2_8I, ↓stK2_8R, ↓stK2_8N, ↓stK2_8G, ↓ldI_9, ↓ldG_9, ↓ldR_9, ↓stK_9I, ↓stK_9R, ↓stK_9N, ↓stK_9G, ↓stK2_9I, ↓stK2_9R, ↓stK2_9N, ↓stK2_9G, ↓ldI_10, ↓ldG_10, ↓ldR_10, ↓stK_10I, ↓stK_10R, ↓stK_10N, ↓stK_10G, ↓stK2_10I, ↓stK2_10R, ↓stK2_10N, ↓stK2_10G, ↓ldI_11, ↓ldG_11, ↓ldR_11, ↓stK_11I, ↓stK_11R, ↓stK_11N, ↓stK_11G, ↓stK2_11I, ↓stK2_11R, ↓stK2_11N, ↓stK2_11G, ↓ldI_12, ↓ldG_12, ↓ldR_12, ↓stK_12I, ↓stK_12R, ↓stK_12N, ↓stK_12G, ↓stK2_12I, ↓stK2_12R, ↓stK2_12N, ↓stK2_12G, ↓pN_0, ↓pN_1, ↓pN_2, ↓pN_3, ↓pN_4, ↓pN_5, ↓pN_6, ↓pN_7, ↓ctI_e, ↓ctL_e, ↓ctR_e, ↓ctV_e, ↓tsK_n, ↓tsK_c, ↓go_K, ↓go_X, csum_n, csum_I, csum_R, csum_G, hdCls_r, isCls, elemR, rg_x_pads, rg_log_words, rg_row_pads, rg_row_words, rg_row_led, alen, IR, Nat.reduceMod, Nat.reduceDiv, Nat.reduceSub, Nat.reduceAdd, Nat.reduceLeDiff, Nat.reduceEqDiff, Nat.reduceLT, Int.reduceLE, Int.reduceLT, Int.reduceEq, Int.reduceNe, Int.reduceAdd, Int.reduceSub, Int.reduceNeg, Int.reduceMul, ne_eq, not_true_eq_false, not_false_eq_true, true_and, and_true, false_and, and_false, true_or, or_true, false_or, or_false, and_self, or_self, true_implies, forall_const, false_implies, implies_true, reduceIte, reduceCtorEq, eq_self, Int.le_refl, Nat.le_refl, Int.reduceNatCast, Int.cast_ofNat_Int, ↓eX10_firstPageElsewhere_0, ↓eX10_firstPageElsewhere_1, ↓eX10_firstPageElsewhere_2, ↓eX10_firstPageElsewhere_3, lX10_firstPageElsewhere, ent0, entI, entR, entG, ent_n, List.length_cons, List.length_nil, List.replicate, List.cons_append, List.nil_append, Nat.reduceSub, Nat.reduceAdd]
    rw [rd1]
    cases l2 with
    | nil =>
      simp only [List.length_nil] at hlR
      rw [List.append_nil] at hsp
      refine ⟨⟨⟨by omega, by omega⟩, by omega, by omega⟩, fun _ => ?_, fun c => by omega⟩
      rcases hc with ⟨c1, -⟩ | ⟨p, -, p2, -⟩
      · rw [c1] at hk; exact hk
      · have := hno p (by rw [← hsp]; exact hin p p2.2)
        rw [p2.1] at this
        exact absurd this (by decide)
    | cons p l3 =>
      rw [List.length_cons] at hlR
      have hpr : (Mi σ' 805568993) 0 l1.length = p := rd2 l1.length p (by rw [hsp]; simp)
      have hpR : p ∈ R := by rw [hsp]; simp
      have hpe := rm p hpR
      rw [hpr]
      refine ⟨⟨⟨by omega, by omega⟩, by omega, by omega⟩, fun c => by omega, fun _ => ⟨by omega, x_isElsewhere hI h' ⟨hpe.1, hpe.2.1⟩ (fun d => ?_) (fun d => ?_)⟩⟩ <;> simp -implicitDefEqProofs only [↓kI_e, ↓kL_e, ↓kR_e, ↓kV_e, ↓x1, ↓x2, ↓x4, ↓x5, ↓x6, ↓x7, ↓x8, ↓x9, ↓x10, ↓x11, ↓x12, ↓x13, ↓x17, ↓x18, ↓x19, ↓x20, ↓x21, ↓x22, ↓x14, ↓x15, ↓x23, ↓x24, ↓x25, ↓x26, ↓x27, ↓x28, ↓x29, ↓x30, ↓x31, ↓x32, ↓x33, ↓x34, ↓x35i, ↓x35r, ↓x36, ↓x37, ↓x38, ↓x39, ↓x40, ↓x41, ↓x72, ↓x42, ↓x43, ↓x44, ↓x45, ↓x46, ↓x47, ↓x48, ↓x50, ↓x51, ↓x52, ↓x53, ↓x54, ↓x55_0, ↓x56_0, ↓x55_1, ↓x56_1, ↓x55_2, ↓x56_2, ↓x55_3, ↓x56_3, ↓x55_4, ↓x56_4, ↓x55_5, ↓x56_5, ↓x57, ↓x58, ↓x59, ↓x60, ↓x61, ↓x62, ↓x63, ↓x64, ↓x65, ↓x75, ↓x67, ↓x77, ↓x68, ↓x78, ↓x69, ↓x79, ↓x70, ↓x73, ↓x74, ↓ldI_0, ↓ldG_0, ↓ldR_0, ↓stK_0, ↓stK2_0, ↓ldI_1, ↓ldG_1, ↓ldR_1, ↓stK_1I, ↓stK_1R, ↓stK_1N, ↓stK_1G, ↓stK2_1I, ↓stK2_1R, ↓stK2_1N, ↓stK2_1G, ↓ldI_2, ↓ldG_2, ↓ldR_2, ↓stK_2I, ↓stK_2R, ↓stK_2N, ↓stK_2G, ↓stK2_2I, ↓stK2_2R, ↓stK2_2N, ↓stK2_2G, ↓ldI_3, ↓ldG_3, ↓ldR_3, ↓stK_3I, ↓stK_3R, ↓stK_3N, ↓stK_3G, ↓stK2_3I, ↓stK2_3R, ↓stK2_3N, ↓stK2_3G, ↓ldI_4, ↓ldG_4, ↓ldR_4, ↓stK_4I, ↓stK_4R, ↓stK_4N, ↓stK_4G, ↓stK2_4I, ↓stK2_4R, ↓stK2_4N, ↓stK2_4G, ↓ldI_5, ↓ldG_5, ↓ldR_5, ↓stK_5I, ↓stK_5R, ↓stK_5N, ↓stK_5G, ↓stK2_5I, ↓stK2_5R, ↓stK2_5N, ↓stK2_5G, ↓ldI_6, ↓ldG_6, ↓ldR_6, ↓stK_6I, ↓stK_6R, ↓stK_6N, ↓stK_6G, ↓stK2_6I, ↓stK2_6R, ↓stK2_6N, ↓stK2_6G, ↓ldI_7, ↓ldG_7, ↓ldR_7, ↓stK_7I, ↓stK_7R, ↓stK_7N, ↓stK_7G, ↓stK2_7I, ↓stK2_7R, ↓stK2_7N, ↓stK2_7G, ↓ldI_8, ↓ldG_8, ↓ldR_8, ↓stK_8I, ↓stK_8R, ↓stK_8N, ↓stK_8G, ↓stK2_8I, ↓stK2_8R, ↓stK2_8N, ↓stK2_8G, ↓ldI_9, ↓ldG_9, ↓ldR_9, ↓stK_9I, ↓stK_9R, ↓stK_9N, ↓stK_9G, ↓stK2_9I, ↓stK2_9R, ↓stK2_9N, ↓stK2_9G, ↓ldI_10, ↓ldG_10, ↓ldR_10, ↓stK_10I, ↓stK_10R, ↓stK_10N, ↓stK_10G, ↓stK2_10I, ↓stK2_10R, ↓stK2_10N, ↓stK2_10G, ↓ldI_11, ↓ldG_11, ↓ldR_11, ↓stK_11I, ↓stK_11R, ↓stK_11N, ↓stK_11G, ↓stK2_11I, ↓stK2_11R, ↓stK2_11N, ↓stK2_11G, ↓ldI_12, ↓ldG_12, ↓ldR_12, ↓stK_12I, ↓stK_12R, ↓stK_12N, ↓stK_12G, ↓stK2_12I, ↓stK2_12R, ↓stK2_12N, ↓stK2_12G, ↓pN_0, ↓pN_1, ↓pN_2, ↓pN_3, ↓pN_4, ↓pN_5, ↓pN_6, ↓pN_7, ↓ctI_e, ↓ctL_e, ↓ctR_e, ↓ctV_e, ↓tsK_n, ↓tsK_c, ↓go_K, ↓go_X, csum_n, csum_I, csum_R, csum_G, hdCls_r, isCls, elemR, rg_x_pads, rg_log_words, rg_row_pads, rg_row_words, rg_row_led, alen, IR, Nat.reduceMod, Nat.reduceDiv, Nat.reduceSub, Nat.reduceAdd, Nat.reduceLeDiff, Nat.reduceEqDiff, Nat.reduceLT, Int.reduceLE, Int.reduceLT, Int.reduceEq, Int.reduceNe, Int.reduceAdd, Int.reduceSub, Int.reduceNeg, Int.reduceMul, ne_eq, not_true_eq_false, not_false_eq_true, true_and, and_true, false_and, and_false, true_or, or_true, false_or, or_false, and_self, or_self, true_implies, forall_const, false_implies, implies_true, reduceIte, reduceCtorEq, eq_self, Int.le_refl, Nat.le_refl, Int.reduceNatCast, Int.cast_ofNat_Int, ↓eX10_firstPageElsewhere_0, ↓eX10_firstPageElsewhere_1, ↓eX10_firstPageElsewhere_2, ↓eX10_firstPageElsewhere_3, lX10_firstPageElsewhere, ent0, entI, entR, entG, ent_n, List.length_cons, List.length_nil, List.replicate, List.cons_append, List.nil_append, Nat.reduceSub, Nat.reduceAdd]
      · rw [hpr, (hpg p hpR).1]
        have hsn : snb (edB μ e) p = true := by
          have := (readL_mem hM0.1 (x := p)).mp (by rw [hRR]; exact hpR)
          exact snb_iff.mpr this
        have ev : lsF μ e s ((Mi μ 184680536 0 10)).toNat = edP μ e p := by
          rcases hc with ⟨-, c2⟩ | ⟨q, q1, q2, q3, q4⟩
          · exact absurd ⟨d, hsn⟩ (c2 p hpe.1 (by omega))
          · have a1 := q4 p hpe.1 (by omega) ⟨d, hsn⟩
            have hqR := hin q q2.2
            have hq2 : q ∈ p :: l3 := by
              rw [hsp] at hqR
              rcases List.mem_append.mp hqR with z | z
              · have := hno q z
                rw [q2.1] at this
                exact absurd this (by decide)
              · exact z
            have a2 := pg_mo (E := edE μ e) (l1 := l1) (l2 := l3) hE2 (by rw [← hsp]; exact hE1) (by rw [← hsp]; exact nd) hq2
            rw [← hsp, ← ePE, ← ePE] at a2
            rw [q3]
            omega
        rw [ev] at hk
        exact ⟨by omega, by omega, hk⟩
      · refine hK _ l3.length _ _ (by decide) (by simp) ⟨rfl, rfl, l1 ++ [p], l3, by rw [hsp]; simp, rfl, by simp, fun q hq => ?_⟩
        rcases List.mem_append.mp hq with hq | hq
        · exact hno q hq
        · rw [List.mem_singleton.mp hq]; exact d
