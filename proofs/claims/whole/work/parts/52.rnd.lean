/-! the setting of a round: pages filled, lines on pages -/
/-- page, used, page of the last line, squares, lines, lines left -/
abbrev S6 : Type := Int × Int × Int × Int × Int × Int
def tk (h n : Int) (s : S6) : S6 := if h < s.2.1 + n then (s.1 + 1, n, s.1 + 1, s.2.2.2.1, s.2.2.2.2.1, s.2.2.2.2.2 + (h - s.2.1)) else (s.1, s.2.1 + n, s.1, s.2.2.2.1, s.2.2.2.2.1, s.2.2.2.2.2)
/-- behind i of so many lines; the last takes nt more -/
def tkS (h nt : Int) (len : Nat) : Nat → S6 → S6
  | 0, s => s
  | i + 1, s => tk h (if i + 1 = len then 1 + nt else 1) (tkS h nt len i s)
/-- sort, high, note, widths, width and height -/
abbrev En : Type := (Int → Int) × (Int → Int) × (Int → Int) × (Int → List Int) × Int × Int
noncomputable def eL (E : En) (p : Int) : List Int := (brO (E.2.2.2.1 p) E.2.2.2.2.1).1
noncomputable def eQ (E : En) (p : Int) : Int := (brO (E.2.2.2.1 p) E.2.2.2.2.1).2
noncomputable def ln1 (E : En) (s : S6) (p : Int) : S6 := (s.1, s.2.1, s.2.2.1, s.2.2.2.1 + eQ E p, s.2.2.2.2.1 + (eL E p).length, s.2.2.2.2.2)
noncomputable def stE (E : En) (s : S6) (p : Int) : S6 := if E.1 p = 1 then tkS E.2.2.2.2.2 (E.2.2.1 p) (eL E p).length (eL E p).length (ln1 E s p) else tk E.2.2.2.2.2 (if E.1 p = 0 then 1 else E.2.1 p) s
noncomputable def pgE (E : En) (s : S6) (p : Int) : Int := if E.1 p = 1 then (if (eL E p).length = 0 then (if E.2.2.2.2.2 < s.2.1 + 1 then s.1 + 1 else s.1) else (tkS E.2.2.2.2.2 (E.2.2.1 p) (eL E p).length 1 (ln1 E s p)).1) else (stE E s p).1
noncomputable def lpE (E : En) (s : S6) (p : Int) (i : Nat) : Int := (tkS E.2.2.2.2.2 (E.2.2.1 p) (eL E p).length (i + 1) (ln1 E s p)).1
noncomputable def laE (E : En) (s : S6) (p : Int) : Int := if E.1 p = 1 ∧ (eL E p).length = 0 then pgE E s p else (stE E s p).1
noncomputable def lmE (E : En) (p : Int) : Int := if E.1 p = 1 then (eL E p).length else if E.1 p = 0 then 1 else E.2.1 p
def s60 : S6 := (1, 0, 0, 0, 0, 0)
noncomputable def rnE (E : En) (l : List Int) : S6 := l.foldl (stE E) s60
noncomputable def bfE (E : En) (R : List Int) (p : Int) : S6 := rnE E (R.takeWhile (fun q => decide (q ≠ p)))
theorem bfE_at {E : En} {l1 l2 : List Int} {p : Int} (h : p ∉ l1) : bfE E (l1 ++ p :: l2) p = rnE E l1 := by
  unfold bfE
  rw [List.takeWhile_append_of_pos (fun x hx => by simp; rintro rfl; exact h hx), List.takeWhile_cons]
  simp
theorem rnE_s {E : En} {l : List Int} {p : Int} : rnE E (l ++ [p]) = stE E (rnE E l) p := by simp [rnE, List.foldl_append]
theorem tk_rng {h n : Int} {s : S6} (hn : 0 ≤ n ∧ n ≤ h) (hu : 0 ≤ s.2.1 ∧ s.2.1 ≤ h) : (s.1 ≤ (tk h n s).1 ∧ (tk h n s).1 ≤ s.1 + 1) ∧ 0 ≤ (tk h n s).2.1 ∧ (tk h n s).2.1 ≤ h := by
  unfold tk
  split <;> simp <;> omega
theorem tkS_rng {h nt : Int} {len : Nat} {s : S6} (hh : 10 ≤ h) (hn : 0 ≤ nt ∧ nt ≤ 3) (hu : 0 ≤ s.2.1 ∧ s.2.1 ≤ h) : ∀ i : Nat, (s.1 ≤ (tkS h nt len i s).1 ∧ (tkS h nt len i s).1 ≤ s.1 + i) ∧ 0 ≤ (tkS h nt len i s).2.1 ∧ (tkS h nt len i s).2.1 ≤ h
  | 0 => by simp [tkS]; omega
  | i + 1 => by
    have ih := tkS_rng (nt := nt) (len := len) hh hn hu i
    have := tk_rng (h := h) (n := if i + 1 = len then 1 + nt else 1) (s := tkS h nt len i s) (by split <;> omega) ih.2
    unfold tkS
    omega
/-- the numbers of a round, as the check has them -/
def s6 (σ : Mm) : S6 := ((Mi σ 184680536 0 80), (Mi σ 184680536 0 81), (Mi σ 184680536 0 73), (Mi σ 184680536 0 74), (Mi σ 184680536 0 75), (Mi σ 184680536 0 76))
def out6 (σ σ' : Mm) : Prop := ∀ f, f ≠ 80 → f ≠ 81 → f ≠ 73 → f ≠ 74 → f ≠ 75 → f ≠ 76 → f ≠ 78 → Mi σ' 184680536 0 f = Mi σ 184680536 0 f
theorem m_setLines {n h : Int} {σ : Mm} {k : Int → Mm → Prop} (hu : 0 ≤ (Mi σ 184680536 0 81) ∧ (Mi σ 184680536 0 81) ≤ 1000) (hn : 0 ≤ n ∧ n ≤ 1000) (hh : IR h)
    (hk : ∀ σ', Fr [184680536] σ σ' → out6 σ σ' → s6 σ' = tk h n (s6 σ) → k (s6 σ').1 σ') : OkI 45 [vR 184680536 0, vI n, vI h] σ k := by
  refine okI_run mkX11_setLines (Nat.le_of_ble_eq_true rfl) (fun K => ?_)
  simp only [↓kI_e, ↓kL_e, ↓kR_e, ↓kV_e, ↓x1, ↓x2, ↓x4, ↓x5, ↓x6, ↓x7, ↓x8, ↓x9, ↓x10, ↓x11, ↓x12, ↓x13, ↓x17, ↓x18, ↓x19, ↓x20, ↓x21, ↓x22, ↓x14, ↓x15, ↓x23, ↓x24, ↓x25, ↓x26, ↓x27, ↓x28, ↓x29, ↓x30, ↓x31, ↓x32, ↓x33, ↓x34, ↓x35i, ↓x35r, ↓x36, ↓x37, ↓x38, ↓x39, ↓x40, ↓x41, ↓x72, ↓x42, ↓x43, ↓x44, ↓x45, ↓x46, ↓x47, ↓x48, ↓x50, ↓x51, ↓x52, ↓x53, ↓x54, ↓x55_0, ↓x56_0, ↓x55_1, ↓x56_1, ↓x55_2, ↓x56_2, ↓x55_3, ↓x56_3, ↓x55_4, ↓x56_4, ↓x55_5, ↓x56_5, ↓x57, ↓x58, ↓x59, ↓x60, ↓x61, ↓x62, ↓x63, ↓x64, ↓x65, ↓x75, ↓x67, ↓x77, ↓x68, ↓x78, ↓x69, ↓x79, ↓x70, ↓x73, ↓x74, ↓ldI_0, ↓ldG_0, ↓ldR_0, ↓stK_0, ↓stK2_0, ↓ldI_1, ↓ldG_1, ↓ldR_1, ↓stK_1I, ↓stK_1R, ↓stK_1N, ↓stK_1G, ↓stK2_1I, ↓stK2_1R, ↓stK2_1N, ↓stK2_1G, ↓ldI_2, ↓ldG_2, ↓ldR_2, ↓stK_2I, ↓stK_2R, ↓stK_2N, ↓stK_2G, ↓stK2_2I, ↓stK2_2R, ↓stK2_2N, ↓stK2_2G, ↓ldI_3, ↓ldG_3, ↓ldR_3, ↓stK_3I, ↓stK_3R, ↓stK_3N, ↓stK_3G, ↓stK2_3I, ↓stK2_3R, ↓stK2_3N, ↓stK2_3G, ↓ldI_4, ↓ldG_4, ↓ldR_4, ↓stK_4I, ↓stK_4R, ↓stK_4N, ↓stK_4G, ↓stK2_4I, ↓stK2_4R, ↓stK2_4N, ↓stK2_4G, ↓ldI_5, ↓ldG_5, ↓ldR_5, ↓stK_5I, ↓stK_5R, ↓stK_5N, ↓stK_5G, ↓stK2_5I, ↓stK2_5R, ↓stK2_5N, ↓stK2_5G, ↓ldI_6, ↓ldG_6, ↓ldR_6, ↓stK_6I, ↓stK_6R, ↓stK_6N, ↓stK_6G, ↓stK2_6I, ↓stK2_6R, ↓stK2_6N, ↓stK2_6G, ↓ldI_7, ↓ldG_7, ↓ldR_7, ↓stK_7I, ↓stK_7R, ↓stK_7N, ↓stK_7G, ↓stK2_7I, ↓stK2_7R, ↓stK2_7N, ↓stK2_7G, ↓ldI_8, ↓ldG_8, ↓ldR_8, ↓stK_8I, ↓stK_8R, ↓stK_8N, ↓stK_8G, ↓stK2_8I, ↓stK2_8R, ↓stK2_8N, ↓stK2_8G, ↓ldI_9, ↓ldG_9, ↓ldR_9, ↓stK_9I, ↓stK_9R, ↓stK_9N, ↓stK_9G, ↓stK2_9I, ↓stK2_9R, ↓stK2_9N, ↓stK2_9G, ↓ldI_10, ↓ldG_10, ↓ldR_10, ↓stK_10I, ↓stK_10R, ↓stK_10N, ↓stK_10G, ↓stK2_10I, ↓stK2_10R, ↓stK2_10N, ↓stK2_10G, ↓ldI_11, ↓ldG_11, ↓ldR_11, ↓stK_11I, ↓stK_11R, ↓stK_11N, ↓stK_11G, ↓stK2_11I, ↓stK2_11R, ↓stK2_11N, ↓stK2_11G, ↓ldI_12, ↓ldG_12, ↓ldR_12, ↓stK_12I, ↓stK_12R, ↓stK_12N, ↓stK_12G, ↓stK2_12I, ↓stK2_12R, ↓stK2_12N, ↓stK2_12G, ↓pN_0, ↓pN_1, ↓pN_2, ↓pN_3, ↓pN_4, ↓pN_5, ↓pN_6, ↓pN_7, ↓ctI_e, ↓ctL_e, ↓ctR_e, ↓ctV_e, ↓tsK_n, ↓tsK_c, ↓go_K, ↓go_X, csum_n, csum_I, csum_R, csum_G, hdCls_r, isCls, elemR, rg_x_pads, rg_log_words, rg_row_pads, rg_row_words, rg_row_led, alen, IR, Nat.reduceMod, Nat.reduceDiv, Nat.reduceSub, Nat.reduceAdd, Nat.reduceLeDiff, Nat.reduceEqDiff, Nat.reduceLT, Int.reduceLE, Int.reduceLT, Int.reduceEq, Int.reduceNe, Int.reduceAdd, Int.reduceSub, Int.reduceNeg, Int.reduceMul, ne_eq, not_true_eq_false, not_false_eq_true, true_and, and_true, false_and, and_false, true_or, or_true, false_or, or_false, and_self, or_self, true_implies, forall_const, false_implies, implies_true, reduceIte, reduceCtorEq, eq_self, Int.le_refl, Nat.le_refl, Int.reduceNatCast, Int.cast_ofNat_Int, ↓eX11_setLines_0, ↓eX11_setLines_1, lX11_setLines, ent0, entI, entR, entG, ent_n, List.length_cons, List.length_nil, List.replicate, List.cons_append, List.nil_append, Nat.reduceSub, Nat.reduceAdd]
  refine ⟨⟨⟨by omega, by omega⟩, hh⟩, fun c => ?_, fun c => ?_⟩
  · have fin := hk (sI (sI σ 184680536 0 81 ((Mi σ 184680536 0 81) + n)) 184680536 0 73 (Mi σ 184680536 0 80)) (Fr.sI (by decide) (Fr.sI (by decide) Fr.rfl')) (fun f a b c d e g i => by simp only [Mi_s, upd1_e, if_neg b, if_neg c]) (by
      unfold s6 tk
      simp only [Mi_s]
      rw [if_neg (by simp; omega)]
      simp [upd1])
    simp only [s6, Mi_s] at fin ⊢
    simpa [upd1] using fin
  · have fin := hk (sI (sI (sI (sI (sI σ 184680536 0 76 ((Mi σ 184680536 0 76) + (h - (Mi σ 184680536 0 81)))) 184680536 0 80 ((Mi σ 184680536 0 80) + 1)) 184680536 0 81 0) 184680536 0 81 (0 + n)) 184680536 0 73 ((Mi σ 184680536 0 80) + 1)) (Fr.sI (by decide) (Fr.sI (by decide) (Fr.sI (by decide) (Fr.sI (by decide) (Fr.sI (by decide) Fr.rfl'))))) (fun f a b c d e g i => by simp only [Mi_s, upd1_e, if_neg a, if_neg b, if_neg c, if_neg g]) (by
      unfold s6 tk
      simp only [Mi_s]
      rw [if_pos (show h < (Mi σ 184680536 0 81) + n by omega)]
      simp [upd1])
    simp only [s6, Mi_s] at fin ⊢
    simpa [upd1] using fin
