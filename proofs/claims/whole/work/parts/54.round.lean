/-! the check: a round set -/
/-- what a piece of the round asks -/
def sntR (σ : Mm) (e p : Int) (B : Bk) (E : En) : Prop := (-1 ≤ (Mi σ 1392640481 0) p ∧ (Mi σ 1392640481 0) p < 60) ∧ ((Mi σ 184680536 0 71) ≠ 1 → tlP (Mi σ 1073873377 0) (Mi σ 1392640481 0) B p → IR ((Mi σ 1963065825 0) ((Mi σ 1392640481 0) p))) ∧ (0 ≤ (Mi σ 1828848577 0) (60 * e + p) ∧ (Mi σ 1828848577 0) (60 * e + p) ≤ 8) ∧ (∀ i : Int, 0 ≤ i → i < (Mi σ 1828848577 0) (60 * e + p) → 0 ≤ (Mi σ 1845632513 0) (8 * (60 * e + p) + i) ∧ (Mi σ 1845632513 0) (8 * (60 * e + p) + i) ≤ 1000) ∧ (tlP (Mi σ 1073873377 0) (Mi σ 1392640481 0) B p → E.2.2.2.1 p = widL (Mi σ 1828848577 0) (Mi σ 1845632513 0) (60 * e + p) ++ [tellW (Mi σ 184680536 0 71) (Mi σ 1963065825 0) (Mi σ 1392640481 0) p]) ∧ (¬ tlP (Mi σ 1073873377 0) (Mi σ 1392640481 0) B p → E.2.2.2.1 p = widL (Mi σ 1828848577 0) (Mi σ 1845632513 0) (60 * e + p)) ∧ (E.2.2.2.1 p).length ≤ 9 ∧ ∀ x ∈ E.2.2.2.1 p, 0 ≤ x ∧ x ≤ 10
def pcR (σ : Mm) (E : En) (p : Int) : Prop := (0 ≤ p ∧ p < 60) ∧ (0 ≤ (Mi σ 1073873377 0) p ∧ (Mi σ 1073873377 0) p ≤ 2) ∧ E.1 p = (Mi σ 1073873377 0) p ∧ E.2.1 p = (Mi σ 1090650593 0) p ∧ E.2.2.1 p = (Mi σ 1375863265 0) p ∧ ((Mi σ 1073873377 0) p = 2 → 1 ≤ (Mi σ 1090650593 0) p ∧ (Mi σ 1090650593 0) p ≤ 9) ∧ 0 ≤ (Mi σ 1375863265 0) p ∧ (Mi σ 1375863265 0) p ≤ 3
def rdy (σ : Mm) (e : Int) (B : Bk) (E : En) (R : List Int) : Prop := MB σ B ∧ okB B ∧ (Mi σ 184680536 0 33) = R.length ∧ arL (Mi σ 1459749345 0) R ∧ R.Nodup ∧ R.length ≤ 60 ∧ (10 ≤ E.2.2.2.2.1 ∧ E.2.2.2.2.1 ≤ 60) ∧ (10 ≤ E.2.2.2.2.2 ∧ E.2.2.2.2.2 ≤ 20) ∧ IR (Mi σ 184680536 0 71) ∧ ∀ p ∈ R, pcR σ E p ∧ ((Mi σ 1073873377 0) p = 1 → sntR σ e p B E)
def rndOk (σ : Mm) (e : Int) (E : En) (R l : List Int) : Prop := ∀ p ∈ l, (Mi σ 1862403009 0) (60 * e + p) = pgE E (bfE E R p) p ∧ (Mi σ 1879180225 0) (60 * e + p) = laE E (bfE E R p) p ∧ (Mi σ 1895957441 0) (60 * e + p) = lmE E p ∧ (E.1 p = 1 → lnK (eL E p) ∧ arL (fun i => (Mi σ 1912743297 0) (10 * (60 * e + p) + i)) (eL E p) ∧ ∀ i : Nat, i < (eL E p).length → (Mi σ 1929520513 0) (10 * (60 * e + p) + i) = lpE E (bfE E R p) p i) ∧ 1 ≤ pgE E (bfE E R p) p ∧ pgE E (bfE E R p) p ≤ 1000
def rInv (σ σ' : Mm) (e : Int) (E : En) (R l : List Int) : Prop := Fr scrS σ σ' ∧ out6 σ σ' ∧ s6 σ' = rnE E l ∧ (1 ≤ (rnE E l).1 ∧ (rnE E l).1 ≤ 1 + 10 * l.length) ∧ (0 ≤ (rnE E l).2.1 ∧ (rnE E l).2.1 ≤ E.2.2.2.2.2) ∧ rndOk σ' e E R l ∧ outR (Mi σ 1895957441 0) (Mi σ' 1895957441 0) (60 * e) (60 * e + 60) ∧ outR (Mi σ 1862403009 0) (Mi σ' 1862403009 0) (60 * e) (60 * e + 60) ∧ outR (Mi σ 1879180225 0) (Mi σ' 1879180225 0) (60 * e) (60 * e + 60) ∧ outR (Mi σ 1912743297 0) (Mi σ' 1912743297 0) (600 * e) (600 * e + 600) ∧ outR (Mi σ 1929520513 0) (Mi σ' 1929520513 0) (600 * e) (600 * e + 600)
theorem pgE_rng {E : En} {s : S6} {p : Int} (hh : 10 ≤ E.2.2.2.2.2) (hn : 0 ≤ E.2.2.1 p ∧ E.2.2.1 p ≤ 3) (hu : 0 ≤ s.2.1 ∧ s.2.1 ≤ E.2.2.2.2.2) (hl : E.1 p ≠ 1 → 0 ≤ (if E.1 p = 0 then 1 else E.2.1 p) ∧ (if E.1 p = 0 then 1 else E.2.1 p) ≤ E.2.2.2.2.2) : s.1 ≤ pgE E s p ∧ pgE E s p ≤ s.1 + 1 := by
  unfold pgE
  by_cases h : E.1 p = 1
  · rw [if_pos h]
    split
    · split <;> omega
    · have := (tkS_rng (nt := E.2.2.1 p) (len := (eL E p).length) (s := ln1 E s p) hh hn hu 1).1
      have e : (ln1 E s p).1 = s.1 := rfl
      omega
  · rw [if_neg h, stE, if_neg h]
    exact (tk_rng (hl h) hu).1
theorem stE_rng {E : En} {s : S6} {p : Int} (hh : 10 ≤ E.2.2.2.2.2) (hn : 0 ≤ E.2.2.1 p ∧ E.2.2.1 p ≤ 3) (hu : 0 ≤ s.2.1 ∧ s.2.1 ≤ E.2.2.2.2.2) (hl : E.1 p ≠ 1 → 0 ≤ (if E.1 p = 0 then 1 else E.2.1 p) ∧ (if E.1 p = 0 then 1 else E.2.1 p) ≤ E.2.2.2.2.2) (h9 : E.1 p = 1 → (eL E p).length ≤ 9) : (s.1 ≤ (stE E s p).1 ∧ (stE E s p).1 ≤ s.1 + 9) ∧ 0 ≤ (stE E s p).2.1 ∧ (stE E s p).2.1 ≤ E.2.2.2.2.2 := by
  unfold stE
  by_cases h : E.1 p = 1
  · rw [if_pos h]
    have := tkS_rng (nt := E.2.2.1 p) (len := (eL E p).length) (s := ln1 E s p) hh hn hu (eL E p).length
    have e : (ln1 E s p).1 = s.1 := rfl
    have := h9 h
    omega
  · rw [if_neg h]
    have := tk_rng (hl h) hu
    omega
theorem pcR_l {σ : Mm} {E : En} {p : Int} (h : pcR σ E p) (hh : 10 ≤ E.2.2.2.2.2) : E.1 p ≠ 1 → 0 ≤ (if E.1 p = 0 then 1 else E.2.1 p) ∧ (if E.1 p = 0 then 1 else E.2.1 p) ≤ E.2.2.2.2.2 := fun h1 => by
  obtain ⟨-, h2, h3, h4, -, h5, -⟩ := h
  split
  · omega
  · have := h5 (by omega); omega
theorem rInv_step {σ σ' σ2 : Mm} {e p : Int} {E : En} {R l1 l2 : List Int} (hR : R = l1 ++ p :: l2) (hnd : R.Nodup) (hlen : R.length ≤ 60) (he : 0 ≤ e ∧ e < 2) (hr : ∀ x ∈ R, 0 ≤ x ∧ x < 60) (hh : 10 ≤ E.2.2.2.2.2) (hn : 0 ≤ E.2.2.1 p ∧ E.2.2.1 p ≤ 3) (hl : E.1 p ≠ 1 → 0 ≤ (if E.1 p = 0 then 1 else E.2.1 p) ∧ (if E.1 p = 0 then 1 else E.2.1 p) ≤ E.2.2.2.2.2) (h9 : E.1 p = 1 → lnK (eL E p)) (h : rInv σ σ' e E R l1) (hs : sntM σ' σ2 e p E) : rInv σ σ2 e E R (l1 ++ [p]) := by
  obtain ⟨g1, g2, g3, g4, g5, g6, g7, g8, g9, g10, g11⟩ := h
  obtain ⟨s1, s2, s3, s4, s5, s6', s7, s8, s9⟩ := hs
  have hpr := hr p (by rw [hR]; simp)
  have hp1 : p ∉ l1 := by rw [hR, List.nodup_append] at hnd; exact fun hx => hnd.2.2 p hx p (by simp) rfl
  have hb : bfE E R p = rnE E l1 := by rw [hR]; exact bfE_at hp1
  have hll : l1.length ≤ 59 := by rw [hR] at hlen; simp at hlen; omega
  have r1 := stE_rng hh hn g5 hl (fun q => (h9 q).1)
  have r2 := pgE_rng hh hn g5 hl
  rw [g3] at s3 s5 s6' s9
  refine ⟨g1.trans' s1, out6_trans g2 s2, by rw [rnE_s]; exact s3, by rw [rnE_s, List.length_append, List.length_singleton]; omega, by rw [rnE_s]; exact r1.2, fun q hq => ?_, fun x hx => ?_, fun x hx => ?_, fun x hx => ?_, fun x hx => ?_, fun x hx => ?_⟩
  · rcases List.mem_append.mp hq with hq | hq
    · have hqp : q ≠ p := fun z => hp1 (z ▸ hq)
      have hqr := hr q (by rw [hR]; exact List.mem_append_left _ hq)
      obtain ⟨a1, a2, a3, a4, a5⟩ := g6 q hq
      rw [s4, s5, s6', upd1_n (by omega), upd1_n (by omega), upd1_n (by omega)]
      refine ⟨a1, a2, a3, fun h1 => ?_, a5⟩
      obtain ⟨b0, b1, b2⟩ := a4 h1
      have b09 := b0.1
      refine ⟨b0, fun i x hx => ?_, fun i hi => ?_⟩
      · have hi := (List.getElem?_eq_some_iff.mp hx).1
        show Mi σ2 _ 0 _ = x
        rw [s7 _ (by omega)]
        exact b1 i x hx
      · rw [s8 _ (by omega)]; exact b2 i hi
    · have hq : q = p := by simpa using hq
      subst hq
      rw [hb, s4, s5, s6', upd1_s, upd1_s, upd1_s]
      exact ⟨rfl, rfl, rfl, fun h1 => ⟨h9 h1, (s9 h1).1, (s9 h1).2⟩, by omega, by omega⟩
  · rw [s4, upd1_n (by omega)]; exact g7 x hx
  · rw [s5, upd1_n (by omega)]; exact g8 x hx
  · rw [s6', upd1_n (by omega)]; exact g9 x hx
  · rw [s7 x (by omega)]; exact g10 x hx
  · rw [s8 x (by omega)]; exact g11 x hx
theorem sntR_fr {σ σ' : Mm} {e p : Int} {B : Bk} {E : En} (hF : Fr scrS σ σ') (ho : out6 σ σ') (h : sntR σ e p B E) : sntR σ' e p B E := by
  unfold sntR at h ⊢
  rw [hF.i 1392640481 rfl, hF.i 1073873377 rfl, hF.i 1963065825 rfl, hF.i 1828848577 rfl, hF.i 1845632513 rfl, ho 71 (by decide) (by decide) (by decide) (by decide) (by decide) (by decide) (by decide)]
  exact h
theorem sntM_tk {σ' σ2 : Mm} {e p v : Int} {E : En} (h1 : E.1 p ≠ 1) (hv : v = lmE E p) (g1 : Fr [184680536] (sI σ' 1895957441 0 (60 * e + p) v) σ2) (g2 : out6 (sI σ' 1895957441 0 (60 * e + p) v) σ2) (g3 : s6 σ2 = tk E.2.2.2.2.2 v (s6 (sI σ' 1895957441 0 (60 * e + p) v))) : sntM σ' (sI (sI σ2 1862403009 0 (60 * e + p) (s6 σ2).1) 1879180225 0 (60 * e + p) (s6 σ2).1) e p E := by
  have e0 : s6 (sI σ' 1895957441 0 (60 * e + p) v) = s6 σ' := by unfold s6; rw [Mi_n rfl]
  rw [e0] at g3
  have hv2 : v = if E.1 p = 0 then 1 else E.2.1 p := by rw [hv, lmE, if_neg h1]
  have es : s6 σ2 = stE E (s6 σ') p := by rw [stE, if_neg h1, g3, hv2]
  refine ⟨Fr.sI (by decide) (Fr.sI (by decide) ((Fr.sI (by decide) Fr.rfl').trans' (g1.mono (by decide)))), fun f q1 q2 q3 q4 q5 q6 q7 => ?_, ?_, ?_, ?_, ?_, fun x _ => ?_, fun x _ => ?_, fun q => absurd q h1⟩
  · rw [Mi_n rfl, Mi_n rfl, g2 f q1 q2 q3 q4 q5 q6 q7, Mi_n rfl]
  · have : s6 (sI (sI σ2 1862403009 0 (60 * e + p) (s6 σ2).1) 1879180225 0 (60 * e + p) (s6 σ2).1) = s6 σ2 := by unfold s6; rw [Mi_n rfl, Mi_n rfl]
    rw [this, es]
  · rw [Mi_n rfl, Mi_n rfl, g1.i _ rfl, Mi_s, hv]
  · rw [Mi_n rfl, Mi_s, g1.i _ rfl, Mi_n rfl, es, pgE, if_neg h1]
  · rw [Mi_s, Mi_n rfl, g1.i _ rfl, Mi_n rfl, es, laE, if_neg (fun q => h1 q.1)]
  · rw [Mi_n rfl, Mi_n rfl, g1.i _ rfl, Mi_n rfl]
  · rw [Mi_n rfl, Mi_n rfl, g1.i _ rfl, Mi_n rfl]
theorem m_setRound {e : Int} {B : Bk} {E : En} {R : List Int} {σ : Mm} {k : Mm → Prop} (he : 0 ≤ e ∧ e < 2) (hR : rdy σ e B E R) (hk : ∀ σ', rInv σ σ' e E R R → k σ') : OkV 195 [vR 184680536 0, vI e, vI E.2.2.2.2.1, vI E.2.2.2.2.2] σ k := by
  obtain ⟨hM, ok, hrm, hra, hnd, hlen, hw, hh, hrd, hpc⟩ := hR
  have hrr : ∀ x ∈ R, 0 ≤ x ∧ x < 60 := fun x hx => (hpc x hx).1.1
  refine okV_loop mkX11_setRound (fun b n ls σ' => b = 1001 ∧ ∃ (l1 l2 : List Int) (o1 o2 : Option Vv), R = l1 ++ l2 ∧ n = l2.length ∧ ls = [some (vR 184680536 0), some (vI e), some (vI E.2.2.2.2.1), some (vI E.2.2.2.2.2), some (vI l1.length), o1, o2] ∧ rInv σ σ' e E R l1) (Nat.le_of_ble_eq_true rfl) (fun K hK => ?_) (fun b n ls σ' hI K hK => ?_)
  · simp only [↓kI_e, ↓kL_e, ↓kR_e, ↓kV_e, ↓x1, ↓x2, ↓x4, ↓x5, ↓x6, ↓x7, ↓x8, ↓x9, ↓x10, ↓x11, ↓x12, ↓x13, ↓x17, ↓x18, ↓x19, ↓x20, ↓x21, ↓x22, ↓x14, ↓x15, ↓x23, ↓x24, ↓x25, ↓x26, ↓x27, ↓x28, ↓x29, ↓x30, ↓x31, ↓x32, ↓x33, ↓x34, ↓x35i, ↓x35r, ↓x36, ↓x37, ↓x38, ↓x39, ↓x40, ↓x41, ↓x72, ↓x42, ↓x43, ↓x44, ↓x45, ↓x46, ↓x47, ↓x48, ↓x50, ↓x51, ↓x52, ↓x53, ↓x54, ↓x55_0, ↓x56_0, ↓x55_1, ↓x56_1, ↓x55_2, ↓x56_2, ↓x55_3, ↓x56_3, ↓x55_4, ↓x56_4, ↓x55_5, ↓x56_5, ↓x57, ↓x58, ↓x59, ↓x60, ↓x61, ↓x62, ↓x63, ↓x64, ↓x65, ↓x75, ↓x67, ↓x77, ↓x68, ↓x78, ↓x69, ↓x79, ↓x70, ↓x73, ↓x74, ↓ldI_0, ↓ldG_0, ↓ldR_0, ↓stK_0, ↓stK2_0, ↓ldI_1, ↓ldG_1, ↓ldR_1, ↓stK_1I, ↓stK_1R, ↓stK_1N, ↓stK_1G, ↓stK2_1I, ↓stK2_1R, ↓stK2_1N, ↓stK2_1G, ↓ldI_2, ↓ldG_2, ↓ldR_2, ↓stK_2I, ↓stK_2R, ↓stK_2N, ↓stK_2G, ↓stK2_2I, ↓stK2_2R, ↓stK2_2N, ↓stK2_2G, ↓ldI_3, ↓ldG_3, ↓ldR_3, ↓stK_3I, ↓stK_3R, ↓stK_3N, ↓stK_3G, ↓stK2_3I, ↓stK2_3R, ↓stK2_3N, ↓stK2_3G, ↓ldI_4, ↓ldG_4, ↓ldR_4, ↓stK_4I, ↓stK_4R, ↓stK_4N, ↓stK_4G, ↓stK2_4I, ↓stK2_4R, ↓stK2_4N, ↓stK2_4G, ↓ldI_5, ↓ldG_5, ↓ldR_5, ↓stK_5I, ↓stK_5R, ↓stK_5N, ↓stK_5G, ↓stK2_5I, ↓stK2_5R, ↓stK2_5N, ↓stK2_5G, ↓ldI_6, ↓ldG_6, ↓ldR_6, ↓stK_6I, ↓stK_6R, ↓stK_6N, ↓stK_6G, ↓stK2_6I, ↓stK2_6R, ↓stK2_6N, ↓stK2_6G, ↓ldI_7, ↓ldG_7, ↓ldR_7, ↓stK_7I, ↓stK_7R, ↓stK_7N, ↓stK_7G, ↓stK2_7I, ↓stK2_7R, ↓stK2_7N, ↓stK2_7G, ↓ldI_8, ↓ldG_8, ↓ldR_8, ↓stK_8I, ↓stK_8R, ↓stK_8N, ↓stK_8G, ↓stK2_8I, ↓stK2_8R, ↓stK2_8N, ↓stK2_8G, ↓ldI_9, ↓ldG_9, ↓ldR_9, ↓stK_9I, ↓stK_9R, ↓stK_9N, ↓stK_9G, ↓stK2_9I, ↓stK2_9R, ↓stK2_9N, ↓stK2_9G, ↓ldI_10, ↓ldG_10, ↓ldR_10, ↓stK_10I, ↓stK_10R, ↓stK_10N, ↓stK_10G, ↓stK2_10I, ↓stK2_10R, ↓stK2_10N, ↓stK2_10G, ↓ldI_11, ↓ldG_11, ↓ldR_11, ↓stK_11I, ↓stK_11R, ↓stK_11N, ↓stK_11G, ↓stK2_11I, ↓stK2_11R, ↓stK2_11N, ↓stK2_11G, ↓ldI_12, ↓ldG_12, ↓ldR_12, ↓stK_12I, ↓stK_12R, ↓stK_12N, ↓stK_12G, ↓stK2_12I, ↓stK2_12R, ↓stK2_12N, ↓stK2_12G, ↓pN_0, ↓pN_1, ↓pN_2, ↓pN_3, ↓pN_4, ↓pN_5, ↓pN_6, ↓pN_7, ↓ctI_e, ↓ctL_e, ↓ctR_e, ↓ctV_e, ↓tsK_n, ↓tsK_c, ↓go_K, ↓go_X, csum_n, csum_I, csum_R, csum_G, hdCls_r, isCls, elemR, rg_x_pads, rg_log_words, rg_row_pads, rg_row_words, rg_row_led, alen, IR, Nat.reduceMod, Nat.reduceDiv, Nat.reduceSub, Nat.reduceAdd, Nat.reduceLeDiff, Nat.reduceEqDiff, Nat.reduceLT, Int.reduceLE, Int.reduceLT, Int.reduceEq, Int.reduceNe, Int.reduceAdd, Int.reduceSub, Int.reduceNeg, Int.reduceMul, ne_eq, not_true_eq_false, not_false_eq_true, true_and, and_true, false_and, and_false, true_or, or_true, false_or, or_false, and_self, or_self, true_implies, forall_const, false_implies, implies_true, reduceIte, reduceCtorEq, eq_self, Int.le_refl, Nat.le_refl, Int.reduceNatCast, Int.cast_ofNat_Int, ↓eX11_setRound_0, ↓eX11_setRound_1, ↓eX11_setRound_2, ↓eX11_setRound_3, ↓eX11_setRound_4, ↓eX11_setRound_5, ↓eX11_setRound_6, lX11_setRound, ent0, entI, entR, entG, ent_n, List.length_cons, List.length_nil, List.replicate, List.cons_append, List.nil_append, Nat.reduceSub, Nat.reduceAdd]
    refine hK _ _ _ _ (by decide) ⟨rfl, [], R, none, none, rfl, rfl, rfl, Fr.sI (by decide) (Fr.sI (by decide) (Fr.sI (by decide) (Fr.sI (by decide) (Fr.sI (by decide) (Fr.sI (by decide) Fr.rfl'))))), fun f q1 q2 q3 q4 q5 q6 q7 => ?_, ?_, by simp [rnE, s60], by simp [rnE, s60]; omega, fun p hp => by simp at hp, fun x _ => ?_, fun x _ => ?_, fun x _ => ?_, fun x _ => ?_, fun x _ => ?_⟩
    · simp only [Mi_s, upd1_e, if_neg q1, if_neg q2, if_neg q3, if_neg q4, if_neg q5, if_neg q6]
    · unfold s6; simp only [Mi_s]; simp [upd1, rnE, s60]
    all_goals rw [Mi_n rfl, Mi_n rfl, Mi_n rfl, Mi_n rfl, Mi_n rfl, Mi_n rfl]
  · obtain ⟨rfl, l1, l2, o1, o2, rfl, rfl, rfl, hI⟩ := hI
    have hI0 := hI
    obtain ⟨hF, ho, hs, g4, g5, -⟩ := hI
    have erm : (Mi σ' 184680536 0 33) = l1.length + l2.length := by rw [ho 33 (by decide) (by decide) (by decide) (by decide) (by decide) (by decide) (by decide), hrm, List.length_append]; omega
    have erd : Mi σ' 1459749345 = Mi σ 1459749345 := hF.i _ rfl
    have eso : Mi σ' 1073873377 = Mi σ 1073873377 := hF.i _ rfl
    have ehi : Mi σ' 1090650593 = Mi σ 1090650593 := hF.i _ rfl
    rw [List.length_append] at hlen
    cases l2 with
    | nil =>
      simp only [↓kI_e, ↓kL_e, ↓kR_e, ↓kV_e, ↓x1, ↓x2, ↓x4, ↓x5, ↓x6, ↓x7, ↓x8, ↓x9, ↓x10, ↓x11, ↓x12, ↓x13, ↓x17, ↓x18, ↓x19, ↓x20, ↓x21, ↓x22, ↓x14, ↓x15, ↓x23, ↓x24, ↓x25, ↓x26, ↓x27, ↓x28, ↓x29, ↓x30, ↓x31, ↓x32, ↓x33, ↓x34, ↓x35i, ↓x35r, ↓x36, ↓x37, ↓x38, ↓x39, ↓x40, ↓x41, ↓x72, ↓x42, ↓x43, ↓x44, ↓x45, ↓x46, ↓x47, ↓x48, ↓x50, ↓x51, ↓x52, ↓x53, ↓x54, ↓x55_0, ↓x56_0, ↓x55_1, ↓x56_1, ↓x55_2, ↓x56_2, ↓x55_3, ↓x56_3, ↓x55_4, ↓x56_4, ↓x55_5, ↓x56_5, ↓x57, ↓x58, ↓x59, ↓x60, ↓x61, ↓x62, ↓x63, ↓x64, ↓x65, ↓x75, ↓x67, ↓x77, ↓x68, ↓x78, ↓x69, ↓x79, ↓x70, ↓x73, ↓x74, ↓ldI_0, ↓ldG_0, ↓ldR_0, ↓stK_0, ↓stK2_0, ↓ldI_1, ↓ldG_1, ↓ldR_1, ↓stK_1I, ↓stK_1R, ↓stK_1N, ↓stK_1G, ↓stK2_1I, ↓stK2_1R, ↓stK2_1N, ↓stK2_1G, ↓ldI_2, ↓ldG_2, ↓ldR_2, ↓stK_2I, ↓stK_2R, ↓stK_2N, ↓stK_2G, ↓stK2_2I, ↓stK2_2R, ↓stK2_2N, ↓stK2_2G, ↓ldI_3, ↓ldG_3, ↓ldR_3, ↓stK_3I, ↓stK_3R, ↓stK_3N, ↓stK_3G, ↓stK2_3I, ↓stK2_3R, ↓stK2_3N, ↓stK2_3G, ↓ldI_4, ↓ldG_4, ↓ldR_4, ↓stK_4I, ↓stK_4R, ↓stK_4N, ↓stK_4G, ↓stK2_4I, ↓stK2_4R, ↓stK2_4N, ↓stK2_4G, ↓ldI_5, ↓ldG_5, ↓ldR_5, ↓stK_5I, ↓stK_5R, ↓stK_5N, ↓stK_5G, ↓stK2_5I, ↓stK2_5R, ↓stK2_5N, ↓stK2_5G, ↓ldI_6, ↓ldG_6, ↓ldR_6, ↓stK_6I, ↓stK_6R, ↓stK_6N, ↓stK_6G, ↓stK2_6I, ↓stK2_6R, ↓stK2_6N, ↓stK2_6G, ↓ldI_7, ↓ldG_7, ↓ldR_7, ↓stK_7I, ↓stK_7R, ↓stK_7N, ↓stK_7G, ↓stK2_7I, ↓stK2_7R, ↓stK2_7N, ↓stK2_7G, ↓ldI_8, ↓ldG_8, ↓ldR_8, ↓stK_8I, ↓stK_8R, ↓stK_8N, ↓stK_8G, ↓stK2_8I, ↓stK2_8R, ↓stK2_8N, ↓stK2_8G, ↓ldI_9, ↓ldG_9, ↓ldR_9, ↓stK_9I, ↓stK_9R, ↓stK_9N, ↓stK_9G, ↓stK2_9I, ↓stK2_9R, ↓stK2_9N, ↓stK2_9G, ↓ldI_10, ↓ldG_10, ↓ldR_10, ↓stK_10I, ↓stK_10R, ↓stK_10N, ↓stK_10G, ↓stK2_10I, ↓stK2_10R, ↓stK2_10N, ↓stK2_10G, ↓ldI_11, ↓ldG_11, ↓ldR_11, ↓stK_11I, ↓stK_11R, ↓stK_11N, ↓stK_11G, ↓stK2_11I, ↓stK2_11R, ↓stK2_11N, ↓stK2_11G, ↓ldI_12, ↓ldG_12, ↓ldR_12, ↓stK_12I, ↓stK_12R, ↓stK_12N, ↓stK_12G, ↓stK2_12I, ↓stK2_12R, ↓stK2_12N, ↓stK2_12G, ↓pN_0, ↓pN_1, ↓pN_2, ↓pN_3, ↓pN_4, ↓pN_5, ↓pN_6, ↓pN_7, ↓ctI_e, ↓ctL_e, ↓ctR_e, ↓ctV_e, ↓tsK_n, ↓tsK_c, ↓go_K, ↓go_X, csum_n, csum_I, csum_R, csum_G, hdCls_r, isCls, elemR, rg_x_pads, rg_log_words, rg_row_pads, rg_row_words, rg_row_led, alen, IR, Nat.reduceMod, Nat.reduceDiv, Nat.reduceSub, Nat.reduceAdd, Nat.reduceLeDiff, Nat.reduceEqDiff, Nat.reduceLT, Int.reduceLE, Int.reduceLT, Int.reduceEq, Int.reduceNe, Int.reduceAdd, Int.reduceSub, Int.reduceNeg, Int.reduceMul, ne_eq, not_true_eq_false, not_false_eq_true, true_and, and_true, false_and, and_false, true_or, or_true, false_or, or_false, and_self, or_self, true_implies, forall_const, false_implies, implies_true, reduceIte, reduceCtorEq, eq_self, Int.le_refl, Nat.le_refl, Int.reduceNatCast, Int.cast_ofNat_Int, ↓eX11_setRound_0, ↓eX11_setRound_1, ↓eX11_setRound_2, ↓eX11_setRound_3, ↓eX11_setRound_4, ↓eX11_setRound_5, ↓eX11_setRound_6, lX11_setRound, ent0, entI, entR, entG, ent_n, List.length_cons, List.length_nil, List.replicate, List.cons_append, List.nil_append, Nat.reduceSub, Nat.reduceAdd]
      rw [erm]
      refine ⟨⟨(by first | omega | (unfold IR; omega)), (by first | omega | (unfold IR; omega))⟩, fun _ => ?_, fun c => by simp at c⟩
      rw [List.append_nil] at hk
      exact hk _ (by rw [List.append_nil] at hI0; exact hI0)
    | cons p l2 =>
      rw [List.length_cons] at hlen
      have hpr : (Mi σ' 1459749345 0) l1.length = p := by rw [erd]; exact hra l1.length p (by simp)
      have hpp := hpc p (by simp)
      have hl := pcR_l hpp.1 hh.1
      have hp60 := hpp.1.1
      have hnt : 0 ≤ E.2.2.1 p ∧ E.2.2.1 p ≤ 3 := by have := hpp.1; unfold pcR at this; omega
      have nx : ∀ σ2 o1 o2, (E.1 p = 1 → lnK (eL E p)) → sntM σ' σ2 e p E → K 1001 [some (vR 184680536 0), some (vI e), some (vI E.2.2.2.2.1), some (vI E.2.2.2.2.2), some (vI ((l1.length : Int) + 1)), o1, o2] [] σ2 := fun σ2 o1 o2 h9 hs2 =>
        hK _ _ _ _ (by decide) (by simp) ⟨rfl, l1 ++ [p], l2, o1, o2, by simp, rfl, by simp, rInv_step rfl hnd (by simp; omega) he hrr hh.1 hnt hl h9 hI0 hs2⟩
      simp only [↓kI_e, ↓kL_e, ↓kR_e, ↓kV_e, ↓x1, ↓x2, ↓x4, ↓x5, ↓x6, ↓x7, ↓x8, ↓x9, ↓x10, ↓x11, ↓x12, ↓x13, ↓x17, ↓x18, ↓x19, ↓x20, ↓x21, ↓x22, ↓x14, ↓x15, ↓x23, ↓x24, ↓x25, ↓x26, ↓x27, ↓x28, ↓x29, ↓x30, ↓x31, ↓x32, ↓x33, ↓x34, ↓x35i, ↓x35r, ↓x36, ↓x37, ↓x38, ↓x39, ↓x40, ↓x41, ↓x72, ↓x42, ↓x43, ↓x44, ↓x45, ↓x46, ↓x47, ↓x48, ↓x50, ↓x51, ↓x52, ↓x53, ↓x54, ↓x55_0, ↓x56_0, ↓x55_1, ↓x56_1, ↓x55_2, ↓x56_2, ↓x55_3, ↓x56_3, ↓x55_4, ↓x56_4, ↓x55_5, ↓x56_5, ↓x57, ↓x58, ↓x59, ↓x60, ↓x61, ↓x62, ↓x63, ↓x64, ↓x65, ↓x75, ↓x67, ↓x77, ↓x68, ↓x78, ↓x69, ↓x79, ↓x70, ↓x73, ↓x74, ↓ldI_0, ↓ldG_0, ↓ldR_0, ↓stK_0, ↓stK2_0, ↓ldI_1, ↓ldG_1, ↓ldR_1, ↓stK_1I, ↓stK_1R, ↓stK_1N, ↓stK_1G, ↓stK2_1I, ↓stK2_1R, ↓stK2_1N, ↓stK2_1G, ↓ldI_2, ↓ldG_2, ↓ldR_2, ↓stK_2I, ↓stK_2R, ↓stK_2N, ↓stK_2G, ↓stK2_2I, ↓stK2_2R, ↓stK2_2N, ↓stK2_2G, ↓ldI_3, ↓ldG_3, ↓ldR_3, ↓stK_3I, ↓stK_3R, ↓stK_3N, ↓stK_3G, ↓stK2_3I, ↓stK2_3R, ↓stK2_3N, ↓stK2_3G, ↓ldI_4, ↓ldG_4, ↓ldR_4, ↓stK_4I, ↓stK_4R, ↓stK_4N, ↓stK_4G, ↓stK2_4I, ↓stK2_4R, ↓stK2_4N, ↓stK2_4G, ↓ldI_5, ↓ldG_5, ↓ldR_5, ↓stK_5I, ↓stK_5R, ↓stK_5N, ↓stK_5G, ↓stK2_5I, ↓stK2_5R, ↓stK2_5N, ↓stK2_5G, ↓ldI_6, ↓ldG_6, ↓ldR_6, ↓stK_6I, ↓stK_6R, ↓stK_6N, ↓stK_6G, ↓stK2_6I, ↓stK2_6R, ↓stK2_6N, ↓stK2_6G, ↓ldI_7, ↓ldG_7, ↓ldR_7, ↓stK_7I, ↓stK_7R, ↓stK_7N, ↓stK_7G, ↓stK2_7I, ↓stK2_7R, ↓stK2_7N, ↓stK2_7G, ↓ldI_8, ↓ldG_8, ↓ldR_8, ↓stK_8I, ↓stK_8R, ↓stK_8N, ↓stK_8G, ↓stK2_8I, ↓stK2_8R, ↓stK2_8N, ↓stK2_8G, ↓ldI_9, ↓ldG_9, ↓ldR_9, ↓stK_9I, ↓stK_9R, ↓stK_9N, ↓stK_9G, ↓stK2_9I, ↓stK2_9R, ↓stK2_9N, ↓stK2_9G, ↓ldI_10, ↓ldG_10, ↓ldR_10, ↓stK_10I, ↓stK_10R, ↓stK_10N, ↓stK_10G, ↓stK2_10I, ↓stK2_10R, ↓stK2_10N, ↓stK2_10G, ↓ldI_11, ↓ldG_11, ↓ldR_11, ↓stK_11I, ↓stK_11R, ↓stK_11N, ↓stK_11G, ↓stK2_11I, ↓stK2_11R, ↓stK2_11N, ↓stK2_11G, ↓ldI_12, ↓ldG_12, ↓ldR_12, ↓stK_12I, ↓stK_12R, ↓stK_12N, ↓stK_12G, ↓stK2_12I, ↓stK2_12R, ↓stK2_12N, ↓stK2_12G, ↓pN_0, ↓pN_1, ↓pN_2, ↓pN_3, ↓pN_4, ↓pN_5, ↓pN_6, ↓pN_7, ↓ctI_e, ↓ctL_e, ↓ctR_e, ↓ctV_e, ↓tsK_n, ↓tsK_c, ↓go_K, ↓go_X, csum_n, csum_I, csum_R, csum_G, hdCls_r, isCls, elemR, rg_x_pads, rg_log_words, rg_row_pads, rg_row_words, rg_row_led, alen, IR, Nat.reduceMod, Nat.reduceDiv, Nat.reduceSub, Nat.reduceAdd, Nat.reduceLeDiff, Nat.reduceEqDiff, Nat.reduceLT, Int.reduceLE, Int.reduceLT, Int.reduceEq, Int.reduceNe, Int.reduceAdd, Int.reduceSub, Int.reduceNeg, Int.reduceMul, ne_eq, not_true_eq_false, not_false_eq_true, true_and, and_true, false_and, and_false, true_or, or_true, false_or, or_false, and_self, or_self, true_implies, forall_const, false_implies, implies_true, reduceIte, reduceCtorEq, eq_self, Int.le_refl, Nat.le_refl, Int.reduceNatCast, Int.cast_ofNat_Int, ↓eX11_setRound_0, ↓eX11_setRound_1, ↓eX11_setRound_2, ↓eX11_setRound_3, ↓eX11_setRound_4, ↓eX11_setRound_5, ↓eX11_setRound_6, lX11_setRound, ent0, entI, entR, entG, ent_n, List.length_cons, List.length_nil, List.replicate, List.cons_append, List.nil_append, Nat.reduceSub, Nat.reduceAdd]
      rw [erm, hpr, eso, ehi]
      have hso := hpp.1.2.1
      refine ⟨⟨(by first | omega | (unfold IR; omega)), by simp; omega, by simp; omega⟩, fun c => by simp at c; omega, fun _ => ⟨by omega, hp60, (by first | omega | (unfold IR; omega)), fun c => ?_, fun c => ?_⟩⟩
      · have h1 : E.1 p ≠ 1 := by rw [hpp.1.2.2.1]; exact c
        have q0 : ∀ v, Mi (sI σ' 1895957441 0 (60 * e + p) v) 1895957441 0 (60 * e + p) = v := fun v => by rw [Mi_s, upd1_s]
        have qu : ∀ v, Mi (sI σ' 1895957441 0 (60 * e + p) v) 184680536 = Mi σ' 184680536 := fun v => Mi_n rfl
        have hu : (Mi σ' 184680536 0 81) = (rnE E l1).2.1 := by rw [← hs]; rfl
        have hu1 : ∀ v, 0 ≤ (Mi (sI σ' 1895957441 0 (60 * e + p) v) 184680536 0 81) ∧ (Mi (sI σ' 1895957441 0 (60 * e + p) v) 184680536 0 81) ≤ 1000 := fun v => by rw [qu, hu]; omega
        have q4 : ∀ (σ2 : Mm) v, Mi (sI σ2 1862403009 0 (60 * e + p) v) 1862403009 0 (60 * e + p) = v := fun σ2 v => by rw [Mi_s, upd1_s]
        have l1' := hl h1
        have sh := hpp.1.2.2.2.1
        have so1 := hpp.1.2.2.1
        have sh9 := hpp.1.2.2.2.2.2.1
        rw [q0, q0]
        refine ⟨hp60, (by first | omega | (unfold IR; omega)), fun d => ⟨hp60, by omega, by omega, m_setLines (hu1 _) (by have := sh9 (by omega); omega) (by first | omega | (unfold IR; omega)) (fun σ2 g1 g2 g3 => ?_)⟩, fun d => ⟨by omega, by omega, m_setLines (hu1 _) (by omega) (by first | omega | (unfold IR; omega)) (fun σ2 g1 g2 g3 => ?_)⟩⟩ <;> simp only [↓kI_e, ↓kL_e, ↓kR_e, ↓kV_e, ↓x1, ↓x2, ↓x4, ↓x5, ↓x6, ↓x7, ↓x8, ↓x9, ↓x10, ↓x11, ↓x12, ↓x13, ↓x17, ↓x18, ↓x19, ↓x20, ↓x21, ↓x22, ↓x14, ↓x15, ↓x23, ↓x24, ↓x25, ↓x26, ↓x27, ↓x28, ↓x29, ↓x30, ↓x31, ↓x32, ↓x33, ↓x34, ↓x35i, ↓x35r, ↓x36, ↓x37, ↓x38, ↓x39, ↓x40, ↓x41, ↓x72, ↓x42, ↓x43, ↓x44, ↓x45, ↓x46, ↓x47, ↓x48, ↓x50, ↓x51, ↓x52, ↓x53, ↓x54, ↓x55_0, ↓x56_0, ↓x55_1, ↓x56_1, ↓x55_2, ↓x56_2, ↓x55_3, ↓x56_3, ↓x55_4, ↓x56_4, ↓x55_5, ↓x56_5, ↓x57, ↓x58, ↓x59, ↓x60, ↓x61, ↓x62, ↓x63, ↓x64, ↓x65, ↓x75, ↓x67, ↓x77, ↓x68, ↓x78, ↓x69, ↓x79, ↓x70, ↓x73, ↓x74, ↓ldI_0, ↓ldG_0, ↓ldR_0, ↓stK_0, ↓stK2_0, ↓ldI_1, ↓ldG_1, ↓ldR_1, ↓stK_1I, ↓stK_1R, ↓stK_1N, ↓stK_1G, ↓stK2_1I, ↓stK2_1R, ↓stK2_1N, ↓stK2_1G, ↓ldI_2, ↓ldG_2, ↓ldR_2, ↓stK_2I, ↓stK_2R, ↓stK_2N, ↓stK_2G, ↓stK2_2I, ↓stK2_2R, ↓stK2_2N, ↓stK2_2G, ↓ldI_3, ↓ldG_3, ↓ldR_3, ↓stK_3I, ↓stK_3R, ↓stK_3N, ↓stK_3G, ↓stK2_3I, ↓stK2_3R, ↓stK2_3N, ↓stK2_3G, ↓ldI_4, ↓ldG_4, ↓ldR_4, ↓stK_4I, ↓stK_4R, ↓stK_4N, ↓stK_4G, ↓stK2_4I, ↓stK2_4R, ↓stK2_4N, ↓stK2_4G, ↓ldI_5, ↓ldG_5, ↓ldR_5, ↓stK_5I, ↓stK_5R, ↓stK_5N, ↓stK_5G, ↓stK2_5I, ↓stK2_5R, ↓stK2_5N, ↓stK2_5G, ↓ldI_6, ↓ldG_6, ↓ldR_6, ↓stK_6I, ↓stK_6R, ↓stK_6N, ↓stK_6G, ↓stK2_6I, ↓stK2_6R, ↓stK2_6N, ↓stK2_6G, ↓ldI_7, ↓ldG_7, ↓ldR_7, ↓stK_7I, ↓stK_7R, ↓stK_7N, ↓stK_7G, ↓stK2_7I, ↓stK2_7R, ↓stK2_7N, ↓stK2_7G, ↓ldI_8, ↓ldG_8, ↓ldR_8, ↓stK_8I, ↓stK_8R, ↓stK_8N, ↓stK_8G, ↓stK2_8I, ↓stK2_8R, ↓stK2_8N, ↓stK2_8G, ↓ldI_9, ↓ldG_9, ↓ldR_9, ↓stK_9I, ↓stK_9R, ↓stK_9N, ↓stK_9G, ↓stK2_9I, ↓stK2_9R, ↓stK2_9N, ↓stK2_9G, ↓ldI_10, ↓ldG_10, ↓ldR_10, ↓stK_10I, ↓stK_10R, ↓stK_10N, ↓stK_10G, ↓stK2_10I, ↓stK2_10R, ↓stK2_10N, ↓stK2_10G, ↓ldI_11, ↓ldG_11, ↓ldR_11, ↓stK_11I, ↓stK_11R, ↓stK_11N, ↓stK_11G, ↓stK2_11I, ↓stK2_11R, ↓stK2_11N, ↓stK2_11G, ↓ldI_12, ↓ldG_12, ↓ldR_12, ↓stK_12I, ↓stK_12R, ↓stK_12N, ↓stK_12G, ↓stK2_12I, ↓stK2_12R, ↓stK2_12N, ↓stK2_12G, ↓pN_0, ↓pN_1, ↓pN_2, ↓pN_3, ↓pN_4, ↓pN_5, ↓pN_6, ↓pN_7, ↓ctI_e, ↓ctL_e, ↓ctR_e, ↓ctV_e, ↓tsK_n, ↓tsK_c, ↓go_K, ↓go_X, csum_n, csum_I, csum_R, csum_G, hdCls_r, isCls, elemR, rg_x_pads, rg_log_words, rg_row_pads, rg_row_words, rg_row_led, alen, IR, Nat.reduceMod, Nat.reduceDiv, Nat.reduceSub, Nat.reduceAdd, Nat.reduceLeDiff, Nat.reduceEqDiff, Nat.reduceLT, Int.reduceLE, Int.reduceLT, Int.reduceEq, Int.reduceNe, Int.reduceAdd, Int.reduceSub, Int.reduceNeg, Int.reduceMul, ne_eq, not_true_eq_false, not_false_eq_true, true_and, and_true, false_and, and_false, true_or, or_true, false_or, or_false, and_self, or_self, true_implies, forall_const, false_implies, implies_true, reduceIte, reduceCtorEq, eq_self, Int.le_refl, Nat.le_refl, Int.reduceNatCast, Int.cast_ofNat_Int, ↓eX11_setRound_0, ↓eX11_setRound_1, ↓eX11_setRound_2, ↓eX11_setRound_3, ↓eX11_setRound_4, ↓eX11_setRound_5, ↓eX11_setRound_6, lX11_setRound, ent0, entI, entR, entG, ent_n, List.length_cons, List.length_nil, List.replicate, List.cons_append, List.nil_append, Nat.reduceSub, Nat.reduceAdd] <;> rw [q4]
        · exact ⟨by omega, by omega, by omega, nx _ _ _ (fun q => absurd q h1) (sntM_tk h1 (by rw [lmE, if_neg h1, if_neg (by omega), sh]) g1 g2 g3)⟩
        · exact ⟨by omega, by omega, by omega, nx _ _ _ (fun q => absurd q h1) (sntM_tk h1 (by rw [lmE, if_neg h1, if_pos (by omega)]) g1 g2 g3)⟩
      · have hsn := sntR_fr hF ho (hpp.2 c)
        obtain ⟨n1, n2, n3, n4, n5, n6, n7, n8⟩ := hsn
        have hu : (Mi σ' 184680536 0 81) = (rnE E l1).2.1 := by rw [← hs]; rfl
        refine m_setSentence (B := B) he (MB_fr (fun a ha => hF.i a (by revert a ha; decide)) hM) ok hp60 (by rw [eso]; exact c) n1 (by rw [ho 71 (by decide) (by decide) (by decide) (by decide) (by decide) (by decide) (by decide)]; exact hrd) n2 n3 n4 ⟨by rw [hpp.1.2.2.1]; exact c, by rw [hF.i 1375863265 rfl]; exact hpp.1.2.2.2.2.1, rfl⟩ hw hh (by rw [hF.i 1375863265 rfl, ← hpp.1.2.2.2.2.1]; exact hnt) (by rw [hu]; exact g5) n5 n6 n7 n8 (fun σ2 h9 hs2 => ?_)
        simp only [↓kI_e, ↓kL_e, ↓kR_e, ↓kV_e, ↓x1, ↓x2, ↓x4, ↓x5, ↓x6, ↓x7, ↓x8, ↓x9, ↓x10, ↓x11, ↓x12, ↓x13, ↓x17, ↓x18, ↓x19, ↓x20, ↓x21, ↓x22, ↓x14, ↓x15, ↓x23, ↓x24, ↓x25, ↓x26, ↓x27, ↓x28, ↓x29, ↓x30, ↓x31, ↓x32, ↓x33, ↓x34, ↓x35i, ↓x35r, ↓x36, ↓x37, ↓x38, ↓x39, ↓x40, ↓x41, ↓x72, ↓x42, ↓x43, ↓x44, ↓x45, ↓x46, ↓x47, ↓x48, ↓x50, ↓x51, ↓x52, ↓x53, ↓x54, ↓x55_0, ↓x56_0, ↓x55_1, ↓x56_1, ↓x55_2, ↓x56_2, ↓x55_3, ↓x56_3, ↓x55_4, ↓x56_4, ↓x55_5, ↓x56_5, ↓x57, ↓x58, ↓x59, ↓x60, ↓x61, ↓x62, ↓x63, ↓x64, ↓x65, ↓x75, ↓x67, ↓x77, ↓x68, ↓x78, ↓x69, ↓x79, ↓x70, ↓x73, ↓x74, ↓ldI_0, ↓ldG_0, ↓ldR_0, ↓stK_0, ↓stK2_0, ↓ldI_1, ↓ldG_1, ↓ldR_1, ↓stK_1I, ↓stK_1R, ↓stK_1N, ↓stK_1G, ↓stK2_1I, ↓stK2_1R, ↓stK2_1N, ↓stK2_1G, ↓ldI_2, ↓ldG_2, ↓ldR_2, ↓stK_2I, ↓stK_2R, ↓stK_2N, ↓stK_2G, ↓stK2_2I, ↓stK2_2R, ↓stK2_2N, ↓stK2_2G, ↓ldI_3, ↓ldG_3, ↓ldR_3, ↓stK_3I, ↓stK_3R, ↓stK_3N, ↓stK_3G, ↓stK2_3I, ↓stK2_3R, ↓stK2_3N, ↓stK2_3G, ↓ldI_4, ↓ldG_4, ↓ldR_4, ↓stK_4I, ↓stK_4R, ↓stK_4N, ↓stK_4G, ↓stK2_4I, ↓stK2_4R, ↓stK2_4N, ↓stK2_4G, ↓ldI_5, ↓ldG_5, ↓ldR_5, ↓stK_5I, ↓stK_5R, ↓stK_5N, ↓stK_5G, ↓stK2_5I, ↓stK2_5R, ↓stK2_5N, ↓stK2_5G, ↓ldI_6, ↓ldG_6, ↓ldR_6, ↓stK_6I, ↓stK_6R, ↓stK_6N, ↓stK_6G, ↓stK2_6I, ↓stK2_6R, ↓stK2_6N, ↓stK2_6G, ↓ldI_7, ↓ldG_7, ↓ldR_7, ↓stK_7I, ↓stK_7R, ↓stK_7N, ↓stK_7G, ↓stK2_7I, ↓stK2_7R, ↓stK2_7N, ↓stK2_7G, ↓ldI_8, ↓ldG_8, ↓ldR_8, ↓stK_8I, ↓stK_8R, ↓stK_8N, ↓stK_8G, ↓stK2_8I, ↓stK2_8R, ↓stK2_8N, ↓stK2_8G, ↓ldI_9, ↓ldG_9, ↓ldR_9, ↓stK_9I, ↓stK_9R, ↓stK_9N, ↓stK_9G, ↓stK2_9I, ↓stK2_9R, ↓stK2_9N, ↓stK2_9G, ↓ldI_10, ↓ldG_10, ↓ldR_10, ↓stK_10I, ↓stK_10R, ↓stK_10N, ↓stK_10G, ↓stK2_10I, ↓stK2_10R, ↓stK2_10N, ↓stK2_10G, ↓ldI_11, ↓ldG_11, ↓ldR_11, ↓stK_11I, ↓stK_11R, ↓stK_11N, ↓stK_11G, ↓stK2_11I, ↓stK2_11R, ↓stK2_11N, ↓stK2_11G, ↓ldI_12, ↓ldG_12, ↓ldR_12, ↓stK_12I, ↓stK_12R, ↓stK_12N, ↓stK_12G, ↓stK2_12I, ↓stK2_12R, ↓stK2_12N, ↓stK2_12G, ↓pN_0, ↓pN_1, ↓pN_2, ↓pN_3, ↓pN_4, ↓pN_5, ↓pN_6, ↓pN_7, ↓ctI_e, ↓ctL_e, ↓ctR_e, ↓ctV_e, ↓tsK_n, ↓tsK_c, ↓go_K, ↓go_X, csum_n, csum_I, csum_R, csum_G, hdCls_r, isCls, elemR, rg_x_pads, rg_log_words, rg_row_pads, rg_row_words, rg_row_led, alen, IR, Nat.reduceMod, Nat.reduceDiv, Nat.reduceSub, Nat.reduceAdd, Nat.reduceLeDiff, Nat.reduceEqDiff, Nat.reduceLT, Int.reduceLE, Int.reduceLT, Int.reduceEq, Int.reduceNe, Int.reduceAdd, Int.reduceSub, Int.reduceNeg, Int.reduceMul, ne_eq, not_true_eq_false, not_false_eq_true, true_and, and_true, false_and, and_false, true_or, or_true, false_or, or_false, and_self, or_self, true_implies, forall_const, false_implies, implies_true, reduceIte, reduceCtorEq, eq_self, Int.le_refl, Nat.le_refl, Int.reduceNatCast, Int.cast_ofNat_Int, ↓eX11_setRound_0, ↓eX11_setRound_1, ↓eX11_setRound_2, ↓eX11_setRound_3, ↓eX11_setRound_4, ↓eX11_setRound_5, ↓eX11_setRound_6, lX11_setRound, ent0, entI, entR, entG, ent_n, List.length_cons, List.length_nil, List.replicate, List.cons_append, List.nil_append, Nat.reduceSub, Nat.reduceAdd]
        exact nx _ _ _ (fun _ => h9) hs2
