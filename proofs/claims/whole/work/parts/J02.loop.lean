/-! the law: yes; its loop -/
theorem lw_yes {h p : Int} {σ : Mm} (hI : mI σ) (hR : XR σ σ) (hh : IR h) (hp : IR p) (k : Mm → Prop) (hk : ∀ σ2, lwF σ σ2 → mI σ2 → XR σ2 σ2 → k σ2) : OkG (sgD 240) 2 242 [vR 16908368 0, vI h, vI p] σ (kI fun r σ1 => IR r ∧ lwF σ σ1 ∧ OkI 216 [vR 184680536 0, vI h, vI p] σ1 (fun r2 σ2 => r2 = r ∧ k σ2)) :=
  x_yes hR hI hh hp (fun r σ1 hF ho hr => ⟨hr, xFr_lw hF, m_yes (mI_same (xFr_same hF) hI) hh hp (fun r2 σ2 ho2 hF2 hI2 => by
    have hq := xFr_same hF
    have ho3 : oYes σ h p r2 σ2 := by
      revert ho2
      unfold oYes
      rw [hq.f 43 rfl rfl, hq.l 1140981811 rfl rfl, hq.i 1526857889 rfl rfl, hq.i 1543635105 rfl rfl, hq.i 1560412321 rfl rfl, hq.i 1577266177 rfl rfl]
      simp only [sm_all hq, sm_isS hq, sm_isP hq, same_allB hq, same_mSet hq, sm_mbW hq, sm_padL hq, sm_mOrd hq, sm_ahL hq, sm_mBk hq, sm_sayB hq, sm_txB hq, sm_newC hq, sm_same hq, sm_wanted hq]
      exact id
    have g := ho r2 σ2 ho3
    exact ⟨g.1, hk σ2 (lwF_trans (xFr_lw hF) (mFr_lw hF2)) hI2 (XR_fr hF2 (by decide) g.2)⟩)⟩)
theorem gl_t : decode code 1058 = .ok (.invokevirtual 107, 3) := by decide +kernel
theorem gl_s : sigOk (sgD 240) 10 2 ∧ (Jvm.Cond.instanceMethod (sgD 240).1 ∈ tbG ∧ Jvm.Cond.selects (sgD 240).1.cls (sgD 240).1 (sgD 240).1 ∈ tbG) := by
  have h := sg_e (id := 240) (n := 2) (lv := 10) (kd := 1) (by decide +kernel)
  exact ⟨h.1, h.2.2 rfl⟩
theorem gl_w : Jvm.Cond.methodLink "BookHouseLaw" 107 (sgD 240).1 ∈ tbG := tb_at (n := 4074) rfl rfl
theorem gl_q : vwCl[10]? = some (RX10, TX10, 14) ∧ RX10 = (sgD 240).1.cls := ⟨rfl, rfl⟩
section
variable {C : Cx} {p : Program} {e : Env} {s : State} {m : MethodId} {b : Nat} {below : List Frame} {meth : Method} {c : Code} {σ0 : Mm}
theorem lwX_re {ce sl ce' sl' : Nat} (F : lwX C p s m b c ce sl) (h1 : ce' ≤ 600000) (h2 : sl' ≤ 7302249) : lwX C p s m b c ce' sl' := ⟨F.1, F.2.1, F.2.2.1, F.2.2.2.1, ⟨h1, h2⟩, F.2.2.2.2.2⟩
/-- where the loop and the gap lead -/
def lwK (σ : Mm) (i : Int) (q : Nat) (ls : List (Option Vv)) (st : List Vv) (σ2 : Mm) : Prop := (q = 1000 ∧ ls = lwL (i + 6) ∧ st = [] ∧ i + 6 ≤ (Mn σ (-1) : Int) ∧ lwF σ σ2 ∧ mI σ2 ∧ XR σ2 σ2) ∨ (q = 1024 ∧ ls = lwL i ∧ st = [vI (Mi σ 262134 0 (i + 2)), vI (Mi σ 262134 0 (i + 1)), vR 16908368 0] ∧ σ2 = σ ∧ lwI σ i)
theorem lwH_next {σ σ2 : Mm} {i : Int} (hH : lwH σ i) (h6 : i + 6 ≤ (Mn σ (-1) : Int)) (hF : lwF σ σ2) (hI : mI σ2) (hR : XR σ2 σ2) : lwH σ2 (i + 6) := by
  obtain ⟨-, -, hs, h0, h1, h2⟩ := hH
  obtain ⟨f1, f2⟩ := hF
  refine ⟨hI, hR, fun j => by rw [f1]; exact hs j, by omega, by rw [f2]; exact h6, by rw [f2]; exact h2⟩
theorem lw_loop (hr : meth.sig.returnType = ret) (hlocks : meth.locks = false) (hbs : cBa C = s.heap.size) (F : lwX C p s m b c 0 0) : ∀ (n ce sl : Nat) (i : Int) (σ : Mm), ((Mn σ (-1) : Int) - i).toNat = n → 6 * ce + 2 * n ≤ 6 * 600000 → 6 * sl + 242 * n ≤ 6 * 7302249 → lwH σ i → lwJ C p e s m b below meth c σ0 ce sl 18 (lwL i) [] σ := by
  intro n
  induction n using Nat.strongRecOn with
  | _ n ih =>
  intro ce sl i σ hn hce hsl hH
  have F1 : lwX C p s m b c ce sl := lwX_re F (by omega) (by omega)
  have h0 := hH.2.2.2.1
  have hL := hH.2.2.2.2.1
  have next : ∀ (ce' sl' : Nat) (σ2 : Mm), ce' ≤ ce + 2 → sl' ≤ sl + 242 → i + 6 ≤ (Mn σ (-1) : Int) → lwF σ σ2 → mI σ2 → XR σ2 σ2 → lwJ C p e s m b below meth c σ0 ce' sl' 18 (lwL (i + 6)) [] σ2 := fun ce' sl' σ2 h1 h2 h6 hF hI hR => by
    have hm := hF.2
    exact ih (n - 6) (by omega) ce' sl' (i + 6) σ2 (by rw [hm]; omega) (by omega) (by omega) (lwH_next hH h6 hF hI hR)
  refine lw_block (K := lwK σ i) hr hlocks F1 hbs 11 (fun q ls st σ' hq hK => ?_) 0 (lwL i) [] σ (lc_0 (F := 0) hH (fun h σ2 a b c => Or.inl ⟨rfl, rfl, rfl, h, a, b, c⟩) (fun hi => ?_))
  · rcases hK with ⟨rfl, rfl, rfl, h6, hF, hI, hR⟩ | ⟨rfl, rfl, rfl, rfl, hi⟩
    · exact next ce sl σ' (by omega) (by omega) h6 hF hI hR
    · have h6 := hi.2.2.2.2.1
      refine so_callVM F1 (g := sgD 240) (mc := 2) (ms := 242) (pc := 1058) (ix := 107) (n := 2) (ci := 10) (k := fun ls st r σ1 => ∃ x, r = some (vI x) ∧ ls = lwL i ∧ st = [] ∧ IR x ∧ lwF σ' σ1 ∧ OkI 216 [vR 184680536 0, vI (Mi σ' 262134 0 (i + 1)), vI (Mi σ' 262134 0 (i + 2))] σ1 (fun r2 σ2 => r2 = x ∧ (lwF σ' σ2 ∧ mI σ2 ∧ XR σ2 σ2))) gl_s.1 ⟨by show ce + 2 ≤ 600000; omega, by show sl + 242 ≤ 7302249; omega⟩ gl_q.1 gl_q.2 gl_w gl_s.2.1 gl_s.2.2 gl_t (fun ls st r σ1 hk1 => ?_) ?_
      · obtain ⟨x, rfl, rfl, rfl, hx, hF, hok⟩ := hk1
        have F2 : lwX C p s m b c (ce + 2) (sl + 242) := lwX_re F (by omega) (by omega)
        refine lw_block (K := fun q ls st σ2 => q = 1000 ∧ ls = lwL (i + 6) ∧ st = [] ∧ lwF σ' σ2 ∧ mI σ2 ∧ XR σ2 σ2) hr hlocks F2 hbs 11 (fun q ls st σ2 hq hK => ?_) 25 (lwL i) [vI x] σ1 ?_
        · obtain ⟨rfl, rfl, rfl, hF, hI, hR⟩ := hK
          exact next (ce + 2) (sl + 242) σ2 (by omega) (by omega) h6 hF hI hR
        · obtain ⟨e1, e2⟩ := hF
          have hs := hi.2.2.1
          unfold lwL
          simp only [↓kI_e, ↓kL_e, ↓kR_e, ↓kV_e, ↓x1, ↓x2, ↓x4, ↓x5, ↓x6, ↓x7, ↓x8, ↓x9, ↓x10, ↓x11, ↓x12, ↓x13, ↓x17, ↓x18, ↓x19, ↓x20, ↓x21, ↓x22, ↓x14, ↓x15, ↓x23, ↓x24, ↓x25, ↓x26, ↓x27, ↓x28, ↓x29, ↓x30, ↓x31, ↓x32, ↓x33, ↓x34, ↓x35i, ↓x35r, ↓x36, ↓x37, ↓x38, ↓x39, ↓x40, ↓x41, ↓x72, ↓x42, ↓x43, ↓x44, ↓x45, ↓x46, ↓x47, ↓x48, ↓x50, ↓x51, ↓x52, ↓x53, ↓x54, ↓x55_0, ↓x56_0, ↓x55_1, ↓x56_1, ↓x55_2, ↓x56_2, ↓x55_3, ↓x56_3, ↓x55_4, ↓x56_4, ↓x55_5, ↓x56_5, ↓x57, ↓x58, ↓x59, ↓x60, ↓x61, ↓x62, ↓x63, ↓x64, ↓x65, ↓x75, ↓x67, ↓x77, ↓x68, ↓x78, ↓x69, ↓x79, ↓x70, ↓x73, ↓x74, ↓ldI_0, ↓ldG_0, ↓ldR_0, ↓stK_0, ↓stK2_0, ↓ldI_1, ↓ldG_1, ↓ldR_1, ↓stK_1I, ↓stK_1R, ↓stK_1N, ↓stK_1G, ↓stK2_1I, ↓stK2_1R, ↓stK2_1N, ↓stK2_1G, ↓ldI_2, ↓ldG_2, ↓ldR_2, ↓stK_2I, ↓stK_2R, ↓stK_2N, ↓stK_2G, ↓stK2_2I, ↓stK2_2R, ↓stK2_2N, ↓stK2_2G, ↓ldI_3, ↓ldG_3, ↓ldR_3, ↓stK_3I, ↓stK_3R, ↓stK_3N, ↓stK_3G, ↓stK2_3I, ↓stK2_3R, ↓stK2_3N, ↓stK2_3G, ↓ldI_4, ↓ldG_4, ↓ldR_4, ↓stK_4I, ↓stK_4R, ↓stK_4N, ↓stK_4G, ↓stK2_4I, ↓stK2_4R, ↓stK2_4N, ↓stK2_4G, ↓ldI_5, ↓ldG_5, ↓ldR_5, ↓stK_5I, ↓stK_5R, ↓stK_5N, ↓stK_5G, ↓stK2_5I, ↓stK2_5R, ↓stK2_5N, ↓stK2_5G, ↓ldI_6, ↓ldG_6, ↓ldR_6, ↓stK_6I, ↓stK_6R, ↓stK_6N, ↓stK_6G, ↓stK2_6I, ↓stK2_6R, ↓stK2_6N, ↓stK2_6G, ↓ldI_7, ↓ldG_7, ↓ldR_7, ↓stK_7I, ↓stK_7R, ↓stK_7N, ↓stK_7G, ↓stK2_7I, ↓stK2_7R, ↓stK2_7N, ↓stK2_7G, ↓ldI_8, ↓ldG_8, ↓ldR_8, ↓stK_8I, ↓stK_8R, ↓stK_8N, ↓stK_8G, ↓stK2_8I, ↓stK2_8R, ↓stK2_8N, ↓stK2_8G, ↓ldI_9, ↓ldG_9, ↓ldR_9, ↓stK_9I, ↓stK_9R, ↓stK_9N, ↓stK_9G, ↓stK2_9I, ↓stK2_9R, ↓stK2_9N, ↓stK2_9G, ↓ldI_10, ↓ldG_10, ↓ldR_10, ↓stK_10I, ↓stK_10R, ↓stK_10N, ↓stK_10G, ↓stK2_10I, ↓stK2_10R, ↓stK2_10N, ↓stK2_10G, ↓ldI_11, ↓ldG_11, ↓ldR_11, ↓stK_11I, ↓stK_11R, ↓stK_11N, ↓stK_11G, ↓stK2_11I, ↓stK2_11R, ↓stK2_11N, ↓stK2_11G, ↓ldI_12, ↓ldG_12, ↓ldR_12, ↓stK_12I, ↓stK_12R, ↓stK_12N, ↓stK_12G, ↓stK2_12I, ↓stK2_12R, ↓stK2_12N, ↓stK2_12G, ↓pN_0, ↓pN_1, ↓pN_2, ↓pN_3, ↓pN_4, ↓pN_5, ↓pN_6, ↓pN_7, ↓ctI_e, ↓ctL_e, ↓ctR_e, ↓ctV_e, ↓tsK_n, ↓tsK_c, ↓go_K, ↓go_X, csum_n, csum_I, csum_R, csum_G, hdCls_r, isCls, elemR, rg_x_pads, rg_log_words, rg_row_pads, rg_row_words, rg_row_led, alen, IR, Nat.reduceMod, Nat.reduceDiv, Nat.reduceSub, Nat.reduceAdd, Nat.reduceLeDiff, Nat.reduceEqDiff, Nat.reduceLT, Int.reduceLE, Int.reduceLT, Int.reduceEq, Int.reduceNe, Int.reduceAdd, Int.reduceSub, Int.reduceNeg, Int.reduceMul, ne_eq, not_true_eq_false, not_false_eq_true, true_and, and_true, false_and, and_false, true_or, or_true, false_or, or_false, and_self, or_self, true_implies, forall_const, false_implies, implies_true, reduceIte, reduceCtorEq, eq_self, Int.le_refl, Nat.le_refl, Int.reduceNatCast, Int.cast_ofNat_Int, ↓eLaw_25, ↓eLaw_41, ent0, entI, entR, entG, ent_n, List.length_cons, List.length_nil, List.replicate, List.cons_append, List.nil_append, Nat.reduceSub, Nat.reduceAdd]
          trace_state
          sorry
      · show csum [] ≤ 8 ∧ hdCls 10 [vR 16908368 0, vI (Mi σ' 262134 0 (i + 1)), vI (Mi σ' 262134 0 (i + 2))] ∧ OkG (sgD 240) 2 242 [vR 16908368 0, vI (Mi σ' 262134 0 (i + 1)), vI (Mi σ' 262134 0 (i + 2))] σ' _
        refine ⟨(Nat.le_of_ble_eq_true rfl), by rw [hdCls_r]; unfold isCls; decide, ?_⟩
        have hy := lw_yes hi.1 hi.2.1 (hi.2.2.1 (i + 1)) (hi.2.2.1 (i + 2)) (fun σ2 => lwF σ' σ2 ∧ mI σ2 ∧ XR σ2 σ2) (fun σ2 a b c => ⟨a, b, c⟩)
        exact OkG_mono hy (fun r σ1 ⟨x, e, h1, h2, h3⟩ => ⟨x, e, rfl, rfl, h1, h2, h3⟩)
  · have hs := hi.2.2.1
    have h6 := hi.2.2.2.2.1
    unfold lwL
    simp only [↓kI_e, ↓kL_e, ↓kR_e, ↓kV_e, ↓x1, ↓x2, ↓x4, ↓x5, ↓x6, ↓x7, ↓x8, ↓x9, ↓x10, ↓x11, ↓x12, ↓x13, ↓x17, ↓x18, ↓x19, ↓x20, ↓x21, ↓x22, ↓x14, ↓x15, ↓x23, ↓x24, ↓x25, ↓x26, ↓x27, ↓x28, ↓x29, ↓x30, ↓x31, ↓x32, ↓x33, ↓x34, ↓x35i, ↓x35r, ↓x36, ↓x37, ↓x38, ↓x39, ↓x40, ↓x41, ↓x72, ↓x42, ↓x43, ↓x44, ↓x45, ↓x46, ↓x47, ↓x48, ↓x50, ↓x51, ↓x52, ↓x53, ↓x54, ↓x55_0, ↓x56_0, ↓x55_1, ↓x56_1, ↓x55_2, ↓x56_2, ↓x55_3, ↓x56_3, ↓x55_4, ↓x56_4, ↓x55_5, ↓x56_5, ↓x57, ↓x58, ↓x59, ↓x60, ↓x61, ↓x62, ↓x63, ↓x64, ↓x65, ↓x75, ↓x67, ↓x77, ↓x68, ↓x78, ↓x69, ↓x79, ↓x70, ↓x73, ↓x74, ↓ldI_0, ↓ldG_0, ↓ldR_0, ↓stK_0, ↓stK2_0, ↓ldI_1, ↓ldG_1, ↓ldR_1, ↓stK_1I, ↓stK_1R, ↓stK_1N, ↓stK_1G, ↓stK2_1I, ↓stK2_1R, ↓stK2_1N, ↓stK2_1G, ↓ldI_2, ↓ldG_2, ↓ldR_2, ↓stK_2I, ↓stK_2R, ↓stK_2N, ↓stK_2G, ↓stK2_2I, ↓stK2_2R, ↓stK2_2N, ↓stK2_2G, ↓ldI_3, ↓ldG_3, ↓ldR_3, ↓stK_3I, ↓stK_3R, ↓stK_3N, ↓stK_3G, ↓stK2_3I, ↓stK2_3R, ↓stK2_3N, ↓stK2_3G, ↓ldI_4, ↓ldG_4, ↓ldR_4, ↓stK_4I, ↓stK_4R, ↓stK_4N, ↓stK_4G, ↓stK2_4I, ↓stK2_4R, ↓stK2_4N, ↓stK2_4G, ↓ldI_5, ↓ldG_5, ↓ldR_5, ↓stK_5I, ↓stK_5R, ↓stK_5N, ↓stK_5G, ↓stK2_5I, ↓stK2_5R, ↓stK2_5N, ↓stK2_5G, ↓ldI_6, ↓ldG_6, ↓ldR_6, ↓stK_6I, ↓stK_6R, ↓stK_6N, ↓stK_6G, ↓stK2_6I, ↓stK2_6R, ↓stK2_6N, ↓stK2_6G, ↓ldI_7, ↓ldG_7, ↓ldR_7, ↓stK_7I, ↓stK_7R, ↓stK_7N, ↓stK_7G, ↓stK2_7I, ↓stK2_7R, ↓stK2_7N, ↓stK2_7G, ↓ldI_8, ↓ldG_8, ↓ldR_8, ↓stK_8I, ↓stK_8R, ↓stK_8N, ↓stK_8G, ↓stK2_8I, ↓stK2_8R, ↓stK2_8N, ↓stK2_8G, ↓ldI_9, ↓ldG_9, ↓ldR_9, ↓stK_9I, ↓stK_9R, ↓stK_9N, ↓stK_9G, ↓stK2_9I, ↓stK2_9R, ↓stK2_9N, ↓stK2_9G, ↓ldI_10, ↓ldG_10, ↓ldR_10, ↓stK_10I, ↓stK_10R, ↓stK_10N, ↓stK_10G, ↓stK2_10I, ↓stK2_10R, ↓stK2_10N, ↓stK2_10G, ↓ldI_11, ↓ldG_11, ↓ldR_11, ↓stK_11I, ↓stK_11R, ↓stK_11N, ↓stK_11G, ↓stK2_11I, ↓stK2_11R, ↓stK2_11N, ↓stK2_11G, ↓ldI_12, ↓ldG_12, ↓ldR_12, ↓stK_12I, ↓stK_12R, ↓stK_12N, ↓stK_12G, ↓stK2_12I, ↓stK2_12R, ↓stK2_12N, ↓stK2_12G, ↓pN_0, ↓pN_1, ↓pN_2, ↓pN_3, ↓pN_4, ↓pN_5, ↓pN_6, ↓pN_7, ↓ctI_e, ↓ctL_e, ↓ctR_e, ↓ctV_e, ↓tsK_n, ↓tsK_c, ↓go_K, ↓go_X, csum_n, csum_I, csum_R, csum_G, hdCls_r, isCls, elemR, rg_x_pads, rg_log_words, rg_row_pads, rg_row_words, rg_row_led, alen, IR, Nat.reduceMod, Nat.reduceDiv, Nat.reduceSub, Nat.reduceAdd, Nat.reduceLeDiff, Nat.reduceEqDiff, Nat.reduceLT, Int.reduceLE, Int.reduceLT, Int.reduceEq, Int.reduceNe, Int.reduceAdd, Int.reduceSub, Int.reduceNeg, Int.reduceMul, ne_eq, not_true_eq_false, not_false_eq_true, true_and, and_true, false_and, and_false, true_or, or_true, false_or, or_false, and_self, or_self, true_implies, forall_const, false_implies, implies_true, reduceIte, reduceCtorEq, eq_self, Int.le_refl, Nat.le_refl, Int.reduceNatCast, Int.cast_ofNat_Int, ↓eLaw_23, ent0, entI, entR, entG, ent_n, List.length_cons, List.length_nil, List.replicate, List.cons_append, List.nil_append, Nat.reduceSub, Nat.reduceAdd]
    trace_state
    sorry
end
