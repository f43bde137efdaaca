theorem sht_two {σ σ1 σ2 : Mm} {e s : Int} (hI : mI σ) (hs1 : shtM σ σ1 0 ((Mi σ 1761738801 0) e) ((Mi σ 1778516017 0) e) ((Mi σ 1795293233 0) e) (edB σ e)) {σa : Mm} (hT : fT σ1 σa) (hsa : same [] [] σ σa) (hs2 : shtM σa σ2 1 ((Mi σ 1761738801 0) e) ((Mi σ 1778516017 0) e) ((Mi σ 1795293233 0) e) (allB σ (mSet σ s))) : two σ σ2 e s := by
  have hIa := mI_same hsa hI
  have one := sht_one hI (by omega) hs1
  have eB : allB σ (mSet σ s) = allB σa (mSet σ s) := (same_allB hsa _).symm
  rw [eB] at hs2
  have o2 := sht_one hIa (by omega) hs2
  rw [← eB] at o2
  obtain ⟨q1, q2, q3, q4, q5, q6, q7, q8, q9⟩ := hs2.1.2.2.1
  intro p p0 p1
  obtain ⟨a1, a2⟩ := one p p0 p1
  obtain ⟨b1, b2⟩ := o2 p p0 p1
  have ha : ∀ r, (scrT.contains r) = false → Mi σa r = Mi σ1 r := fun r hr => hT.1.i r hr
  simp only [Int.mul_zero, Int.zero_add, Int.mul_one] at a1 a2 b1 b2
  have tl : ∀ B, tlV σa B ((Mi σ 1761738801 0) e) ((Mi σ 1778516017 0) e) ((Mi σ 1795293233 0) e) p = tlV σ B ((Mi σ 1761738801 0) e) ((Mi σ 1778516017 0) e) ((Mi σ 1795293233 0) e) p := fun B => by
    unfold tlV; rw [hsa.i 1073873377 rfl rfl, same_pgL hsa]
  rw [tl, same_pgL hsa, same_mSay hsa] at b2
  refine ⟨?_, b1, fun c => ?_, fun c => ?_⟩
  · rw [q1 p (by omega), ha _ rfl]; exact a1
  · obtain ⟨c1, c2, c3, c4, c5, c6, c7⟩ := a2 c
    refine ⟨⟨?_, c1.2.1, c1.2.2⟩, ?_, c3, ?_, fun i x hx => ?_, c6, c7⟩
    · rw [q5 p (by omega), ha _ rfl]; exact c1.1
    · rw [q9 p (by omega), ha _ rfl]; exact c2
    · rw [q2 p (by omega), ha _ rfl]; exact c4
    · have hi := (List.getElem?_eq_some_iff.mp hx).1
      have c6' : (mSay σ (edB σ e) ((Mi σ 1761738801 0) e) p).length ≤ 8 := c6
      show Mi σ2 _ 0 _ = x
      rw [q3 _ (by omega), ha _ rfl]; exact c5 i x hx
  · obtain ⟨c1, c2, c3, c4, c5, c6, c7⟩ := b2 c
    exact ⟨⟨c1.1, c1.2.1⟩, c2, c3, c4, c5, c6, c7⟩
def b2i (b : Bool) : Int := if b = true then 1 else 0
theorem b2i_01 {b : Bool} : b2i b = 0 ∨ b2i b = 1 := by cases b; exact Or.inl rfl; exact Or.inr rfl
theorem b2i_1 {b : Bool} : b2i b = 1 ↔ b = true := by cases b <;> simp [b2i]
theorem rch17 {e s w v4 cn L i bo el P : Int} {σ' : Mm} {k : Int → Mm → Prop} {K : Nat → Sx} {o : Bool} (hi : 0 ≤ i ∧ i < 60) (he : el = 0 ∨ el = 1) (ho : (Mi σ' 1812071362 0) i = b2i o) (hp : o = true → (Mi σ' 1862403009 0) i = P ∧ IR P) (hL : IR L)
    (n1 : el = 1 → o = true → (L < 0 ∨ P < L) → K 1009 [some (vR 184680536 0), some (vI e), some (vI s), some (vI w), some (vI v4), some (vI cn), some (vI P), some (vI (i + 1)), some (vI bo), some (vI el)] [] σ')
    (n0 : ¬ (el = 1 ∧ o = true ∧ (L < 0 ∨ P < L)) → K 1009 [some (vR 184680536 0), some (vI e), some (vI s), some (vI w), some (vI v4), some (vI cn), some (vI L), some (vI (i + 1)), some (vI bo), some (vI el)] [] σ') (F : Nat) : xs (go BX11_reach K (kI k) (F + 20)) (kI k) (BX11_reach.getD 17 []) [some (vR 184680536 0), some (vI e), some (vI s), some (vI w), some (vI v4), some (vI cn), some (vI L), some (vI i), some (vI bo), some (vI el)] [] σ' := by
  have o01 := b2i_01 (b := o)
  simp only [↓kI_e, ↓kL_e, ↓kR_e, ↓kV_e, ↓x1, ↓x2, ↓x4, ↓x5, ↓x6, ↓x7, ↓x8, ↓x9, ↓x10, ↓x11, ↓x12, ↓x13, ↓x17, ↓x18, ↓x19, ↓x20, ↓x21, ↓x22, ↓x14, ↓x15, ↓x23, ↓x24, ↓x25, ↓x26, ↓x27, ↓x28, ↓x29, ↓x30, ↓x31, ↓x32, ↓x33, ↓x34, ↓x35i, ↓x35r, ↓x36, ↓x37, ↓x38, ↓x39, ↓x40, ↓x41, ↓x72, ↓x42, ↓x43, ↓x44, ↓x45, ↓x46, ↓x47, ↓x48, ↓x50, ↓x51, ↓x52, ↓x53, ↓x54, ↓x55_0, ↓x56_0, ↓x55_1, ↓x56_1, ↓x55_2, ↓x56_2, ↓x55_3, ↓x56_3, ↓x55_4, ↓x56_4, ↓x55_5, ↓x56_5, ↓x57, ↓x58, ↓x59, ↓x60, ↓x61, ↓x62, ↓x63, ↓x64, ↓x65, ↓x75, ↓x67, ↓x77, ↓x68, ↓x78, ↓x69, ↓x79, ↓x70, ↓x73, ↓x74, ↓ldI_0, ↓ldG_0, ↓ldR_0, ↓stK_0, ↓stK2_0, ↓ldI_1, ↓ldG_1, ↓ldR_1, ↓stK_1I, ↓stK_1R, ↓stK_1N, ↓stK_1G, ↓stK2_1I, ↓stK2_1R, ↓stK2_1N, ↓stK2_1G, ↓ldI_2, ↓ldG_2, ↓ldR_2, ↓stK_2I, ↓stK_2R, ↓stK_2N, ↓stK_2G, ↓stK2_2I, ↓stK2_2R, ↓stK2_2N, ↓stK2_2G, ↓ldI_3, ↓ldG_3, ↓ldR_3, ↓stK_3I, ↓stK_3R, ↓stK_3N, ↓stK_3G, ↓stK2_3I, ↓stK2_3R, ↓stK2_3N, ↓stK2_3G, ↓ldI_4, ↓ldG_4, ↓ldR_4, ↓stK_4I, ↓stK_4R, ↓stK_4N, ↓stK_4G, ↓stK2_4I, ↓stK2_4R, ↓stK2_4N, ↓stK2_4G, ↓ldI_5, ↓ldG_5, ↓ldR_5, ↓stK_5I, ↓stK_5R, ↓stK_5N, ↓stK_5G, ↓stK2_5I, ↓stK2_5R, ↓stK2_5N, ↓stK2_5G, ↓ldI_6, ↓ldG_6, ↓ldR_6, ↓stK_6I, ↓stK_6R, ↓stK_6N, ↓stK_6G, ↓stK2_6I, ↓stK2_6R, ↓stK2_6N, ↓stK2_6G, ↓ldI_7, ↓ldG_7, ↓ldR_7, ↓stK_7I, ↓stK_7R, ↓stK_7N, ↓stK_7G, ↓stK2_7I, ↓stK2_7R, ↓stK2_7N, ↓stK2_7G, ↓ldI_8, ↓ldG_8, ↓ldR_8, ↓stK_8I, ↓stK_8R, ↓stK_8N, ↓stK_8G, ↓stK2_8I, ↓stK2_8R, ↓stK2_8N, ↓stK2_8G, ↓ldI_9, ↓ldG_9, ↓ldR_9, ↓stK_9I, ↓stK_9R, ↓stK_9N, ↓stK_9G, ↓stK2_9I, ↓stK2_9R, ↓stK2_9N, ↓stK2_9G, ↓ldI_10, ↓ldG_10, ↓ldR_10, ↓stK_10I, ↓stK_10R, ↓stK_10N, ↓stK_10G, ↓stK2_10I, ↓stK2_10R, ↓stK2_10N, ↓stK2_10G, ↓ldI_11, ↓ldG_11, ↓ldR_11, ↓stK_11I, ↓stK_11R, ↓stK_11N, ↓stK_11G, ↓stK2_11I, ↓stK2_11R, ↓stK2_11N, ↓stK2_11G, ↓ldI_12, ↓ldG_12, ↓ldR_12, ↓stK_12I, ↓stK_12R, ↓stK_12N, ↓stK_12G, ↓stK2_12I, ↓stK2_12R, ↓stK2_12N, ↓stK2_12G, ↓pN_0, ↓pN_1, ↓pN_2, ↓pN_3, ↓pN_4, ↓pN_5, ↓pN_6, ↓pN_7, ↓ctI_e, ↓ctL_e, ↓ctR_e, ↓ctV_e, ↓tsK_n, ↓tsK_c, ↓go_K, ↓go_X, csum_n, csum_I, csum_R, csum_G, hdCls_r, isCls, elemR, rg_x_pads, rg_log_words, rg_row_pads, rg_row_words, rg_row_led, alen, IR, Nat.reduceMod, Nat.reduceDiv, Nat.reduceSub, Nat.reduceAdd, Nat.reduceLeDiff, Nat.reduceEqDiff, Nat.reduceLT, Int.reduceLE, Int.reduceLT, Int.reduceEq, Int.reduceNe, Int.reduceAdd, Int.reduceSub, Int.reduceNeg, Int.reduceMul, ne_eq, not_true_eq_false, not_false_eq_true, true_and, and_true, false_and, and_false, true_or, or_true, false_or, or_false, and_self, or_self, true_implies, forall_const, false_implies, implies_true, reduceIte, reduceCtorEq, eq_self, Int.le_refl, Nat.le_refl, Int.reduceNatCast, Int.cast_ofNat_Int, ↓eX11_reach_17, ↓eX11_reach_18, ↓eX11_reach_19, ↓eX11_reach_20, lX11_reach, ent0, entI, entR, entG, ent_n, List.length_cons, List.length_nil, List.replicate, List.cons_append, List.nil_append, Nat.reduceSub, Nat.reduceAdd]
  rw [ho]
  refine ⟨by omega, fun c => n0 (fun q => by have := q.1; omega), fun c => ⟨by omega, by omega, fun d => n0 (fun q => by have := b2i_1.mpr q.2.1; omega), fun d => ?_⟩⟩
  have ot : o = true := b2i_1.mp (by omega)
  obtain ⟨p1, p2⟩ := hp ot
  rw [p1]
  exact ⟨hL, fun f => ⟨by omega, n1 (by omega) ot (Or.inl f)⟩, fun f => ⟨by omega, ⟨p2, hL⟩, fun g => n0 (fun q => by have := q.2.2; omega), fun g => ⟨by omega, n1 (by omega) ot (Or.inr g)⟩⟩⟩
