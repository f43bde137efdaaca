/-! the class: a change comes about, further -/
theorem XB_in {σ σ' μ : Mm} {j p part : Int} {B : Bk} {kids : Int → List Int} (h : XB σ μ j B) (hF : FrI [671351265, 721682921, 704905697, 688128481] j σ σ') (e : (Mi σ' 671351265) j = upd1 ((Mi σ 671351265) j) p part) (hl : LK ((Mi σ' 688128481) j) ((Mi σ' 704905697) j) (fsX ((Mi σ' 721682921) j) (Mi μ 184680536 0 10)) kids) : XB σ' μ j (fun g q => if g = 2 ∧ q = p then part else B.1 g q, kids, B.2.2) := by
  refine ⟨fun q q0 q1 => ?_, fun q q0 q1 => ?_, hl⟩
  · rw [hF.l _ rfl]; exact h.1 q q0 q1
  · have a := h.2.1 q q0 q1
    refine ⟨?_, ?_, ?_, ?_, ?_, fun i i0 i1 => ?_⟩
    · rw [hF.i _ rfl]; exact a.1
    · rw [e, upd1_e]
      show _ = (if 2 = 2 ∧ q = p then part else B.1 2 q)
      by_cases z : q = p
      · rw [if_pos z, if_pos ⟨rfl, z⟩]
      · rw [if_neg z, if_neg (fun y => z y.2)]; exact a.2.1
    · rw [hF.i _ rfl]; exact a.2.2.1
    · rw [hF.i _ rfl]; exact a.2.2.2.1
    · rw [hF.i _ rfl]; exact a.2.2.2.2.1
    · rw [hF.i _ rfl]; exact a.2.2.2.2.2 i i0 i1
theorem XB_th {σ μ : Mm} {j p : Int} {B : Bk} (h : XB σ μ j B) (hp : 0 ≤ p ∧ p < 60) : XB (sL σ 117702656 j 3 (Ml σ 117702656 j 3 ||| qshl (Int64.ofInt 1) p)) μ j (setB B 0 p 1) := by
  unfold XB at h ⊢
  refine ⟨fun q q0 q1 => ?_, h.2.1, h.2.2⟩
  rw [Ml_s, Ml_s, if_pos rfl, if_neg (by decide), bit_set hp q0]
  refine ⟨?_, (h.1 q q0 q1).2⟩
  show _ ↔ (if 0 = 0 ∧ q = p then 1 else B.1 0 q) = 1
  by_cases e : q = p
  · rw [if_pos e, if_pos ⟨rfl, e⟩]
  · rw [if_neg e, if_neg (fun z => e z.2)]; exact (h.1 q q0 q1).1
theorem XB_wrd {σ σ' μ : Mm} {j p c : Int} {B : Bk} (h : XB σ μ j B) (hs : spkOk μ B) (hn : (Mi μ 184680536 0 10) ≤ 60) (hc : 0 ≤ c) (hF : FrI [755240705, 738460129] j σ σ') (e : (Mi σ' 738460129) j = upd1 ((Mi σ 738460129) j) p c) (ho : ∀ x, x < 8 * p ∨ 8 * p + 8 ≤ x → (Mi σ' 755240705) j x = (Mi σ 755240705) j x) (hi : ∀ i, 0 ≤ i → i < (Mi μ 1107427809 0) c → (Mi σ' 755240705) j (8 * p + i) = (wrdB (Mi μ 1107427809 0) (Mi μ 1124208385 0) B p c).2.2 p i) : XB σ' μ j (wrdB (Mi μ 1107427809 0) (Mi μ 1124208385 0) B p c) := by
  refine ⟨fun q q0 q1 => ?_, fun q q0 q1 => ?_, ?_⟩
  · rw [hF.l _ rfl]; exact h.1 q q0 q1
  · have a := h.2.1 q q0 q1
    refine ⟨?_, ?_, ?_, ?_, ?_, fun i i0 i1 => ?_⟩
    · rw [hF.i _ rfl]; exact a.1
    · rw [hF.i _ rfl]; exact a.2.1
    · rw [e, upd1_e]
      show _ = (if 6 = 6 ∧ q = p then c else B.1 6 q)
      by_cases z : q = p
      · rw [if_pos z, if_pos ⟨rfl, z⟩]
      · rw [if_neg z, if_neg (fun y => z y.2)]; exact a.2.2.1
    · rw [hF.i _ rfl]; exact a.2.2.2.1
    · rw [hF.i _ rfl]; exact a.2.2.2.2.1
    · have e6 : (wrdB (Mi μ 1107427809 0) (Mi μ 1124208385 0) B p c).1 6 q = if q = p then c else B.1 6 q := by
        show (if 6 = 6 ∧ q = p then c else B.1 6 q) = _
        by_cases z : q = p
        · rw [if_pos z, if_pos ⟨rfl, z⟩]
        · rw [if_neg z, if_neg (fun y => z y.2)]
      unfold mWk at i1
      rw [e6] at i1
      by_cases z : q = p
      · rw [if_pos z, if_neg (by omega)] at i1
        rw [z]; exact hi i i0 i1
      · rw [if_neg z] at i1
        have i1' : i < mWk (Mi μ 1107427809 0) B q := i1
        have := (MB_wk hs (p := q) ⟨q0, by omega⟩).1
        rw [ho _ (by omega), a.2.2.2.2.2 i i0 i1']
        show _ = (if q = p then _ else B.2.2 q i)
        rw [if_neg z]
  · rw [hF.i 688128481 rfl, hF.i 704905697 rfl, hF.i 721682921 rfl]; exact h.2.2
theorem bkF.rfl' {j : Int} {σ : Mm} : bkF j σ σ := ⟨rfl, fun _ _ _ => rfl⟩
theorem bkF.trans' {j : Int} {a b c : Mm} (h1 : bkF j a b) (h2 : bkF j b c) : bkF j a c := ⟨h2.1.trans h1.1, fun x a b => (h2.2 x a b).trans (h1.2 x a b)⟩
theorem bkF.of {S : List Nat} {j : Int} {σ σ' : Mm} (h : FrI S j σ σ') (hS : S.contains 117702656 = false) : bkF j σ σ' := ⟨h.i _ hS j, fun x _ _ => by rw [h.l _ hS j]⟩
/-- what coming about may write -/
abbrev brA : List Nat := [671351265, 738460129, 772014561, 788791777, 755240705, 688128481, 704905697, 721682921, 117702656]
theorem x_bringAbout {σ μ : Mm} {j c : Int} {B : Bk} {k : Mm → Prop} (h : XB σ μ j B) (hM : bkM μ B) (hL : xLog σ μ) (hI : logM μ) (hc : 0 ≤ c ∧ c < (Mi μ 184680536 0 10)) (h0 : (Mi μ 973210081 0) c = 0 → B.1 0 c = 0) (hR : mR μ B c = 0) (hfm : Mi σ 117702656 j 2 = (Mi μ 184680536 0 16)) (h01 : (Mi μ 184680536 0 16) = 0 ∨ (Mi μ 184680536 0 16) = 1)
    (hk : ∀ σ', FrI brA j σ σ' → bkF j σ σ' → XB σ' μ j (mS μ B c) → k σ') : OkV 163 [vR 117702656 j, vI c] σ k := by
  have hn := hI.1.1
  have lg := hL.2.1 c hc.1 hc.2
  obtain ⟨chk, chp, ch0, chw⟩ := (hI.2.2 c hc.1 hc.2).1.1
  have c60 : 0 ≤ c ∧ c < 60 := by omega
  have tg : (Mi μ 973210081 0) c ≠ 3 → (Mi σ 302121441 0) c = (Mi μ 1040318945 0) c := fun e => by rw [lg.2.2.2.2.1, if_neg e]
  have eS0 : ¬ (stR (Mi μ 973210081 0) (Mi μ 1023541729 0) (Mi μ 1040318945 0) B c ≠ 0) := by rw [show stR (Mi μ 973210081 0) (Mi μ 1023541729 0) (Mi μ 1040318945 0) B c = 0 from hR]; simp
  have hR' := hR
  unfold mR stR at hR'
  unfold mS stS at hk
  rw [if_neg eS0] at hk
  have p60 : (Mi μ 973210081 0) c ≠ 0 → B.1 0 ((Mi μ 1023541729 0) c) = 1 := fun e => by
    rw [if_neg e] at hR'
    by_cases q : B.1 0 ((Mi μ 1023541729 0) c) = 1
    · exact q
    · rw [if_pos (Or.inl q)] at hR'; omega
  have lgf : ∀ (S : List Nat) (σ1 : Mm), FrI S j σ σ1 → (lgA.all fun a => !S.contains a) = true → xLog σ1 μ := fun S σ1 hF hS => xLog_fr hF.fr hS hL
  refine okV_run mkX0_bringAbout (Nat.le_of_ble_eq_true rfl) (fun K => ?_)
  simp only [↓kI_e, ↓kL_e, ↓kR_e, ↓kV_e, ↓x1, ↓x2, ↓x4, ↓x5, ↓x6, ↓x7, ↓x8, ↓x9, ↓x10, ↓x11, ↓x12, ↓x13, ↓x17, ↓x18, ↓x19, ↓x20, ↓x21, ↓x22, ↓x14, ↓x15, ↓x23, ↓x24, ↓x25, ↓x26, ↓x27, ↓x28, ↓x29, ↓x30, ↓x31, ↓x32, ↓x33, ↓x34, ↓x35i, ↓x35r, ↓x36, ↓x37, ↓x38, ↓x39, ↓x40, ↓x41, ↓x72, ↓x42, ↓x43, ↓x44, ↓x45, ↓x46, ↓x47, ↓x48, ↓x50, ↓x51, ↓x52, ↓x53, ↓x54, ↓x55_0, ↓x56_0, ↓x55_1, ↓x56_1, ↓x55_2, ↓x56_2, ↓x55_3, ↓x56_3, ↓x55_4, ↓x56_4, ↓x55_5, ↓x56_5, ↓x57, ↓x58, ↓x59, ↓x60, ↓x61, ↓x62, ↓x63, ↓x64, ↓x65, ↓x75, ↓x67, ↓x77, ↓x68, ↓x78, ↓x69, ↓x79, ↓x70, ↓x73, ↓x74, ↓ldI_0, ↓ldG_0, ↓ldR_0, ↓stK_0, ↓stK2_0, ↓ldI_1, ↓ldG_1, ↓ldR_1, ↓stK_1I, ↓stK_1R, ↓stK_1N, ↓stK_1G, ↓stK2_1I, ↓stK2_1R, ↓stK2_1N, ↓stK2_1G, ↓ldI_2, ↓ldG_2, ↓ldR_2, ↓stK_2I, ↓stK_2R, ↓stK_2N, ↓stK_2G, ↓stK2_2I, ↓stK2_2R, ↓stK2_2N, ↓stK2_2G, ↓ldI_3, ↓ldG_3, ↓ldR_3, ↓stK_3I, ↓stK_3R, ↓stK_3N, ↓stK_3G, ↓stK2_3I, ↓stK2_3R, ↓stK2_3N, ↓stK2_3G, ↓ldI_4, ↓ldG_4, ↓ldR_4, ↓stK_4I, ↓stK_4R, ↓stK_4N, ↓stK_4G, ↓stK2_4I, ↓stK2_4R, ↓stK2_4N, ↓stK2_4G, ↓ldI_5, ↓ldG_5, ↓ldR_5, ↓stK_5I, ↓stK_5R, ↓stK_5N, ↓stK_5G, ↓stK2_5I, ↓stK2_5R, ↓stK2_5N, ↓stK2_5G, ↓ldI_6, ↓ldG_6, ↓ldR_6, ↓stK_6I, ↓stK_6R, ↓stK_6N, ↓stK_6G, ↓stK2_6I, ↓stK2_6R, ↓stK2_6N, ↓stK2_6G, ↓ldI_7, ↓ldG_7, ↓ldR_7, ↓stK_7I, ↓stK_7R, ↓stK_7N, ↓stK_7G, ↓stK2_7I, ↓stK2_7R, ↓stK2_7N, ↓stK2_7G, ↓ldI_8, ↓ldG_8, ↓ldR_8, ↓stK_8I, ↓stK_8R, ↓stK_8N, ↓stK_8G, ↓stK2_8I, ↓stK2_8R, ↓stK2_8N, ↓stK2_8G, ↓ldI_9, ↓ldG_9, ↓ldR_9, ↓stK_9I, ↓stK_9R, ↓stK_9N, ↓stK_9G, ↓stK2_9I, ↓stK2_9R, ↓stK2_9N, ↓stK2_9G, ↓ldI_10, ↓ldG_10, ↓ldR_10, ↓stK_10I, ↓stK_10R, ↓stK_10N, ↓stK_10G, ↓stK2_10I, ↓stK2_10R, ↓stK2_10N, ↓stK2_10G, ↓ldI_11, ↓ldG_11, ↓ldR_11, ↓stK_11I, ↓stK_11R, ↓stK_11N, ↓stK_11G, ↓stK2_11I, ↓stK2_11R, ↓stK2_11N, ↓stK2_11G, ↓ldI_12, ↓ldG_12, ↓ldR_12, ↓stK_12I, ↓stK_12R, ↓stK_12N, ↓stK_12G, ↓stK2_12I, ↓stK2_12R, ↓stK2_12N, ↓stK2_12G, ↓pN_0, ↓pN_1, ↓pN_2, ↓pN_3, ↓pN_4, ↓pN_5, ↓pN_6, ↓pN_7, ↓ctI_e, ↓ctL_e, ↓ctR_e, ↓ctV_e, ↓tsK_n, ↓tsK_c, ↓go_K, ↓go_X, csum_n, csum_I, csum_R, csum_G, hdCls_r, isCls, elemR, rg_x_pads, rg_log_words, rg_row_pads, rg_row_words, rg_row_led, alen, IR, Nat.reduceMod, Nat.reduceDiv, Nat.reduceSub, Nat.reduceAdd, Nat.reduceLeDiff, Nat.reduceEqDiff, Nat.reduceLT, Int.reduceLE, Int.reduceLT, Int.reduceEq, Int.reduceNe, Int.reduceAdd, Int.reduceSub, Int.reduceNeg, Int.reduceMul, ne_eq, not_true_eq_false, not_false_eq_true, true_and, and_true, false_and, and_false, true_or, or_true, false_or, or_false, and_self, or_self, true_implies, forall_const, false_implies, implies_true, reduceIte, reduceCtorEq, eq_self, Int.le_refl, Nat.le_refl, Int.reduceNatCast, Int.cast_ofNat_Int, ↓eX0_bringAbout_0, ↓eX0_bringAbout_1, ↓eX0_bringAbout_2, ↓eX0_bringAbout_3, ↓eX0_bringAbout_4, ↓eX0_bringAbout_5, ↓eX0_bringAbout_6, ↓eX0_bringAbout_7, ↓eX0_bringAbout_8, lX0_bringAbout, ent0, entI, entR, entG, ent_n, List.length_cons, List.length_nil, List.replicate, List.cons_append, List.nil_append, Nat.reduceSub, Nat.reduceAdd]
  rw [lg.1, lg.2.2.2.1]
  refine ⟨c60, c60, (by first | omega | (unfold IR; omega)), ⟨fun k0 => ?_, fun k1 => ?_, fun k2 => ?_, fun k3 => ?_, fun k4 => ?_, fun k5 => ?_⟩, fun k6 => ?_⟩
  · -- put
    have hpc := ch0 k0
    have hw := chw (Or.inl k0)
    rw [if_pos k0] at hR' hk
    have hwh : (Mi μ 1040318945 0) c = -1 ∨ B.1 0 ((Mi μ 1040318945 0) c) = 1 := by
      by_cases q : (Mi μ 1040318945 0) c = -1 ∨ B.1 0 ((Mi μ 1040318945 0) c) = 1
      · exact q
      · rw [if_neg q] at hR'; omega
    have hwr : (Mi μ 1040318945 0) c = -1 ∨ (0 ≤ (Mi μ 1040318945 0) c ∧ (Mi μ 1040318945 0) c < (Mi μ 184680536 0 10)) := by
      rcases hwh with e | e
      · exact Or.inl e
      · have := bkM_r hM e; exact Or.inr ⟨this.1, this.2.2⟩
    rw [hpc] at hk hw ⊢
    refine x_bit ?_
    simp only [↓kI_e, ↓kL_e, ↓kR_e, ↓kV_e, ↓x1, ↓x2, ↓x4, ↓x5, ↓x6, ↓x7, ↓x8, ↓x9, ↓x10, ↓x11, ↓x12, ↓x13, ↓x17, ↓x18, ↓x19, ↓x20, ↓x21, ↓x22, ↓x14, ↓x15, ↓x23, ↓x24, ↓x25, ↓x26, ↓x27, ↓x28, ↓x29, ↓x30, ↓x31, ↓x32, ↓x33, ↓x34, ↓x35i, ↓x35r, ↓x36, ↓x37, ↓x38, ↓x39, ↓x40, ↓x41, ↓x72, ↓x42, ↓x43, ↓x44, ↓x45, ↓x46, ↓x47, ↓x48, ↓x50, ↓x51, ↓x52, ↓x53, ↓x54, ↓x55_0, ↓x56_0, ↓x55_1, ↓x56_1, ↓x55_2, ↓x56_2, ↓x55_3, ↓x56_3, ↓x55_4, ↓x56_4, ↓x55_5, ↓x56_5, ↓x57, ↓x58, ↓x59, ↓x60, ↓x61, ↓x62, ↓x63, ↓x64, ↓x65, ↓x75, ↓x67, ↓x77, ↓x68, ↓x78, ↓x69, ↓x79, ↓x70, ↓x73, ↓x74, ↓ldI_0, ↓ldG_0, ↓ldR_0, ↓stK_0, ↓stK2_0, ↓ldI_1, ↓ldG_1, ↓ldR_1, ↓stK_1I, ↓stK_1R, ↓stK_1N, ↓stK_1G, ↓stK2_1I, ↓stK2_1R, ↓stK2_1N, ↓stK2_1G, ↓ldI_2, ↓ldG_2, ↓ldR_2, ↓stK_2I, ↓stK_2R, ↓stK_2N, ↓stK_2G, ↓stK2_2I, ↓stK2_2R, ↓stK2_2N, ↓stK2_2G, ↓ldI_3, ↓ldG_3, ↓ldR_3, ↓stK_3I, ↓stK_3R, ↓stK_3N, ↓stK_3G, ↓stK2_3I, ↓stK2_3R, ↓stK2_3N, ↓stK2_3G, ↓ldI_4, ↓ldG_4, ↓ldR_4, ↓stK_4I, ↓stK_4R, ↓stK_4N, ↓stK_4G, ↓stK2_4I, ↓stK2_4R, ↓stK2_4N, ↓stK2_4G, ↓ldI_5, ↓ldG_5, ↓ldR_5, ↓stK_5I, ↓stK_5R, ↓stK_5N, ↓stK_5G, ↓stK2_5I, ↓stK2_5R, ↓stK2_5N, ↓stK2_5G, ↓ldI_6, ↓ldG_6, ↓ldR_6, ↓stK_6I, ↓stK_6R, ↓stK_6N, ↓stK_6G, ↓stK2_6I, ↓stK2_6R, ↓stK2_6N, ↓stK2_6G, ↓ldI_7, ↓ldG_7, ↓ldR_7, ↓stK_7I, ↓stK_7R, ↓stK_7N, ↓stK_7G, ↓stK2_7I, ↓stK2_7R, ↓stK2_7N, ↓stK2_7G, ↓ldI_8, ↓ldG_8, ↓ldR_8, ↓stK_8I, ↓stK_8R, ↓stK_8N, ↓stK_8G, ↓stK2_8I, ↓stK2_8R, ↓stK2_8N, ↓stK2_8G, ↓ldI_9, ↓ldG_9, ↓ldR_9, ↓stK_9I, ↓stK_9R, ↓stK_9N, ↓stK_9G, ↓stK2_9I, ↓stK2_9R, ↓stK2_9N, ↓stK2_9G, ↓ldI_10, ↓ldG_10, ↓ldR_10, ↓stK_10I, ↓stK_10R, ↓stK_10N, ↓stK_10G, ↓stK2_10I, ↓stK2_10R, ↓stK2_10N, ↓stK2_10G, ↓ldI_11, ↓ldG_11, ↓ldR_11, ↓stK_11I, ↓stK_11R, ↓stK_11N, ↓stK_11G, ↓stK2_11I, ↓stK2_11R, ↓stK2_11N, ↓stK2_11G, ↓ldI_12, ↓ldG_12, ↓ldR_12, ↓stK_12I, ↓stK_12R, ↓stK_12N, ↓stK_12G, ↓stK2_12I, ↓stK2_12R, ↓stK2_12N, ↓stK2_12G, ↓pN_0, ↓pN_1, ↓pN_2, ↓pN_3, ↓pN_4, ↓pN_5, ↓pN_6, ↓pN_7, ↓ctI_e, ↓ctL_e, ↓ctR_e, ↓ctV_e, ↓tsK_n, ↓tsK_c, ↓go_K, ↓go_X, csum_n, csum_I, csum_R, csum_G, hdCls_r, isCls, elemR, rg_x_pads, rg_log_words, rg_row_pads, rg_row_words, rg_row_led, alen, IR, Nat.reduceMod, Nat.reduceDiv, Nat.reduceSub, Nat.reduceAdd, Nat.reduceLeDiff, Nat.reduceEqDiff, Nat.reduceLT, Int.reduceLE, Int.reduceLT, Int.reduceEq, Int.reduceNe, Int.reduceAdd, Int.reduceSub, Int.reduceNeg, Int.reduceMul, ne_eq, not_true_eq_false, not_false_eq_true, true_and, and_true, false_and, and_false, true_or, or_true, false_or, or_false, and_self, or_self, true_implies, forall_const, false_implies, implies_true, reduceIte, reduceCtorEq, eq_self, Int.le_refl, Nat.le_refl, Int.reduceNatCast, Int.cast_ofNat_Int, ↓eX0_bringAbout_0, ↓eX0_bringAbout_1, ↓eX0_bringAbout_2, ↓eX0_bringAbout_3, ↓eX0_bringAbout_4, ↓eX0_bringAbout_5, ↓eX0_bringAbout_6, ↓eX0_bringAbout_7, ↓eX0_bringAbout_8, lX0_bringAbout, ent0, entI, entR, entG, ent_n, List.length_cons, List.length_nil, List.replicate, List.cons_append, List.nil_append, Nat.reduceSub, Nat.reduceAdd]
    rw [Mi_sL, lg.2.2.2.2.2.1, tg (by omega)]
    have hX := XB_th h c60
    have hnew : ∀ q, c ∉ B.2.1 q := fun q hq => by
      have := ((hM.1.2.2.1 q c).mp hq).1
      rw [h0 k0] at this; omega
    refine ⟨c60, c60, x_insert (n := (Mi μ 184680536 0 10)) (kids := B.2.1) hn.2 hX.2.2 (okB_kids hM.1) c60 hnew hwr ⟨hw.2.1.1, hw.2.1.2, hw.2.2⟩ (fun b0 => ?_) (fun b0 hb => ?_) (fun σ1 hF e hl => ?_)⟩
    · have hth := (hX.1 _ b0 hw.2.1.2).1
      have e1 : (setB B 0 c 1).1 0 ((Mi μ 1057096161 0) c) = B.1 0 ((Mi μ 1057096161 0) c) := by
        show (if 0 = 0 ∧ (Mi μ 1057096161 0) c = c then 1 else B.1 0 ((Mi μ 1057096161 0) c)) = _
        rw [if_neg (fun z => hw.2.2 z.2)]
      rw [e1] at hth
      show _ ↔ (Mi μ 1057096161 0) c ∈ B.2.1 ((Mi μ 1040318945 0) c)
      rw [hth, hM.1.2.2.1]
      refine and_congr_right (fun b1 => ?_)
      have r := bkM_r hM b1
      rw [Mi_sL, (h.2.1 _ r.1 r.2.2).2.1]
    · have hth := (hX.1 _ b0 hw.2.1.2).1
      have e1 : (setB B 0 c 1).1 0 ((Mi μ 1057096161 0) c) = B.1 0 ((Mi μ 1057096161 0) c) := by
        show (if 0 = 0 ∧ (Mi μ 1057096161 0) c = c then 1 else B.1 0 ((Mi μ 1057096161 0) c)) = _
        rw [if_neg (fun z => hw.2.2 z.2)]
      rw [e1] at hth
      have b1 := hth.mp hb
      have r := bkM_r hM b1
      have := okB_par hM.1 b1
      rw [Mi_sL, (h.2.1 _ r.1 r.2.2).2.1]
      exact (by first | omega | (unfold IR; omega))
    · simp only [↓kI_e, ↓kL_e, ↓kR_e, ↓kV_e, ↓x1, ↓x2, ↓x4, ↓x5, ↓x6, ↓x7, ↓x8, ↓x9, ↓x10, ↓x11, ↓x12, ↓x13, ↓x17, ↓x18, ↓x19, ↓x20, ↓x21, ↓x22, ↓x14, ↓x15, ↓x23, ↓x24, ↓x25, ↓x26, ↓x27, ↓x28, ↓x29, ↓x30, ↓x31, ↓x32, ↓x33, ↓x34, ↓x35i, ↓x35r, ↓x36, ↓x37, ↓x38, ↓x39, ↓x40, ↓x41, ↓x72, ↓x42, ↓x43, ↓x44, ↓x45, ↓x46, ↓x47, ↓x48, ↓x50, ↓x51, ↓x52, ↓x53, ↓x54, ↓x55_0, ↓x56_0, ↓x55_1, ↓x56_1, ↓x55_2, ↓x56_2, ↓x55_3, ↓x56_3, ↓x55_4, ↓x56_4, ↓x55_5, ↓x56_5, ↓x57, ↓x58, ↓x59, ↓x60, ↓x61, ↓x62, ↓x63, ↓x64, ↓x65, ↓x75, ↓x67, ↓x77, ↓x68, ↓x78, ↓x69, ↓x79, ↓x70, ↓x73, ↓x74, ↓ldI_0, ↓ldG_0, ↓ldR_0, ↓stK_0, ↓stK2_0, ↓ldI_1, ↓ldG_1, ↓ldR_1, ↓stK_1I, ↓stK_1R, ↓stK_1N, ↓stK_1G, ↓stK2_1I, ↓stK2_1R, ↓stK2_1N, ↓stK2_1G, ↓ldI_2, ↓ldG_2, ↓ldR_2, ↓stK_2I, ↓stK_2R, ↓stK_2N, ↓stK_2G, ↓stK2_2I, ↓stK2_2R, ↓stK2_2N, ↓stK2_2G, ↓ldI_3, ↓ldG_3, ↓ldR_3, ↓stK_3I, ↓stK_3R, ↓stK_3N, ↓stK_3G, ↓stK2_3I, ↓stK2_3R, ↓stK2_3N, ↓stK2_3G, ↓ldI_4, ↓ldG_4, ↓ldR_4, ↓stK_4I, ↓stK_4R, ↓stK_4N, ↓stK_4G, ↓stK2_4I, ↓stK2_4R, ↓stK2_4N, ↓stK2_4G, ↓ldI_5, ↓ldG_5, ↓ldR_5, ↓stK_5I, ↓stK_5R, ↓stK_5N, ↓stK_5G, ↓stK2_5I, ↓stK2_5R, ↓stK2_5N, ↓stK2_5G, ↓ldI_6, ↓ldG_6, ↓ldR_6, ↓stK_6I, ↓stK_6R, ↓stK_6N, ↓stK_6G, ↓stK2_6I, ↓stK2_6R, ↓stK2_6N, ↓stK2_6G, ↓ldI_7, ↓ldG_7, ↓ldR_7, ↓stK_7I, ↓stK_7R, ↓stK_7N, ↓stK_7G, ↓stK2_7I, ↓stK2_7R, ↓stK2_7N, ↓stK2_7G, ↓ldI_8, ↓ldG_8, ↓ldR_8, ↓stK_8I, ↓stK_8R, ↓stK_8N, ↓stK_8G, ↓stK2_8I, ↓stK2_8R, ↓stK2_8N, ↓stK2_8G, ↓ldI_9, ↓ldG_9, ↓ldR_9, ↓stK_9I, ↓stK_9R, ↓stK_9N, ↓stK_9G, ↓stK2_9I, ↓stK2_9R, ↓stK2_9N, ↓stK2_9G, ↓ldI_10, ↓ldG_10, ↓ldR_10, ↓stK_10I, ↓stK_10R, ↓stK_10N, ↓stK_10G, ↓stK2_10I, ↓stK2_10R, ↓stK2_10N, ↓stK2_10G, ↓ldI_11, ↓ldG_11, ↓ldR_11, ↓stK_11I, ↓stK_11R, ↓stK_11N, ↓stK_11G, ↓stK2_11I, ↓stK2_11R, ↓stK2_11N, ↓stK2_11G, ↓ldI_12, ↓ldG_12, ↓ldR_12, ↓stK_12I, ↓stK_12R, ↓stK_12N, ↓stK_12G, ↓stK2_12I, ↓stK2_12R, ↓stK2_12N, ↓stK2_12G, ↓pN_0, ↓pN_1, ↓pN_2, ↓pN_3, ↓pN_4, ↓pN_5, ↓pN_6, ↓pN_7, ↓ctI_e, ↓ctL_e, ↓ctR_e, ↓ctV_e, ↓tsK_n, ↓tsK_c, ↓go_K, ↓go_X, csum_n, csum_I, csum_R, csum_G, hdCls_r, isCls, elemR, rg_x_pads, rg_log_words, rg_row_pads, rg_row_words, rg_row_led, alen, IR, Nat.reduceMod, Nat.reduceDiv, Nat.reduceSub, Nat.reduceAdd, Nat.reduceLeDiff, Nat.reduceEqDiff, Nat.reduceLT, Int.reduceLE, Int.reduceLT, Int.reduceEq, Int.reduceNe, Int.reduceAdd, Int.reduceSub, Int.reduceNeg, Int.reduceMul, ne_eq, not_true_eq_false, not_false_eq_true, true_and, and_true, false_and, and_false, true_or, or_true, false_or, or_false, and_self, or_self, true_implies, forall_const, false_implies, implies_true, reduceIte, reduceCtorEq, eq_self, Int.le_refl, Nat.le_refl, Int.reduceNatCast, Int.cast_ofNat_Int, ↓eX0_bringAbout_0, ↓eX0_bringAbout_1, ↓eX0_bringAbout_2, ↓eX0_bringAbout_3, ↓eX0_bringAbout_4, ↓eX0_bringAbout_5, ↓eX0_bringAbout_6, ↓eX0_bringAbout_7, ↓eX0_bringAbout_8, lX0_bringAbout, ent0, entI, entR, entG, ent_n, List.length_cons, List.length_nil, List.replicate, List.cons_append, List.nil_append, Nat.reduceSub, Nat.reduceAdd]
      refine hk _ ((FrI.sL (by decide) FrI.rfl').trans' (hF.mono (by decide))) ⟨(hF.i _ rfl j).trans rfl, fun x x3 x4 => by rw [hF.l _ rfl j, Ml_s, if_neg x3]⟩ ?_
      have := XB_in hX hF e hl
      have eB : putB B c ((Mi μ 1040318945 0) c) ((Mi μ 1057096161 0) c) = (fun g q => if g = 2 ∧ q = c then (Mi μ 1040318945 0) c else (setB B 0 c 1).1 g q, (fun q => if q = (Mi μ 1040318945 0) c then insK ((setB B 0 c 1).2.1 q) c ((Mi μ 1057096161 0) c) else (setB B 0 c 1).2.1 q), (setB B 0 c 1).2.2) := by
        refine Prod.ext (funext fun g => funext fun q => ?_) rfl
        show (if g = 0 ∧ q = c then 1 else if g = 2 ∧ q = c then (Mi μ 1040318945 0) c else B.1 g q) = (if g = 2 ∧ q = c then (Mi μ 1040318945 0) c else if g = 0 ∧ q = c then 1 else B.1 g q)
        by_cases z : g = 2 ∧ q = c
        · rw [if_pos z, if_pos z, if_neg (by rintro ⟨y, -⟩; omega)]
        · rw [if_neg z, if_neg z]
      rw [eB]
      exact this
  · -- strike
    rw [if_neg (by omega), if_pos k1] at hk
    refine x_bit ?_
    simp only [↓kI_e, ↓kL_e, ↓kR_e, ↓kV_e, ↓x1, ↓x2, ↓x4, ↓x5, ↓x6, ↓x7, ↓x8, ↓x9, ↓x10, ↓x11, ↓x12, ↓x13, ↓x17, ↓x18, ↓x19, ↓x20, ↓x21, ↓x22, ↓x14, ↓x15, ↓x23, ↓x24, ↓x25, ↓x26, ↓x27, ↓x28, ↓x29, ↓x30, ↓x31, ↓x32, ↓x33, ↓x34, ↓x35i, ↓x35r, ↓x36, ↓x37, ↓x38, ↓x39, ↓x40, ↓x41, ↓x72, ↓x42, ↓x43, ↓x44, ↓x45, ↓x46, ↓x47, ↓x48, ↓x50, ↓x51, ↓x52, ↓x53, ↓x54, ↓x55_0, ↓x56_0, ↓x55_1, ↓x56_1, ↓x55_2, ↓x56_2, ↓x55_3, ↓x56_3, ↓x55_4, ↓x56_4, ↓x55_5, ↓x56_5, ↓x57, ↓x58, ↓x59, ↓x60, ↓x61, ↓x62, ↓x63, ↓x64, ↓x65, ↓x75, ↓x67, ↓x77, ↓x68, ↓x78, ↓x69, ↓x79, ↓x70, ↓x73, ↓x74, ↓ldI_0, ↓ldG_0, ↓ldR_0, ↓stK_0, ↓stK2_0, ↓ldI_1, ↓ldG_1, ↓ldR_1, ↓stK_1I, ↓stK_1R, ↓stK_1N, ↓stK_1G, ↓stK2_1I, ↓stK2_1R, ↓stK2_1N, ↓stK2_1G, ↓ldI_2, ↓ldG_2, ↓ldR_2, ↓stK_2I, ↓stK_2R, ↓stK_2N, ↓stK_2G, ↓stK2_2I, ↓stK2_2R, ↓stK2_2N, ↓stK2_2G, ↓ldI_3, ↓ldG_3, ↓ldR_3, ↓stK_3I, ↓stK_3R, ↓stK_3N, ↓stK_3G, ↓stK2_3I, ↓stK2_3R, ↓stK2_3N, ↓stK2_3G, ↓ldI_4, ↓ldG_4, ↓ldR_4, ↓stK_4I, ↓stK_4R, ↓stK_4N, ↓stK_4G, ↓stK2_4I, ↓stK2_4R, ↓stK2_4N, ↓stK2_4G, ↓ldI_5, ↓ldG_5, ↓ldR_5, ↓stK_5I, ↓stK_5R, ↓stK_5N, ↓stK_5G, ↓stK2_5I, ↓stK2_5R, ↓stK2_5N, ↓stK2_5G, ↓ldI_6, ↓ldG_6, ↓ldR_6, ↓stK_6I, ↓stK_6R, ↓stK_6N, ↓stK_6G, ↓stK2_6I, ↓stK2_6R, ↓stK2_6N, ↓stK2_6G, ↓ldI_7, ↓ldG_7, ↓ldR_7, ↓stK_7I, ↓stK_7R, ↓stK_7N, ↓stK_7G, ↓stK2_7I, ↓stK2_7R, ↓stK2_7N, ↓stK2_7G, ↓ldI_8, ↓ldG_8, ↓ldR_8, ↓stK_8I, ↓stK_8R, ↓stK_8N, ↓stK_8G, ↓stK2_8I, ↓stK2_8R, ↓stK2_8N, ↓stK2_8G, ↓ldI_9, ↓ldG_9, ↓ldR_9, ↓stK_9I, ↓stK_9R, ↓stK_9N, ↓stK_9G, ↓stK2_9I, ↓stK2_9R, ↓stK2_9N, ↓stK2_9G, ↓ldI_10, ↓ldG_10, ↓ldR_10, ↓stK_10I, ↓stK_10R, ↓stK_10N, ↓stK_10G, ↓stK2_10I, ↓stK2_10R, ↓stK2_10N, ↓stK2_10G, ↓ldI_11, ↓ldG_11, ↓ldR_11, ↓stK_11I, ↓stK_11R, ↓stK_11N, ↓stK_11G, ↓stK2_11I, ↓stK2_11R, ↓stK2_11N, ↓stK2_11G, ↓ldI_12, ↓ldG_12, ↓ldR_12, ↓stK_12I, ↓stK_12R, ↓stK_12N, ↓stK_12G, ↓stK2_12I, ↓stK2_12R, ↓stK2_12N, ↓stK2_12G, ↓pN_0, ↓pN_1, ↓pN_2, ↓pN_3, ↓pN_4, ↓pN_5, ↓pN_6, ↓pN_7, ↓ctI_e, ↓ctL_e, ↓ctR_e, ↓ctV_e, ↓tsK_n, ↓tsK_c, ↓go_K, ↓go_X, csum_n, csum_I, csum_R, csum_G, hdCls_r, isCls, elemR, rg_x_pads, rg_log_words, rg_row_pads, rg_row_words, rg_row_led, alen, IR, Nat.reduceMod, Nat.reduceDiv, Nat.reduceSub, Nat.reduceAdd, Nat.reduceLeDiff, Nat.reduceEqDiff, Nat.reduceLT, Int.reduceLE, Int.reduceLT, Int.reduceEq, Int.reduceNe, Int.reduceAdd, Int.reduceSub, Int.reduceNeg, Int.reduceMul, ne_eq, not_true_eq_false, not_false_eq_true, true_and, and_true, false_and, and_false, true_or, or_true, false_or, or_false, and_self, or_self, true_implies, forall_const, false_implies, implies_true, reduceIte, reduceCtorEq, eq_self, Int.le_refl, Nat.le_refl, Int.reduceNatCast, Int.cast_ofNat_Int, ↓eX0_bringAbout_0, ↓eX0_bringAbout_1, ↓eX0_bringAbout_2, ↓eX0_bringAbout_3, ↓eX0_bringAbout_4, ↓eX0_bringAbout_5, ↓eX0_bringAbout_6, ↓eX0_bringAbout_7, ↓eX0_bringAbout_8, lX0_bringAbout, ent0, entI, entR, entG, ent_n, List.length_cons, List.length_nil, List.replicate, List.cons_append, List.nil_append, Nat.reduceSub, Nat.reduceAdd]
    exact hk _ (FrI.sL (by decide) FrI.rfl') ⟨rfl, fun x _ x4 => by rw [Ml_s, if_neg x4]⟩ (XB_st h (fun q q0 q1 => bit_set chp q0))
  · -- move
    have hw := chw (Or.inr k2)
    have tp := p60 (by omega)
    have hwh : (Mi μ 1040318945 0) c = -1 ∨ B.1 0 ((Mi μ 1040318945 0) c) = 1 := by
      rw [if_neg (by omega)] at hR'
      by_cases q : (Mi μ 1040318945 0) c = -1 ∨ B.1 0 ((Mi μ 1040318945 0) c) = 1
      · exact q
      · rw [if_pos (Or.inr ⟨k2, q⟩)] at hR'; omega
    have hwr : (Mi μ 1040318945 0) c = -1 ∨ (0 ≤ (Mi μ 1040318945 0) c ∧ (Mi μ 1040318945 0) c < (Mi μ 184680536 0 10)) := by
      rcases hwh with e | e
      · exact Or.inl e
      · have := bkM_r hM e; exact Or.inr ⟨this.1, this.2.2⟩
    rw [if_neg (by omega), if_neg (by omega), if_pos k2] at hk
    generalize hP : (Mi μ 1023541729 0) c = P at *
    have pr := bkM_r hM tp
    have hpar := okB_par hM.1 tp
    have hin : P ∈ B.2.1 (B.1 2 P) := (hM.1.2.2.1 _ _).mpr ⟨tp, rfl⟩
    have hq0 : B.1 2 P = -1 ∨ (0 ≤ B.1 2 P ∧ B.1 2 P < (Mi μ 184680536 0 10)) := by
      rcases (hM.1.2.2.2.2 P tp).1 with e | e
      · exact Or.inl e
      · have := bkM_r hM e; exact Or.inr ⟨this.1, this.2.2⟩
    obtain ⟨o1, o2, o3⟩ := out_kids hM.1 P
    refine x_takeOut (n := (Mi μ 184680536 0 10)) hn.2 h.2.2 (okB_kids hM.1) hin (h.2.1 P pr.1 pr.2.2).2.1 hq0 (fun σ1 hF1 hl1 => ?_)
    have lg1 := (lgf _ _ hF1 (by decide)).2.1 c hc.1 hc.2
    have hX1 : XB σ1 μ j (outB B P) := ⟨fun q q0 q1 => by rw [hF1.l _ rfl]; exact h.1 q q0 q1, fun q q0 q1 => by
      have a := h.2.1 q q0 q1
      rw [hF1.i 654574049 rfl, hF1.i 671351265 rfl, hF1.i 738460129 rfl, hF1.i 772014561 rfl, hF1.i 788791777 rfl, hF1.i 755240705 rfl]
      exact a, hl1⟩
    simp only [↓kI_e, ↓kL_e, ↓kR_e, ↓kV_e, ↓x1, ↓x2, ↓x4, ↓x5, ↓x6, ↓x7, ↓x8, ↓x9, ↓x10, ↓x11, ↓x12, ↓x13, ↓x17, ↓x18, ↓x19, ↓x20, ↓x21, ↓x22, ↓x14, ↓x15, ↓x23, ↓x24, ↓x25, ↓x26, ↓x27, ↓x28, ↓x29, ↓x30, ↓x31, ↓x32, ↓x33, ↓x34, ↓x35i, ↓x35r, ↓x36, ↓x37, ↓x38, ↓x39, ↓x40, ↓x41, ↓x72, ↓x42, ↓x43, ↓x44, ↓x45, ↓x46, ↓x47, ↓x48, ↓x50, ↓x51, ↓x52, ↓x53, ↓x54, ↓x55_0, ↓x56_0, ↓x55_1, ↓x56_1, ↓x55_2, ↓x56_2, ↓x55_3, ↓x56_3, ↓x55_4, ↓x56_4, ↓x55_5, ↓x56_5, ↓x57, ↓x58, ↓x59, ↓x60, ↓x61, ↓x62, ↓x63, ↓x64, ↓x65, ↓x75, ↓x67, ↓x77, ↓x68, ↓x78, ↓x69, ↓x79, ↓x70, ↓x73, ↓x74, ↓ldI_0, ↓ldG_0, ↓ldR_0, ↓stK_0, ↓stK2_0, ↓ldI_1, ↓ldG_1, ↓ldR_1, ↓stK_1I, ↓stK_1R, ↓stK_1N, ↓stK_1G, ↓stK2_1I, ↓stK2_1R, ↓stK2_1N, ↓stK2_1G, ↓ldI_2, ↓ldG_2, ↓ldR_2, ↓stK_2I, ↓stK_2R, ↓stK_2N, ↓stK_2G, ↓stK2_2I, ↓stK2_2R, ↓stK2_2N, ↓stK2_2G, ↓ldI_3, ↓ldG_3, ↓ldR_3, ↓stK_3I, ↓stK_3R, ↓stK_3N, ↓stK_3G, ↓stK2_3I, ↓stK2_3R, ↓stK2_3N, ↓stK2_3G, ↓ldI_4, ↓ldG_4, ↓ldR_4, ↓stK_4I, ↓stK_4R, ↓stK_4N, ↓stK_4G, ↓stK2_4I, ↓stK2_4R, ↓stK2_4N, ↓stK2_4G, ↓ldI_5, ↓ldG_5, ↓ldR_5, ↓stK_5I, ↓stK_5R, ↓stK_5N, ↓stK_5G, ↓stK2_5I, ↓stK2_5R, ↓stK2_5N, ↓stK2_5G, ↓ldI_6, ↓ldG_6, ↓ldR_6, ↓stK_6I, ↓stK_6R, ↓stK_6N, ↓stK_6G, ↓stK2_6I, ↓stK2_6R, ↓stK2_6N, ↓stK2_6G, ↓ldI_7, ↓ldG_7, ↓ldR_7, ↓stK_7I, ↓stK_7R, ↓stK_7N, ↓stK_7G, ↓stK2_7I, ↓stK2_7R, ↓stK2_7N, ↓stK2_7G, ↓ldI_8, ↓ldG_8, ↓ldR_8, ↓stK_8I, ↓stK_8R, ↓stK_8N, ↓stK_8G, ↓stK2_8I, ↓stK2_8R, ↓stK2_8N, ↓stK2_8G, ↓ldI_9, ↓ldG_9, ↓ldR_9, ↓stK_9I, ↓stK_9R, ↓stK_9N, ↓stK_9G, ↓stK2_9I, ↓stK2_9R, ↓stK2_9N, ↓stK2_9G, ↓ldI_10, ↓ldG_10, ↓ldR_10, ↓stK_10I, ↓stK_10R, ↓stK_10N, ↓stK_10G, ↓stK2_10I, ↓stK2_10R, ↓stK2_10N, ↓stK2_10G, ↓ldI_11, ↓ldG_11, ↓ldR_11, ↓stK_11I, ↓stK_11R, ↓stK_11N, ↓stK_11G, ↓stK2_11I, ↓stK2_11R, ↓stK2_11N, ↓stK2_11G, ↓ldI_12, ↓ldG_12, ↓ldR_12, ↓stK_12I, ↓stK_12R, ↓stK_12N, ↓stK_12G, ↓stK2_12I, ↓stK2_12R, ↓stK2_12N, ↓stK2_12G, ↓pN_0, ↓pN_1, ↓pN_2, ↓pN_3, ↓pN_4, ↓pN_5, ↓pN_6, ↓pN_7, ↓ctI_e, ↓ctL_e, ↓ctR_e, ↓ctV_e, ↓tsK_n, ↓tsK_c, ↓go_K, ↓go_X, csum_n, csum_I, csum_R, csum_G, hdCls_r, isCls, elemR, rg_x_pads, rg_log_words, rg_row_pads, rg_row_words, rg_row_led, alen, IR, Nat.reduceMod, Nat.reduceDiv, Nat.reduceSub, Nat.reduceAdd, Nat.reduceLeDiff, Nat.reduceEqDiff, Nat.reduceLT, Int.reduceLE, Int.reduceLT, Int.reduceEq, Int.reduceNe, Int.reduceAdd, Int.reduceSub, Int.reduceNeg, Int.reduceMul, ne_eq, not_true_eq_false, not_false_eq_true, true_and, and_true, false_and, and_false, true_or, or_true, false_or, or_false, and_self, or_self, true_implies, forall_const, false_implies, implies_true, reduceIte, reduceCtorEq, eq_self, Int.le_refl, Nat.le_refl, Int.reduceNatCast, Int.cast_ofNat_Int, ↓eX0_bringAbout_0, ↓eX0_bringAbout_1, ↓eX0_bringAbout_2, ↓eX0_bringAbout_3, ↓eX0_bringAbout_4, ↓eX0_bringAbout_5, ↓eX0_bringAbout_6, ↓eX0_bringAbout_7, ↓eX0_bringAbout_8, lX0_bringAbout, ent0, entI, entR, entG, ent_n, List.length_cons, List.length_nil, List.replicate, List.cons_append, List.nil_append, Nat.reduceSub, Nat.reduceAdd]
    rw [lg1.2.2.2.2.2.1, lg1.2.2.2.2.1, if_neg (by omega)]
    refine ⟨c60, c60, x_insert (n := (Mi μ 184680536 0 10)) hn.2 hX1.2.2 o1 ⟨pr.1, pr.2.1⟩ o2 hwr ⟨hw.2.1.1, hw.2.1.2, hw.2.2⟩ (fun b0 => ?_) (fun b0 hb => ?_) (fun σ2 hF2 e hl => ?_)⟩
    · rw [(hX1.1 _ b0 hw.2.1.2).1, o3]
      have n2 := hw.2.2
      constructor
      · rintro ⟨b1, b2⟩
        have b1' : B.1 0 ((Mi μ 1057096161 0) c) = 1 := b1
        have r := bkM_r hM b1'
        rw [hF1.i _ rfl, (h.2.1 _ r.1 r.2.2).2.1] at b2
        exact ⟨n2, b1', b2⟩
      · rintro ⟨-, b1, b2⟩
        have r := bkM_r hM b1
        rw [hF1.i _ rfl, (h.2.1 _ r.1 r.2.2).2.1]
        exact ⟨b1, b2⟩
    · have b1 : B.1 0 ((Mi μ 1057096161 0) c) = 1 := (hX1.1 _ b0 hw.2.1.2).1.mp hb
      have r := bkM_r hM b1
      have := okB_par hM.1 b1
      rw [hF1.i _ rfl, (h.2.1 _ r.1 r.2.2).2.1]
      exact (by first | omega | (unfold IR; omega))
    · have hX2 : XB σ2 μ j (movB B P ((Mi μ 1040318945 0) c) ((Mi μ 1057096161 0) c)) := XB_in hX1 hF2 e hl
      simp only [↓kI_e, ↓kL_e, ↓kR_e, ↓kV_e, ↓x1, ↓x2, ↓x4, ↓x5, ↓x6, ↓x7, ↓x8, ↓x9, ↓x10, ↓x11, ↓x12, ↓x13, ↓x17, ↓x18, ↓x19, ↓x20, ↓x21, ↓x22, ↓x14, ↓x15, ↓x23, ↓x24, ↓x25, ↓x26, ↓x27, ↓x28, ↓x29, ↓x30, ↓x31, ↓x32, ↓x33, ↓x34, ↓x35i, ↓x35r, ↓x36, ↓x37, ↓x38, ↓x39, ↓x40, ↓x41, ↓x72, ↓x42, ↓x43, ↓x44, ↓x45, ↓x46, ↓x47, ↓x48, ↓x50, ↓x51, ↓x52, ↓x53, ↓x54, ↓x55_0, ↓x56_0, ↓x55_1, ↓x56_1, ↓x55_2, ↓x56_2, ↓x55_3, ↓x56_3, ↓x55_4, ↓x56_4, ↓x55_5, ↓x56_5, ↓x57, ↓x58, ↓x59, ↓x60, ↓x61, ↓x62, ↓x63, ↓x64, ↓x65, ↓x75, ↓x67, ↓x77, ↓x68, ↓x78, ↓x69, ↓x79, ↓x70, ↓x73, ↓x74, ↓ldI_0, ↓ldG_0, ↓ldR_0, ↓stK_0, ↓stK2_0, ↓ldI_1, ↓ldG_1, ↓ldR_1, ↓stK_1I, ↓stK_1R, ↓stK_1N, ↓stK_1G, ↓stK2_1I, ↓stK2_1R, ↓stK2_1N, ↓stK2_1G, ↓ldI_2, ↓ldG_2, ↓ldR_2, ↓stK_2I, ↓stK_2R, ↓stK_2N, ↓stK_2G, ↓stK2_2I, ↓stK2_2R, ↓stK2_2N, ↓stK2_2G, ↓ldI_3, ↓ldG_3, ↓ldR_3, ↓stK_3I, ↓stK_3R, ↓stK_3N, ↓stK_3G, ↓stK2_3I, ↓stK2_3R, ↓stK2_3N, ↓stK2_3G, ↓ldI_4, ↓ldG_4, ↓ldR_4, ↓stK_4I, ↓stK_4R, ↓stK_4N, ↓stK_4G, ↓stK2_4I, ↓stK2_4R, ↓stK2_4N, ↓stK2_4G, ↓ldI_5, ↓ldG_5, ↓ldR_5, ↓stK_5I, ↓stK_5R, ↓stK_5N, ↓stK_5G, ↓stK2_5I, ↓stK2_5R, ↓stK2_5N, ↓stK2_5G, ↓ldI_6, ↓ldG_6, ↓ldR_6, ↓stK_6I, ↓stK_6R, ↓stK_6N, ↓stK_6G, ↓stK2_6I, ↓stK2_6R, ↓stK2_6N, ↓stK2_6G, ↓ldI_7, ↓ldG_7, ↓ldR_7, ↓stK_7I, ↓stK_7R, ↓stK_7N, ↓stK_7G, ↓stK2_7I, ↓stK2_7R, ↓stK2_7N, ↓stK2_7G, ↓ldI_8, ↓ldG_8, ↓ldR_8, ↓stK_8I, ↓stK_8R, ↓stK_8N, ↓stK_8G, ↓stK2_8I, ↓stK2_8R, ↓stK2_8N, ↓stK2_8G, ↓ldI_9, ↓ldG_9, ↓ldR_9, ↓stK_9I, ↓stK_9R, ↓stK_9N, ↓stK_9G, ↓stK2_9I, ↓stK2_9R, ↓stK2_9N, ↓stK2_9G, ↓ldI_10, ↓ldG_10, ↓ldR_10, ↓stK_10I, ↓stK_10R, ↓stK_10N, ↓stK_10G, ↓stK2_10I, ↓stK2_10R, ↓stK2_10N, ↓stK2_10G, ↓ldI_11, ↓ldG_11, ↓ldR_11, ↓stK_11I, ↓stK_11R, ↓stK_11N, ↓stK_11G, ↓stK2_11I, ↓stK2_11R, ↓stK2_11N, ↓stK2_11G, ↓ldI_12, ↓ldG_12, ↓ldR_12, ↓stK_12I, ↓stK_12R, ↓stK_12N, ↓stK_12G, ↓stK2_12I, ↓stK2_12R, ↓stK2_12N, ↓stK2_12G, ↓pN_0, ↓pN_1, ↓pN_2, ↓pN_3, ↓pN_4, ↓pN_5, ↓pN_6, ↓pN_7, ↓ctI_e, ↓ctL_e, ↓ctR_e, ↓ctV_e, ↓tsK_n, ↓tsK_c, ↓go_K, ↓go_X, csum_n, csum_I, csum_R, csum_G, hdCls_r, isCls, elemR, rg_x_pads, rg_log_words, rg_row_pads, rg_row_words, rg_row_led, alen, IR, Nat.reduceMod, Nat.reduceDiv, Nat.reduceSub, Nat.reduceAdd, Nat.reduceLeDiff, Nat.reduceEqDiff, Nat.reduceLT, Int.reduceLE, Int.reduceLT, Int.reduceEq, Int.reduceNe, Int.reduceAdd, Int.reduceSub, Int.reduceNeg, Int.reduceMul, ne_eq, not_true_eq_false, not_false_eq_true, true_and, and_true, false_and, and_false, true_or, or_true, false_or, or_false, and_self, or_self, true_implies, forall_const, false_implies, implies_true, reduceIte, reduceCtorEq, eq_self, Int.le_refl, Nat.le_refl, Int.reduceNatCast, Int.cast_ofNat_Int, ↓eX0_bringAbout_0, ↓eX0_bringAbout_1, ↓eX0_bringAbout_2, ↓eX0_bringAbout_3, ↓eX0_bringAbout_4, ↓eX0_bringAbout_5, ↓eX0_bringAbout_6, ↓eX0_bringAbout_7, ↓eX0_bringAbout_8, lX0_bringAbout, ent0, entI, entR, entG, ent_n, List.length_cons, List.length_nil, List.replicate, List.cons_append, List.nil_append, Nat.reduceSub, Nat.reduceAdd]
      have f2 : bkF j σ σ2 := (bkF.of hF1 rfl).trans' (bkF.of hF2 rfl)
      refine x_raise hX2 ⟨pr.1, pr.2.1⟩ (by rw [f2.1]; exact hfm) h01 (fun σ3 hF3 f3 hX3 => ?_)
      simp only [↓kI_e, ↓kL_e, ↓kR_e, ↓kV_e, ↓x1, ↓x2, ↓x4, ↓x5, ↓x6, ↓x7, ↓x8, ↓x9, ↓x10, ↓x11, ↓x12, ↓x13, ↓x17, ↓x18, ↓x19, ↓x20, ↓x21, ↓x22, ↓x14, ↓x15, ↓x23, ↓x24, ↓x25, ↓x26, ↓x27, ↓x28, ↓x29, ↓x30, ↓x31, ↓x32, ↓x33, ↓x34, ↓x35i, ↓x35r, ↓x36, ↓x37, ↓x38, ↓x39, ↓x40, ↓x41, ↓x72, ↓x42, ↓x43, ↓x44, ↓x45, ↓x46, ↓x47, ↓x48, ↓x50, ↓x51, ↓x52, ↓x53, ↓x54, ↓x55_0, ↓x56_0, ↓x55_1, ↓x56_1, ↓x55_2, ↓x56_2, ↓x55_3, ↓x56_3, ↓x55_4, ↓x56_4, ↓x55_5, ↓x56_5, ↓x57, ↓x58, ↓x59, ↓x60, ↓x61, ↓x62, ↓x63, ↓x64, ↓x65, ↓x75, ↓x67, ↓x77, ↓x68, ↓x78, ↓x69, ↓x79, ↓x70, ↓x73, ↓x74, ↓ldI_0, ↓ldG_0, ↓ldR_0, ↓stK_0, ↓stK2_0, ↓ldI_1, ↓ldG_1, ↓ldR_1, ↓stK_1I, ↓stK_1R, ↓stK_1N, ↓stK_1G, ↓stK2_1I, ↓stK2_1R, ↓stK2_1N, ↓stK2_1G, ↓ldI_2, ↓ldG_2, ↓ldR_2, ↓stK_2I, ↓stK_2R, ↓stK_2N, ↓stK_2G, ↓stK2_2I, ↓stK2_2R, ↓stK2_2N, ↓stK2_2G, ↓ldI_3, ↓ldG_3, ↓ldR_3, ↓stK_3I, ↓stK_3R, ↓stK_3N, ↓stK_3G, ↓stK2_3I, ↓stK2_3R, ↓stK2_3N, ↓stK2_3G, ↓ldI_4, ↓ldG_4, ↓ldR_4, ↓stK_4I, ↓stK_4R, ↓stK_4N, ↓stK_4G, ↓stK2_4I, ↓stK2_4R, ↓stK2_4N, ↓stK2_4G, ↓ldI_5, ↓ldG_5, ↓ldR_5, ↓stK_5I, ↓stK_5R, ↓stK_5N, ↓stK_5G, ↓stK2_5I, ↓stK2_5R, ↓stK2_5N, ↓stK2_5G, ↓ldI_6, ↓ldG_6, ↓ldR_6, ↓stK_6I, ↓stK_6R, ↓stK_6N, ↓stK_6G, ↓stK2_6I, ↓stK2_6R, ↓stK2_6N, ↓stK2_6G, ↓ldI_7, ↓ldG_7, ↓ldR_7, ↓stK_7I, ↓stK_7R, ↓stK_7N, ↓stK_7G, ↓stK2_7I, ↓stK2_7R, ↓stK2_7N, ↓stK2_7G, ↓ldI_8, ↓ldG_8, ↓ldR_8, ↓stK_8I, ↓stK_8R, ↓stK_8N, ↓stK_8G, ↓stK2_8I, ↓stK2_8R, ↓stK2_8N, ↓stK2_8G, ↓ldI_9, ↓ldG_9, ↓ldR_9, ↓stK_9I, ↓stK_9R, ↓stK_9N, ↓stK_9G, ↓stK2_9I, ↓stK2_9R, ↓stK2_9N, ↓stK2_9G, ↓ldI_10, ↓ldG_10, ↓ldR_10, ↓stK_10I, ↓stK_10R, ↓stK_10N, ↓stK_10G, ↓stK2_10I, ↓stK2_10R, ↓stK2_10N, ↓stK2_10G, ↓ldI_11, ↓ldG_11, ↓ldR_11, ↓stK_11I, ↓stK_11R, ↓stK_11N, ↓stK_11G, ↓stK2_11I, ↓stK2_11R, ↓stK2_11N, ↓stK2_11G, ↓ldI_12, ↓ldG_12, ↓ldR_12, ↓stK_12I, ↓stK_12R, ↓stK_12N, ↓stK_12G, ↓stK2_12I, ↓stK2_12R, ↓stK2_12N, ↓stK2_12G, ↓pN_0, ↓pN_1, ↓pN_2, ↓pN_3, ↓pN_4, ↓pN_5, ↓pN_6, ↓pN_7, ↓ctI_e, ↓ctL_e, ↓ctR_e, ↓ctV_e, ↓tsK_n, ↓tsK_c, ↓go_K, ↓go_X, csum_n, csum_I, csum_R, csum_G, hdCls_r, isCls, elemR, rg_x_pads, rg_log_words, rg_row_pads, rg_row_words, rg_row_led, alen, IR, Nat.reduceMod, Nat.reduceDiv, Nat.reduceSub, Nat.reduceAdd, Nat.reduceLeDiff, Nat.reduceEqDiff, Nat.reduceLT, Int.reduceLE, Int.reduceLT, Int.reduceEq, Int.reduceNe, Int.reduceAdd, Int.reduceSub, Int.reduceNeg, Int.reduceMul, ne_eq, not_true_eq_false, not_false_eq_true, true_and, and_true, false_and, and_false, true_or, or_true, false_or, or_false, and_self, or_self, true_implies, forall_const, false_implies, implies_true, reduceIte, reduceCtorEq, eq_self, Int.le_refl, Nat.le_refl, Int.reduceNatCast, Int.cast_ofNat_Int, ↓eX0_bringAbout_0, ↓eX0_bringAbout_1, ↓eX0_bringAbout_2, ↓eX0_bringAbout_3, ↓eX0_bringAbout_4, ↓eX0_bringAbout_5, ↓eX0_bringAbout_6, ↓eX0_bringAbout_7, ↓eX0_bringAbout_8, lX0_bringAbout, ent0, entI, entR, entG, ent_n, List.length_cons, List.length_nil, List.replicate, List.cons_append, List.nil_append, Nat.reduceSub, Nat.reduceAdd]
      exact hk _ ((hF1.mono (by decide)).trans' ((hF2.mono (by decide)).trans' (hF3.mono (by decide)))) (f2.trans' f3) hX3
  · -- words
    have tp := p60 (by omega)
    have pr := bkM_r hM tp
    rw [if_neg (by omega), if_neg (by omega), if_neg (by omega), if_pos k3] at hk
    refine x_speak h hM hL hI ⟨pr.1, pr.2.2⟩ hc k3 (fun σ1 hF1 e1 e2 e3 => ?_)
    have hX1 := XB_wrd h hM.2.1 hn.2 hc.1 hF1 e1 e2 e3
    simp only [↓kI_e, ↓kL_e, ↓kR_e, ↓kV_e, ↓x1, ↓x2, ↓x4, ↓x5, ↓x6, ↓x7, ↓x8, ↓x9, ↓x10, ↓x11, ↓x12, ↓x13, ↓x17, ↓x18, ↓x19, ↓x20, ↓x21, ↓x22, ↓x14, ↓x15, ↓x23, ↓x24, ↓x25, ↓x26, ↓x27, ↓x28, ↓x29, ↓x30, ↓x31, ↓x32, ↓x33, ↓x34, ↓x35i, ↓x35r, ↓x36, ↓x37, ↓x38, ↓x39, ↓x40, ↓x41, ↓x72, ↓x42, ↓x43, ↓x44, ↓x45, ↓x46, ↓x47, ↓x48, ↓x50, ↓x51, ↓x52, ↓x53, ↓x54, ↓x55_0, ↓x56_0, ↓x55_1, ↓x56_1, ↓x55_2, ↓x56_2, ↓x55_3, ↓x56_3, ↓x55_4, ↓x56_4, ↓x55_5, ↓x56_5, ↓x57, ↓x58, ↓x59, ↓x60, ↓x61, ↓x62, ↓x63, ↓x64, ↓x65, ↓x75, ↓x67, ↓x77, ↓x68, ↓x78, ↓x69, ↓x79, ↓x70, ↓x73, ↓x74, ↓ldI_0, ↓ldG_0, ↓ldR_0, ↓stK_0, ↓stK2_0, ↓ldI_1, ↓ldG_1, ↓ldR_1, ↓stK_1I, ↓stK_1R, ↓stK_1N, ↓stK_1G, ↓stK2_1I, ↓stK2_1R, ↓stK2_1N, ↓stK2_1G, ↓ldI_2, ↓ldG_2, ↓ldR_2, ↓stK_2I, ↓stK_2R, ↓stK_2N, ↓stK_2G, ↓stK2_2I, ↓stK2_2R, ↓stK2_2N, ↓stK2_2G, ↓ldI_3, ↓ldG_3, ↓ldR_3, ↓stK_3I, ↓stK_3R, ↓stK_3N, ↓stK_3G, ↓stK2_3I, ↓stK2_3R, ↓stK2_3N, ↓stK2_3G, ↓ldI_4, ↓ldG_4, ↓ldR_4, ↓stK_4I, ↓stK_4R, ↓stK_4N, ↓stK_4G, ↓stK2_4I, ↓stK2_4R, ↓stK2_4N, ↓stK2_4G, ↓ldI_5, ↓ldG_5, ↓ldR_5, ↓stK_5I, ↓stK_5R, ↓stK_5N, ↓stK_5G, ↓stK2_5I, ↓stK2_5R, ↓stK2_5N, ↓stK2_5G, ↓ldI_6, ↓ldG_6, ↓ldR_6, ↓stK_6I, ↓stK_6R, ↓stK_6N, ↓stK_6G, ↓stK2_6I, ↓stK2_6R, ↓stK2_6N, ↓stK2_6G, ↓ldI_7, ↓ldG_7, ↓ldR_7, ↓stK_7I, ↓stK_7R, ↓stK_7N, ↓stK_7G, ↓stK2_7I, ↓stK2_7R, ↓stK2_7N, ↓stK2_7G, ↓ldI_8, ↓ldG_8, ↓ldR_8, ↓stK_8I, ↓stK_8R, ↓stK_8N, ↓stK_8G, ↓stK2_8I, ↓stK2_8R, ↓stK2_8N, ↓stK2_8G, ↓ldI_9, ↓ldG_9, ↓ldR_9, ↓stK_9I, ↓stK_9R, ↓stK_9N, ↓stK_9G, ↓stK2_9I, ↓stK2_9R, ↓stK2_9N, ↓stK2_9G, ↓ldI_10, ↓ldG_10, ↓ldR_10, ↓stK_10I, ↓stK_10R, ↓stK_10N, ↓stK_10G, ↓stK2_10I, ↓stK2_10R, ↓stK2_10N, ↓stK2_10G, ↓ldI_11, ↓ldG_11, ↓ldR_11, ↓stK_11I, ↓stK_11R, ↓stK_11N, ↓stK_11G, ↓stK2_11I, ↓stK2_11R, ↓stK2_11N, ↓stK2_11G, ↓ldI_12, ↓ldG_12, ↓ldR_12, ↓stK_12I, ↓stK_12R, ↓stK_12N, ↓stK_12G, ↓stK2_12I, ↓stK2_12R, ↓stK2_12N, ↓stK2_12G, ↓pN_0, ↓pN_1, ↓pN_2, ↓pN_3, ↓pN_4, ↓pN_5, ↓pN_6, ↓pN_7, ↓ctI_e, ↓ctL_e, ↓ctR_e, ↓ctV_e, ↓tsK_n, ↓tsK_c, ↓go_K, ↓go_X, csum_n, csum_I, csum_R, csum_G, hdCls_r, isCls, elemR, rg_x_pads, rg_log_words, rg_row_pads, rg_row_words, rg_row_led, alen, IR, Nat.reduceMod, Nat.reduceDiv, Nat.reduceSub, Nat.reduceAdd, Nat.reduceLeDiff, Nat.reduceEqDiff, Nat.reduceLT, Int.reduceLE, Int.reduceLT, Int.reduceEq, Int.reduceNe, Int.reduceAdd, Int.reduceSub, Int.reduceNeg, Int.reduceMul, ne_eq, not_true_eq_false, not_false_eq_true, true_and, and_true, false_and, and_false, true_or, or_true, false_or, or_false, and_self, or_self, true_implies, forall_const, false_implies, implies_true, reduceIte, reduceCtorEq, eq_self, Int.le_refl, Nat.le_refl, Int.reduceNatCast, Int.cast_ofNat_Int, ↓eX0_bringAbout_0, ↓eX0_bringAbout_1, ↓eX0_bringAbout_2, ↓eX0_bringAbout_3, ↓eX0_bringAbout_4, ↓eX0_bringAbout_5, ↓eX0_bringAbout_6, ↓eX0_bringAbout_7, ↓eX0_bringAbout_8, lX0_bringAbout, ent0, entI, entR, entG, ent_n, List.length_cons, List.length_nil, List.replicate, List.cons_append, List.nil_append, Nat.reduceSub, Nat.reduceAdd]
    have f1 : bkF j σ σ1 := bkF.of hF1 rfl
    refine x_raise hX1 ⟨pr.1, pr.2.1⟩ (by rw [f1.1]; exact hfm) h01 (fun σ3 hF3 f3 hX3 => ?_)
    simp only [↓kI_e, ↓kL_e, ↓kR_e, ↓kV_e, ↓x1, ↓x2, ↓x4, ↓x5, ↓x6, ↓x7, ↓x8, ↓x9, ↓x10, ↓x11, ↓x12, ↓x13, ↓x17, ↓x18, ↓x19, ↓x20, ↓x21, ↓x22, ↓x14, ↓x15, ↓x23, ↓x24, ↓x25, ↓x26, ↓x27, ↓x28, ↓x29, ↓x30, ↓x31, ↓x32, ↓x33, ↓x34, ↓x35i, ↓x35r, ↓x36, ↓x37, ↓x38, ↓x39, ↓x40, ↓x41, ↓x72, ↓x42, ↓x43, ↓x44, ↓x45, ↓x46, ↓x47, ↓x48, ↓x50, ↓x51, ↓x52, ↓x53, ↓x54, ↓x55_0, ↓x56_0, ↓x55_1, ↓x56_1, ↓x55_2, ↓x56_2, ↓x55_3, ↓x56_3, ↓x55_4, ↓x56_4, ↓x55_5, ↓x56_5, ↓x57, ↓x58, ↓x59, ↓x60, ↓x61, ↓x62, ↓x63, ↓x64, ↓x65, ↓x75, ↓x67, ↓x77, ↓x68, ↓x78, ↓x69, ↓x79, ↓x70, ↓x73, ↓x74, ↓ldI_0, ↓ldG_0, ↓ldR_0, ↓stK_0, ↓stK2_0, ↓ldI_1, ↓ldG_1, ↓ldR_1, ↓stK_1I, ↓stK_1R, ↓stK_1N, ↓stK_1G, ↓stK2_1I, ↓stK2_1R, ↓stK2_1N, ↓stK2_1G, ↓ldI_2, ↓ldG_2, ↓ldR_2, ↓stK_2I, ↓stK_2R, ↓stK_2N, ↓stK_2G, ↓stK2_2I, ↓stK2_2R, ↓stK2_2N, ↓stK2_2G, ↓ldI_3, ↓ldG_3, ↓ldR_3, ↓stK_3I, ↓stK_3R, ↓stK_3N, ↓stK_3G, ↓stK2_3I, ↓stK2_3R, ↓stK2_3N, ↓stK2_3G, ↓ldI_4, ↓ldG_4, ↓ldR_4, ↓stK_4I, ↓stK_4R, ↓stK_4N, ↓stK_4G, ↓stK2_4I, ↓stK2_4R, ↓stK2_4N, ↓stK2_4G, ↓ldI_5, ↓ldG_5, ↓ldR_5, ↓stK_5I, ↓stK_5R, ↓stK_5N, ↓stK_5G, ↓stK2_5I, ↓stK2_5R, ↓stK2_5N, ↓stK2_5G, ↓ldI_6, ↓ldG_6, ↓ldR_6, ↓stK_6I, ↓stK_6R, ↓stK_6N, ↓stK_6G, ↓stK2_6I, ↓stK2_6R, ↓stK2_6N, ↓stK2_6G, ↓ldI_7, ↓ldG_7, ↓ldR_7, ↓stK_7I, ↓stK_7R, ↓stK_7N, ↓stK_7G, ↓stK2_7I, ↓stK2_7R, ↓stK2_7N, ↓stK2_7G, ↓ldI_8, ↓ldG_8, ↓ldR_8, ↓stK_8I, ↓stK_8R, ↓stK_8N, ↓stK_8G, ↓stK2_8I, ↓stK2_8R, ↓stK2_8N, ↓stK2_8G, ↓ldI_9, ↓ldG_9, ↓ldR_9, ↓stK_9I, ↓stK_9R, ↓stK_9N, ↓stK_9G, ↓stK2_9I, ↓stK2_9R, ↓stK2_9N, ↓stK2_9G, ↓ldI_10, ↓ldG_10, ↓ldR_10, ↓stK_10I, ↓stK_10R, ↓stK_10N, ↓stK_10G, ↓stK2_10I, ↓stK2_10R, ↓stK2_10N, ↓stK2_10G, ↓ldI_11, ↓ldG_11, ↓ldR_11, ↓stK_11I, ↓stK_11R, ↓stK_11N, ↓stK_11G, ↓stK2_11I, ↓stK2_11R, ↓stK2_11N, ↓stK2_11G, ↓ldI_12, ↓ldG_12, ↓ldR_12, ↓stK_12I, ↓stK_12R, ↓stK_12N, ↓stK_12G, ↓stK2_12I, ↓stK2_12R, ↓stK2_12N, ↓stK2_12G, ↓pN_0, ↓pN_1, ↓pN_2, ↓pN_3, ↓pN_4, ↓pN_5, ↓pN_6, ↓pN_7, ↓ctI_e, ↓ctL_e, ↓ctR_e, ↓ctV_e, ↓tsK_n, ↓tsK_c, ↓go_K, ↓go_X, csum_n, csum_I, csum_R, csum_G, hdCls_r, isCls, elemR, rg_x_pads, rg_log_words, rg_row_pads, rg_row_words, rg_row_led, alen, IR, Nat.reduceMod, Nat.reduceDiv, Nat.reduceSub, Nat.reduceAdd, Nat.reduceLeDiff, Nat.reduceEqDiff, Nat.reduceLT, Int.reduceLE, Int.reduceLT, Int.reduceEq, Int.reduceNe, Int.reduceAdd, Int.reduceSub, Int.reduceNeg, Int.reduceMul, ne_eq, not_true_eq_false, not_false_eq_true, true_and, and_true, false_and, and_false, true_or, or_true, false_or, or_false, and_self, or_self, true_implies, forall_const, false_implies, implies_true, reduceIte, reduceCtorEq, eq_self, Int.le_refl, Nat.le_refl, Int.reduceNatCast, Int.cast_ofNat_Int, ↓eX0_bringAbout_0, ↓eX0_bringAbout_1, ↓eX0_bringAbout_2, ↓eX0_bringAbout_3, ↓eX0_bringAbout_4, ↓eX0_bringAbout_5, ↓eX0_bringAbout_6, ↓eX0_bringAbout_7, ↓eX0_bringAbout_8, lX0_bringAbout, ent0, entI, entR, entG, ent_n, List.length_cons, List.length_nil, List.replicate, List.cons_append, List.nil_append, Nat.reduceSub, Nat.reduceAdd]
    exact hk _ ((hF1.mono (by decide)).trans' (hF3.mono (by decide))) (f1.trans' f3) hX3
  · -- note
    rw [if_neg (by omega), if_neg (by omega), if_neg (by omega), if_neg (by omega), if_pos k4] at hk
    rw [tg (by omega)]
    exact ⟨c60, by omega, hk _ (FrI.sI (by decide) FrI.rfl') ⟨by simp (decide := true) only [Mi_s, Mi_n, Mi_sL, Mi_sR, Ml_sI, Ml_sR, Mr_sI, Mr_sL, Mn_sI, Mc_sI], fun _ _ _ => rfl⟩ (XB_note h)⟩
  · -- tie
    rw [if_neg (by omega), if_neg (by omega), if_neg (by omega), if_neg (by omega), if_neg (by omega), if_pos k5] at hk
    rw [tg (by omega)]
    exact ⟨c60, by omega, hk _ (FrI.sI (by decide) FrI.rfl') ⟨by simp (decide := true) only [Mi_s, Mi_n, Mi_sL, Mi_sR, Ml_sI, Ml_sR, Mr_sI, Mr_sL, Mn_sI, Mc_sI], fun _ _ _ => rfl⟩ (XB_tie h)⟩
  · -- raise
    rw [if_neg (by omega), if_neg (by omega), if_neg (by omega), if_neg (by omega), if_neg (by omega), if_neg (by omega)] at hk
    refine x_bit ?_
    simp only [↓kI_e, ↓kL_e, ↓kR_e, ↓kV_e, ↓x1, ↓x2, ↓x4, ↓x5, ↓x6, ↓x7, ↓x8, ↓x9, ↓x10, ↓x11, ↓x12, ↓x13, ↓x17, ↓x18, ↓x19, ↓x20, ↓x21, ↓x22, ↓x14, ↓x15, ↓x23, ↓x24, ↓x25, ↓x26, ↓x27, ↓x28, ↓x29, ↓x30, ↓x31, ↓x32, ↓x33, ↓x34, ↓x35i, ↓x35r, ↓x36, ↓x37, ↓x38, ↓x39, ↓x40, ↓x41, ↓x72, ↓x42, ↓x43, ↓x44, ↓x45, ↓x46, ↓x47, ↓x48, ↓x50, ↓x51, ↓x52, ↓x53, ↓x54, ↓x55_0, ↓x56_0, ↓x55_1, ↓x56_1, ↓x55_2, ↓x56_2, ↓x55_3, ↓x56_3, ↓x55_4, ↓x56_4, ↓x55_5, ↓x56_5, ↓x57, ↓x58, ↓x59, ↓x60, ↓x61, ↓x62, ↓x63, ↓x64, ↓x65, ↓x75, ↓x67, ↓x77, ↓x68, ↓x78, ↓x69, ↓x79, ↓x70, ↓x73, ↓x74, ↓ldI_0, ↓ldG_0, ↓ldR_0, ↓stK_0, ↓stK2_0, ↓ldI_1, ↓ldG_1, ↓ldR_1, ↓stK_1I, ↓stK_1R, ↓stK_1N, ↓stK_1G, ↓stK2_1I, ↓stK2_1R, ↓stK2_1N, ↓stK2_1G, ↓ldI_2, ↓ldG_2, ↓ldR_2, ↓stK_2I, ↓stK_2R, ↓stK_2N, ↓stK_2G, ↓stK2_2I, ↓stK2_2R, ↓stK2_2N, ↓stK2_2G, ↓ldI_3, ↓ldG_3, ↓ldR_3, ↓stK_3I, ↓stK_3R, ↓stK_3N, ↓stK_3G, ↓stK2_3I, ↓stK2_3R, ↓stK2_3N, ↓stK2_3G, ↓ldI_4, ↓ldG_4, ↓ldR_4, ↓stK_4I, ↓stK_4R, ↓stK_4N, ↓stK_4G, ↓stK2_4I, ↓stK2_4R, ↓stK2_4N, ↓stK2_4G, ↓ldI_5, ↓ldG_5, ↓ldR_5, ↓stK_5I, ↓stK_5R, ↓stK_5N, ↓stK_5G, ↓stK2_5I, ↓stK2_5R, ↓stK2_5N, ↓stK2_5G, ↓ldI_6, ↓ldG_6, ↓ldR_6, ↓stK_6I, ↓stK_6R, ↓stK_6N, ↓stK_6G, ↓stK2_6I, ↓stK2_6R, ↓stK2_6N, ↓stK2_6G, ↓ldI_7, ↓ldG_7, ↓ldR_7, ↓stK_7I, ↓stK_7R, ↓stK_7N, ↓stK_7G, ↓stK2_7I, ↓stK2_7R, ↓stK2_7N, ↓stK2_7G, ↓ldI_8, ↓ldG_8, ↓ldR_8, ↓stK_8I, ↓stK_8R, ↓stK_8N, ↓stK_8G, ↓stK2_8I, ↓stK2_8R, ↓stK2_8N, ↓stK2_8G, ↓ldI_9, ↓ldG_9, ↓ldR_9, ↓stK_9I, ↓stK_9R, ↓stK_9N, ↓stK_9G, ↓stK2_9I, ↓stK2_9R, ↓stK2_9N, ↓stK2_9G, ↓ldI_10, ↓ldG_10, ↓ldR_10, ↓stK_10I, ↓stK_10R, ↓stK_10N, ↓stK_10G, ↓stK2_10I, ↓stK2_10R, ↓stK2_10N, ↓stK2_10G, ↓ldI_11, ↓ldG_11, ↓ldR_11, ↓stK_11I, ↓stK_11R, ↓stK_11N, ↓stK_11G, ↓stK2_11I, ↓stK2_11R, ↓stK2_11N, ↓stK2_11G, ↓ldI_12, ↓ldG_12, ↓ldR_12, ↓stK_12I, ↓stK_12R, ↓stK_12N, ↓stK_12G, ↓stK2_12I, ↓stK2_12R, ↓stK2_12N, ↓stK2_12G, ↓pN_0, ↓pN_1, ↓pN_2, ↓pN_3, ↓pN_4, ↓pN_5, ↓pN_6, ↓pN_7, ↓ctI_e, ↓ctL_e, ↓ctR_e, ↓ctV_e, ↓tsK_n, ↓tsK_c, ↓go_K, ↓go_X, csum_n, csum_I, csum_R, csum_G, hdCls_r, isCls, elemR, rg_x_pads, rg_log_words, rg_row_pads, rg_row_words, rg_row_led, alen, IR, Nat.reduceMod, Nat.reduceDiv, Nat.reduceSub, Nat.reduceAdd, Nat.reduceLeDiff, Nat.reduceEqDiff, Nat.reduceLT, Int.reduceLE, Int.reduceLT, Int.reduceEq, Int.reduceNe, Int.reduceAdd, Int.reduceSub, Int.reduceNeg, Int.reduceMul, ne_eq, not_true_eq_false, not_false_eq_true, true_and, and_true, false_and, and_false, true_or, or_true, false_or, or_false, and_self, or_self, true_implies, forall_const, false_implies, implies_true, reduceIte, reduceCtorEq, eq_self, Int.le_refl, Nat.le_refl, Int.reduceNatCast, Int.cast_ofNat_Int, ↓eX0_bringAbout_0, ↓eX0_bringAbout_1, ↓eX0_bringAbout_2, ↓eX0_bringAbout_3, ↓eX0_bringAbout_4, ↓eX0_bringAbout_5, ↓eX0_bringAbout_6, ↓eX0_bringAbout_7, ↓eX0_bringAbout_8, lX0_bringAbout, ent0, entI, entR, entG, ent_n, List.length_cons, List.length_nil, List.replicate, List.cons_append, List.nil_append, Nat.reduceSub, Nat.reduceAdd]
    exact hk _ (FrI.sL (by decide) FrI.rfl') ⟨rfl, fun x _ x4 => by rw [Ml_s, if_neg x4]⟩ (XB_st h (fun q q0 q1 => bit_clr chp ⟨q0, q1⟩))
