/-! the check reads its book through -/
theorem lnk_nxt {prv nxt : Int → Int} {p : Int} : ∀ {l1 l2 : List Int} {pr c : Int}, lnk prv nxt pr c (l1 ++ p :: l2) → lnk prv nxt p (nxt p) l2
  | [], l2, _, _, h => by obtain ⟨rfl, -, h⟩ := h; exact h
  | a :: l1, l2, _, _, h => lnk_nxt (l1 := l1) h.2.2
theorem tl_kid {B : Bk} (ok : okB B) {q a : Int} {l1 l2 : List Int} (h : B.2.1 q = l1 ++ a :: l2) : tlF B a = l2.flatMap (wkF B) ++ tlF B q := by
  obtain ⟨h1, h2⟩ := (ok.2.2.1 q a).mp (by rw [h]; simp)
  have hn := ok.2.2.2.1 q
  rw [h, List.nodup_append] at hn
  rw [tl_eq ok h1, h2, h, aft_split (fun hx => hn.2.2 a hx a (by simp) rfl)]
theorem MB_fr {σ σ' : Mm} {B : Bk} (hi : ∀ a ∈ 1107427809 :: 1124208385 :: scrA, Mi σ' a = Mi σ a) (h : MB σ B) : MB σ' B := by
  unfold MB at h ⊢
  rw [hi 1224868322 (by decide), hi 1241645538 (by decide), hi 1375863265 (by decide), hi 1392640481 (by decide), hi 1325531617 (by decide), hi 1107427809 (by decide), hi 1124208385 (by decide), hi 1258422753 (by decide), hi 1342312193 (by decide), hi 1359089409 (by decide), hi 1308754401 (by decide), hi 1291977185 (by decide), hi 1275199977 (by decide)]
  exact h
abbrev nst (B : Bk) : Int → Bool := fun p => decide (B.1 1 p = 0)
theorem m_readAll {B : Bk} {σ : Mm} {k : Mm → Prop} (hM : MB σ B) (ok : okB B) (h : ∀ σ', Fr [1459749345, 184680536] σ σ' → (∀ f, f ≠ 33 → Mi σ' 184680536 0 f = Mi σ 184680536 0 f) → (Mi σ' 184680536 0 33) = (readL B).length → arL (Mi σ' 1459749345 0) (readL B) → k σ') : OkV 106 [vR 184680536 0] σ k := by
  have hLK := hM.2
  have wk_ne : ∀ p, B.1 0 p = 1 → 1 ≤ (wkF B p).length := fun p hp => by rw [wk_eq ok hp]; simp
  refine okV_loop mkX11_readAll (fun b n ls σ' => Fr [1459749345, 184680536] σ σ' ∧ (∀ f, f ≠ 33 → Mi σ' 184680536 0 f = Mi σ 184680536 0 f) ∧ ∃ (vis rem : List Int) (p : Int) (o : Option Vv), wkL B = vis ++ rem ∧ (Mi σ' 184680536 0 33) = (vis.filter (nst B)).length ∧ arL (Mi σ' 1459749345 0) (vis.filter (nst B)) ∧ ls = [some (vR 184680536 0), some (vI p), o] ∧ (p = -1 ∨ B.1 0 p = 1 ∧ (B.1 2 p = -1 ∨ sn B (B.1 2 p))) ∧
    ((b = 1001 ∧ n = 200 * rem.length + 100 ∧ (p = -1 ∧ rem = [] ∨ B.1 0 p = 1 ∧ rem = wkF B p ++ tlF B p)) ∨
     (b = 1003 ∧ n = 200 * rem.length + 101 + chl (B.1 2) 60 p ∧ rem = tlF B p))) (Nat.le_of_ble_eq_true rfl) (fun K hK => ?_) (fun b n ls σ' hI K hK => ?_)
  · simp only [↓kI_e, ↓kL_e, ↓kR_e, ↓kV_e, ↓x1, ↓x2, ↓x4, ↓x5, ↓x6, ↓x7, ↓x8, ↓x9, ↓x10, ↓x11, ↓x12, ↓x13, ↓x17, ↓x18, ↓x19, ↓x20, ↓x21, ↓x22, ↓x14, ↓x15, ↓x23, ↓x24, ↓x25, ↓x26, ↓x27, ↓x28, ↓x29, ↓x30, ↓x31, ↓x32, ↓x33, ↓x34, ↓x35i, ↓x35r, ↓x36, ↓x37, ↓x38, ↓x39, ↓x40, ↓x41, ↓x72, ↓x42, ↓x43, ↓x44, ↓x45, ↓x46, ↓x47, ↓x48, ↓x50, ↓x51, ↓x52, ↓x53, ↓x54, ↓x55_0, ↓x56_0, ↓x55_1, ↓x56_1, ↓x55_2, ↓x56_2, ↓x55_3, ↓x56_3, ↓x55_4, ↓x56_4, ↓x55_5, ↓x56_5, ↓x57, ↓x58, ↓x59, ↓x60, ↓x61, ↓x62, ↓x63, ↓x64, ↓x65, ↓x75, ↓x67, ↓x77, ↓x68, ↓x78, ↓x69, ↓x79, ↓x70, ↓x73, ↓x74, ↓ldI_0, ↓ldG_0, ↓ldR_0, ↓stK_0, ↓stK2_0, ↓ldI_1, ↓ldG_1, ↓ldR_1, ↓stK_1I, ↓stK_1R, ↓stK_1N, ↓stK_1G, ↓stK2_1I, ↓stK2_1R, ↓stK2_1N, ↓stK2_1G, ↓ldI_2, ↓ldG_2, ↓ldR_2, ↓stK_2I, ↓stK_2R, ↓stK_2N, ↓stK_2G, ↓stK2_2I, ↓stK2_2R, ↓stK2_2N, ↓stK2_2G, ↓ldI_3, ↓ldG_3, ↓ldR_3, ↓stK_3I, ↓stK_3R, ↓stK_3N, ↓stK_3G, ↓stK2_3I, ↓stK2_3R, ↓stK2_3N, ↓stK2_3G, ↓ldI_4, ↓ldG_4, ↓ldR_4, ↓stK_4I, ↓stK_4R, ↓stK_4N, ↓stK_4G, ↓stK2_4I, ↓stK2_4R, ↓stK2_4N, ↓stK2_4G, ↓ldI_5, ↓ldG_5, ↓ldR_5, ↓stK_5I, ↓stK_5R, ↓stK_5N, ↓stK_5G, ↓stK2_5I, ↓stK2_5R, ↓stK2_5N, ↓stK2_5G, ↓ldI_6, ↓ldG_6, ↓ldR_6, ↓stK_6I, ↓stK_6R, ↓stK_6N, ↓stK_6G, ↓stK2_6I, ↓stK2_6R, ↓stK2_6N, ↓stK2_6G, ↓ldI_7, ↓ldG_7, ↓ldR_7, ↓stK_7I, ↓stK_7R, ↓stK_7N, ↓stK_7G, ↓stK2_7I, ↓stK2_7R, ↓stK2_7N, ↓stK2_7G, ↓ldI_8, ↓ldG_8, ↓ldR_8, ↓stK_8I, ↓stK_8R, ↓stK_8N, ↓stK_8G, ↓stK2_8I, ↓stK2_8R, ↓stK2_8N, ↓stK2_8G, ↓ldI_9, ↓ldG_9, ↓ldR_9, ↓stK_9I, ↓stK_9R, ↓stK_9N, ↓stK_9G, ↓stK2_9I, ↓stK2_9R, ↓stK2_9N, ↓stK2_9G, ↓ldI_10, ↓ldG_10, ↓ldR_10, ↓stK_10I, ↓stK_10R, ↓stK_10N, ↓stK_10G, ↓stK2_10I, ↓stK2_10R, ↓stK2_10N, ↓stK2_10G, ↓ldI_11, ↓ldG_11, ↓ldR_11, ↓stK_11I, ↓stK_11R, ↓stK_11N, ↓stK_11G, ↓stK2_11I, ↓stK2_11R, ↓stK2_11N, ↓stK2_11G, ↓ldI_12, ↓ldG_12, ↓ldR_12, ↓stK_12I, ↓stK_12R, ↓stK_12N, ↓stK_12G, ↓stK2_12I, ↓stK2_12R, ↓stK2_12N, ↓stK2_12G, ↓pN_0, ↓pN_1, ↓pN_2, ↓pN_3, ↓pN_4, ↓pN_5, ↓pN_6, ↓pN_7, ↓ctI_e, ↓ctL_e, ↓ctR_e, ↓ctV_e, ↓tsK_n, ↓tsK_c, ↓go_K, ↓go_X, csum_n, csum_I, csum_R, csum_G, hdCls_r, isCls, elemR, rg_x_pads, rg_log_words, rg_row_pads, rg_row_words, rg_row_led, alen, IR, Nat.reduceMod, Nat.reduceDiv, Nat.reduceSub, Nat.reduceAdd, Nat.reduceLeDiff, Nat.reduceEqDiff, Nat.reduceLT, Int.reduceLE, Int.reduceLT, Int.reduceEq, Int.reduceNe, Int.reduceAdd, Int.reduceSub, Int.reduceNeg, Int.reduceMul, ne_eq, not_true_eq_false, not_false_eq_true, true_and, and_true, false_and, and_false, true_or, or_true, false_or, or_false, and_self, or_self, true_implies, forall_const, false_implies, implies_true, reduceIte, reduceCtorEq, eq_self, Int.le_refl, Nat.le_refl, Int.reduceNatCast, Int.cast_ofNat_Int, ↓eX11_readAll_0, ↓eX11_readAll_1, ↓eX11_readAll_2, ↓eX11_readAll_3, ↓eX11_readAll_4, ↓eX11_readAll_5, ↓eX11_readAll_6, ↓eX11_readAll_7, ↓eX11_readAll_8, lX11_readAll, ent0, entI, entR, entG, ent_n, List.length_cons, List.length_nil, List.replicate, List.cons_append, List.nil_append, Nat.reduceSub, Nat.reduceAdd]
    rw [Mi_n rfl]
    have h0 := hLK (-1) (by omega) (by omega)
    refine hK _ _ _ _ (by decide) ⟨Fr.sI (by decide) Fr.rfl', fun f hf => by rw [Mi_s, upd1_n hf], [], wkL B, _, _, rfl, by rw [Mi_s, upd1_s]; rfl, fun i x hx => by simp at hx, rfl, ?_, Or.inl ⟨rfl, rfl, ?_⟩⟩
    · rcases lnk_head h0 with e | e
      · exact Or.inl e
      · obtain ⟨e1, e2⟩ := (ok.2.2.1 _ _).mp e
        exact Or.inr ⟨e1, Or.inl e2⟩
    · cases hk : B.2.1 (-1) with
      | nil => rw [hk] at h0; exact Or.inl ⟨h0, by simp [wkL, hk]⟩
      | cons a l =>
        rw [hk] at h0
        have ha : (Mi σ 1275199977 0) 60 = a := h0.1
        refine Or.inr ⟨?_, ?_⟩
        · rw [ha]; exact ((ok.2.2.1 (-1) a).mp (by rw [hk]; simp)).1
        · rw [ha, tl_kid (l1 := []) ok hk, tl_m1, List.append_nil, wkL, hk, List.flatMap_cons]
  · obtain ⟨hF, hf, vis, rem, p, o, hw, hm, har, rfl, hp, hI⟩ := hI
    have fr := fun (a : Nat) (ha : List.contains [1459749345, 184680536] a = false) => hF.i a ha
    have hM' : MB σ' B := MB_fr (fun a ha => fr a (by revert a ha; decide)) hM
    have hfl : (vis.filter (nst B)).length + (rem.filter (nst B)).length ≤ 60 := by
      have := readL_len ok
      unfold readL at this
      rw [hw, List.filter_append, List.length_append] at this
      exact this
    rcases hI with ⟨rfl, rfl, hI⟩ | ⟨rfl, rfl, hI⟩
    · simp only [↓kI_e, ↓kL_e, ↓kR_e, ↓kV_e, ↓x1, ↓x2, ↓x4, ↓x5, ↓x6, ↓x7, ↓x8, ↓x9, ↓x10, ↓x11, ↓x12, ↓x13, ↓x17, ↓x18, ↓x19, ↓x20, ↓x21, ↓x22, ↓x14, ↓x15, ↓x23, ↓x24, ↓x25, ↓x26, ↓x27, ↓x28, ↓x29, ↓x30, ↓x31, ↓x32, ↓x33, ↓x34, ↓x35i, ↓x35r, ↓x36, ↓x37, ↓x38, ↓x39, ↓x40, ↓x41, ↓x72, ↓x42, ↓x43, ↓x44, ↓x45, ↓x46, ↓x47, ↓x48, ↓x50, ↓x51, ↓x52, ↓x53, ↓x54, ↓x55_0, ↓x56_0, ↓x55_1, ↓x56_1, ↓x55_2, ↓x56_2, ↓x55_3, ↓x56_3, ↓x55_4, ↓x56_4, ↓x55_5, ↓x56_5, ↓x57, ↓x58, ↓x59, ↓x60, ↓x61, ↓x62, ↓x63, ↓x64, ↓x65, ↓x75, ↓x67, ↓x77, ↓x68, ↓x78, ↓x69, ↓x79, ↓x70, ↓x73, ↓x74, ↓ldI_0, ↓ldG_0, ↓ldR_0, ↓stK_0, ↓stK2_0, ↓ldI_1, ↓ldG_1, ↓ldR_1, ↓stK_1I, ↓stK_1R, ↓stK_1N, ↓stK_1G, ↓stK2_1I, ↓stK2_1R, ↓stK2_1N, ↓stK2_1G, ↓ldI_2, ↓ldG_2, ↓ldR_2, ↓stK_2I, ↓stK_2R, ↓stK_2N, ↓stK_2G, ↓stK2_2I, ↓stK2_2R, ↓stK2_2N, ↓stK2_2G, ↓ldI_3, ↓ldG_3, ↓ldR_3, ↓stK_3I, ↓stK_3R, ↓stK_3N, ↓stK_3G, ↓stK2_3I, ↓stK2_3R, ↓stK2_3N, ↓stK2_3G, ↓ldI_4, ↓ldG_4, ↓ldR_4, ↓stK_4I, ↓stK_4R, ↓stK_4N, ↓stK_4G, ↓stK2_4I, ↓stK2_4R, ↓stK2_4N, ↓stK2_4G, ↓ldI_5, ↓ldG_5, ↓ldR_5, ↓stK_5I, ↓stK_5R, ↓stK_5N, ↓stK_5G, ↓stK2_5I, ↓stK2_5R, ↓stK2_5N, ↓stK2_5G, ↓ldI_6, ↓ldG_6, ↓ldR_6, ↓stK_6I, ↓stK_6R, ↓stK_6N, ↓stK_6G, ↓stK2_6I, ↓stK2_6R, ↓stK2_6N, ↓stK2_6G, ↓ldI_7, ↓ldG_7, ↓ldR_7, ↓stK_7I, ↓stK_7R, ↓stK_7N, ↓stK_7G, ↓stK2_7I, ↓stK2_7R, ↓stK2_7N, ↓stK2_7G, ↓ldI_8, ↓ldG_8, ↓ldR_8, ↓stK_8I, ↓stK_8R, ↓stK_8N, ↓stK_8G, ↓stK2_8I, ↓stK2_8R, ↓stK2_8N, ↓stK2_8G, ↓ldI_9, ↓ldG_9, ↓ldR_9, ↓stK_9I, ↓stK_9R, ↓stK_9N, ↓stK_9G, ↓stK2_9I, ↓stK2_9R, ↓stK2_9N, ↓stK2_9G, ↓ldI_10, ↓ldG_10, ↓ldR_10, ↓stK_10I, ↓stK_10R, ↓stK_10N, ↓stK_10G, ↓stK2_10I, ↓stK2_10R, ↓stK2_10N, ↓stK2_10G, ↓ldI_11, ↓ldG_11, ↓ldR_11, ↓stK_11I, ↓stK_11R, ↓stK_11N, ↓stK_11G, ↓stK2_11I, ↓stK2_11R, ↓stK2_11N, ↓stK2_11G, ↓ldI_12, ↓ldG_12, ↓ldR_12, ↓stK_12I, ↓stK_12R, ↓stK_12N, ↓stK_12G, ↓stK2_12I, ↓stK2_12R, ↓stK2_12N, ↓stK2_12G, ↓pN_0, ↓pN_1, ↓pN_2, ↓pN_3, ↓pN_4, ↓pN_5, ↓pN_6, ↓pN_7, ↓ctI_e, ↓ctL_e, ↓ctR_e, ↓ctV_e, ↓tsK_n, ↓tsK_c, ↓go_K, ↓go_X, csum_n, csum_I, csum_R, csum_G, hdCls_r, isCls, elemR, rg_x_pads, rg_log_words, rg_row_pads, rg_row_words, rg_row_led, alen, IR, Nat.reduceMod, Nat.reduceDiv, Nat.reduceSub, Nat.reduceAdd, Nat.reduceLeDiff, Nat.reduceEqDiff, Nat.reduceLT, Int.reduceLE, Int.reduceLT, Int.reduceEq, Int.reduceNe, Int.reduceAdd, Int.reduceSub, Int.reduceNeg, Int.reduceMul, ne_eq, not_true_eq_false, not_false_eq_true, true_and, and_true, false_and, and_false, true_or, or_true, false_or, or_false, and_self, or_self, true_implies, forall_const, false_implies, implies_true, reduceIte, reduceCtorEq, eq_self, Int.le_refl, Nat.le_refl, Int.reduceNatCast, Int.cast_ofNat_Int, ↓eX11_readAll_0, ↓eX11_readAll_1, ↓eX11_readAll_2, ↓eX11_readAll_3, ↓eX11_readAll_4, ↓eX11_readAll_5, ↓eX11_readAll_6, ↓eX11_readAll_7, ↓eX11_readAll_8, lX11_readAll, ent0, entI, entR, entG, ent_n, List.length_cons, List.length_nil, List.replicate, List.cons_append, List.nil_append, Nat.reduceSub, Nat.reduceAdd]
      rcases hI with ⟨rfl, rfl⟩ | ⟨hp1, hI⟩
      · refine ⟨(by first | omega | (unfold IR; omega)), fun _ => ?_, fun c => by omega⟩
        rw [List.append_nil] at hw
        refine h _ hF hf ?_ ?_
        · rw [hm]; unfold readL; rw [hw]
        · unfold readL; rw [hw]; exact har
      · have hr := ok.2.1 p hp1
        rw [wk_eq ok hp1, List.cons_append] at hI
        have hp2 : B.1 2 p = -1 ∨ sn B (B.1 2 p) := by
          rcases hp with e | e
          · omega
          · exact e.2
        have hpr := lnk_head (hLK p (by omega) (by omega))
        rw [show hol p = p from if_neg (by omega)] at hpr
        have kr : ∀ x ∈ B.2.1 p, 0 ≤ x ∧ x < 60 := fun x hx => ok.2.1 x ((ok.2.2.1 p x).mp hx).1
        have cle := chl_le (par := B.1 2) (d := 60) (p := p)
        refine ⟨(by first | omega | (unfold IR; omega)), fun c => by omega, fun _ => m_isSeenB hM' ok hr (fun hs => ?_) (fun hs => ?_)⟩
        · have hst := ((sn_iff ok hp1).mp hs).1
          rw [if_pos hst] at hI
          subst hI
          rw [List.filter_cons, if_pos (by simpa using hst), List.length_cons] at hfl
          simp only [↓kI_e, ↓kL_e, ↓kR_e, ↓kV_e, ↓x1, ↓x2, ↓x4, ↓x5, ↓x6, ↓x7, ↓x8, ↓x9, ↓x10, ↓x11, ↓x12, ↓x13, ↓x17, ↓x18, ↓x19, ↓x20, ↓x21, ↓x22, ↓x14, ↓x15, ↓x23, ↓x24, ↓x25, ↓x26, ↓x27, ↓x28, ↓x29, ↓x30, ↓x31, ↓x32, ↓x33, ↓x34, ↓x35i, ↓x35r, ↓x36, ↓x37, ↓x38, ↓x39, ↓x40, ↓x41, ↓x72, ↓x42, ↓x43, ↓x44, ↓x45, ↓x46, ↓x47, ↓x48, ↓x50, ↓x51, ↓x52, ↓x53, ↓x54, ↓x55_0, ↓x56_0, ↓x55_1, ↓x56_1, ↓x55_2, ↓x56_2, ↓x55_3, ↓x56_3, ↓x55_4, ↓x56_4, ↓x55_5, ↓x56_5, ↓x57, ↓x58, ↓x59, ↓x60, ↓x61, ↓x62, ↓x63, ↓x64, ↓x65, ↓x75, ↓x67, ↓x77, ↓x68, ↓x78, ↓x69, ↓x79, ↓x70, ↓x73, ↓x74, ↓ldI_0, ↓ldG_0, ↓ldR_0, ↓stK_0, ↓stK2_0, ↓ldI_1, ↓ldG_1, ↓ldR_1, ↓stK_1I, ↓stK_1R, ↓stK_1N, ↓stK_1G, ↓stK2_1I, ↓stK2_1R, ↓stK2_1N, ↓stK2_1G, ↓ldI_2, ↓ldG_2, ↓ldR_2, ↓stK_2I, ↓stK_2R, ↓stK_2N, ↓stK_2G, ↓stK2_2I, ↓stK2_2R, ↓stK2_2N, ↓stK2_2G, ↓ldI_3, ↓ldG_3, ↓ldR_3, ↓stK_3I, ↓stK_3R, ↓stK_3N, ↓stK_3G, ↓stK2_3I, ↓stK2_3R, ↓stK2_3N, ↓stK2_3G, ↓ldI_4, ↓ldG_4, ↓ldR_4, ↓stK_4I, ↓stK_4R, ↓stK_4N, ↓stK_4G, ↓stK2_4I, ↓stK2_4R, ↓stK2_4N, ↓stK2_4G, ↓ldI_5, ↓ldG_5, ↓ldR_5, ↓stK_5I, ↓stK_5R, ↓stK_5N, ↓stK_5G, ↓stK2_5I, ↓stK2_5R, ↓stK2_5N, ↓stK2_5G, ↓ldI_6, ↓ldG_6, ↓ldR_6, ↓stK_6I, ↓stK_6R, ↓stK_6N, ↓stK_6G, ↓stK2_6I, ↓stK2_6R, ↓stK2_6N, ↓stK2_6G, ↓ldI_7, ↓ldG_7, ↓ldR_7, ↓stK_7I, ↓stK_7R, ↓stK_7N, ↓stK_7G, ↓stK2_7I, ↓stK2_7R, ↓stK2_7N, ↓stK2_7G, ↓ldI_8, ↓ldG_8, ↓ldR_8, ↓stK_8I, ↓stK_8R, ↓stK_8N, ↓stK_8G, ↓stK2_8I, ↓stK2_8R, ↓stK2_8N, ↓stK2_8G, ↓ldI_9, ↓ldG_9, ↓ldR_9, ↓stK_9I, ↓stK_9R, ↓stK_9N, ↓stK_9G, ↓stK2_9I, ↓stK2_9R, ↓stK2_9N, ↓stK2_9G, ↓ldI_10, ↓ldG_10, ↓ldR_10, ↓stK_10I, ↓stK_10R, ↓stK_10N, ↓stK_10G, ↓stK2_10I, ↓stK2_10R, ↓stK2_10N, ↓stK2_10G, ↓ldI_11, ↓ldG_11, ↓ldR_11, ↓stK_11I, ↓stK_11R, ↓stK_11N, ↓stK_11G, ↓stK2_11I, ↓stK2_11R, ↓stK2_11N, ↓stK2_11G, ↓ldI_12, ↓ldG_12, ↓ldR_12, ↓stK_12I, ↓stK_12R, ↓stK_12N, ↓stK_12G, ↓stK2_12I, ↓stK2_12R, ↓stK2_12N, ↓stK2_12G, ↓pN_0, ↓pN_1, ↓pN_2, ↓pN_3, ↓pN_4, ↓pN_5, ↓pN_6, ↓pN_7, ↓ctI_e, ↓ctL_e, ↓ctR_e, ↓ctV_e, ↓tsK_n, ↓tsK_c, ↓go_K, ↓go_X, csum_n, csum_I, csum_R, csum_G, hdCls_r, isCls, elemR, rg_x_pads, rg_log_words, rg_row_pads, rg_row_words, rg_row_led, alen, IR, Nat.reduceMod, Nat.reduceDiv, Nat.reduceSub, Nat.reduceAdd, Nat.reduceLeDiff, Nat.reduceEqDiff, Nat.reduceLT, Int.reduceLE, Int.reduceLT, Int.reduceEq, Int.reduceNe, Int.reduceAdd, Int.reduceSub, Int.reduceNeg, Int.reduceMul, ne_eq, not_true_eq_false, not_false_eq_true, true_and, and_true, false_and, and_false, true_or, or_true, false_or, or_false, and_self, or_self, true_implies, forall_const, false_implies, implies_true, reduceIte, reduceCtorEq, eq_self, Int.le_refl, Nat.le_refl, Int.reduceNatCast, Int.cast_ofNat_Int, ↓eX11_readAll_0, ↓eX11_readAll_1, ↓eX11_readAll_2, ↓eX11_readAll_3, ↓eX11_readAll_4, ↓eX11_readAll_5, ↓eX11_readAll_6, ↓eX11_readAll_7, ↓eX11_readAll_8, lX11_readAll, ent0, entI, entR, entG, ent_n, List.length_cons, List.length_nil, List.replicate, List.cons_append, List.nil_append, Nat.reduceSub, Nat.reduceAdd]
          have e1 : Mi (sI σ' 1459749345 0 ((Mi σ' 184680536 0 33)) p) 1275199977 = Mi σ 1275199977 := by rw [Mi_n rfl, fr 1275199977 rfl]
          have e2 : Mi (sI σ' 1459749345 0 ((Mi σ' 184680536 0 33)) p) 184680536 = Mi σ' 184680536 := Mi_n rfl
          rw [Mi_n rfl, e1, e2, hm]
          -- the state behind the visit
          have ev : ∀ rem', (p :: rem') = (p :: ((B.2.1 p).flatMap (wkF B) ++ tlF B p)) → wkL B = (vis ++ [p]) ++ rem' := fun rem' e => by rw [hw, ← e]; simp
          have evf : (vis ++ [p]).filter (nst B) = vis.filter (nst B) ++ [p] := by rw [List.filter_append]; congr 1; simp [nst, hst]
          have st : Fr [1459749345, 184680536] σ (sI (sI σ' 1459749345 0 ((vis.filter (nst B)).length) p) 184680536 0 33 (((vis.filter (nst B)).length : Int) + 1)) := Fr.sI (by decide) (Fr.sI (by decide) hF)
          have st2 : ∀ f, f ≠ 33 → Mi (sI (sI σ' 1459749345 0 ((vis.filter (nst B)).length) p) 184680536 0 33 (((vis.filter (nst B)).length : Int) + 1)) 184680536 0 f = Mi σ 184680536 0 f := fun f hff => by rw [Mi_s, upd1_n hff, Mi_n rfl]; exact hf f hff
          have st3 : Mi (sI (sI σ' 1459749345 0 ((vis.filter (nst B)).length) p) 184680536 0 33 (((vis.filter (nst B)).length : Int) + 1)) 184680536 0 33 = ((vis ++ [p]).filter (nst B)).length := by rw [Mi_s, upd1_s, evf]; simp
          have st4 : arL (Mi (sI (sI σ' 1459749345 0 ((vis.filter (nst B)).length) p) 184680536 0 33 (((vis.filter (nst B)).length : Int) + 1)) 1459749345 0) ((vis ++ [p]).filter (nst B)) := by
            rw [Mi_n rfl, Mi_s, evf]
            intro i x hx
            rw [upd1_e]
            by_cases hi : i < (vis.filter (nst B)).length
            · rw [List.getElem?_append_left hi] at hx
              rw [if_neg (by omega)]
              exact har i x hx
            · rw [List.getElem?_append_right (by omega)] at hx
              have : i = (vis.filter (nst B)).length := by
                have := (List.getElem?_eq_some_iff.mp hx).1
                simp at this; omega
              subst this
              rw [if_pos rfl]
              simpa using hx
          generalize sI (sI σ' 1459749345 0 ((vis.filter (nst B)).length) p) 184680536 0 33 (((vis.filter (nst B)).length : Int) + 1) = σ2 at st st2 st3 st4 ⊢
          have hk := hLK p (by omega) (by omega)
          rw [show hol p = p from if_neg (by omega)] at hk
          refine ⟨(by first | omega | (unfold IR; omega)), by omega, ?_, fun c => ?_, fun c => ⟨by omega, ?_⟩⟩
          · rcases hpr with e | e
            · rw [e]
              exact (by first | omega | (unfold IR; omega))
            · have := kr _ e
              exact (by first | omega | (unfold IR; omega))
          · have hkn : B.2.1 p = [] := by
              rcases hpr with e | e
              · cases hk2 : B.2.1 p with
                | nil => rfl
                | cons a l => rw [hk2] at hk; have := kr a (by rw [hk2]; simp); have := hk.1; omega
              · have := kr _ e; omega
            refine hK _ _ _ _ (by decide) ?_ ⟨st, st2, vis ++ [p], tlF B p, p, _, ev _ (by rw [hkn]; rfl), st3, st4, rfl, hp, Or.inr ⟨rfl, rfl, rfl⟩⟩
            rw [hkn]
            simp
            omega
          · cases hk2 : B.2.1 p with
            | nil => rw [hk2] at hk; have : (Mi σ 1275199977 0) p = -1 := hk; omega
            | cons a l =>
              rw [hk2] at hk
              have ha := hk.1
              obtain ⟨a1, a2⟩ := (ok.2.2.1 p a).mp (by rw [hk2]; simp)
              have ew : ((a :: l).flatMap (wkF B)) ++ tlF B p = wkF B a ++ tlF B a := by rw [tl_kid (l1 := []) ok hk2, List.flatMap_cons, List.append_assoc]
              rw [ha]
              refine hK _ _ _ _ (by decide) ?_ ⟨st, st2, vis ++ [p], wkF B a ++ tlF B a, a, _, ev _ (by rw [hk2, ew]), st3, st4, rfl, Or.inr ⟨a1, Or.inr (by rw [a2]; exact hs)⟩, Or.inl ⟨rfl, rfl, Or.inr ⟨a1, rfl⟩⟩⟩
              rw [List.length_cons, hk2, ew]
              omega
        · have hst : B.1 1 p ≠ 0 := fun e => hs ((sn_iff ok hp1).mpr ⟨e, hp2⟩)
          rw [if_neg hst] at hI
          subst hI
          simp only [↓kI_e, ↓kL_e, ↓kR_e, ↓kV_e, ↓x1, ↓x2, ↓x4, ↓x5, ↓x6, ↓x7, ↓x8, ↓x9, ↓x10, ↓x11, ↓x12, ↓x13, ↓x17, ↓x18, ↓x19, ↓x20, ↓x21, ↓x22, ↓x14, ↓x15, ↓x23, ↓x24, ↓x25, ↓x26, ↓x27, ↓x28, ↓x29, ↓x30, ↓x31, ↓x32, ↓x33, ↓x34, ↓x35i, ↓x35r, ↓x36, ↓x37, ↓x38, ↓x39, ↓x40, ↓x41, ↓x72, ↓x42, ↓x43, ↓x44, ↓x45, ↓x46, ↓x47, ↓x48, ↓x50, ↓x51, ↓x52, ↓x53, ↓x54, ↓x55_0, ↓x56_0, ↓x55_1, ↓x56_1, ↓x55_2, ↓x56_2, ↓x55_3, ↓x56_3, ↓x55_4, ↓x56_4, ↓x55_5, ↓x56_5, ↓x57, ↓x58, ↓x59, ↓x60, ↓x61, ↓x62, ↓x63, ↓x64, ↓x65, ↓x75, ↓x67, ↓x77, ↓x68, ↓x78, ↓x69, ↓x79, ↓x70, ↓x73, ↓x74, ↓ldI_0, ↓ldG_0, ↓ldR_0, ↓stK_0, ↓stK2_0, ↓ldI_1, ↓ldG_1, ↓ldR_1, ↓stK_1I, ↓stK_1R, ↓stK_1N, ↓stK_1G, ↓stK2_1I, ↓stK2_1R, ↓stK2_1N, ↓stK2_1G, ↓ldI_2, ↓ldG_2, ↓ldR_2, ↓stK_2I, ↓stK_2R, ↓stK_2N, ↓stK_2G, ↓stK2_2I, ↓stK2_2R, ↓stK2_2N, ↓stK2_2G, ↓ldI_3, ↓ldG_3, ↓ldR_3, ↓stK_3I, ↓stK_3R, ↓stK_3N, ↓stK_3G, ↓stK2_3I, ↓stK2_3R, ↓stK2_3N, ↓stK2_3G, ↓ldI_4, ↓ldG_4, ↓ldR_4, ↓stK_4I, ↓stK_4R, ↓stK_4N, ↓stK_4G, ↓stK2_4I, ↓stK2_4R, ↓stK2_4N, ↓stK2_4G, ↓ldI_5, ↓ldG_5, ↓ldR_5, ↓stK_5I, ↓stK_5R, ↓stK_5N, ↓stK_5G, ↓stK2_5I, ↓stK2_5R, ↓stK2_5N, ↓stK2_5G, ↓ldI_6, ↓ldG_6, ↓ldR_6, ↓stK_6I, ↓stK_6R, ↓stK_6N, ↓stK_6G, ↓stK2_6I, ↓stK2_6R, ↓stK2_6N, ↓stK2_6G, ↓ldI_7, ↓ldG_7, ↓ldR_7, ↓stK_7I, ↓stK_7R, ↓stK_7N, ↓stK_7G, ↓stK2_7I, ↓stK2_7R, ↓stK2_7N, ↓stK2_7G, ↓ldI_8, ↓ldG_8, ↓ldR_8, ↓stK_8I, ↓stK_8R, ↓stK_8N, ↓stK_8G, ↓stK2_8I, ↓stK2_8R, ↓stK2_8N, ↓stK2_8G, ↓ldI_9, ↓ldG_9, ↓ldR_9, ↓stK_9I, ↓stK_9R, ↓stK_9N, ↓stK_9G, ↓stK2_9I, ↓stK2_9R, ↓stK2_9N, ↓stK2_9G, ↓ldI_10, ↓ldG_10, ↓ldR_10, ↓stK_10I, ↓stK_10R, ↓stK_10N, ↓stK_10G, ↓stK2_10I, ↓stK2_10R, ↓stK2_10N, ↓stK2_10G, ↓ldI_11, ↓ldG_11, ↓ldR_11, ↓stK_11I, ↓stK_11R, ↓stK_11N, ↓stK_11G, ↓stK2_11I, ↓stK2_11R, ↓stK2_11N, ↓stK2_11G, ↓ldI_12, ↓ldG_12, ↓ldR_12, ↓stK_12I, ↓stK_12R, ↓stK_12N, ↓stK_12G, ↓stK2_12I, ↓stK2_12R, ↓stK2_12N, ↓stK2_12G, ↓pN_0, ↓pN_1, ↓pN_2, ↓pN_3, ↓pN_4, ↓pN_5, ↓pN_6, ↓pN_7, ↓ctI_e, ↓ctL_e, ↓ctR_e, ↓ctV_e, ↓tsK_n, ↓tsK_c, ↓go_K, ↓go_X, csum_n, csum_I, csum_R, csum_G, hdCls_r, isCls, elemR, rg_x_pads, rg_log_words, rg_row_pads, rg_row_words, rg_row_led, alen, IR, Nat.reduceMod, Nat.reduceDiv, Nat.reduceSub, Nat.reduceAdd, Nat.reduceLeDiff, Nat.reduceEqDiff, Nat.reduceLT, Int.reduceLE, Int.reduceLT, Int.reduceEq, Int.reduceNe, Int.reduceAdd, Int.reduceSub, Int.reduceNeg, Int.reduceMul, ne_eq, not_true_eq_false, not_false_eq_true, true_and, and_true, false_and, and_false, true_or, or_true, false_or, or_false, and_self, or_self, true_implies, forall_const, false_implies, implies_true, reduceIte, reduceCtorEq, eq_self, Int.le_refl, Nat.le_refl, Int.reduceNatCast, Int.cast_ofNat_Int, ↓eX11_readAll_0, ↓eX11_readAll_1, ↓eX11_readAll_2, ↓eX11_readAll_3, ↓eX11_readAll_4, ↓eX11_readAll_5, ↓eX11_readAll_6, ↓eX11_readAll_7, ↓eX11_readAll_8, lX11_readAll, ent0, entI, entR, entG, ent_n, List.length_cons, List.length_nil, List.replicate, List.cons_append, List.nil_append, Nat.reduceSub, Nat.reduceAdd]
          refine hK _ _ _ _ (by decide) ?_ ⟨hF, hf, vis ++ [p], tlF B p, p, _, by rw [hw]; simp, by rw [List.filter_append]; simp [nst, hst, hm], by rw [List.filter_append]; simp [nst, hst]; exact har, rfl, hp, Or.inr ⟨rfl, rfl, rfl⟩⟩
          simp
          omega
    · simp only [↓kI_e, ↓kL_e, ↓kR_e, ↓kV_e, ↓x1, ↓x2, ↓x4, ↓x5, ↓x6, ↓x7, ↓x8, ↓x9, ↓x10, ↓x11, ↓x12, ↓x13, ↓x17, ↓x18, ↓x19, ↓x20, ↓x21, ↓x22, ↓x14, ↓x15, ↓x23, ↓x24, ↓x25, ↓x26, ↓x27, ↓x28, ↓x29, ↓x30, ↓x31, ↓x32, ↓x33, ↓x34, ↓x35i, ↓x35r, ↓x36, ↓x37, ↓x38, ↓x39, ↓x40, ↓x41, ↓x72, ↓x42, ↓x43, ↓x44, ↓x45, ↓x46, ↓x47, ↓x48, ↓x50, ↓x51, ↓x52, ↓x53, ↓x54, ↓x55_0, ↓x56_0, ↓x55_1, ↓x56_1, ↓x55_2, ↓x56_2, ↓x55_3, ↓x56_3, ↓x55_4, ↓x56_4, ↓x55_5, ↓x56_5, ↓x57, ↓x58, ↓x59, ↓x60, ↓x61, ↓x62, ↓x63, ↓x64, ↓x65, ↓x75, ↓x67, ↓x77, ↓x68, ↓x78, ↓x69, ↓x79, ↓x70, ↓x73, ↓x74, ↓ldI_0, ↓ldG_0, ↓ldR_0, ↓stK_0, ↓stK2_0, ↓ldI_1, ↓ldG_1, ↓ldR_1, ↓stK_1I, ↓stK_1R, ↓stK_1N, ↓stK_1G, ↓stK2_1I, ↓stK2_1R, ↓stK2_1N, ↓stK2_1G, ↓ldI_2, ↓ldG_2, ↓ldR_2, ↓stK_2I, ↓stK_2R, ↓stK_2N, ↓stK_2G, ↓stK2_2I, ↓stK2_2R, ↓stK2_2N, ↓stK2_2G, ↓ldI_3, ↓ldG_3, ↓ldR_3, ↓stK_3I, ↓stK_3R, ↓stK_3N, ↓stK_3G, ↓stK2_3I, ↓stK2_3R, ↓stK2_3N, ↓stK2_3G, ↓ldI_4, ↓ldG_4, ↓ldR_4, ↓stK_4I, ↓stK_4R, ↓stK_4N, ↓stK_4G, ↓stK2_4I, ↓stK2_4R, ↓stK2_4N, ↓stK2_4G, ↓ldI_5, ↓ldG_5, ↓ldR_5, ↓stK_5I, ↓stK_5R, ↓stK_5N, ↓stK_5G, ↓stK2_5I, ↓stK2_5R, ↓stK2_5N, ↓stK2_5G, ↓ldI_6, ↓ldG_6, ↓ldR_6, ↓stK_6I, ↓stK_6R, ↓stK_6N, ↓stK_6G, ↓stK2_6I, ↓stK2_6R, ↓stK2_6N, ↓stK2_6G, ↓ldI_7, ↓ldG_7, ↓ldR_7, ↓stK_7I, ↓stK_7R, ↓stK_7N, ↓stK_7G, ↓stK2_7I, ↓stK2_7R, ↓stK2_7N, ↓stK2_7G, ↓ldI_8, ↓ldG_8, ↓ldR_8, ↓stK_8I, ↓stK_8R, ↓stK_8N, ↓stK_8G, ↓stK2_8I, ↓stK2_8R, ↓stK2_8N, ↓stK2_8G, ↓ldI_9, ↓ldG_9, ↓ldR_9, ↓stK_9I, ↓stK_9R, ↓stK_9N, ↓stK_9G, ↓stK2_9I, ↓stK2_9R, ↓stK2_9N, ↓stK2_9G, ↓ldI_10, ↓ldG_10, ↓ldR_10, ↓stK_10I, ↓stK_10R, ↓stK_10N, ↓stK_10G, ↓stK2_10I, ↓stK2_10R, ↓stK2_10N, ↓stK2_10G, ↓ldI_11, ↓ldG_11, ↓ldR_11, ↓stK_11I, ↓stK_11R, ↓stK_11N, ↓stK_11G, ↓stK2_11I, ↓stK2_11R, ↓stK2_11N, ↓stK2_11G, ↓ldI_12, ↓ldG_12, ↓ldR_12, ↓stK_12I, ↓stK_12R, ↓stK_12N, ↓stK_12G, ↓stK2_12I, ↓stK2_12R, ↓stK2_12N, ↓stK2_12G, ↓pN_0, ↓pN_1, ↓pN_2, ↓pN_3, ↓pN_4, ↓pN_5, ↓pN_6, ↓pN_7, ↓ctI_e, ↓ctL_e, ↓ctR_e, ↓ctV_e, ↓tsK_n, ↓tsK_c, ↓go_K, ↓go_X, csum_n, csum_I, csum_R, csum_G, hdCls_r, isCls, elemR, rg_x_pads, rg_log_words, rg_row_pads, rg_row_words, rg_row_led, alen, IR, Nat.reduceMod, Nat.reduceDiv, Nat.reduceSub, Nat.reduceAdd, Nat.reduceLeDiff, Nat.reduceEqDiff, Nat.reduceLT, Int.reduceLE, Int.reduceLT, Int.reduceEq, Int.reduceNe, Int.reduceAdd, Int.reduceSub, Int.reduceNeg, Int.reduceMul, ne_eq, not_true_eq_false, not_false_eq_true, true_and, and_true, false_and, and_false, true_or, or_true, false_or, or_false, and_self, or_self, true_implies, forall_const, false_implies, implies_true, reduceIte, reduceCtorEq, eq_self, Int.le_refl, Nat.le_refl, Int.reduceNatCast, Int.cast_ofNat_Int, ↓eX11_readAll_0, ↓eX11_readAll_1, ↓eX11_readAll_2, ↓eX11_readAll_3, ↓eX11_readAll_4, ↓eX11_readAll_5, ↓eX11_readAll_6, ↓eX11_readAll_7, ↓eX11_readAll_8, lX11_readAll, ent0, entI, entR, entG, ent_n, List.length_cons, List.length_nil, List.replicate, List.cons_append, List.nil_append, Nat.reduceSub, Nat.reduceAdd]
      rw [fr 1291977185 rfl, fr 1258422753 rfl]
      rcases hp with rfl | ⟨hp1, hp2⟩
      · rw [tl_m1] at hI
        subst hI
        refine ⟨(by first | omega | (unfold IR; omega)), fun _ => ⟨(by first | omega | (unfold IR; omega)), fun c => by omega, fun _ => ?_⟩, fun c => by omega⟩
        exact hK _ _ _ _ (by decide) (by simp; omega) ⟨hF, hf, vis, [], -1, _, hw, hm, har, rfl, Or.inl rfl, Or.inl ⟨rfl, rfl, Or.inl ⟨rfl, rfl⟩⟩⟩
      · have hr := ok.2.1 p hp1
        have hq := (ok.2.2.2.2 p hp1).1
        have hq2 : -1 ≤ B.1 2 p ∧ B.1 2 p < 60 := by
          rcases hq with e | e
          · omega
          · have := ok.2.1 _ e; omega
        have hpk := (ok.2.2.1 (B.1 2 p) p).mpr ⟨hp1, rfl⟩
        obtain ⟨l1, l2, hsp⟩ := List.append_of_mem hpk
        have hk := hLK _ hq2.1 hq2.2
        have hnx := (lnk_mem hk p hpk).1
        have hn2 : -1 ≤ (Mi σ 1291977185 0) p ∧ (Mi σ 1291977185 0) p < 60 := by
          rcases hnx with e | e
          · omega
          · have := ok.2.1 _ ((ok.2.2.1 _ _).mp e).1; omega
        have hk2 := hk
        rw [hsp] at hk2
        have hk3 := lnk_nxt hk2
        have et := tl_kid ok hsp
        have har2 := (hM.1 p hr.1 hr.2).2.2.2.2.2.1 hp1
        refine ⟨(by first | omega | (unfold IR; omega)), fun c => by omega, fun _ => ⟨hr, (by first | omega | (unfold IR; omega)), fun c => ?_, fun c => ?_⟩⟩
        · refine ⟨(by first | omega | (unfold IR; omega)), fun _ => ⟨hr, ?_⟩, fun c2 => by omega⟩
          cases l2 with
          | nil => have : (Mi σ 1291977185 0) p = -1 := hk3; omega
          | cons a l3 =>
            have ha : (Mi σ 1291977185 0) p = a := hk3.1
            have hak : a ∈ B.2.1 (B.1 2 p) := by rw [hsp]; simp
            obtain ⟨a1, a2⟩ := (ok.2.2.1 _ _).mp hak
            have ea := tl_kid (l1 := l1 ++ [p]) (a := a) (l2 := l3) ok (by rw [hsp]; simp)
            have er : tlF B p = wkF B a ++ tlF B a := by rw [et, ea, List.flatMap_cons, List.append_assoc]
            rw [ha]
            exact hK _ _ _ _ (by decide) (by omega) ⟨hF, hf, vis, rem, a, _, hw, hm, har, rfl, Or.inr ⟨a1, by rw [a2]; exact hp2⟩, Or.inl ⟨rfl, rfl, Or.inr ⟨a1, by rw [hI, er]⟩⟩⟩
        · refine ⟨hr, ?_⟩
          rw [har2]
          have hl2 : l2 = [] := by
            cases l2 with
            | nil => rfl
            | cons a l3 => have := hk3.1; have := ok.2.1 a ((ok.2.2.1 (B.1 2 p) a).mp (by rw [hsp]; simp)).1; omega
          have er : tlF B p = tlF B (B.1 2 p) := by rw [et, hl2]; rfl
          refine hK _ _ _ _ (by decide) ?_ ⟨hF, hf, vis, rem, B.1 2 p, _, hw, hm, har, rfl, ?_, Or.inr ⟨rfl, rfl, by rw [hI, er]⟩⟩
          · have := chl_kid ok hp1; omega
          · rcases hp2 with e | e
            · exact Or.inl e
            · exact Or.inr ⟨e.1, ((sn_iff ok e.1).mp e).2⟩
