/-! the class: what is written of one of two; what a pair costs -/
def FrI (S : List Nat) (j : Int) (σ σ' : Mm) : Prop := (∀ (a : Nat) (b : Int), ¬ (a ∈ S ∧ b = j) → Mi σ' a b = Mi σ a b ∧ Ml σ' a b = Ml σ a b ∧ Mr σ' a b = Mr σ a b) ∧ Mn σ' = Mn σ ∧ Mc σ' = Mc σ ∧ Ma σ' = Ma σ
theorem FrI.rfl' {S : List Nat} {j : Int} {σ : Mm} : FrI S j σ σ := ⟨fun _ _ _ => ⟨rfl, rfl, rfl⟩, rfl, rfl, rfl⟩
theorem FrI.trans' {S : List Nat} {j : Int} {a b c : Mm} (h1 : FrI S j a b) (h2 : FrI S j b c) : FrI S j a c := ⟨fun x y h => ⟨(h2.1 x y h).1.trans (h1.1 x y h).1, (h2.1 x y h).2.1.trans (h1.1 x y h).2.1, (h2.1 x y h).2.2.trans (h1.1 x y h).2.2⟩, h2.2.1.trans h1.2.1, h2.2.2.1.trans h1.2.2.1, h2.2.2.2.trans h1.2.2.2⟩
theorem FrI.mono {S T : List Nat} {j : Int} {a b : Mm} (hs : ∀ x ∈ S, x ∈ T) (h : FrI S j a b) : FrI T j a b := ⟨fun x y q => h.1 x y (fun z => q ⟨hs x z.1, z.2⟩), h.2⟩
theorem FrI.sI {S : List Nat} {i : Int} {σ σ' : Mm} {r : Nat} {k v : Int} (hr : r ∈ S) (h : FrI S i σ σ') : FrI S i σ (sI σ' r i k v) := ⟨fun x y q => ⟨by
  rw [← (h.1 x y q).1]; funext c; show up3 (Mi σ') r i k v x y c = _; simp only [up3]; rw [if_neg]; rintro ⟨e, e2, -⟩; exact q ⟨e ▸ hr, e2⟩, (h.1 x y q).2⟩, h.2⟩
theorem FrI.sL {S : List Nat} {i : Int} {σ σ' : Mm} {r : Nat} {k : Int} {v : Int64} (hr : r ∈ S) (h : FrI S i σ σ') : FrI S i σ (sL σ' r i k v) := ⟨fun x y q => ⟨(h.1 x y q).1, by
  rw [← (h.1 x y q).2.1]; funext c; show up3 (Ml σ') r i k v x y c = _; simp only [up3]; rw [if_neg]; rintro ⟨e, e2, -⟩; exact q ⟨e ▸ hr, e2⟩, (h.1 x y q).2.2⟩, h.2⟩
theorem FrI.sR {S : List Nat} {i : Int} {σ σ' : Mm} {r : Nat} {k : Int} {v : Nat × Int} (hr : r ∈ S) (h : FrI S i σ σ') : FrI S i σ (sR σ' r i k v) := ⟨fun x y q => ⟨(h.1 x y q).1, (h.1 x y q).2.1, by
  rw [← (h.1 x y q).2.2]; funext c; show up3 (Mr σ') r i k v x y c = _; simp only [up3]; rw [if_neg]; rintro ⟨e, e2, -⟩; exact q ⟨e ▸ hr, e2⟩⟩, h.2⟩
theorem FrI.cpI {S : List Nat} {i : Int} {σ σ' : Mm} {rs rd : Nat} {js sp dp n : Int} (hr : rd ∈ S) (h : FrI S i σ σ') : FrI S i σ (cpI σ' rs js sp rd i dp n) := ⟨fun x y q => ⟨by
  rw [← (h.1 x y q).1]; funext c; show (if x = rd ∧ y = i ∧ dp ≤ c ∧ c < dp + n then _ else _) = _; rw [if_neg]; rintro ⟨e, e2, -⟩; exact q ⟨e ▸ hr, e2⟩, (h.1 x y q).2⟩, h.2⟩
theorem FrI.i {S : List Nat} {j : Int} {σ σ' : Mm} (h : FrI S j σ σ') (a : Nat) (ha : (S.contains a) = false) (b : Int) : Mi σ' a b = Mi σ a b := (h.1 a b (fun q => by simp at ha; exact ha q.1)).1
theorem FrI.l {S : List Nat} {j : Int} {σ σ' : Mm} (h : FrI S j σ σ') (a : Nat) (ha : (S.contains a) = false) (b : Int) : Ml σ' a b = Ml σ a b := (h.1 a b (fun q => by simp at ha; exact ha q.1)).2.1
theorem FrI.r {S : List Nat} {j : Int} {σ σ' : Mm} (h : FrI S j σ σ') (a : Nat) (ha : (S.contains a) = false) (b : Int) : Mr σ' a b = Mr σ a b := (h.1 a b (fun q => by simp at ha; exact ha q.1)).2.2
theorem FrI.fr {S : List Nat} {j : Int} {σ σ' : Mm} (h : FrI S j σ σ') : Fr S σ σ' := ⟨fun a ha => ⟨by
  funext b; exact (h.1 a b (fun q => ha q.1)).1, by
  funext b; exact (h.1 a b (fun q => ha q.1)).2.1, by
  funext b; exact (h.1 a b (fun q => ha q.1)).2.2⟩, h.2⟩
theorem FrI.o {S : List Nat} {j b : Int} {σ σ' : Mm} (h : FrI S j σ σ') (hb : b ≠ j) (a : Nat) : Mi σ' a b = Mi σ a b ∧ Ml σ' a b = Ml σ a b ∧ Mr σ' a b = Mr σ a b := h.1 a b (fun q => hb q.2)
theorem Fr.fri {S : List Nat} {j : Int} {σ σ' : Mm} (h : Fr S σ σ') (hb : ∀ a ∈ S, ∀ b, b ≠ j → Mi σ' a b = Mi σ a b ∧ Ml σ' a b = Ml σ a b ∧ Mr σ' a b = Mr σ a b) : FrI S j σ σ' := ⟨fun a b q => by
  by_cases ha : a ∈ S
  · exact hb a ha b (fun z => q ⟨ha, z⟩)
  · rw [(h.1 a ha).1, (h.1 a ha).2.1, (h.1 a ha).2.2]; exact ⟨rfl, rfl, rfl⟩, h.2⟩
theorem row2_fr {σ σ' : Mm} {S : List Nat} {r : Nat} {j : Int} {L : List Int} (h : row2 σ r j L) (hF : Fr S σ σ') (h1 : S.contains r = false) (h2 : S.contains (r - 6) = false) : row2 σ' r j L := by
  refine ⟨h.1, ?_, ?_, h.2.2.2⟩
  · unfold rowR; rw [hF.i _ h1, hF.i _ h2]; exact h.2.1
  · rw [alen_eq hF.2.1]; exact h.2.2.1
theorem x_costOf {r r2 : Nat} {j j2 : Int} {L L2 : List Int} {σ : Mm} {k : Int → Mm → Prop} (hk0 : kinR σ) (h : row2 σ r j L) (h2 : row2 σ r2 j2 L2) (hl : L.length ≤ 8 ∧ L2.length ≤ 8) (hL : ∀ x ∈ L, 0 ≤ x ∧ x < 100) (hL2 : ∀ x ∈ L2, 0 ≤ x ∧ x < 100) (hr : r ≠ 402784329 ∧ r - 6 ≠ 402784329 ∧ r2 ≠ 402784329 ∧ r2 - 6 ≠ 402784329)
    (hk : ∀ σ', Fr [402784329] σ σ' → k (cstF (fun i => (Mi σ 386007841 0) (L.getD i.toNat 0)) (fun i => (Mi σ 386007841 0) (L2.getD i.toNat 0)) L.length L2.length) σ') : OkI 113 [vR 50462744 0, vR r j, vR r2 j2] σ k := by
  have h7 := h.1
  have h72 := h2.1
  have hs : ∀ a : Nat, a ≠ 402784329 → ([402784329] : List Nat).contains a = false := fun a ha => by simp [ha]
  have row := fun (σ' : Mm) (hF : Fr [402784329] σ σ') => row2_fr h hF (hs _ hr.1) (hs _ hr.2.1)
  have rowB := fun (σ' : Mm) (hF : Fr [402784329] σ σ') => row2_fr h2 hF (hs _ hr.2.2.1) (hs _ hr.2.2.2)
  generalize eN : L.length = N at *
  generalize eM : L2.length = M at *
  generalize ea : (fun i : Int => (Mi σ 386007841 0) (L.getD i.toNat 0)) = fa at *
  generalize eb : (fun i : Int => (Mi σ 386007841 0) (L2.getD i.toNat 0)) = fb at *
  refine okI_loop mkX3_costOf (fun b n ls σ' => Fr [402784329] σ σ' ∧
    ((b = 1001 ∧ ∃ y : Nat, y ≤ M + 1 ∧ n = 2000 - y ∧ (∃ o1 o2 o3, ls = [some (vR 50462744 0), some (vR r j), some (vR r2 j2), some (vI y), o1, o2, o3]) ∧ ∀ q : Nat, q < y → (Mi σ' 402784329 0) q = cstF fa fb 0 q) ∨
     (b = 1003 ∧ ∃ i : Nat, i ≤ N ∧ n = 100 * (10 - i) ∧ (∃ o1 o2 o3, ls = [some (vR 50462744 0), some (vR r j), some (vR r2 j2), some (vI i), o1, o2, o3]) ∧ ∀ q : Nat, q ≤ M → (Mi σ' 402784329 0) q = cstF fa fb i q) ∨
     (b = 1004 ∧ ∃ i y : Nat, i < N ∧ y ≤ M ∧ n = 100 * (10 - i) - 1 - y ∧ (∃ o3, ls = [some (vR 50462744 0), some (vR r j), some (vR r2 j2), some (vI i), some (vI (cstF fa fb i y)), some (vI y), o3]) ∧ ∀ q : Nat, q ≤ M → (Mi σ' 402784329 0) q = if q ≤ y then cstF fa fb (i + 1) q else cstF fa fb i q))) (Nat.le_of_ble_eq_true rfl) (fun K hK => ?_) (fun b n ls σ' hJ K hK => ?_)
  · simp only [↓kI_e, ↓kL_e, ↓kR_e, ↓kV_e, ↓x1, ↓x2, ↓x4, ↓x5, ↓x6, ↓x7, ↓x8, ↓x9, ↓x10, ↓x11, ↓x12, ↓x13, ↓x17, ↓x18, ↓x19, ↓x20, ↓x21, ↓x22, ↓x14, ↓x15, ↓x23, ↓x24, ↓x25, ↓x26, ↓x27, ↓x28, ↓x29, ↓x30, ↓x31, ↓x32, ↓x33, ↓x34, ↓x35i, ↓x35r, ↓x36, ↓x37, ↓x38, ↓x39, ↓x40, ↓x41, ↓x72, ↓x42, ↓x43, ↓x44, ↓x45, ↓x46, ↓x47, ↓x48, ↓x50, ↓x51, ↓x52, ↓x53, ↓x54, ↓x55_0, ↓x56_0, ↓x55_1, ↓x56_1, ↓x55_2, ↓x56_2, ↓x55_3, ↓x56_3, ↓x55_4, ↓x56_4, ↓x55_5, ↓x56_5, ↓x57, ↓x58, ↓x59, ↓x60, ↓x61, ↓x62, ↓x63, ↓x64, ↓x65, ↓x75, ↓x67, ↓x77, ↓x68, ↓x78, ↓x69, ↓x79, ↓x70, ↓x73, ↓x74, ↓ldI_0, ↓ldG_0, ↓ldR_0, ↓stK_0, ↓stK2_0, ↓ldI_1, ↓ldG_1, ↓ldR_1, ↓stK_1I, ↓stK_1R, ↓stK_1N, ↓stK_1G, ↓stK2_1I, ↓stK2_1R, ↓stK2_1N, ↓stK2_1G, ↓ldI_2, ↓ldG_2, ↓ldR_2, ↓stK_2I, ↓stK_2R, ↓stK_2N, ↓stK_2G, ↓stK2_2I, ↓stK2_2R, ↓stK2_2N, ↓stK2_2G, ↓ldI_3, ↓ldG_3, ↓ldR_3, ↓stK_3I, ↓stK_3R, ↓stK_3N, ↓stK_3G, ↓stK2_3I, ↓stK2_3R, ↓stK2_3N, ↓stK2_3G, ↓ldI_4, ↓ldG_4, ↓ldR_4, ↓stK_4I, ↓stK_4R, ↓stK_4N, ↓stK_4G, ↓stK2_4I, ↓stK2_4R, ↓stK2_4N, ↓stK2_4G, ↓ldI_5, ↓ldG_5, ↓ldR_5, ↓stK_5I, ↓stK_5R, ↓stK_5N, ↓stK_5G, ↓stK2_5I, ↓stK2_5R, ↓stK2_5N, ↓stK2_5G, ↓ldI_6, ↓ldG_6, ↓ldR_6, ↓stK_6I, ↓stK_6R, ↓stK_6N, ↓stK_6G, ↓stK2_6I, ↓stK2_6R, ↓stK2_6N, ↓stK2_6G, ↓ldI_7, ↓ldG_7, ↓ldR_7, ↓stK_7I, ↓stK_7R, ↓stK_7N, ↓stK_7G, ↓stK2_7I, ↓stK2_7R, ↓stK2_7N, ↓stK2_7G, ↓ldI_8, ↓ldG_8, ↓ldR_8, ↓stK_8I, ↓stK_8R, ↓stK_8N, ↓stK_8G, ↓stK2_8I, ↓stK2_8R, ↓stK2_8N, ↓stK2_8G, ↓ldI_9, ↓ldG_9, ↓ldR_9, ↓stK_9I, ↓stK_9R, ↓stK_9N, ↓stK_9G, ↓stK2_9I, ↓stK2_9R, ↓stK2_9N, ↓stK2_9G, ↓ldI_10, ↓ldG_10, ↓ldR_10, ↓stK_10I, ↓stK_10R, ↓stK_10N, ↓stK_10G, ↓stK2_10I, ↓stK2_10R, ↓stK2_10N, ↓stK2_10G, ↓ldI_11, ↓ldG_11, ↓ldR_11, ↓stK_11I, ↓stK_11R, ↓stK_11N, ↓stK_11G, ↓stK2_11I, ↓stK2_11R, ↓stK2_11N, ↓stK2_11G, ↓ldI_12, ↓ldG_12, ↓ldR_12, ↓stK_12I, ↓stK_12R, ↓stK_12N, ↓stK_12G, ↓stK2_12I, ↓stK2_12R, ↓stK2_12N, ↓stK2_12G, ↓pN_0, ↓pN_1, ↓pN_2, ↓pN_3, ↓pN_4, ↓pN_5, ↓pN_6, ↓pN_7, ↓ctI_e, ↓ctL_e, ↓ctR_e, ↓ctV_e, ↓tsK_n, ↓tsK_c, ↓go_K, ↓go_X, csum_n, csum_I, csum_R, csum_G, hdCls_r, isCls, elemR, rg_x_pads, rg_log_words, rg_row_pads, rg_row_words, rg_row_led, alen, IR, Nat.reduceMod, Nat.reduceDiv, Nat.reduceSub, Nat.reduceAdd, Nat.reduceLeDiff, Nat.reduceEqDiff, Nat.reduceLT, Int.reduceLE, Int.reduceLT, Int.reduceEq, Int.reduceNe, Int.reduceAdd, Int.reduceSub, Int.reduceNeg, Int.reduceMul, ne_eq, not_true_eq_false, not_false_eq_true, true_and, and_true, false_and, and_false, true_or, or_true, false_or, or_false, and_self, or_self, true_implies, forall_const, false_implies, implies_true, reduceIte, reduceCtorEq, eq_self, Int.le_refl, Nat.le_refl, Int.reduceNatCast, Int.cast_ofNat_Int, ↓eX3_costOf_0, ↓eX3_costOf_1, ↓eX3_costOf_2, ↓eX3_costOf_3, ↓eX3_costOf_4, ↓eX3_costOf_5, ↓eX3_costOf_6, ↓eX3_costOf_7, ↓eX3_costOf_8, lX3_costOf, ent0, entI, entR, entG, ent_n, List.length_cons, List.length_nil, List.replicate, List.cons_append, List.nil_append, Nat.reduceSub, Nat.reduceAdd]
    exact hK _ _ _ _ (by decide) ⟨Fr.rfl', Or.inl ⟨rfl, 0, by omega, rfl, ⟨none, none, none, rfl⟩, fun q hq => by omega⟩⟩
  · obtain ⟨hF, ⟨rfl, y, hy, rfl, ⟨o1, o2, o3, rfl⟩, hc⟩ | ⟨rfl, i, hi, rfl, ⟨o1, o2, o3, rfl⟩, hc⟩ | ⟨rfl, i, y, hi, hy, rfl, ⟨o3, rfl⟩, hc⟩⟩ := hJ
    · have hB := rowB σ' hF
      simp only [↓kI_e, ↓kL_e, ↓kR_e, ↓kV_e, ↓x1, ↓x2, ↓x4, ↓x5, ↓x6, ↓x7, ↓x8, ↓x9, ↓x10, ↓x11, ↓x12, ↓x13, ↓x17, ↓x18, ↓x19, ↓x20, ↓x21, ↓x22, ↓x14, ↓x15, ↓x23, ↓x24, ↓x25, ↓x26, ↓x27, ↓x28, ↓x29, ↓x30, ↓x31, ↓x32, ↓x33, ↓x34, ↓x35i, ↓x35r, ↓x36, ↓x37, ↓x38, ↓x39, ↓x40, ↓x41, ↓x72, ↓x42, ↓x43, ↓x44, ↓x45, ↓x46, ↓x47, ↓x48, ↓x50, ↓x51, ↓x52, ↓x53, ↓x54, ↓x55_0, ↓x56_0, ↓x55_1, ↓x56_1, ↓x55_2, ↓x56_2, ↓x55_3, ↓x56_3, ↓x55_4, ↓x56_4, ↓x55_5, ↓x56_5, ↓x57, ↓x58, ↓x59, ↓x60, ↓x61, ↓x62, ↓x63, ↓x64, ↓x65, ↓x75, ↓x67, ↓x77, ↓x68, ↓x78, ↓x69, ↓x79, ↓x70, ↓x73, ↓x74, ↓ldI_0, ↓ldG_0, ↓ldR_0, ↓stK_0, ↓stK2_0, ↓ldI_1, ↓ldG_1, ↓ldR_1, ↓stK_1I, ↓stK_1R, ↓stK_1N, ↓stK_1G, ↓stK2_1I, ↓stK2_1R, ↓stK2_1N, ↓stK2_1G, ↓ldI_2, ↓ldG_2, ↓ldR_2, ↓stK_2I, ↓stK_2R, ↓stK_2N, ↓stK_2G, ↓stK2_2I, ↓stK2_2R, ↓stK2_2N, ↓stK2_2G, ↓ldI_3, ↓ldG_3, ↓ldR_3, ↓stK_3I, ↓stK_3R, ↓stK_3N, ↓stK_3G, ↓stK2_3I, ↓stK2_3R, ↓stK2_3N, ↓stK2_3G, ↓ldI_4, ↓ldG_4, ↓ldR_4, ↓stK_4I, ↓stK_4R, ↓stK_4N, ↓stK_4G, ↓stK2_4I, ↓stK2_4R, ↓stK2_4N, ↓stK2_4G, ↓ldI_5, ↓ldG_5, ↓ldR_5, ↓stK_5I, ↓stK_5R, ↓stK_5N, ↓stK_5G, ↓stK2_5I, ↓stK2_5R, ↓stK2_5N, ↓stK2_5G, ↓ldI_6, ↓ldG_6, ↓ldR_6, ↓stK_6I, ↓stK_6R, ↓stK_6N, ↓stK_6G, ↓stK2_6I, ↓stK2_6R, ↓stK2_6N, ↓stK2_6G, ↓ldI_7, ↓ldG_7, ↓ldR_7, ↓stK_7I, ↓stK_7R, ↓stK_7N, ↓stK_7G, ↓stK2_7I, ↓stK2_7R, ↓stK2_7N, ↓stK2_7G, ↓ldI_8, ↓ldG_8, ↓ldR_8, ↓stK_8I, ↓stK_8R, ↓stK_8N, ↓stK_8G, ↓stK2_8I, ↓stK2_8R, ↓stK2_8N, ↓stK2_8G, ↓ldI_9, ↓ldG_9, ↓ldR_9, ↓stK_9I, ↓stK_9R, ↓stK_9N, ↓stK_9G, ↓stK2_9I, ↓stK2_9R, ↓stK2_9N, ↓stK2_9G, ↓ldI_10, ↓ldG_10, ↓ldR_10, ↓stK_10I, ↓stK_10R, ↓stK_10N, ↓stK_10G, ↓stK2_10I, ↓stK2_10R, ↓stK2_10N, ↓stK2_10G, ↓ldI_11, ↓ldG_11, ↓ldR_11, ↓stK_11I, ↓stK_11R, ↓stK_11N, ↓stK_11G, ↓stK2_11I, ↓stK2_11R, ↓stK2_11N, ↓stK2_11G, ↓ldI_12, ↓ldG_12, ↓ldR_12, ↓stK_12I, ↓stK_12R, ↓stK_12N, ↓stK_12G, ↓stK2_12I, ↓stK2_12R, ↓stK2_12N, ↓stK2_12G, ↓pN_0, ↓pN_1, ↓pN_2, ↓pN_3, ↓pN_4, ↓pN_5, ↓pN_6, ↓pN_7, ↓ctI_e, ↓ctL_e, ↓ctR_e, ↓ctV_e, ↓tsK_n, ↓tsK_c, ↓go_K, ↓go_X, csum_n, csum_I, csum_R, csum_G, hdCls_r, isCls, elemR, rg_x_pads, rg_log_words, rg_row_pads, rg_row_words, rg_row_led, alen, IR, Nat.reduceMod, Nat.reduceDiv, Nat.reduceSub, Nat.reduceAdd, Nat.reduceLeDiff, Nat.reduceEqDiff, Nat.reduceLT, Int.reduceLE, Int.reduceLT, Int.reduceEq, Int.reduceNe, Int.reduceAdd, Int.reduceSub, Int.reduceNeg, Int.reduceMul, ne_eq, not_true_eq_false, not_false_eq_true, true_and, and_true, false_and, and_false, true_or, or_true, false_or, or_false, and_self, or_self, true_implies, forall_const, false_implies, implies_true, reduceIte, reduceCtorEq, eq_self, Int.le_refl, Nat.le_refl, Int.reduceNatCast, Int.cast_ofNat_Int, ↓eX3_costOf_0, ↓eX3_costOf_1, ↓eX3_costOf_2, ↓eX3_costOf_3, ↓eX3_costOf_4, ↓eX3_costOf_5, ↓eX3_costOf_6, ↓eX3_costOf_7, ↓eX3_costOf_8, lX3_costOf, ent0, entI, entR, entG, ent_n, List.length_cons, List.length_nil, List.replicate, List.cons_append, List.nil_append, Nat.reduceSub, Nat.reduceAdd]
      rw [hB.2.1.1, eM]
      refine ⟨h72, ⟨⟨by omega, by omega⟩, by omega, by omega⟩, fun c => ?_, fun c => ?_⟩
      · refine hK 1003 (100 * (10 - 0)) _ _ (by decide) (by omega) ⟨hF, Or.inr (Or.inl ⟨rfl, 0, by omega, rfl, ⟨_, _, _, rfl⟩, fun q hq => hc q (by omega)⟩)⟩
      · refine ⟨by omega, hK 1001 (2000 - (y + 1)) _ _ (by decide) (by omega) ⟨Fr.sI (by decide) hF, Or.inl ⟨rfl, y + 1, by omega, rfl, ⟨_, _, _, rfl⟩, fun q hq => ?_⟩⟩⟩
        rw [Mi_s, upd1_e]
        by_cases e : q = y
        · rw [if_pos (by omega), e, cstF]
        · rw [if_neg (by omega)]; exact hc q (by omega)
    · have hA := row σ' hF
      have hB := rowB σ' hF
      simp only [↓kI_e, ↓kL_e, ↓kR_e, ↓kV_e, ↓x1, ↓x2, ↓x4, ↓x5, ↓x6, ↓x7, ↓x8, ↓x9, ↓x10, ↓x11, ↓x12, ↓x13, ↓x17, ↓x18, ↓x19, ↓x20, ↓x21, ↓x22, ↓x14, ↓x15, ↓x23, ↓x24, ↓x25, ↓x26, ↓x27, ↓x28, ↓x29, ↓x30, ↓x31, ↓x32, ↓x33, ↓x34, ↓x35i, ↓x35r, ↓x36, ↓x37, ↓x38, ↓x39, ↓x40, ↓x41, ↓x72, ↓x42, ↓x43, ↓x44, ↓x45, ↓x46, ↓x47, ↓x48, ↓x50, ↓x51, ↓x52, ↓x53, ↓x54, ↓x55_0, ↓x56_0, ↓x55_1, ↓x56_1, ↓x55_2, ↓x56_2, ↓x55_3, ↓x56_3, ↓x55_4, ↓x56_4, ↓x55_5, ↓x56_5, ↓x57, ↓x58, ↓x59, ↓x60, ↓x61, ↓x62, ↓x63, ↓x64, ↓x65, ↓x75, ↓x67, ↓x77, ↓x68, ↓x78, ↓x69, ↓x79, ↓x70, ↓x73, ↓x74, ↓ldI_0, ↓ldG_0, ↓ldR_0, ↓stK_0, ↓stK2_0, ↓ldI_1, ↓ldG_1, ↓ldR_1, ↓stK_1I, ↓stK_1R, ↓stK_1N, ↓stK_1G, ↓stK2_1I, ↓stK2_1R, ↓stK2_1N, ↓stK2_1G, ↓ldI_2, ↓ldG_2, ↓ldR_2, ↓stK_2I, ↓stK_2R, ↓stK_2N, ↓stK_2G, ↓stK2_2I, ↓stK2_2R, ↓stK2_2N, ↓stK2_2G, ↓ldI_3, ↓ldG_3, ↓ldR_3, ↓stK_3I, ↓stK_3R, ↓stK_3N, ↓stK_3G, ↓stK2_3I, ↓stK2_3R, ↓stK2_3N, ↓stK2_3G, ↓ldI_4, ↓ldG_4, ↓ldR_4, ↓stK_4I, ↓stK_4R, ↓stK_4N, ↓stK_4G, ↓stK2_4I, ↓stK2_4R, ↓stK2_4N, ↓stK2_4G, ↓ldI_5, ↓ldG_5, ↓ldR_5, ↓stK_5I, ↓stK_5R, ↓stK_5N, ↓stK_5G, ↓stK2_5I, ↓stK2_5R, ↓stK2_5N, ↓stK2_5G, ↓ldI_6, ↓ldG_6, ↓ldR_6, ↓stK_6I, ↓stK_6R, ↓stK_6N, ↓stK_6G, ↓stK2_6I, ↓stK2_6R, ↓stK2_6N, ↓stK2_6G, ↓ldI_7, ↓ldG_7, ↓ldR_7, ↓stK_7I, ↓stK_7R, ↓stK_7N, ↓stK_7G, ↓stK2_7I, ↓stK2_7R, ↓stK2_7N, ↓stK2_7G, ↓ldI_8, ↓ldG_8, ↓ldR_8, ↓stK_8I, ↓stK_8R, ↓stK_8N, ↓stK_8G, ↓stK2_8I, ↓stK2_8R, ↓stK2_8N, ↓stK2_8G, ↓ldI_9, ↓ldG_9, ↓ldR_9, ↓stK_9I, ↓stK_9R, ↓stK_9N, ↓stK_9G, ↓stK2_9I, ↓stK2_9R, ↓stK2_9N, ↓stK2_9G, ↓ldI_10, ↓ldG_10, ↓ldR_10, ↓stK_10I, ↓stK_10R, ↓stK_10N, ↓stK_10G, ↓stK2_10I, ↓stK2_10R, ↓stK2_10N, ↓stK2_10G, ↓ldI_11, ↓ldG_11, ↓ldR_11, ↓stK_11I, ↓stK_11R, ↓stK_11N, ↓stK_11G, ↓stK2_11I, ↓stK2_11R, ↓stK2_11N, ↓stK2_11G, ↓ldI_12, ↓ldG_12, ↓ldR_12, ↓stK_12I, ↓stK_12R, ↓stK_12N, ↓stK_12G, ↓stK2_12I, ↓stK2_12R, ↓stK2_12N, ↓stK2_12G, ↓pN_0, ↓pN_1, ↓pN_2, ↓pN_3, ↓pN_4, ↓pN_5, ↓pN_6, ↓pN_7, ↓ctI_e, ↓ctL_e, ↓ctR_e, ↓ctV_e, ↓tsK_n, ↓tsK_c, ↓go_K, ↓go_X, csum_n, csum_I, csum_R, csum_G, hdCls_r, isCls, elemR, rg_x_pads, rg_log_words, rg_row_pads, rg_row_words, rg_row_led, alen, IR, Nat.reduceMod, Nat.reduceDiv, Nat.reduceSub, Nat.reduceAdd, Nat.reduceLeDiff, Nat.reduceEqDiff, Nat.reduceLT, Int.reduceLE, Int.reduceLT, Int.reduceEq, Int.reduceNe, Int.reduceAdd, Int.reduceSub, Int.reduceNeg, Int.reduceMul, ne_eq, not_true_eq_false, not_false_eq_true, true_and, and_true, false_and, and_false, true_or, or_true, false_or, or_false, and_self, or_self, true_implies, forall_const, false_implies, implies_true, reduceIte, reduceCtorEq, eq_self, Int.le_refl, Nat.le_refl, Int.reduceNatCast, Int.cast_ofNat_Int, ↓eX3_costOf_0, ↓eX3_costOf_1, ↓eX3_costOf_2, ↓eX3_costOf_3, ↓eX3_costOf_4, ↓eX3_costOf_5, ↓eX3_costOf_6, ↓eX3_costOf_7, ↓eX3_costOf_8, lX3_costOf, ent0, entI, entR, entG, ent_n, List.length_cons, List.length_nil, List.replicate, List.cons_append, List.nil_append, Nat.reduceSub, Nat.reduceAdd]
      rw [hA.2.1.1, hB.2.1.1, eN, eM]
      refine ⟨h7, ⟨⟨by omega, by omega⟩, by omega, by omega⟩, fun c => ⟨h72, by omega, ?_⟩, fun c => ?_⟩
      · have e : i = N := by omega
        rw [hc M (Nat.le_refl _), e]
        exact hk _ hF
      · have e0 := hc 0 (by omega)
        rw [show ((0 : Nat) : Int) = 0 from rfl] at e0
        rw [e0]
        refine hK 1004 (100 * (10 - i) - 1 - 0) _ _ (by decide) (by omega) ⟨Fr.sI (by decide) hF, Or.inr (Or.inr ⟨rfl, i, 0, by omega, by omega, rfl, ⟨_, rfl⟩, fun q hq => ?_⟩)⟩
        rw [Mi_s, upd1_e]
        by_cases e : q = 0
        · rw [e, if_pos (show ((0 : Nat) : Int) = 0 from rfl), if_pos (Nat.le_refl 0), cstF]
        · rw [if_neg (by omega), if_neg (by omega)]; exact hc q hq
    · have hA := row σ' hF
      have hB := rowB σ' hF
      have kF : (Mi σ' 386007841 0) = (Mi σ 386007841 0) := by rw [hF.i _ rfl]
      have g1 := cstF_rng (a := fa) (b := fb) (i := i) (j := y)
      have lA := hA.2.2.1
      have lB := hB.2.2.1
      generalize gA : alen σ' (r - 6) j = A1 at lA
      generalize gB : alen σ' (r2 - 6) j2 = B1 at lB
      unfold alen at gA gB
      simp only [↓kI_e, ↓kL_e, ↓kR_e, ↓kV_e, ↓x1, ↓x2, ↓x4, ↓x5, ↓x6, ↓x7, ↓x8, ↓x9, ↓x10, ↓x11, ↓x12, ↓x13, ↓x17, ↓x18, ↓x19, ↓x20, ↓x21, ↓x22, ↓x14, ↓x15, ↓x23, ↓x24, ↓x25, ↓x26, ↓x27, ↓x28, ↓x29, ↓x30, ↓x31, ↓x32, ↓x33, ↓x34, ↓x35i, ↓x35r, ↓x36, ↓x37, ↓x38, ↓x39, ↓x40, ↓x41, ↓x72, ↓x42, ↓x43, ↓x44, ↓x45, ↓x46, ↓x47, ↓x48, ↓x50, ↓x51, ↓x52, ↓x53, ↓x54, ↓x55_0, ↓x56_0, ↓x55_1, ↓x56_1, ↓x55_2, ↓x56_2, ↓x55_3, ↓x56_3, ↓x55_4, ↓x56_4, ↓x55_5, ↓x56_5, ↓x57, ↓x58, ↓x59, ↓x60, ↓x61, ↓x62, ↓x63, ↓x64, ↓x65, ↓x75, ↓x67, ↓x77, ↓x68, ↓x78, ↓x69, ↓x79, ↓x70, ↓x73, ↓x74, ↓ldI_0, ↓ldG_0, ↓ldR_0, ↓stK_0, ↓stK2_0, ↓ldI_1, ↓ldG_1, ↓ldR_1, ↓stK_1I, ↓stK_1R, ↓stK_1N, ↓stK_1G, ↓stK2_1I, ↓stK2_1R, ↓stK2_1N, ↓stK2_1G, ↓ldI_2, ↓ldG_2, ↓ldR_2, ↓stK_2I, ↓stK_2R, ↓stK_2N, ↓stK_2G, ↓stK2_2I, ↓stK2_2R, ↓stK2_2N, ↓stK2_2G, ↓ldI_3, ↓ldG_3, ↓ldR_3, ↓stK_3I, ↓stK_3R, ↓stK_3N, ↓stK_3G, ↓stK2_3I, ↓stK2_3R, ↓stK2_3N, ↓stK2_3G, ↓ldI_4, ↓ldG_4, ↓ldR_4, ↓stK_4I, ↓stK_4R, ↓stK_4N, ↓stK_4G, ↓stK2_4I, ↓stK2_4R, ↓stK2_4N, ↓stK2_4G, ↓ldI_5, ↓ldG_5, ↓ldR_5, ↓stK_5I, ↓stK_5R, ↓stK_5N, ↓stK_5G, ↓stK2_5I, ↓stK2_5R, ↓stK2_5N, ↓stK2_5G, ↓ldI_6, ↓ldG_6, ↓ldR_6, ↓stK_6I, ↓stK_6R, ↓stK_6N, ↓stK_6G, ↓stK2_6I, ↓stK2_6R, ↓stK2_6N, ↓stK2_6G, ↓ldI_7, ↓ldG_7, ↓ldR_7, ↓stK_7I, ↓stK_7R, ↓stK_7N, ↓stK_7G, ↓stK2_7I, ↓stK2_7R, ↓stK2_7N, ↓stK2_7G, ↓ldI_8, ↓ldG_8, ↓ldR_8, ↓stK_8I, ↓stK_8R, ↓stK_8N, ↓stK_8G, ↓stK2_8I, ↓stK2_8R, ↓stK2_8N, ↓stK2_8G, ↓ldI_9, ↓ldG_9, ↓ldR_9, ↓stK_9I, ↓stK_9R, ↓stK_9N, ↓stK_9G, ↓stK2_9I, ↓stK2_9R, ↓stK2_9N, ↓stK2_9G, ↓ldI_10, ↓ldG_10, ↓ldR_10, ↓stK_10I, ↓stK_10R, ↓stK_10N, ↓stK_10G, ↓stK2_10I, ↓stK2_10R, ↓stK2_10N, ↓stK2_10G, ↓ldI_11, ↓ldG_11, ↓ldR_11, ↓stK_11I, ↓stK_11R, ↓stK_11N, ↓stK_11G, ↓stK2_11I, ↓stK2_11R, ↓stK2_11N, ↓stK2_11G, ↓ldI_12, ↓ldG_12, ↓ldR_12, ↓stK_12I, ↓stK_12R, ↓stK_12N, ↓stK_12G, ↓stK2_12I, ↓stK2_12R, ↓stK2_12N, ↓stK2_12G, ↓pN_0, ↓pN_1, ↓pN_2, ↓pN_3, ↓pN_4, ↓pN_5, ↓pN_6, ↓pN_7, ↓ctI_e, ↓ctL_e, ↓ctR_e, ↓ctV_e, ↓tsK_n, ↓tsK_c, ↓go_K, ↓go_X, csum_n, csum_I, csum_R, csum_G, hdCls_r, isCls, elemR, rg_x_pads, rg_log_words, rg_row_pads, rg_row_words, rg_row_led, alen, IR, Nat.reduceMod, Nat.reduceDiv, Nat.reduceSub, Nat.reduceAdd, Nat.reduceLeDiff, Nat.reduceEqDiff, Nat.reduceLT, Int.reduceLE, Int.reduceLT, Int.reduceEq, Int.reduceNe, Int.reduceAdd, Int.reduceSub, Int.reduceNeg, Int.reduceMul, ne_eq, not_true_eq_false, not_false_eq_true, true_and, and_true, false_and, and_false, true_or, or_true, false_or, or_false, and_self, or_self, true_implies, forall_const, false_implies, implies_true, reduceIte, reduceCtorEq, eq_self, Int.le_refl, Nat.le_refl, Int.reduceNatCast, Int.cast_ofNat_Int, ↓eX3_costOf_0, ↓eX3_costOf_1, ↓eX3_costOf_2, ↓eX3_costOf_3, ↓eX3_costOf_4, ↓eX3_costOf_5, ↓eX3_costOf_6, ↓eX3_costOf_7, ↓eX3_costOf_8, lX3_costOf, ent0, entI, entR, entG, ent_n, List.length_cons, List.length_nil, List.replicate, List.cons_append, List.nil_append, Nat.reduceSub, Nat.reduceAdd]
      rw [hB.2.1.1, eM, kF]
      refine ⟨h72, ⟨⟨by omega, by omega⟩, by omega, by omega⟩, fun c => ?_, fun c => ?_⟩
      · have e : y = M := by omega
        refine hK 1003 (100 * (10 - (i + 1))) _ _ (by decide) (by omega) ⟨hF, Or.inr (Or.inl ⟨rfl, i + 1, by omega, rfl, ⟨_, _, _, rfl⟩, fun q hq => ?_⟩)⟩
        rw [hc q hq, if_pos (by omega)]
      · have a := row2_n hA (i := i) (by omega)
        have b := row2_n hB (i := y) (by omega)
        have aR := hL _ a.2.2
        have bR := hL2 _ b.2.2
        have cB := hc y (by omega)
        have cA := hc (y + 1) (by omega)
        rw [if_pos (Nat.le_refl _)] at cB
        rw [if_neg (by omega)] at cA
        rw [show ((y + 1 : Nat) : Int) = (y : Int) + 1 by omega] at cA
        have g2 := cstF_rng (a := fa) (b := fb) (i := i) (j := y + 1)
        have g3 := cstF_rng (a := fa) (b := fb) (i := i + 1) (j := y)
        have ce : cstF fa fb (i + 1) (y + 1) = min (min (cstF fa fb i (y + 1) + 1) (cstF fa fb (i + 1) y + 1)) (cstF fa fb i y + if fa i = fb y then 0 else 2) := by rw [cstF]
        have fI : fa i = (Mi σ 386007841 0) (L.getD i 0) := by rw [← ea]; simp
        have fJ : fb y = (Mi σ 386007841 0) (L2.getD y 0) := by rw [← eb]; simp
        have st : ∀ v o3, v = cstF fa fb (i + 1) (y + 1) → K 1004 [some (vR 50462744 0), some (vR r j), some (vR r2 j2), some (vI i), some (vI (cstF fa fb i (y + 1))), some (vI ((y : Int) + 1)), o3] [] (sI σ' 402784329 0 ((y : Int) + 1) v) := fun v o3 hv =>
          hK 1004 (100 * (10 - i) - 1 - (y + 1)) _ _ (by decide) (by omega) ⟨Fr.sI (by decide) hF, Or.inr (Or.inr ⟨rfl, i, y + 1, by omega, by omega, rfl, ⟨o3, by simp⟩, fun q hq => by
            rw [Mi_s, upd1_e]
            by_cases e : q = y + 1
            · rw [if_pos (by omega), e, if_pos (Nat.le_refl _), hv]
            · rw [if_neg (by omega), hc q hq]
              by_cases e2 : q ≤ y
              · rw [if_pos e2, if_pos (by omega)]
              · rw [if_neg e2, if_neg (by omega)]⟩)⟩
        have cR := hk0 _ aR.1 aR.2
        have dR := hk0 _ bR.1 bR.2
        rw [gA, gB, a.1, b.1, cA, cB]
        rw [fI, fJ] at ce
        refine ⟨h7, by omega, by omega, by omega, h72, by omega, by omega, by omega, ⟨cR, dR⟩, fun d => ?_, fun d => ?_⟩
        · rw [if_neg d] at ce
          refine ⟨by omega, by omega, by omega, by omega, by omega, ?_⟩
          refine ⟨by omega, st _ _ ?_⟩
          omega
        · rw [if_pos d] at ce
          refine ⟨by omega, by omega, by omega, by omega, by omega, ?_⟩
          refine ⟨by omega, st _ _ ?_⟩
          omega
