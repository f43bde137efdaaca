/-! the machine of numbers: a step is sound -/
theorem obj_tb : True := trivial
section
variable {C : Cx} {p : Program} {l : Launch} {e : Env} {R : Room} {s : State} {m : MethodId} {args : Array Value} {below : List Frame} {meth : Method} {c : Code} {H0 : Heap} {n0 s0 : Nat} {Q : State → Prop} {nL lv : Nat} {cc : ByteArray} {own : String} {ini : Bool}
theorem c1_sound (X : CX C p l R s m args meth c H0 nL lv cc own ini) {B : List Ci} {q : Nat} {i : Ci} (hc : chc own ini nL cc B q i = true) {r : Cr} {K : Ck}
    (hm : ∀ q' ls' st' hp' sl', K q' ls' st' hp' sl' = some r → hp'.1 ≤ r.2.2.1.1 ∧ sl' ≤ r.2.2.2) (hR : r.2.2.1.1 < 999999 ∧ r.2.2.1.1 - n0 ≤ R.cells ∧ r.2.2.2 - s0 ≤ R.slots)
    (hK : ∀ q' ls' st' hp' sl', K q' ls' st' hp' sl' = some r → n0 ≤ hp'.1 → s0 ≤ sl' → CJ C p l e R s m args below meth c H0 n0 s0 Q nL (cpc B q') ls' st' hp' sl')
    {ls : List (Option Cv)} {st : List Cv} {hp : Ch} {sl : Nat} (hn : n0 ≤ hp.1) (hs : s0 ≤ sl) (h : c1 i q ls st hp sl K = some r) : CJ C p l e R s m args below meth c H0 n0 s0 Q nL i.1 ls st hp sl := by
  obtain ⟨pc, op, x, y, z, l'⟩ := i
  obtain ⟨⟨hx, hb⟩, ⟨hml, hown, hts, hKk, hAO, hN⟩, hini, ⟨hv1, hv2, hv3⟩, hH0, hl⟩ := X
  have hA : ∀ a : Nat, H0.size ≤ a → cBa C ≤ a := fun a ha => Nat.le_trans hH0 ha
  have hK : ∀ {q' nx ls' st' hp' sl'}, cpc B q' = nx → K q' ls' st' hp' sl' = some r → n0 ≤ hp'.1 → s0 ≤ sl' → CJ C p l e R s m args below meth c H0 n0 s0 Q nL nx ls' st' hp' sl' := fun e h1 h2 h3 => by subst e; exact hK _ _ _ _ _ h1 h2 h3
  have sP : ∀ {v : Int32} {n nx : Nat}, v = nI n → cpc B (q + 1) = nx → K (q + 1) ls (.inl n :: st) hp sl = some r → (∀ (Ls : Array Slot) (H : Heap) (locs : List Loc), W p l e R s m args below meth c H locs (hp.1 - n0) (sl - s0) Q (F0 m nx Ls (.int v :: st.map (cuV C))) → W p l e R s m args below meth c H locs (hp.1 - n0) (sl - s0) Q (F0 m pc Ls (st.map (cuV C)))) → CJ C p l e R s m args below meth c H0 n0 s0 Q nL pc ls st hp sl := by
    intro v n nx hv e h hw Ls H locs hL h1 hP hD hz hS
    subst hv
    exact hw _ _ _ (hK e h hn hs Ls H locs hL h1 hP hD hz hS)
  unfold chc at hc
  dsimp only at hc ⊢
  split at hc
  · -- a constant
    have h : K (q + 1) ls (.inl x :: st) hp sl = some r := h
    by_cases b0 : y = 0
    · rw [if_pos b0] at hc
      obtain ⟨d, en⟩ := of_decide_eq_true hc
      exact sP rfl en h (fun Ls H locs w => lv_iconst hx hb d (nI_int x) w)
    rw [if_neg b0] at hc
    by_cases b1 : y = 1
    · rw [if_pos b1] at hc
      obtain ⟨d, e1, en⟩ := of_decide_eq_true hc
      exact sP rfl en h (fun Ls H locs w => lv_bipush hx hb d e1 w)
    rw [if_neg b1] at hc
    obtain ⟨d, e1, en⟩ := of_decide_eq_true hc
    exact sP rfl en h (fun Ls H locs w => lv_sipush hx hb d e1 w)
  · -- aload
    obtain ⟨d, e1, en⟩ := of_decide_eq_true hc
    replace h : c1_1 x y z q ls st hp sl K = some r := h
    unfold c1_1 at h
    split at h
    · rename_i a ha
      intro Ls H locs hL h1 hP hD hz hS
      exact lv_aload_n hx hb d e1 (hL.2.2 _ _ ha) (hK en h hn hs Ls H locs hL h1 hP hD hz hS)
    · cases h
  · -- iload
    replace h : c1_2 x y z q ls st hp sl K = some r := h
    unfold c1_2 at h
    split at h
    · rename_i a ha
      by_cases b1 : y = 1
      · rw [if_pos b1] at hc
        obtain ⟨d, e1, en⟩ := of_decide_eq_true hc
        intro Ls H locs hL h1 hP hD hz hS
        exact lv_iload_n hx hb d e1 (hL.2.2 _ _ ha) (hK en h hn hs Ls H locs hL h1 hP hD hz hS)
      · rw [if_neg b1] at hc
        obtain ⟨d, en⟩ := of_decide_eq_true hc
        intro Ls H locs hL h1 hP hD hz hS
        exact lv_iload hx hb d (hL.2.2 _ _ ha) (hK en h hn hs Ls H locs hL h1 hP hD hz hS)
    · cases h
  · -- istore
    replace h : c1_3 x y z q ls st hp sl K = some r := h
    unfold c1_3 at h
    split at h
    · rename_i n st1
      rw [frc_e] at h
      by_cases b1 : y = 1
      · rw [if_pos b1] at hc
        obtain ⟨g1, d, e1, en⟩ := of_decide_eq_true hc
        intro Ls H locs hL h1 hP hD hz hS
        exact lv_istore_n (nL := nL) hx hb d e1 hL.has g1 rfl (fun Ls' h' => hK en h hn hs Ls' H locs (CLR.set (v := .inl n) h') h1 hP hD hz hS)
      · rw [if_neg b1] at hc
        obtain ⟨g1, d, en⟩ := of_decide_eq_true hc
        intro Ls H locs hL h1 hP hD hz hS
        exact lv_istore (nL := nL) hx hb d hL.has g1 rfl (fun Ls' h' => hK en h hn hs Ls' H locs (CLR.set (v := .inl n) h') h1 hP hD hz hS)
    · cases h
  · -- astore
    replace h : c1_19 x y z q ls st hp sl K = some r := h
    unfold c1_19 at h
    split at h
    · rename_i n st1
      rw [frc_e] at h
      obtain ⟨g1, d, e1, en⟩ := of_decide_eq_true hc
      intro Ls H locs hL h1 hP hD hz hS
      exact lv_astore_n (nL := nL) hx hb d e1 hL.has g1 rfl (fun Ls' h' => hK en h hn hs Ls' H locs (CLR.set (v := .inr n) h') h1 hP hD hz hS)
    · cases h
  · -- iinc
    replace h : c1_4 x y z q ls st hp sl K = some r := h
    unfold c1_4 at h
    split at h
    · rename_i n ha
      rw [frN_e, frc_e] at h
      obtain ⟨g1, d, en⟩ := of_decide_eq_true hc
      intro Ls H locs hL h1 hP hD hz hS
      obtain ⟨k, hk⟩ := List.getElem?_of_mem (csl_mem.mpr ⟨.inl n, ha, rfl⟩ : (x, cuV C (.inl n)) ∈ csl C ls)
      exact lv_iinc (nL := nL) (v := nI (n + y)) hx hb d hL.has hk (by rw [nI_int, nI_add]) g1 rfl (fun Ls' h' => hK en h hn hs Ls' H locs (CLR.set (v := .inl (n + y)) h') h1 hP hD hz hS)
    · cases h
  · -- new
    split at hc
    · rename_i q9 hq
      obtain ⟨d, en, t1, t2, t3⟩ := of_decide_eq_true hc
      replace h : c1_5 x y z q ls st hp sl K = some r := h
      unfold c1_5 at h
      rw [hn_e] at h
      have hm1 := hm _ _ _ _ _ h
      dsimp only at hm1
      obtain ⟨ty0, hty⟩ := cl_ty y q9 hq
      have hlen := CF_len y
      rw [hq] at hlen
      have hlen : (CF.getD y []).length = q9.2.2 := hlen
      intro Ls H locs hL h1 hP hD hz hS
      refine nz_new (Ts := tbG) (T := q9.2.1) (N := q9.2.2) (C := q9.1) (ci := y) (fs := cuF C y []) hx hb hts (cl_in y q9 hq) ty0 hty hown (hts _ (tb_at t1 rfl)) (hts _ (tb_at t2 rfl)) (hts _ (tb_at t3 rfl)) hKk hP hD hS hA hq (CF_def hq hty) (by omega) (by omega) d (fun H1 z1 hP1 hD1 hS1 => ?_)
      have hk := hK en h (by dsimp only; omega) (by omega) Ls H1 locs hL (by dsimp only; rw [h1]; rfl) (by
        dsimp only
        rw [cuW_push, ← h1, ← hz]
        exact hP1) (by
        dsimp only
        rw [cuW_push, ← h1, ← hz]
        exact hD1) (by dsimp only; omega) hS1
      dsimp only at hk
      rw [show hp.1 + 1 - n0 = hp.1 - n0 + 1 by omega, hlen, show sl + q9.2.2 - s0 = sl - s0 + q9.2.2 by omega] at hk
      rw [hz]
      rw [List.map_cons, show cuV C (.inr hp.1) = .ref (cBa C + hp.1) by show Value.ref (cad C hp.1) = _; rw [cad_lt (by omega)]] at hk
      exact hk
    · cases hc
  · -- dup
    obtain ⟨d, en⟩ := of_decide_eq_true hc
    replace h : c1_6 x y z q ls st hp sl K = some r := h
    unfold c1_6 at h
    split at h
    · rename_i a st1
      intro Ls H locs hL h1 hP hD hz hS
      exact lv_dup hx hb d (cu_cat a) (hK en h hn hs Ls H locs hL h1 hP hD hz hS)
    · cases h
  · -- newarray
    replace h : c1_7 x y z q ls st hp sl K = some r := h
    unfold c1_7 at h
    split at h
    · rename_i n st1
      split at h
      · rename_i hn1
        rw [hn_e] at h
        have hm1 := hm _ _ _ _ _ h
        dsimp only at hm1
        have hneg : ¬ nI n < 0 := nI_pos (by omega)
        have hcl : (nI n).toNatClampNeg = n := nI_clamp (by omega)
        intro Ls H locs hL h1 hP hD hz hS
        have fin : ∀ (H1 : Heap) (x0 : va_E) (nx : Nat), cuE C (x, n, []) = x0 → cpc B (q + 1) = nx → H1.size = H.size + 1 → va_P (cDa C) vwCl (cuW C hp.2.reverse ++ [(H.size, x0)]) H1 → va_D (fun q => cBa C ≤ q) (cuW C hp.2.reverse ++ [(H.size, x0)]) → va_S (fun q => cBa C ≤ q) H0 H1 locs → W p l e R s m args below meth c H1 locs (hp.1 - n0 + 1) (sl - s0 + n) Q (F0 m nx Ls (.ref H.size :: st1.map (cuV C))) := by
          intro H1 x0 nx hx0 en z1 hP1 hD1 hS1
          subst hx0
          have hk := hK en h (by dsimp only; omega) (by omega) Ls H1 locs hL (by dsimp only; rw [h1]; rfl) (by
            dsimp only
            rw [cuW_push, ← h1, ← hz]
            exact hP1) (by
            dsimp only
            rw [cuW_push, ← h1, ← hz]
            exact hD1) (by dsimp only; omega) hS1
          dsimp only at hk
          rw [show hp.1 + 1 - n0 = hp.1 - n0 + 1 by omega, show sl + n - s0 = sl - s0 + n by omega] at hk
          rw [hz]
          rw [List.map_cons, show cuV C (.inr hp.1) = .ref (cBa C + hp.1) by show Value.ref (cad C hp.1) = _; rw [cad_lt (by omega)]] at hk
          exact hk
        by_cases b1 : x = 1
        · rw [if_pos b1] at hc
          obtain ⟨d, en, t1⟩ := of_decide_eq_true hc
          refine nz_newa (atype := .int) (t0 := 0) (cB := (cTy C).1) (a0 := (n, .inl (fun _ => 0))) hx hb (hts _ (tb_at t1 rfl)) hKk hP hD hS hA rfl (fun cA => rfl) hneg hcl (by show n * 4 ≤ _; omega) (by omega) (by omega) d (fun H1 z1 hP1 hD1 hS1 => fin H1 _ _ ?_ en z1 hP1 hD1 hS1)
          subst b1
          rfl
        rw [if_neg b1] at hc
        by_cases b2 : x = 2
        · rw [if_pos b2] at hc
          obtain ⟨d, en, t1⟩ := of_decide_eq_true hc
          refine nz_newa (atype := .boolean) (t0 := 1) (cB := (cTy C).2.1) (a0 := (n, .inl (fun _ => 0))) hx hb (hts _ (tb_at t1 rfl)) hKk hP hD hS hA rfl (fun cA => rfl) hneg hcl (by show n * 1 ≤ _; omega) (by omega) (by omega) d (fun H1 z1 hP1 hD1 hS1 => fin H1 _ _ ?_ en z1 hP1 hD1 hS1)
          subst b2
          rfl
        rw [if_neg b2] at hc
        obtain ⟨b3, d, en, t1⟩ := of_decide_eq_true hc
        refine nz_newa (atype := .long) (t0 := 2) (cB := (cTy C).2.2.1) (a0 := (n, .inr (.inl (fun _ => 0)))) hx hb (hts _ (tb_at t1 rfl)) hKk hP hD hS hA rfl (fun cA => rfl) hneg hcl (by show n * 8 ≤ _; omega) (by omega) (by omega) d (fun H1 z1 hP1 hD1 hS1 => fin H1 _ _ ?_ en z1 hP1 hD1 hS1)
        subst b3
        rfl
      · cases h
    · cases h
  · -- anewarray
    replace h : c1_8 x y z q ls st hp sl K = some r := h
    unfold c1_8 at h
    split at h
    · rename_i n st1
      split at h
      · rename_i hn1
        rw [hn_e] at h
        have hm1 := hm _ _ _ _ _ h
        dsimp only at hm1
        have hneg : ¬ nI n < 0 := nI_pos (by omega)
        have hcl : (nI n).toNatClampNeg = n := nI_clamp (by omega)
        obtain ⟨hne, d, en, t1⟩ := of_decide_eq_true hc
        intro Ls H locs hL h1 hP hD hz hS
        refine nz_newq (t0 := 3) (cB := (cTy C).2.2.2) hx hb hown (hts _ (tb_at t1 rfl)) (hAO hne) hKk hP hD hS hA rfl hneg hcl (by omega) (by omega) (by omega) d (fun H1 z1 hP1 hD1 hS1 => ?_)
        have hk := hK en h (by dsimp only; omega) (by omega) Ls H1 locs hL (by dsimp only; rw [h1]; rfl) (by
          dsimp only
          rw [cuW_push, ← h1, ← hz]
          exact hP1) (by
          dsimp only
          rw [cuW_push, ← h1, ← hz]
          exact hD1) (by dsimp only; omega) hS1
        dsimp only at hk
        rw [show hp.1 + 1 - n0 = hp.1 - n0 + 1 by omega, show sl + n - s0 = sl - s0 + n by omega] at hk
        rw [hz]
        rw [List.map_cons, show cuV C (.inr hp.1) = .ref (cBa C + hp.1) by show Value.ref (cad C hp.1) = _; rw [cad_lt (by omega)]] at hk
        exact hk
      · cases h
    · cases h
  · -- putfield
    split at hc
    · rename_i q9 hq
      obtain ⟨i1, hz9, d, en, t1, f1, f2, f3⟩ := of_decide_eq_true hc
      replace h : c1_9 x y z q ls st hp sl K = some r := h
      unfold c1_9 at h
      split at h
      · rename_i v a st1
        split at h
        · rename_i ci ws ha
          split at h
          · rename_i hcond
            obtain ⟨rfl, hv9, ha9⟩ := hcond
            rw [hs_e] at h
            intro Ls H locs hL h1 hP hD hz hS
            obtain ⟨ha1, -, hat⟩ := hg_at (C := C) h1 ha
            obtain ⟨ty0, hty⟩ := cl_ty ci q9 hq
            have hlen := CF_len ci
            rw [hq] at hlen
            have hlen : (CF.getD ci []).length = q9.2.2 := hlen
            show W p l e R s m args below meth c H locs (hp.1 - n0) (sl - s0) Q (F0 m pc Ls (.ref (cad C v) :: .ref (cad C a) :: st1.map (cuV C)))
            rw [cad_lt hv9, cad_lt ha9]
            obtain ⟨ty, hd, hnar, hfit⟩ : ∃ ty, parseFieldDescriptor (q9.2.1 z).2.2.1 = some ty ∧ narrow ty (.ref (cBa C + v)) = .ref (cBa C + v) ∧ fits ty (.ref (cBa C + v)) = true := by
              cases hpd : parseFieldDescriptor (q9.2.1 z).2.2.1 with
              | none => rw [hpd] at f3; cases f3
              | some ty =>
                rw [hpd] at f3
                cases ty <;> first | exact ⟨_, rfl, rfl, rfl⟩ | cases f3
            refine nz_putF (Ts := tbG) (T := q9.2.1) (N := q9.2.2) (C := q9.1) (ref := (q9.2.1 z).1) hx hb hts (cl_in ci q9 hq) ty0 hty (cl_nm ci q9 hq) hown hKk hP hD hS a hat hq z hz9 (hts _ (tb_at t1 rfl)) (fun _ w => w) f1 (hini i1) f2 hd hnar hfit (show z < (cuF C ci ws).length by rw [cuF_len]; omega) d (fun H1 locs1 z1 hP1 hD1 hS1 => ?_)
            dsimp only at hP1 hD1
            rw [cuF_set] at hP1 hD1
            exact hK en h hn hs Ls H1 locs1 hL (by dsimp only; rw [List.length_set]; exact h1) (by dsimp only; rw [hs_at h1 ha]; exact hP1) (by dsimp only; rw [hs_at h1 ha]; exact hD1) (by dsimp only; omega) hS1
          · cases h
        · cases h
      · cases h
    · cases hc
  · -- getfield
    split at hc
    · rename_i q9 hq
      obtain ⟨hz9, d, en, t1⟩ := of_decide_eq_true hc
      replace h : c1_10 x y z q ls st hp sl K = some r := h
      unfold c1_10 at h
      split at h
      · rename_i a st1
        split at h
        · rename_i ci ws ha
          split at h
          · rename_i v hv
            split at h
            · rename_i hcond
              obtain ⟨rfl, hv9, ha9⟩ := hcond
              intro Ls H locs hL h1 hP hD hz hS
              obtain ⟨ha1, -, hat⟩ := hg_at (C := C) h1 ha
              have hlen := CF_len ci
              rw [hq] at hlen
              have hlen : (CF.getD ci []).length = q9.2.2 := hlen
              show W p l e R s m args below meth c H locs (hp.1 - n0) (sl - s0) Q (F0 m pc Ls (.ref (cad C a) :: st1.map (cuV C)))
              rw [cad_lt ha9]
              have hk := hK en h hn hs Ls H locs hL h1 hP hD hz hS
              rw [List.map_cons, show cuV C (.inr v) = .ref (cBa C + v) by show Value.ref (cad C v) = _; rw [cad_lt hv9]] at hk
              exact va_get (Ts := tbG) (T := q9.2.1) (N := q9.2.2) (C := q9.1) hx hb hts (cl_in ci q9 hq) hown hKk hP a hat hq z hz9 (hts _ (tb_at t1 rfl)) (fun _ w => w) (show (cuF C ci ws)[z]? = _ from cuF_at (by omega) hv) d hk
            · cases h
          · cases h
        · cases h
      · cases h
    · cases hc
  · -- aastore
    obtain ⟨d, en⟩ := of_decide_eq_true hc
    replace h : c1_11 x y z q ls st hp sl K = some r := h
    unfold c1_11 at h
    split at h
    · rename_i v n a st1
      split at h
      · rename_i k ws ws2 ha hv
        split at h
        · rename_i hcond
          obtain ⟨hnk, hk9, hv9, ha9⟩ := hcond
          rw [hs_e] at h
          intro Ls H locs hL h1 hP hD hz hS
          obtain ⟨ha1, -, hat⟩ := hg_at (C := C) h1 ha
          obtain ⟨-, -, hat2⟩ := hg_at (C := C) h1 hv
          show W p l e R s m args below meth c H locs (hp.1 - n0) (sl - s0) Q (F0 m pc Ls (.ref (cad C v) :: .int (nI n) :: .ref (cad C a) :: st1.map (cuV C)))
          rw [cad_lt hv9, cad_lt ha9]
          refine nz_astq (r := (RX6, TX6, 2)) hx hb hKk hP hD hS a 3 v 6 hat rfl hat2 rfl (show vp_in (nI n) k from vp_in_nI hnk (by omega)) d (fun H1 locs1 z1 hP1 hD1 hS1 => ?_)
          have eu : va_up (fun k => (lkp k ws).map fun a => cBa C + a) (nI n).toNatClampNeg (some (cBa C + v)) = fun k => (lkp k ((n, v) :: ws)).map fun a => cBa C + a := by
            funext k'
            rw [nI_clamp (by omega)]
            show (if k' = n then _ else _) = _
            by_cases hkn : k' = n
            · rw [if_pos hkn]; simp [lkp, hkn]
            · rw [if_neg hkn]; simp [lkp, Ne.symm hkn]
          dsimp only at hP1 hD1
          rw [eu] at hP1 hD1
          exact hK en h hn hs Ls H1 locs1 hL (by dsimp only; rw [List.length_set]; exact h1) (by dsimp only; rw [hs_at h1 ha]; exact hP1) (by dsimp only; rw [hs_at h1 ha]; exact hD1) (by dsimp only; omega) hS1
        · cases h
      · cases h
    · cases h
  · -- iastore
    obtain ⟨d, en⟩ := of_decide_eq_true hc
    replace h : c1_12 x y z q ls st hp sl K = some r := h
    unfold c1_12 at h
    split at h
    · rename_i v n a st1
      split at h
      · rename_i k ws ha
        split at h
        · rename_i hcond
          obtain ⟨hnk, hk9, ha9⟩ := hcond
          rw [hs_e] at h
          intro Ls H locs hL h1 hP hD hz hS
          obtain ⟨ha1, -, hat⟩ := hg_at (C := C) h1 ha
          show W p l e R s m args below meth c H locs (hp.1 - n0) (sl - s0) Q (F0 m pc Ls (.int (nI v) :: .int (nI n) :: .ref (cad C a) :: st1.map (cuV C)))
          rw [cad_lt ha9]
          refine nz_iast hx hb hKk hP hD hS a 0 hat rfl (show vp_in (nI n) k from vp_in_nI hnk (by omega)) d (fun H1 locs1 z1 hP1 hD1 hS1 => ?_)
          have eu : upd (fun k => nI ((lkp k ws).getD 0)) (nI n).toNatClampNeg (nI v) = fun k => nI ((lkp k ((n, v) :: ws)).getD 0) := by
            funext k'
            rw [nI_clamp (by omega)]
            show (if k' = n then _ else _) = _
            by_cases hkn : k' = n
            · rw [if_pos hkn]; simp [lkp, hkn]
            · rw [if_neg hkn]; simp [lkp, Ne.symm hkn]
          dsimp only at hP1 hD1
          rw [eu] at hP1 hD1
          exact hK en h hn hs Ls H1 locs1 hL (by dsimp only; rw [List.length_set]; exact h1) (by dsimp only; rw [hs_at h1 ha]; exact hP1) (by dsimp only; rw [hs_at h1 ha]; exact hD1) (by dsimp only; omega) hS1
        · cases h
      · cases h
    · cases h
  · -- if_icmp
    replace h : c1_13 x y z q ls st hp sl K = some r := h
    unfold c1_13 at h
    split at h
    · rename_i b a st1
      split at h
      · rename_i hab
        by_cases b0 : z = 0
        · rw [if_pos b0] at hc h
          obtain ⟨d, en⟩ := of_decide_eq_true hc
          intro Ls H locs hL h1 hP hD hz hS
          refine lv_icmp_ge (tgt := cpc B x) hx hb d (by omega) (fun w => ?_) (fun w => ?_)
          · rw [if_pos ((nI_leI (by omega) (by omega)).mp w)] at h
            exact hK rfl h hn hs Ls H locs hL h1 hP hD hz hS
          · rw [if_neg (fun w2 => w ((nI_leI (by omega) (by omega)).mpr w2))] at h
            exact hK en h hn hs Ls H locs hL h1 hP hD hz hS
        · rw [if_neg b0] at hc h
          obtain ⟨d, en⟩ := of_decide_eq_true hc
          intro Ls H locs hL h1 hP hD hz hS
          refine lv_icmp_gt (tgt := cpc B x) hx hb d (by omega) (fun w => ?_) (fun w => ?_)
          · rw [if_pos ((nI_ltI (by omega) (by omega)).mp w)] at h
            exact hK rfl h hn hs Ls H locs hL h1 hP hD hz hS
          · rw [if_neg (fun w2 => w ((nI_ltI (by omega) (by omega)).mpr w2))] at h
            exact hK en h hn hs Ls H locs hL h1 hP hD hz hS
      · cases h
    · cases h
  · -- goto
    have d := of_decide_eq_true hc
    have h : K x ls st hp sl = some r := h
    intro Ls H locs hL h1 hP hD hz hS
    exact lv_goto (tgt := cpc B x) hx hb d (by omega) (hK rfl h hn hs Ls H locs hL h1 hP hD hz hS)
  · -- Object.<init>
    obtain ⟨d, en, t1, t2, t3⟩ := of_decide_eq_true hc
    replace h : c1_16 x y z q ls st hp sl K = some r := h
    unfold c1_16 at h
    split at h
    · rename_i a st1
      split at h
      · rename_i hlen
        intro Ls H locs hL h1 hP hD hz hS
        refine W.objInit hx hb hown (hts _ (tb_at t1 rfl)) (hts _ (tb_at t2 rfl)) (hts _ (tb_at t3 rfl)) rfl (by rw [hml]; exact hL.1) rfl d (by omega) ?_ (hK en h hn hs Ls H locs hL h1 hP hD hz hS)
        show 2 * 0 + ((st1.map (cuV C)).map fun v => v.category).sum + 12 ≤ R.locals
        rw [cs_cat]
        omega
      · cases h
    · cases h
  · -- max
    obtain ⟨d, en, t1⟩ := of_decide_eq_true hc
    replace h : c1_18 x y z q ls st hp sl K = some r := h
    unfold c1_18 at h
    split at h
    · rename_i b a st1
      split at h
      · rename_i hab
        have hm1 := hm _ _ _ _ _ h
        intro Ls H locs hL h1 hP hD hz hS
        refine va_mmax (own := own) (index := x) hx hb (by rw [hml]; exact hL.1.symm) hown (hts _ (tb_at t1 rfl)) (hts _ max_tb.1) (hts _ max_tb.2.1) (hts _ max_tb.2.2) (by omega) ?_ (by omega) (by omega) d ?_
        · show (((st1.map (cuV C)).map fun v => v.category)).sum + _ ≤ _
          rw [cs_cat]
          omega
        · have em : (if nI a < nI b then nI b else nI a) = nI (max a b) := by
            by_cases hlt : a < b
            · rw [if_pos ((nI_ltI (by omega) (by omega)).mpr hlt), Nat.max_eq_right (by omega)]
            · rw [if_neg (fun w => hlt ((nI_ltI (by omega) (by omega)).mp w)), Nat.max_eq_left (by omega)]
          have hk := hK en h hn hs Ls H locs hL h1 hP hD hz hS
          show W p l e R s m args below meth c H locs (hp.1 - n0) (sl - s0) Q (F0 m (pc + 3) Ls (.int (if nI a < nI b then nI b else nI a) :: st1.map (cuV C)))
          rw [em]
          exact hk
      · cases h
    · cases h
  · cases hc
end
