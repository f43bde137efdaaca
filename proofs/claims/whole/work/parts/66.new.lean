/-! a change made: what it leaves, and that all holds still -/
abbrev lLogA : List Nat := [973210081, 989987297, 1006764513, 1023541729, 1040318945, 1057096161, 1073873377, 1090650593, 1107427809, 1124208385, 1140981811]
def newC (σ σ' : Mm) (cl : Bool) (hd kd pc wh bh so hi : Int) (ws : List Int) : Prop :=
  same (1191313457 :: lLogA) [10] σ σ' ∧ (Mi σ' 184680536 0 10) = (Mi σ 184680536 0 10) + 1 ∧ (Mi σ' 973210081 0) = upd1 (Mi σ 973210081 0) (Mi σ 184680536 0 10) kd ∧ (Mi σ' 989987297 0) = upd1 (Mi σ 989987297 0) (Mi σ 184680536 0 10) hd ∧ (Mi σ' 1006764513 0) = upd1 (Mi σ 1006764513 0) (Mi σ 184680536 0 10) (mxC (Mi σ 1006764513 0) ((Ml σ 1140981811 0) hd) ((Mi σ 184680536 0 10)).toNat + 1) ∧ (Mi σ' 1023541729 0) = upd1 (Mi σ 1023541729 0) (Mi σ 184680536 0 10) pc ∧ (Mi σ' 1040318945 0) = upd1 (Mi σ 1040318945 0) (Mi σ 184680536 0 10) wh ∧ (Mi σ' 1057096161 0) = upd1 (Mi σ 1057096161 0) (Mi σ 184680536 0 10) bh ∧ (Mi σ' 1073873377 0) = upd1 (Mi σ 1073873377 0) (Mi σ 184680536 0 10) so ∧ (Mi σ' 1090650593 0) = upd1 (Mi σ 1090650593 0) (Mi σ 184680536 0 10) hi ∧ (Mi σ' 1107427809 0) = upd1 (Mi σ 1107427809 0) (Mi σ 184680536 0 10) ws.length ∧
  (∀ x, (Mi σ' 1124208385 0) x = if 8 * (Mi σ 184680536 0 10) ≤ x ∧ x < 8 * (Mi σ 184680536 0 10) + ws.length then ws.getD (x - 8 * (Mi σ 184680536 0 10)).toNat 0 else (Mi σ 1124208385 0) x) ∧ (∀ x, (Ml σ' 1140981811 0) x = if x = hd then (Ml σ 1140981811 0) hd ||| qshl (Int64.ofInt 1) (Mi σ 184680536 0 10) else (Ml σ 1140981811 0) x) ∧ (Mi σ' 1191313457 0) = if cl = true then upd1 (Mi σ 1191313457 0) hd 0 else (Mi σ 1191313457 0)
theorem mxC_ge {ct : Int → Int} {s : Int64} : ∀ {n : Nat} {c : Int}, 0 ≤ c → c < n → hasB s c → ct c ≤ mxC ct s n
  | 0, c, h0, h1, _ => by omega
  | n + 1, c, h0, h1, hb => by
    unfold mxC
    by_cases e : c = n
    · subst e
      split
      · omega
      · rename_i q
        have : ¬ (mxC ct s n < ct n) := fun z => q ⟨hasb_iff.mpr hb, z⟩
        omega
    · have := mxC_ge (ct := ct) (n := n) h0 (by omega) hb
      split
      · rename_i q; omega
      · exact this
theorem mxC_le {ct : Int → Int} {s : Int64} : ∀ {n : Nat}, (∀ c : Int, 0 ≤ c → c < n → ct c ≤ c + 1) → 0 ≤ mxC ct s n ∧ mxC ct s n ≤ n
  | 0, _ => by simp [mxC]
  | n + 1, h => by
    have h1 := mxC_le (ct := ct) (s := s) (n := n) (fun c a b => h c a (by omega))
    have h2 := h n (by omega) (by omega)
    unfold mxC
    split <;> omega
theorem mI_new {σ σ' : Mm} {cl : Bool} {hd kd pc wh bh so hi : Int} {ws : List Int} (hI : mI σ) (hn : (Mi σ 184680536 0 10) < 60) (hh : 0 ≤ hd ∧ hd < 6) (hk : 0 ≤ kd ∧ kd ≤ 6) (h0 : kd = 0 → pc = (Mi σ 184680536 0 10) ∧ (0 ≤ so ∧ so ≤ 2) ∧ (so = 2 → 1 ≤ hi ∧ hi ≤ 9)) (h1 : kd ≠ 0 → isP σ pc ∧ so = -6 ∧ hi = -6) (h2 : kd = 0 ∨ kd = 2 → (-1 ≤ wh ∧ wh < 60) ∧ (-1 ≤ bh ∧ bh < 60) ∧ bh ≠ pc) (h2p : kd = 0 ∨ kd = 2 → wh = -1 ∨ ((0 ≤ wh ∧ wh < (Mi σ 184680536 0 10)) ∧ (Mi σ 1073873377 0) wh = 0)) (hw : IR wh) (h4 : kd = 4 → 0 ≤ wh ∧ wh ≤ 3) (h5 : kd = 5 → -1 ≤ wh ∧ wh < 60) (h3 : 3 ≤ kd → kd ≤ 5 → (Mi σ 1073873377 0) pc = 1) (hws : ws.length ≤ 8 ∧ ∀ x ∈ ws, 1 ≤ x ∧ x ≤ 99) (h : newC σ σ' cl hd kd pc wh bh so hi ws) : mI σ' := by
  obtain ⟨i1, i2, i3, i4, i5, i6, i7, i8, i9⟩ := hI
  obtain ⟨hs, e0, e1, e2, e3, e4, e5, e6, e7, e8, e9, e10, e11, e12⟩ := h
  have n0 := i1.1.1
  have hmx := mxC_le (ct := (Mi σ 1006764513 0)) (s := (Ml σ 1140981811 0) hd) (n := ((Mi σ 184680536 0 10)).toNat) (fun c a b => (i2 c a (by omega)).2.1.2)
  have hpc : (0 ≤ pc ∧ pc < 60) ∧ pc ≤ (Mi σ 184680536 0 10) := by
    by_cases q : kd = 0
    · have := (h0 q).1; omega
    · have := (h1 q).1; omega
  have hpk : upd1 (Mi σ 973210081 0) (Mi σ 184680536 0 10) kd pc = 0 := by
    rw [upd1_e]
    by_cases q : kd = 0
    · rw [if_pos (h0 q).1]; exact q
    · have := (h1 q).1; rw [if_neg (by omega)]; exact this.2.2
  refine ⟨?_, ?_, ?_, ?_, ruleR_s (hs.on _ rfl) (hs.f _ rfl rfl) i5, yesR_s (hs.on _ rfl) (hs.f _ rfl rfl) i6, pairS_s (hs.on _ rfl) (hs.f _ rfl rfl) i7, termR_s (hs.on _ rfl) (hs.f _ rfl rfl) i8, edR_s (hs.on _ rfl) (hs.f _ rfl rfl) i9⟩
  · unfold logM stOk chM chB
    rw [e0, e1, e2, e3, e4, e5, e6, e9, hs.f 16 rfl rfl]
    refine ⟨⟨by omega, fun c c0 c1 => ?_⟩, i1.2.1, fun c c0 c1 => ?_⟩
    · rw [upd1_e, upd1_e]
      by_cases e : c = (Mi σ 184680536 0 10)
      · rw [if_pos e, if_pos e]; exact ⟨(by first | omega | (unfold IR; omega)), (by first | omega | (unfold IR; omega))⟩
      · rw [if_neg e, if_neg e]; exact i1.1.2 c c0 (by omega)
    · by_cases e : c = (Mi σ 184680536 0 10)
      · subst e
        simp only [upd1_s]
        refine ⟨⟨⟨hk, hpc.1, fun q => (h0 q).1, h2⟩, ⟨by omega, by omega⟩, fun i a b => ?_⟩, hw⟩
        rw [e10, if_pos (by omega)]
        have hl : i.toNat < ws.length := by omega
        rw [show (8 * (Mi σ 184680536 0 10) + i - 8 * (Mi σ 184680536 0 10)).toNat = i.toNat by omega, List.getD_eq_getElem?_getD, List.getElem?_eq_getElem hl]
        exact hws.2 _ (List.getElem_mem hl)
      · simp only [upd1_n e]
        obtain ⟨a, b⟩ := i1.2.2 c c0 (by omega)
        obtain ⟨a1, a2, a3⟩ := a
        refine ⟨⟨a1, a2, fun i j l => ?_⟩, b⟩
        rw [e10, if_neg (by omega)]
        exact a3 i j l
  · unfold logX
    rw [e0, e1, e2, e3, e4, e5, e7, e8]
    intro c c0 c1
    by_cases e : c = (Mi σ 184680536 0 10)
    · subst e
      simp only [upd1_s]
      refine ⟨hh, ⟨by omega, by omega⟩, ⟨hpc.2, hpk⟩, fun q => (h0 q).2, fun q => (h1 q).2, h4, h5, fun q z => ?_, fun q => ?_, ?_, fun d d0 d1 => by omega⟩
      · have h1' := (h1 (by omega)).1
        rw [upd1_n (by omega)]; exact h3 q z
      · rcases h2p q with z | z
        · exact Or.inl z
        · right; rw [upd1_n (by omega)]; exact z
      · rw [e11, if_pos rfl, hasB_or]
        right
        exact (qshl_bit (by omega) (by omega) (by omega)).mpr rfl
    · have hx := i2 c c0 (by omega)
      have hpc2 : (Mi σ 1023541729 0) c ≠ (Mi σ 184680536 0 10) := by have := hx.2.2.1.1; omega
      simp only [upd1_n e, upd1_n hpc2]
      obtain ⟨x1, x2, x3, x4, x5, x6, x7, x8', x2p, x9', x10'⟩ := hx
      refine ⟨x1, x2, x3, x4, x5, x6, x7, x8', fun q => ?_, ?_, fun d d0 d1 dh => ?_⟩
      · rcases x2p q with z | z
        · exact Or.inl z
        · right; rw [upd1_n (by omega)]; exact z
      · rw [e11]
        split
        · rename_i q; rw [hasB_or]; left; rw [← q]; exact x9'
        · exact x9'
      · rw [upd1_e] at dh ⊢
        by_cases ed : d = (Mi σ 184680536 0 10)
        · rw [if_pos ed] at dh ⊢
          have := mxC_ge (ct := (Mi σ 1006764513 0)) (s := (Ml σ 1140981811 0) hd) (n := ((Mi σ 184680536 0 10)).toNat) c0 (by omega) (by rw [← dh]; exact x9')
          omega
        · rw [if_neg ed] at dh ⊢
          exact x10' d d0 (by omega) dh
  · unfold hasR
    rw [e0, hs.f 13 rfl rfl, hs.f 16 rfl rfl, hs.f 35 rfl rfl]
    refine ⟨fun g g0 g1 c c0 c1 hb => ?_, i3.2⟩
    rw [e11] at hb
    by_cases q : g = hd
    · rw [if_pos q, hasB_or] at hb
      rcases hb with hb | hb
      · have := i3.1 hd hh.1 hh.2 c c0 c1 hb; omega
      · have := (qshl_bit (by omega) (by omega) c0).mp hb; omega
    · rw [if_neg q] at hb
      have := i3.1 g g0 g1 c c0 c1 hb; omega
  · unfold padR
    rw [e12, hs.i 1174536577 rfl rfl]
    intro g g0 g1
    have := i4 g g0 g1
    cases cl with
    | false => exact this
    | true =>
      rw [if_pos rfl, upd1_e]
      by_cases q : g = hd
      · rw [if_pos q]; exact ⟨by omega, fun i a b => by omega⟩
      · rw [if_neg q]; exact this
theorem mkM_new {σ σ1 σ2 : Mm} {hd kd pc wh bh : Int} (h : same [] [] σ σ1) (hm : mkM σ1 σ2 hd kd pc wh bh) : newC σ σ2 false hd kd pc wh bh (-6) (-6) [] := by
  obtain ⟨hF, e1, e2, e3, e4, e5, e6, e7, e8, e9, e11, em⟩ := hm
  have f0 := h.f 10 rfl rfl
  have hc : same (1191313457 :: lLogA) [10] σ1 σ2 := ⟨fun a ha hn => ⟨(hF.1 a (fun q => by revert ha hn q; simp only [List.mem_cons, List.not_mem_nil, or_false, not_or]; omega)).1, (hF.1 a (fun q => by revert ha hn q; simp only [List.mem_cons, List.not_mem_nil, or_false, not_or]; omega)).2.1⟩, fun f hf hn => by rw [em, upd1_n (by simpa using hn)]⟩
  refine ⟨same_trans (same_mono (by simp) (by simp) h) hc, ?_, ?_, ?_, ?_, ?_, ?_, ?_, ?_, ?_, ?_, fun x => ?_, fun x => ?_, ?_⟩
  · rw [em, upd1_s, f0]
  · rw [e1, f0, h.i 973210081 rfl rfl]
  · rw [e2, f0, h.i 989987297 rfl rfl]
  · rw [e3, f0, h.i 1006764513 rfl rfl, h.l 1140981811 rfl rfl]
  · rw [e4, f0, h.i 1023541729 rfl rfl]
  · rw [e5, f0, h.i 1040318945 rfl rfl]
  · rw [e6, f0, h.i 1057096161 rfl rfl]
  · rw [e7, f0, h.i 1073873377 rfl rfl]
  · rw [e8, f0, h.i 1090650593 rfl rfl]
  · rw [e9, f0, h.i 1107427809 rfl rfl]; rfl
  · rw [hF.i 1124208385 rfl, h.i 1124208385 rfl rfl, if_neg (fun q => by have := q.2; simp at this; omega)]
  · rw [e11, f0, h.l 1140981811 rfl rfl]
  · rw [hF.i 1191313457 rfl, h.i 1191313457 rfl rfl]; rfl
theorem new_sort {σ σ2 : Mm} {hd kd pc wh bh so hi so' hi' : Int} {cl : Bool} {ws : List Int} (h : newC σ σ2 cl hd kd pc wh bh so hi ws) : newC σ (sI (sI σ2 1073873377 0 (Mi σ 184680536 0 10) so') 1090650593 0 (Mi σ 184680536 0 10) hi') cl hd kd pc wh bh so' hi' ws := by
  obtain ⟨hs, e0, e1, e2, e3, e4, e5, e6, e7, e8, e9, e10, e11, e12⟩ := h
  refine ⟨same_trans hs (same_trans (same_sI (by decide) (by decide)) (same_sI (by decide) (by decide))), ?_, ?_, ?_, ?_, ?_, ?_, ?_, ?_, ?_, ?_, fun x => ?_, fun x => ?_, ?_⟩
  · rw [Mi_n rfl, Mi_n rfl]; exact e0
  · rw [Mi_n rfl, Mi_n rfl]; exact e1
  · rw [Mi_n rfl, Mi_n rfl]; exact e2
  · rw [Mi_n rfl, Mi_n rfl]; exact e3
  · rw [Mi_n rfl, Mi_n rfl]; exact e4
  · rw [Mi_n rfl, Mi_n rfl]; exact e5
  · rw [Mi_n rfl, Mi_n rfl]; exact e6
  · rw [Mi_n rfl, Mi_s, e7, upd1_2]
  · rw [Mi_s, Mi_n rfl, e8, upd1_2]
  · rw [Mi_n rfl, Mi_n rfl]; exact e9
  · rw [Mi_n rfl, Mi_n rfl]; exact e10 x
  · rw [Ml_sI, Ml_sI]; exact e11 x
  · rw [Mi_n rfl, Mi_n rfl]; exact e12
