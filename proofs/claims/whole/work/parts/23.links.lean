/-! linked lists of all parts at once -/
theorem lnk_head {prv nxt : Int → Int} {pr c : Int} {l : List Int} (h : lnk prv nxt pr c l) : c = -1 ∨ c ∈ l := by
  cases l with
  | nil => exact Or.inl h
  | cons a l => exact Or.inr (by rw [h.1]; simp)
theorem lnk_mem {prv nxt : Int → Int} : ∀ {l : List Int} {pr c : Int}, lnk prv nxt pr c l → ∀ a ∈ l, (nxt a = -1 ∨ nxt a ∈ l) ∧ (prv a = pr ∨ prv a ∈ l)
  | x :: l, pr, c, h, a, ha => by
    obtain ⟨rfl, h1, h2⟩ := h
    rcases List.mem_cons.mp ha with rfl | ha
    · refine ⟨?_, Or.inl h1⟩
      rcases lnk_head h2 with h | h
      · exact Or.inl h
      · exact Or.inr (List.mem_cons_of_mem _ h)
    · obtain ⟨g1, g2⟩ := lnk_mem h2 a ha
      refine ⟨g1.imp id (List.mem_cons_of_mem _), ?_⟩
      rcases g2 with g2 | g2
      · exact Or.inr (by rw [g2]; simp)
      · exact Or.inr (List.mem_cons_of_mem _ g2)
def LK (prv nxt fst : Int → Int) (kids : Int → List Int) : Prop := ∀ q, -1 ≤ q → q < 60 → lnk prv nxt (-1) (fst (hol q)) (kids q)
/-- what holds of the parts' lists -/
def kidsOk (kids : Int → List Int) : Prop := (∀ q, (kids q).Nodup) ∧ (∀ q x, x ∈ kids q → 0 ≤ x ∧ x < 60) ∧ ∀ q q' x, x ∈ kids q → x ∈ kids q' → q = q'
theorem okB_kids {B : Bk} (h : okB B) : kidsOk B.2.1 := ⟨h.2.2.2.1, fun q x hx => h.2.1 x ((h.2.2.1 q x).mp hx).1, fun q q' x h1 h2 => by rw [← ((h.2.2.1 q x).mp h1).2, ← ((h.2.2.1 q' x).mp h2).2]⟩
theorem LK_out {prv nxt fst : Int → Int} {kids : Int → List Int} {p q0 : Int} (h : LK prv nxt fst kids) (ok : kidsOk kids) (hq : -1 ≤ q0 ∧ q0 < 60) (hp : p ∈ kids q0) :
    (-1 ≤ prv p ∧ prv p < 60) ∧ (-1 ≤ nxt p ∧ nxt p < 60) ∧ LK (if 0 ≤ nxt p then upd1 prv (nxt p) (prv p) else prv) (if prv p < 0 then nxt else upd1 nxt (prv p) (nxt p)) (if prv p < 0 then upd1 fst (hol q0) (nxt p) else fst) (fun q => if q = q0 then delK (kids q) p else kids q) := by
  obtain ⟨hnd, hrg, hdis⟩ := ok
  obtain ⟨l1, l2, hl, hd⟩ := delK_split (hnd q0) hp
  have h0 := h q0 hq.1 hq.2
  have hm := lnk_mem h0 p hp
  have hprv : prv p = -1 ∨ prv p ∈ kids q0 := hm.2
  have hr1 : -1 ≤ prv p ∧ prv p < 60 := by rcases hm.2 with g | g; omega; have := hrg q0 _ g; omega
  have hr2 : -1 ≤ nxt p ∧ nxt p < 60 := by rcases hm.1 with g | g; omega; have := hrg q0 _ g; omega
  refine ⟨hr1, hr2, fun q hq1 hq2 => ?_⟩
  show lnk _ _ (-1) _ (if q = q0 then delK (kids q) p else kids q)
  by_cases hqq : q = q0
  · subst hqq
    rw [if_pos rfl, hd]
    have hn := hnd q
    have hg := fun a ha => (hrg q a ha).1
    rw [hl] at h0 hn hg
    obtain ⟨g1, g2, -, -, g5⟩ := lnk_out hn hg (fun hx => by have := hg _ hx; omega) h0
    have hl1 : l1 = [] ↔ prv p < 0 := by
      constructor
      · intro e; rw [g1 e]; omega
      · intro e
        rcases List.eq_nil_or_concat l1 with e2 | ⟨l0, x, e2⟩
        · exact e2
        · rw [List.concat_eq_append] at e2
          have := g2 l0 x e2
          have := hg x (by rw [e2]; simp)
          omega
    have := g5 (if 0 ≤ nxt p then upd1 prv (nxt p) (prv p) else prv) (if prv p < 0 then nxt else upd1 nxt (prv p) (nxt p))
      (fun x hx => by split; exact upd1_n hx; rfl) (fun hx => by rw [if_pos hx, upd1_s]) (fun x hx => by split; rfl; exact upd1_n hx) (fun hx => by rw [if_neg (fun e => hx (hl1.mpr e)), upd1_s])
    by_cases hc : prv p < 0
    · rw [if_pos (hl1.mpr hc)] at this
      rw [if_pos hc, if_pos hc] at *
      rw [upd1_s]
      exact this
    · rw [if_neg (fun e => hc (hl1.mp e))] at this
      rw [if_neg hc, if_neg hc] at *
      exact this
  · rw [if_neg hqq]
    have e1 : (if prv p < 0 then upd1 fst (hol q0) (nxt p) else fst) (hol q) = fst (hol q) := by
      split
      · exact upd1_n (fun e => hqq ((hol_inj ⟨hq1, hq2⟩ hq).mp e))
      · rfl
    rw [e1]
    refine lnk_congr (fun a ha => ⟨?_, ?_⟩) (h q hq1 hq2)
    · split
      · rename_i hc
        refine upd1_n ?_
        rintro rfl
        rcases hm.1 with g | g
        · omega
        · exact hqq (hdis _ _ _ ha g)
      · rfl
    · split
      · rfl
      · rename_i hc
        refine upd1_n ?_
        rintro rfl
        rcases hm.2 with g | g
        · omega
        · exact hqq (hdis _ _ _ ha g)
theorem LK_in {prv nxt fst : Int → Int} {kids : Int → List Int} {p part bh f n : Int} (h : LK prv nxt fst kids) (ok : kidsOk kids) (hp : 0 ≤ p ∧ p < 60) (hnew : ∀ q, p ∉ kids q) (hq : -1 ≤ part ∧ part < 60) (hbh : -1 ≤ bh ∧ bh ≠ p)
    (hf : f = if bh ≠ -1 ∧ bh ∉ kids part then (kids part).getLast?.getD (-1) else bh) (hn : n = if f < 0 then fst (hol part) else nxt f) :
    f ≠ p ∧ (-1 ≤ n ∧ n < 60) ∧ LK (if 0 ≤ n then upd1 (upd1 prv p f) n p else upd1 prv p f) (if f < 0 then upd1 nxt p n else upd1 (upd1 nxt p n) f p) (if f < 0 then upd1 fst (hol part) p else fst) (fun q => if q = part then insK (kids q) p bh else kids q) := by
  obtain ⟨hnd, hrg, hdis⟩ := ok
  obtain ⟨l1, l2, hl, hi, hlast⟩ := insK_split (l := kids part) (p := p) (bh := bh)
  rw [← hf] at hlast
  have h0 := h part hq.1 hq.2
  have hfm : f = -1 ∨ f ∈ kids part := by
    rw [← hlast]
    cases hx : l1.getLast? with
    | none => exact Or.inl rfl
    | some x => right; simp; rw [hl]; exact List.mem_append_left _ (List.mem_of_getLast? hx)
  have hfp : f ≠ p := by
    rcases hfm with e | e
    · omega
    · rintro rfl; exact hnew _ e
  have hnm : n = -1 ∨ n ∈ kids part := by
    rw [hn]
    split
    · exact lnk_head h0
    · rcases hfm with e | e
      · omega
      · exact (lnk_mem h0 f e).1
  have hnr : -1 ≤ n ∧ n < 60 := by rcases hnm with g | g; omega; have := hrg part _ g; omega
  have hnp : n ≠ p := by
    rcases hnm with e | e
    · omega
    · rintro rfl; exact hnew _ e
  refine ⟨hfp, hnr, fun q hq1 hq2 => ?_⟩
  show lnk _ _ (-1) _ (if q = part then insK (kids q) p bh else kids q)
  by_cases hqq : q = part
  · subst hqq
    rw [if_pos rfl, hi]
    have hnn := hnd q
    have hg := fun a ha => (hrg q a ha).1
    have hne := hnew q
    rw [hl] at h0 hnn hg hne
    have hl1 : l1 = [] ↔ f < 0 := by
      constructor
      · intro e; rw [← hlast, e]; simp
      · intro e
        rcases List.eq_nil_or_concat l1 with e2 | ⟨l0, x, e2⟩
        · exact e2
        · rw [List.concat_eq_append] at e2
          have : f = x := by rw [← hlast, e2]; simp
          have := hg x (by rw [e2]; simp)
          omega
    have := lnk_in hp.1 hnn hg hne (fun hx => by have := hg _ hx; omega) (by omega) h0 (if 0 ≤ n then upd1 (upd1 prv p f) n p else upd1 prv p f) (if f < 0 then upd1 nxt p n else upd1 (upd1 nxt p n) f p) f n hlast.symm
      (by by_cases e : f < 0
          · rw [if_pos (hl1.mpr e), hn, if_pos e]
          · rw [if_neg (fun g => e (hl1.mp g)), hn, if_neg e])
      (by split
          · rw [upd1_n (Ne.symm hnp), upd1_s]
          · exact upd1_s)
      (fun x hx1 hx2 => by split
                           · rw [upd1_n hx2, upd1_n hx1]
                           · exact upd1_n hx1)
      (fun hx => by rw [if_pos hx, upd1_s])
      (by split
          · exact upd1_s
          · rw [upd1_n (Ne.symm hfp), upd1_s])
      (fun x hx1 hx2 => by split
                           · exact upd1_n hx1
                           · rw [upd1_n hx2, upd1_n hx1])
      (fun hx => by rw [if_neg (fun e => hx (hl1.mpr e)), upd1_s])
    by_cases hc : f < 0
    · rw [if_pos (hl1.mpr hc)] at this
      rw [if_pos hc] at *
      rw [if_pos hc, upd1_s]
      exact this
    · rw [if_neg (fun e => hc (hl1.mp e))] at this
      rw [if_neg hc] at *
      rw [if_neg hc]
      exact this
  · rw [if_neg hqq]
    have e1 : (if f < 0 then upd1 fst (hol part) p else fst) (hol q) = fst (hol q) := by
      split
      · exact upd1_n (fun e => hqq ((hol_inj ⟨hq1, hq2⟩ hq).mp e))
      · rfl
    rw [e1]
    refine lnk_congr (fun a ha => ⟨?_, ?_⟩) (h q hq1 hq2)
    · have hap : a ≠ p := by rintro rfl; exact hnew _ ha
      split
      · rename_i hc
        rw [upd1_n ?_, upd1_n hap]
        rintro rfl
        rcases hnm with g | g
        · omega
        · exact hqq (hdis _ _ _ ha g)
      · exact upd1_n hap
    · have hap : a ≠ p := by rintro rfl; exact hnew _ ha
      split
      · exact upd1_n hap
      · rename_i hc
        rw [upd1_n ?_, upd1_n hap]
        rintro rfl
        rcases hfm with g | g
        · omega
        · exact hqq (hdis _ _ _ ha g)
