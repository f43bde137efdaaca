/-! of books: what stands ahead, what came, under what -/
def prdL : Int → List Int → Int → Int
  | _, [], _ => -1
  | pr, a :: l, p => if a = p then pr else prdL a l p
/-- what a piece stands behind -/
def prB (B : Bk) (p : Int) : Int := prdL (-1) (B.2.1 (B.1 2 p)) p
theorem lnk_prd {prv nxt : Int → Int} {p : Int} : ∀ {l : List Int} {pr c : Int}, lnk prv nxt pr c l → p ∈ l → prv p = prdL pr l p
  | [], _, _, _, h => by simp at h
  | a :: l, pr, c, h, hp => by
    obtain ⟨rfl, h1, h2⟩ := h
    unfold prdL
    by_cases e : c = p
    · rw [if_pos e, ← e]; exact h1
    · rw [if_neg e]
      exact lnk_prd h2 ((List.mem_cons.mp hp).resolve_left (fun z => e z.symm))
theorem prdL_mem {p : Int} : ∀ {l : List Int} {pr : Int}, p ∉ [pr] → l.Nodup → p ∈ l → (prdL pr l p = pr ∨ prdL pr l p ∈ l) ∧ prdL pr l p ≠ p
  | [], _, _, _, h => by simp at h
  | a :: l, pr, hne, hn, hp => by
    unfold prdL
    by_cases e : a = p
    · rw [if_pos e]; exact ⟨Or.inl rfl, fun z => hne (by simp [z])⟩
    · rw [if_neg e]
      have := prdL_mem (l := l) (pr := a) (by simpa using fun z => e z.symm) (List.nodup_cons.mp hn).2 ((List.mem_cons.mp hp).resolve_left (fun z => e z.symm))
      refine ⟨Or.inr ?_, this.2⟩
      rcases this.1 with z | z
      · rw [z]; exact List.mem_cons_self
      · exact List.mem_cons_of_mem _ z
theorem prB_rng {B : Bk} (ok : okB B) {p : Int} (hp : B.1 0 p = 1) : (-1 ≤ prB B p ∧ prB B p < 60) ∧ prB B p ≠ p := by
  have hr := ok.2.1 p hp
  have hm : p ∈ B.2.1 (B.1 2 p) := (ok.2.2.1 _ p).mpr ⟨hp, rfl⟩
  have := prdL_mem (pr := -1) (by simp; omega) (ok.2.2.2.1 _) hm
  refine ⟨?_, this.2⟩
  unfold prB
  rcases this.1 with z | z
  · omega
  · have := ok.2.1 _ ((ok.2.2.1 _ _).mp z).1; omega
theorem MB_ahead {σ : Mm} {B : Bk} (hM : MB σ B) (ok : okB B) {p : Int} (hp : B.1 0 p = 1) : (Mi σ 1308754401 0) p = prB B p := by
  have hr := okB_par ok hp
  exact lnk_prd (hM.2 _ hr.1 hr.2) ((ok.2.2.1 _ p).mpr ⟨hp, rfl⟩)
theorem stS_2 {kd pc wh bh mn wd : Int → Int} {fm : Int} {B : Bk} {c x : Int} : (stS kd pc wh bh mn wd fm B c).1 2 x = B.1 2 x ∨ ((kd c = 0 ∨ kd c = 2) ∧ (stS kd pc wh bh mn wd fm B c).1 2 x = wh c) := by
  have rs : ∀ (B' : Bk), (rsB fm B' (pc c)).1 2 x = B'.1 2 x := fun B' => by unfold rsB; split; rfl; exact setB_ne (by decide)
  have st : ∀ (g : Nat) (v : Int), 2 ≠ g → (setB B g (pc c) v).1 2 x = B.1 2 x := fun g v h => setB_ne h
  unfold stS
  split
  · exact Or.inl rfl
  · split
    · rename_i hk
      show (if 2 = 0 ∧ x = pc c then 1 else if 2 = 2 ∧ x = pc c then wh c else B.1 2 x) = B.1 2 x ∨ ((kd c = 0 ∨ kd c = 2) ∧ (if 2 = 0 ∧ x = pc c then 1 else if 2 = 2 ∧ x = pc c then wh c else B.1 2 x) = wh c)
      rw [if_neg (by rintro ⟨q, -⟩; omega)]
      split
      · exact Or.inr ⟨Or.inl hk, rfl⟩
      · exact Or.inl rfl
    · split
      · exact Or.inl (st 1 _ (by decide))
      · split
        · rename_i hk
          rw [rs]
          show (if 2 = 2 ∧ x = pc c then wh c else B.1 2 x) = B.1 2 x ∨ ((kd c = 0 ∨ kd c = 2) ∧ (if 2 = 2 ∧ x = pc c then wh c else B.1 2 x) = wh c)
          split
          · exact Or.inr ⟨Or.inr hk, rfl⟩
          · exact Or.inl rfl
        · split
          · rw [rs]; exact Or.inl (show (setB B 6 (pc c) c).1 2 x = _ from setB_ne (by decide))
          · split
            · exact Or.inl (st 3 _ (by decide))
            · split
              · exact Or.inl (st 4 _ (by decide))
              · exact Or.inl (st 1 _ (by decide))
theorem bkL_2 {kd pc wh bh mn wd : Int → Int} {fm : Int} {set : Int64} {x : Int} (l : List Int) : (bkL kd pc wh bh mn wd fm set l).1 2 x = -1 ∨ ∃ c ∈ l, (kd c = 0 ∨ kd c = 2) ∧ (bkL kd pc wh bh mn wd fm set l).1 2 x = wh c := by
  suffices h : ∀ r : List Int, (bkL kd pc wh bh mn wd fm set r.reverse).1 2 x = -1 ∨ ∃ c ∈ r.reverse, (kd c = 0 ∨ kd c = 2) ∧ (bkL kd pc wh bh mn wd fm set r.reverse).1 2 x = wh c by
    have := h l.reverse
    rw [List.reverse_reverse] at this
    exact this
  intro r
  induction r with
  | nil => exact Or.inl rfl
  | cons c r ih =>
    rw [List.reverse_cons, bkL_snoc]
    generalize bkL kd pc wh bh mn wd fm set r.reverse = B at ih
    have up : ∀ (P : Int → Prop), (∃ d ∈ r.reverse, P d) → ∃ d ∈ r.reverse ++ [c], P d := fun P ⟨d, h1, h2⟩ => ⟨d, List.mem_append_left _ h1, h2⟩
    unfold stp
    split
    · have e : (stB kd pc wh bh mn wd fm B c).1 2 x = (stS kd pc wh bh mn wd fm B c).1 2 x := setB_ne (by decide)
      rw [e]
      rcases stS_2 (kd := kd) (pc := pc) (wh := wh) (bh := bh) (mn := mn) (wd := wd) (fm := fm) (B := B) (c := c) (x := x) with s | s
      · rw [s]; exact ih.imp id (up _)
      · exact Or.inr ⟨c, by simp, s⟩
    · exact ih.imp id (up _)
theorem mBk_2 {σ : Mm} (hx : logX σ) {s : Int64} {l : List Int} (hl : ∀ c ∈ l, 0 ≤ c ∧ c < (Mi σ 184680536 0 10)) (x : Int) : (mBk σ s l).1 2 x = -1 ∨ ((0 ≤ (mBk σ s l).1 2 x ∧ (mBk σ s l).1 2 x < (Mi σ 184680536 0 10)) ∧ (Mi σ 1073873377 0) ((mBk σ s l).1 2 x) = 0) := by
  unfold mBk
  rcases bkL_2 (kd := (Mi σ 973210081 0)) (pc := (Mi σ 1023541729 0)) (wh := (Mi σ 1040318945 0)) (bh := (Mi σ 1057096161 0)) (mn := (Mi σ 1107427809 0)) (wd := (Mi σ 1124208385 0)) (fm := (Mi σ 184680536 0 16)) (set := s) (x := x) l with h | ⟨c, c1, c2, c3⟩
  · exact Or.inl h
  · rw [c3]
    have hc := hl c c1
    rcases (hx c hc.1 hc.2).2.2.2.2.2.2.2.2.1 c2 with h | h
    · exact Or.inl h
    · exact Or.inr ⟨⟨h.1.1, by omega⟩, h.2⟩
theorem fold_5 {kd pc wh bh mn wd : Int → Int} {fm : Int} {set : Int64} {c : Int} : ∀ (l : List Int) (B : Bk), c ∉ l → (l.foldl (stp kd pc wh bh mn wd fm set) B).1 5 c = B.1 5 c
  | [], _, _ => rfl
  | d :: l, B, h => by
    rw [List.foldl_cons, fold_5 l _ (fun q => h (List.mem_cons_of_mem _ q))]
    unfold stp
    split
    · show (if 5 = 5 ∧ c = d then _ else _) = _
      rw [if_neg (fun q => h (by rw [q.2]; exact List.mem_cons_self)), stS_5]
    · rfl
/-- what came of a change is what came of it behind those ahead of it -/
theorem bkL_5 {kd pc wh bh mn wd : Int → Int} {fm : Int} {set : Int64} {c : Int} {l1 l2 : List Int} (h1 : c ∉ l1) (h2 : c ∉ l2) (hb : hasb set c = true) : (bkL kd pc wh bh mn wd fm set (l1 ++ c :: l2)).1 5 c = stR kd pc wh (bkL kd pc wh bh mn wd fm set l1) c := by
  unfold bkL
  rw [List.foldl_append, List.foldl_cons, fold_5 _ _ h2]
  unfold stp
  rw [if_pos hb]
  show (if 5 = 5 ∧ c = c then _ else _) = _
  rw [if_pos ⟨rfl, rfl⟩]
theorem bkL_5n {kd pc wh bh mn wd : Int → Int} {fm : Int} {set : Int64} {c : Int} (l : List Int) (hb : ¬ hasb set c = true) : (bkL kd pc wh bh mn wd fm set l).1 5 c = -6 := by
  unfold bkL
  suffices h : ∀ (l : List Int) (B : Bk), (l.foldl (stp kd pc wh bh mn wd fm set) B).1 5 c = B.1 5 c from h l bk0
  intro l
  induction l with
  | nil => intro _; rfl
  | cons d l ih =>
    intro B
    rw [List.foldl_cons, ih]
    unfold stp
    split
    · rename_i q
      show (if 5 = 5 ∧ c = d then _ else _) = _
      rw [if_neg (fun z => hb (by rw [z.2]; exact q)), stS_5]
    · rfl
theorem stR_there {kd pc wh : Int → Int} {B : Bk} {c : Int} (h : stR kd pc wh B c = 0) (hk : kd c ≠ 0) : B.1 0 (pc c) = 1 := by
  unfold stR at h
  rw [if_neg hk] at h
  refine Classical.byContradiction fun q => ?_
  rw [if_pos (Or.inl q)] at h
  omega
theorem takeWhile_split {l : List Int} {c : Int} (hn : l.Nodup) (hc : c ∈ l) : ∃ l2, l = l.takeWhile (fun x => decide (x ≠ c)) ++ c :: l2 ∧ c ∉ l.takeWhile (fun x => decide (x ≠ c)) ∧ c ∉ l2 := by
  have h : ∃ l1 l2, l = l1 ++ c :: l2 := List.append_of_mem hc
  obtain ⟨l1, l2, rfl⟩ := h
  have hn' := List.nodup_append.mp hn
  have h1 : c ∉ l1 := fun q => hn'.2.2 c q c (by simp) rfl
  have h2 : c ∉ l2 := (List.nodup_cons.mp hn'.2.1).1
  have e : (l1 ++ c :: l2).takeWhile (fun x => decide (x ≠ c)) = l1 := by
    rw [List.takeWhile_append_of_pos (fun x hx => by simp; rintro rfl; exact h1 hx), List.takeWhile_cons]
    simp
  exact ⟨l2, by rw [e], by rw [e]; exact h1, h2⟩
/-- those ahead of a change, of all -/
def ahL (σ : Mm) (c : Int) : List Int := (mOrd σ).takeWhile (fun x => decide (x ≠ c))
theorem ahL_mem {σ : Mm} (h : 0 ≤ (Mi σ 184680536 0 10)) {c x : Int} (hx : x ∈ ahL σ c) : 0 ≤ x ∧ x < (Mi σ 184680536 0 10) := (mOrd_mem h).mp (List.takeWhile_subset _ hx)
theorem ahL_nodup {σ : Mm} {c : Int} : (ahL σ c).Nodup := (List.takeWhile_sublist _).nodup (ordL_nodup _ _ _)
theorem W_mBk {σ σ' : Mm} (hF : Fr scrW σ σ') {s : Int64} {l : List Int} : mBk σ' s l = mBk σ s l := by
  unfold mBk
  rw [hF.i 973210081 rfl, hF.i 1023541729 rfl, hF.i 1040318945 rfl, hF.i 1057096161 rfl, hF.i 1107427809 rfl, hF.i 1124208385 rfl, hF.i 184680536 rfl]
theorem W_mOrd {σ σ' : Mm} (hF : Fr scrW σ σ') : mOrd σ' = mOrd σ := by
  unfold mOrd
  rw [hF.i 1006764513 rfl, hF.i 989987297 rfl, hF.i 184680536 rfl]
/-- has a change a say in a book -/
def sayB (σ : Mm) (B : Bk) (s : Int64) (c : Int) : Prop := sayP (Mi σ 973210081 0) (Mi σ 1023541729 0) (B.1 5) (B.1 1) (Mi σ 1006764513 0) (Mi σ 989987297 0) (Mi σ 184680536 0 16) (Mi σ 184680536 0 10) s c
theorem sayP_congr {kd pc cm st ct hd cm' st' : Int → Int} {fm n : Int} {s : Int64} {c : Int} (hc : 0 ≤ c ∧ c < n) (hp : 0 ≤ pc c ∧ pc c < 60) (hn : n ≤ 60) (h : ∀ x : Int, 0 ≤ x → x < 60 → cm' x = cm x ∧ st' x = st x) : sayP kd pc cm' st' ct hd fm n s c ↔ sayP kd pc cm st ct hd fm n s c := by
  unfold sayP
  rw [(h c hc.1 (by omega)).1, (h (pc c) hp.1 hp.2).2]
  have e : ∀ x : Int, 0 ≤ x → x < n → (outd kd cm' fm c x ↔ outd kd cm fm c x) := fun x a b => by unfold outd; rw [(h x a (by omega)).1]
  refine and_congr Iff.rfl (and_congr Iff.rfl ?_)
  split
  · exact Iff.rfl
  · refine and_congr Iff.rfl ⟨fun q x a b c d f g => q x a b c d f ((e x a b).mpr g), fun q x a b c d f g => q x a b c d f ((e x a b).mp g)⟩
theorem m_hasSayB {s : Int64} {c : Int} {B : Bk} {σ σ1 : Mm} {k : Int → Mm → Prop} (hI : mI σ) (hF : Fr scrW σ σ1) (hM : MBc σ1 B) (hc : 0 ≤ c ∧ c < (Mi σ 184680536 0 10)) (h5 : ∀ x : Int, IR (B.1 5 x)) (ok : okB B) (h1 : sayB σ B s c → k 1 σ1) (h0 : ¬ sayB σ B s c → k 0 σ1) : OkI 95 [vR 184680536 0, vG s, vI c] σ1 k := by
  have hn := hI.1.1.1
  have e0 : Mi σ1 184680536 = Mi σ 184680536 := hF.i _ rfl
  have hp := (hI.1.2.2 c hc.1 hc.2).1.1.2.1
  have cg : sayP (Mi σ1 973210081 0) (Mi σ1 1023541729 0) (Mi σ1 1409417697 0) (Mi σ1 1241645538 0) (Mi σ1 1006764513 0) (Mi σ1 989987297 0) (Mi σ1 184680536 0 16) (Mi σ1 184680536 0 10) s c ↔ sayB σ B s c := by
    unfold sayB
    rw [hF.i 973210081 rfl, hF.i 1023541729 rfl, hF.i 1006764513 rfl, hF.i 989987297 rfl, e0]
    exact sayP_congr hc hp hn.2 (fun x a b => ⟨hM.2 x a b, (hM.1.1 x a b).2.1⟩)
  refine m_hasSay (mI_same (same_W hF) hI).1 (by rw [e0]; exact hc) (fun x a b => ?_) (fun x a b => ?_) (fun q => h1 (cg.mp q)) (fun q => h0 (fun z => q (cg.mpr z)))
  · rw [e0] at b
    rw [hM.2 x a (by omega)]; exact h5 x
  · rw [(hM.1.1 x a b).2.1]
    have := (ok.1 x).2
    exact (by first | omega | (unfold IR; omega))
theorem allB_5 {σ : Mm} (h : logM σ) (s : Int64) (x : Int) : IR ((allB σ s).1 5 x) := by
  unfold allB mBk
  by_cases q : hasb s x = true
  · by_cases m : x ∈ mOrd σ
    · obtain ⟨l2, e, h1, h2⟩ := takeWhile_split (l := mOrd σ) (ordL_nodup _ _ _) m
      rw [e, bkL_5 h1 h2 q]
      unfold stR
      split
      · split <;> exact (by first | omega | (unfold IR; omega))
      · split
        · exact (by first | omega | (unfold IR; omega))
        · split <;> exact (by first | omega | (unfold IR; omega))
    · unfold bkL
      rw [fold_5 _ _ m]
      show IR (-6)
      exact (by first | omega | (unfold IR; omega))
  · rw [bkL_5n _ q]; exact (by first | omega | (unfold IR; omega))
