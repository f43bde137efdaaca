/-! what always holds of the check's rows -/
/-- of the changes, further -/
def logX (σ : Mm) : Prop := ∀ c : Int, 0 ≤ c → c < (Mi σ 184680536 0 10) →
  (0 ≤ (Mi σ 989987297 0) c ∧ (Mi σ 989987297 0) c < 6) ∧ (1 ≤ (Mi σ 1006764513 0) c ∧ (Mi σ 1006764513 0) c ≤ c + 1) ∧ ((Mi σ 1023541729 0) c ≤ c ∧ (Mi σ 973210081 0) ((Mi σ 1023541729 0) c) = 0) ∧
  ((Mi σ 973210081 0) c = 0 → (0 ≤ (Mi σ 1073873377 0) c ∧ (Mi σ 1073873377 0) c ≤ 2) ∧ ((Mi σ 1073873377 0) c = 2 → 1 ≤ (Mi σ 1090650593 0) c ∧ (Mi σ 1090650593 0) c ≤ 9)) ∧ ((Mi σ 973210081 0) c ≠ 0 → (Mi σ 1073873377 0) c = -6 ∧ (Mi σ 1090650593 0) c = -6) ∧
  ((Mi σ 973210081 0) c = 4 → 0 ≤ (Mi σ 1040318945 0) c ∧ (Mi σ 1040318945 0) c ≤ 3) ∧ ((Mi σ 973210081 0) c = 5 → -1 ≤ (Mi σ 1040318945 0) c ∧ (Mi σ 1040318945 0) c < 60) ∧ (3 ≤ (Mi σ 973210081 0) c → (Mi σ 973210081 0) c ≤ 5 → (Mi σ 1073873377 0) ((Mi σ 1023541729 0) c) = 1) ∧
  ((Mi σ 973210081 0) c = 0 ∨ (Mi σ 973210081 0) c = 2 → (Mi σ 1040318945 0) c = -1 ∨ ((0 ≤ (Mi σ 1040318945 0) c ∧ (Mi σ 1040318945 0) c < c) ∧ (Mi σ 1073873377 0) ((Mi σ 1040318945 0) c) = 0)) ∧
  hasB ((Ml σ 1140981811 0) ((Mi σ 989987297 0) c)) c ∧ ∀ d : Int, c < d → d < (Mi σ 184680536 0 10) → (Mi σ 989987297 0) c = (Mi σ 989987297 0) d → (Mi σ 1006764513 0) c < (Mi σ 1006764513 0) d
def hasR (σ : Mm) : Prop := (∀ h : Int, 0 ≤ h → h < 6 → ∀ c : Int, 0 ≤ c → c < 64 → hasB ((Ml σ 1140981811 0) h) c → c < (Mi σ 184680536 0 10)) ∧ (0 ≤ (Mi σ 184680536 0 13) ∧ (Mi σ 184680536 0 13) ≤ 8) ∧ ((Mi σ 184680536 0 16) = 0 ∨ (Mi σ 184680536 0 16) = 1) ∧ 0 ≤ (Mi σ 184680536 0 35) ∧ (Mi σ 184680536 0 35) ≤ 8
def padR (σ : Mm) : Prop := ∀ h : Int, 0 ≤ h → h < 6 → (0 ≤ (Mi σ 1191313457 0) h ∧ (Mi σ 1191313457 0) h ≤ 8) ∧ ∀ i : Int, 0 ≤ i → i < (Mi σ 1191313457 0) h → 1 ≤ (Mi σ 1174536577 0) (8 * h + i) ∧ (Mi σ 1174536577 0) (8 * h + i) ≤ 99
def edR (σ : Mm) : Prop := (0 ≤ (Mi σ 184680536 0 60) ∧ (Mi σ 184680536 0 60) ≤ 6) ∧ ∀ i : Int, 0 ≤ i → i < (Mi σ 184680536 0 60) → (0 ≤ (Mi σ 1761738801 0) i ∧ (Mi σ 1761738801 0) i ≤ 2) ∧ (10 ≤ (Mi σ 1778516017 0) i ∧ (Mi σ 1778516017 0) i ≤ 60) ∧ 10 ≤ (Mi σ 1795293233 0) i ∧ (Mi σ 1795293233 0) i ≤ 20
def mI (σ : Mm) : Prop := logM σ ∧ logX σ ∧ hasR σ ∧ padR σ ∧ ruleR σ ∧ yesR σ ∧ pairS σ ∧ termR σ ∧ edR σ
/-! where a book's numbers come from -/
theorem stS_v {kd pc wh bh mn wd : Int → Int} {fm : Int} {B : Bk} {c x : Int} : ((stS kd pc wh bh mn wd fm B c).1 3 x = B.1 3 x ∨ (kd c = 4 ∧ pc c = x ∧ (stS kd pc wh bh mn wd fm B c).1 3 x = wh c)) ∧ ((stS kd pc wh bh mn wd fm B c).1 4 x = B.1 4 x ∨ (kd c = 5 ∧ pc c = x ∧ (stS kd pc wh bh mn wd fm B c).1 4 x = wh c)) ∧ ((stS kd pc wh bh mn wd fm B c).1 6 x = B.1 6 x ∨ (kd c = 3 ∧ pc c = x ∧ (stS kd pc wh bh mn wd fm B c).1 6 x = c)) := by
  have rs : ∀ (B' : Bk) (f : Nat), f ≠ 1 → (rsB fm B' (pc c)).1 f x = B'.1 f x := fun B' f hf => by unfold rsB; split; rfl; exact setB_ne hf
  have pu : ∀ f : Nat, f ≠ 0 → f ≠ 2 → (putB B (pc c) (wh c) (bh c)).1 f x = B.1 f x := fun f h0 h2 => by show (if f = 0 ∧ x = pc c then 1 else if f = 2 ∧ x = pc c then wh c else B.1 f x) = _; rw [if_neg (fun q => h0 q.1), if_neg (fun q => h2 q.1)]
  have mv : ∀ f : Nat, f ≠ 2 → (movB B (pc c) (wh c) (bh c)).1 f x = B.1 f x := fun f h2 => by show (if f = 2 ∧ x = pc c then wh c else B.1 f x) = _; rw [if_neg (fun q => h2 q.1)]
  have wr : ∀ f : Nat, f ≠ 6 → (wrdB mn wd B (pc c) c).1 f x = B.1 f x := fun f h => setB_ne h
  have st : ∀ (f g : Nat) (v : Int), f ≠ g → (setB B g (pc c) v).1 f x = B.1 f x := fun f g v h => setB_ne h
  have se : ∀ (g : Nat) (v : Int), (setB B g (pc c) v).1 g x = B.1 g x ∨ (pc c = x ∧ (setB B g (pc c) v).1 g x = v) := fun g v => by
    show (if g = g ∧ x = pc c then v else B.1 g x) = _ ∨ (pc c = x ∧ (if g = g ∧ x = pc c then v else B.1 g x) = v)
    by_cases h : x = pc c
    · right; rw [if_pos ⟨rfl, h⟩]; exact ⟨h.symm, rfl⟩
    · left; rw [if_neg (fun q => h q.2)]
  unfold stS
  split
  · exact ⟨Or.inl rfl, Or.inl rfl, Or.inl rfl⟩
  · split
    · exact ⟨Or.inl (pu 3 (by decide) (by decide)), Or.inl (pu 4 (by decide) (by decide)), Or.inl (pu 6 (by decide) (by decide))⟩
    · split
      · exact ⟨Or.inl (st 3 1 _ (by decide)), Or.inl (st 4 1 _ (by decide)), Or.inl (st 6 1 _ (by decide))⟩
      · split
        · exact ⟨Or.inl ((rs _ 3 (by decide)).trans (mv 3 (by decide))), Or.inl ((rs _ 4 (by decide)).trans (mv 4 (by decide))), Or.inl ((rs _ 6 (by decide)).trans (mv 6 (by decide)))⟩
        · split
          · rename_i hk
            refine ⟨Or.inl ((rs _ 3 (by decide)).trans (wr 3 (by decide))), Or.inl ((rs _ 4 (by decide)).trans (wr 4 (by decide))), ?_⟩
            rw [rs _ 6 (by decide)]
            exact (se 6 c).imp id (fun h => ⟨hk, h.1, h.2⟩)
          · split
            · rename_i hk
              exact ⟨(se 3 (wh c)).imp id (fun h => ⟨hk, h.1, h.2⟩), Or.inl (st 4 3 _ (by decide)), Or.inl (st 6 3 _ (by decide))⟩
            · split
              · rename_i hk
                exact ⟨Or.inl (st 3 4 _ (by decide)), (se 4 (wh c)).imp id (fun h => ⟨hk, h.1, h.2⟩), Or.inl (st 6 4 _ (by decide))⟩
              · exact ⟨Or.inl (st 3 1 _ (by decide)), Or.inl (st 4 1 _ (by decide)), Or.inl (st 6 1 _ (by decide))⟩
theorem bkL_v {kd pc wh bh mn wd : Int → Int} {fm : Int} {set : Int64} {x : Int} : ∀ (l : List Int), ((bkL kd pc wh bh mn wd fm set l).1 3 x = 0 ∨ ∃ c ∈ l, kd c = 4 ∧ pc c = x ∧ (bkL kd pc wh bh mn wd fm set l).1 3 x = wh c) ∧ ((bkL kd pc wh bh mn wd fm set l).1 4 x = -1 ∨ ∃ c ∈ l, kd c = 5 ∧ pc c = x ∧ (bkL kd pc wh bh mn wd fm set l).1 4 x = wh c) ∧ ((bkL kd pc wh bh mn wd fm set l).1 6 x = -1 ∨ ∃ c ∈ l, kd c = 3 ∧ pc c = x ∧ (bkL kd pc wh bh mn wd fm set l).1 6 x = c) := by
  intro l
  suffices h : ∀ r : List Int, ((bkL kd pc wh bh mn wd fm set r.reverse).1 3 x = 0 ∨ ∃ c ∈ r.reverse, kd c = 4 ∧ pc c = x ∧ (bkL kd pc wh bh mn wd fm set r.reverse).1 3 x = wh c) ∧ ((bkL kd pc wh bh mn wd fm set r.reverse).1 4 x = -1 ∨ ∃ c ∈ r.reverse, kd c = 5 ∧ pc c = x ∧ (bkL kd pc wh bh mn wd fm set r.reverse).1 4 x = wh c) ∧ ((bkL kd pc wh bh mn wd fm set r.reverse).1 6 x = -1 ∨ ∃ c ∈ r.reverse, kd c = 3 ∧ pc c = x ∧ (bkL kd pc wh bh mn wd fm set r.reverse).1 6 x = c) by
    have := h l.reverse
    rw [List.reverse_reverse] at this
    exact this
  intro r
  induction r with
  | nil => exact ⟨Or.inl rfl, Or.inl rfl, Or.inl rfl⟩
  | cons c r ih =>
    rw [List.reverse_cons, bkL_snoc]
    generalize bkL kd pc wh bh mn wd fm set r.reverse = B at ih
    have up : ∀ (P : Int → Prop), (∃ d ∈ r.reverse, P d) → ∃ d ∈ r.reverse ++ [c], P d := fun P ⟨d, h1, h2⟩ => ⟨d, List.mem_append_left _ h1, h2⟩
    unfold stp
    split
    · have e : ∀ f : Nat, f ≠ 5 → (stB kd pc wh bh mn wd fm B c).1 f x = (stS kd pc wh bh mn wd fm B c).1 f x := fun f hf => setB_ne hf
      rw [e 3 (by decide), e 4 (by decide), e 6 (by decide)]
      obtain ⟨s3, s4, s6⟩ := stS_v (kd := kd) (pc := pc) (wh := wh) (bh := bh) (mn := mn) (wd := wd) (fm := fm) (B := B) (c := c) (x := x)
      refine ⟨?_, ?_, ?_⟩
      · rcases s3 with s | s
        · rw [s]; exact ih.1.imp id (up _)
        · exact Or.inr ⟨c, by simp, s⟩
      · rcases s4 with s | s
        · rw [s]; exact ih.2.1.imp id (up _)
        · exact Or.inr ⟨c, by simp, s⟩
      · rcases s6 with s | s
        · rw [s]; exact ih.2.2.imp id (up _)
        · exact Or.inr ⟨c, by simp, s⟩
    · exact ⟨ih.1.imp id (up _), ih.2.1.imp id (up _), ih.2.2.imp id (up _)⟩
/-- what a book of the changes made is like -/
theorem mBk_v {σ : Mm} (h : logM σ) (hx : logX σ) {s : Int64} {l : List Int} (hl : ∀ c ∈ l, 0 ≤ c ∧ c < (Mi σ 184680536 0 10)) {p : Int} : (0 ≤ (mBk σ s l).1 3 p ∧ (mBk σ s l).1 3 p ≤ 3) ∧ (-1 ≤ (mBk σ s l).1 4 p ∧ (mBk σ s l).1 4 p < 60) ∧ ((mBk σ s l).1 6 p = -1 ∨ (0 ≤ (mBk σ s l).1 6 p ∧ (mBk σ s l).1 6 p < (Mi σ 184680536 0 10) ∧ (Mi σ 973210081 0) ((mBk σ s l).1 6 p) = 3 ∧ (Mi σ 1023541729 0) ((mBk σ s l).1 6 p) = p)) ∧ ((Mi σ 1073873377 0) p ≠ 1 → (mBk σ s l).1 3 p = 0 ∧ (mBk σ s l).1 4 p = -1 ∧ (mBk σ s l).1 6 p = -1) := by
  obtain ⟨a3, a4, a6⟩ := bkL_v (kd := (Mi σ 973210081 0)) (pc := (Mi σ 1023541729 0)) (wh := (Mi σ 1040318945 0)) (bh := (Mi σ 1057096161 0)) (mn := (Mi σ 1107427809 0)) (wd := (Mi σ 1124208385 0)) (fm := (Mi σ 184680536 0 16)) (set := s) (x := p) l
  unfold mBk
  refine ⟨?_, ?_, ?_, fun hs => ⟨?_, ?_, ?_⟩⟩
  · rcases a3 with e | ⟨c, c1, c2, c3, e⟩ <;> rw [e]
    · omega
    · exact (hx c (hl c c1).1 (hl c c1).2).2.2.2.2.2.1 c2
  · rcases a4 with e | ⟨c, c1, c2, c3, e⟩ <;> rw [e]
    · omega
    · exact (hx c (hl c c1).1 (hl c c1).2).2.2.2.2.2.2.1 c2
  · rcases a6 with e | ⟨c, c1, c2, c3, e⟩
    · exact Or.inl e
    · right; rw [e]; exact ⟨(hl c c1).1, (hl c c1).2, c2, c3⟩
  · rcases a3 with e | ⟨c, c1, c2, c3, e⟩
    · exact e
    · exact absurd (by rw [← c3]; exact (hx c (hl c c1).1 (hl c c1).2).2.2.2.2.2.2.2.1 (by omega) (by omega)) hs
  · rcases a4 with e | ⟨c, c1, c2, c3, e⟩
    · exact e
    · exact absurd (by rw [← c3]; exact (hx c (hl c c1).1 (hl c c1).2).2.2.2.2.2.2.2.1 (by omega) (by omega)) hs
  · rcases a6 with e | ⟨c, c1, c2, c3, e⟩
    · exact e
    · exact absurd (by rw [← c3]; exact (hx c (hl c c1).1 (hl c c1).2).2.2.2.2.2.2.2.1 (by omega) (by omega)) hs
theorem allB_v {σ : Mm} (h : logM σ) (hx : logX σ) {s : Int64} {p : Int} : (0 ≤ (allB σ s).1 3 p ∧ (allB σ s).1 3 p ≤ 3) ∧ (-1 ≤ (allB σ s).1 4 p ∧ (allB σ s).1 4 p < 60) ∧ ((allB σ s).1 6 p = -1 ∨ (0 ≤ (allB σ s).1 6 p ∧ (allB σ s).1 6 p < (Mi σ 184680536 0 10) ∧ (Mi σ 973210081 0) ((allB σ s).1 6 p) = 3 ∧ (Mi σ 1023541729 0) ((allB σ s).1 6 p) = p)) ∧ ((Mi σ 1073873377 0) p ≠ 1 → (allB σ s).1 3 p = 0 ∧ (allB σ s).1 4 p = -1 ∧ (allB σ s).1 6 p = -1) := mBk_v h hx (fun c hc => (mOrd_mem h.1.1.1).mp hc)
/-- what the rows hold of a book of all, says no more than eight words -/
theorem say_rng {σ σ' : Mm} {B : Bk} (hs : spkOk σ B) (hM : MB σ' B) (e1 : Mi σ' 1107427809 = Mi σ 1107427809) (e2 : Mi σ' 1124208385 = Mi σ 1124208385) {p : Int} (hp : 0 ≤ p ∧ p < 60) : sayR σ' p := by
  obtain ⟨w1, w2⟩ := MB_wk hs hp
  have h1 := hM.1 p hp.1 hp.2
  unfold sayR
  rw [h1.2.2.2.2.1, e1]
  refine ⟨w1, fun i i0 i1 => ?_⟩
  rw [(h1.2.2.2.2.2.2 i i0 (by rw [e1]; exact i1)).1, e2]
  have := w2 i i0 i1
  omega
theorem unM_inR {σ σ' : Mm} {s : Int64} (h : logM σ) (hu : unM σ σ' (allB σ s)) : inR σ' (allB σ s) := by
  obtain ⟨hF, hf, hr, hM, hm, ha⟩ := hu
  obtain ⟨ok, hs, hB⟩ := allB_ok h s
  exact ⟨hM.1, ok, hm, ha, fun p hp => say_rng hs hM.1 (hF.i _ rfl) (hF.i _ rfl) (ok.2.1 p ((readL_mem ok).mp hp).1)⟩
