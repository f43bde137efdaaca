/-! the order of stamps, as the rows are sorted: a list; the book of a set -/
def ahB (ct hd : Int → Int) (a b : Int) : Bool := decide (ct a < ct b) || (decide (ct a = ct b) && decide (hd a < hd b))
theorem ahB_iff {ct hd : Int → Int} {a b : Int} : ahB ct hd a b = true ↔ ahd ct hd a b := by simp [ahB, ahd]
def insE (P : Int → Bool) (c : Int) (l : List Int) : List Int := (l.reverse.dropWhile P).reverse ++ c :: (l.reverse.takeWhile P).reverse
theorem insE_split {P : Int → Bool} {c : Int} {l1 l2 : List Int} (h2 : ∀ x ∈ l2, P x = true) (h1 : ∀ x, l1.getLast? = some x → P x = false) : insE P c (l1 ++ l2) = l1 ++ c :: l2 := by
  have e1 : (l1 ++ l2).reverse.dropWhile P = l1.reverse := by
    rw [List.reverse_append, List.dropWhile_append_of_pos (fun x hx => h2 x (List.mem_reverse.mp hx))]
    cases hr : l1.reverse with
    | nil => rfl
    | cons a l =>
      have : l1.getLast? = some a := by rw [List.getLast?_eq_head?_reverse, hr]; rfl
      rw [List.dropWhile_cons, h1 a this]
      simp
  have e2 : (l1 ++ l2).reverse.takeWhile P = l2.reverse := by
    rw [List.reverse_append, List.takeWhile_append_of_pos (fun x hx => h2 x (List.mem_reverse.mp hx))]
    cases hr : l1.reverse with
    | nil => simp
    | cons a l =>
      have : l1.getLast? = some a := by rw [List.getLast?_eq_head?_reverse, hr]; rfl
      rw [List.takeWhile_cons, h1 a this]
      simp
  unfold insE
  rw [e1, e2]
  simp
def ordL (ct hd : Int → Int) : Nat → List Int
  | 0 => []
  | n + 1 => insE (ahB ct hd (n : Int)) (n : Int) (ordL ct hd n)
theorem insE_perm {P : Int → Bool} {c : Int} {l : List Int} : (insE P c l).Perm (c :: l) := by
  unfold insE
  have h : ((l.reverse.dropWhile P).reverse ++ c :: (l.reverse.takeWhile P).reverse).Perm (c :: ((l.reverse.dropWhile P).reverse ++ (l.reverse.takeWhile P).reverse)) := List.perm_middle
  refine h.trans (List.Perm.cons _ ?_)
  rw [← List.reverse_append, List.takeWhile_append_dropWhile, List.reverse_reverse]
theorem ordL_perm (ct hd : Int → Int) : ∀ n : Nat, (ordL ct hd n).Perm ((List.range n).map fun (i : Nat) => (i : Int))
  | 0 => List.Perm.refl _
  | n + 1 => by
    rw [List.range_succ, List.map_append]
    refine insE_perm.trans ((List.Perm.cons _ (ordL_perm ct hd n)).trans ?_)
    exact (List.perm_append_comm (l₁ := [(n : Int)]))
theorem ordL_mem {ct hd : Int → Int} {n : Nat} {x : Int} : x ∈ ordL ct hd n ↔ 0 ≤ x ∧ x < n := by
  rw [(ordL_perm ct hd n).mem_iff, List.mem_map]
  constructor
  · rintro ⟨i, hi, rfl⟩; have := List.mem_range.mp hi; omega
  · rintro ⟨h1, h2⟩; exact ⟨x.toNat, List.mem_range.mpr (by omega), by omega⟩
theorem ordL_nodup (ct hd : Int → Int) (n : Nat) : (ordL ct hd n).Nodup := by
  rw [(ordL_perm ct hd n).nodup_iff]
  exact List.Pairwise.map (fun (i : Nat) => (i : Int)) (fun a b h => by intro e; exact h (by omega)) List.nodup_range
theorem ordL_len (ct hd : Int → Int) (n : Nat) : (ordL ct hd n).length = n := by rw [(ordL_perm ct hd n).length_eq]; simp
/-- a row holds a list -/
def arL (f : Int → Int) (l : List Int) : Prop := ∀ (i : Nat) (x : Int), l[i]? = some x → f i = x
theorem ordL_congr {ct hd ct' hd' : Int → Int} : ∀ {n : Nat}, (∀ x : Int, 0 ≤ x → x < n → ct' x = ct x ∧ hd' x = hd x) → ordL ct' hd' n = ordL ct hd n
  | 0, _ => rfl
  | n + 1, h => by
    have ih := ordL_congr (n := n) (fun x h1 h2 => h x h1 (by omega))
    show insE _ _ (ordL ct' hd' n) = insE _ _ (ordL ct hd n)
    rw [ih]
    have key : ∀ l : List Int, (∀ x ∈ l, 0 ≤ x ∧ x < n) → insE (ahB ct' hd' n) n l = insE (ahB ct hd n) n l := by
      intro l hl
      have e : ∀ x ∈ l.reverse, ahB ct' hd' n x = ahB ct hd n x := fun x hx => by
        have := hl x (List.mem_reverse.mp hx)
        unfold ahB
        rw [(h x this.1 (by omega)).1, (h x this.1 (by omega)).2, (h n (by omega) (by omega)).1, (h n (by omega) (by omega)).2]
      have e1 : ∀ l : List Int, (∀ x ∈ l, ahB ct' hd' n x = ahB ct hd n x) → l.dropWhile (ahB ct' hd' n) = l.dropWhile (ahB ct hd n) ∧ l.takeWhile (ahB ct' hd' n) = l.takeWhile (ahB ct hd n) := by
        intro l
        induction l with
        | nil => intro _; exact ⟨rfl, rfl⟩
        | cons a l ih =>
          intro hx
          have ha := hx a (by simp)
          have ih := ih (fun x hx2 => hx x (by simp [hx2]))
          rw [List.dropWhile_cons, List.dropWhile_cons, List.takeWhile_cons, List.takeWhile_cons, ha, ih.1, ih.2]
          exact ⟨rfl, rfl⟩
      unfold insE
      rw [(e1 _ e).1, (e1 _ e).2]
    exact key _ (fun x hx => ordL_mem.mp hx)
theorem setB_ne {B : Bk} {f g : Nat} {p v x : Int} (h : g ≠ f) : (setB B f p v).1 g x = B.1 g x := by show (if g = f ∧ x = p then v else B.1 g x) = _; rw [if_neg (fun q => h q.1)]
/-- the book that a list of changes makes, those of a set -/
def hasb (s : Int64) (c : Int) : Bool := s.toBitVec.getLsbD c.toNat
theorem hasb_iff {s : Int64} {c : Int} : hasb s c = true ↔ hasB s c := Iff.rfl
def stp (kd pc wh bh mn wd : Int → Int) (fm : Int) (set : Int64) (B : Bk) (c : Int) : Bk := if hasb set c = true then stB kd pc wh bh mn wd fm B c else B
def bkL (kd pc wh bh mn wd : Int → Int) (fm : Int) (set : Int64) (l : List Int) : Bk := l.foldl (stp kd pc wh bh mn wd fm set) bk0
theorem bkL_snoc {kd pc wh bh mn wd : Int → Int} {fm : Int} {set : Int64} {l : List Int} {c : Int} : bkL kd pc wh bh mn wd fm set (l ++ [c]) = stp kd pc wh bh mn wd fm set (bkL kd pc wh bh mn wd fm set l) c := by simp [bkL, List.foldl_append]
theorem stS_0 {kd pc wh bh mn wd : Int → Int} {fm : Int} {B : Bk} {c x : Int} (h : (stS kd pc wh bh mn wd fm B c).1 0 x = 1) : B.1 0 x = 1 ∨ (kd c = 0 ∧ x = pc c) := by
  unfold stS at h
  split at h
  · exact Or.inl h
  · split at h
    · rename_i hk
      by_cases hx : x = pc c
      · exact Or.inr ⟨hk, hx⟩
      · left
        have e : (putB B (pc c) (wh c) (bh c)).1 0 x = B.1 0 x := by show (if 0 = 0 ∧ x = pc c then 1 else B.1 0 x) = _; rw [if_neg (fun q => hx q.2)]
        rw [← e]; exact h
    · left
      have rs : ∀ B' : Bk, (rsB fm B' (pc c)).1 0 x = B'.1 0 x := fun B' => by unfold rsB; split; rfl; show (if 0 = 1 ∧ x = pc c then 0 else B'.1 0 x) = _; rw [if_neg (by rintro ⟨q, -⟩; omega)]
      have st : ∀ (f : Nat) (v : Int), f ≠ 0 → (setB B f (pc c) v).1 0 x = B.1 0 x := fun f v hf => by show (if 0 = f ∧ x = pc c then v else B.1 0 x) = _; rw [if_neg (by rintro ⟨q, -⟩; omega)]
      split at h
      · rwa [st 1 _ (by decide)] at h
      · split at h
        · rw [rs] at h; exact h
        · split at h
          · rw [rs] at h
            have e : (wrdB mn wd B (pc c) c).1 0 x = B.1 0 x := st 6 c (by decide)
            rwa [e] at h
          · split at h
            · rwa [st 3 _ (by decide)] at h
            · split at h
              · rwa [st 4 _ (by decide)] at h
              · rwa [st 1 _ (by decide)] at h
theorem stS_6 {kd pc wh bh mn wd : Int → Int} {fm : Int} {B : Bk} {c x : Int} : (stS kd pc wh bh mn wd fm B c).1 6 x = B.1 6 x ∨ (kd c = 3 ∧ (stS kd pc wh bh mn wd fm B c).1 6 x = c) := by
  have rs : ∀ B' : Bk, (rsB fm B' (pc c)).1 6 x = B'.1 6 x := fun B' => by unfold rsB; split; rfl; show (if 6 = 1 ∧ x = pc c then 0 else B'.1 6 x) = _; rw [if_neg (by rintro ⟨q, -⟩; omega)]
  have st : ∀ (f : Nat) (v : Int), f ≠ 6 → (setB B f (pc c) v).1 6 x = B.1 6 x := fun f v hf => by show (if 6 = f ∧ x = pc c then v else B.1 6 x) = _; rw [if_neg (by rintro ⟨q, -⟩; omega)]
  unfold stS
  split
  · exact Or.inl rfl
  · split
    · left; show (if 6 = 0 ∧ x = pc c then 1 else if 6 = 2 ∧ x = pc c then wh c else B.1 6 x) = _; rw [if_neg (by rintro ⟨q, -⟩; omega), if_neg (by rintro ⟨q, -⟩; omega)]
    · split
      · exact Or.inl (st 1 _ (by decide))
      · split
        · left; rw [rs]; show (if 6 = 2 ∧ x = pc c then wh c else B.1 6 x) = _; rw [if_neg (by rintro ⟨q, -⟩; omega)]
        · split
          · rename_i hk
            rw [rs]
            show (if 6 = 6 ∧ x = pc c then c else B.1 6 x) = B.1 6 x ∨ (kd c = 3 ∧ (if 6 = 6 ∧ x = pc c then c else B.1 6 x) = c)
            split
            · exact Or.inr ⟨hk, rfl⟩
            · exact Or.inl rfl
          · split
            · exact Or.inl (st 3 _ (by decide))
            · split
              · exact Or.inl (st 4 _ (by decide))
              · exact Or.inl (st 1 _ (by decide))
/-- what always holds of the book of a list: it is a book; what is there is put by one of the list; words are said by words of it -/
theorem bkL_ok {kd pc wh bh mn wd : Int → Int} {fm : Int} {set : Int64} : ∀ (l : List Int), l.Nodup → (∀ c ∈ l, chB kd pc wh bh c) → okB (bkL kd pc wh bh mn wd fm set l) ∧ (∀ x, (bkL kd pc wh bh mn wd fm set l).1 0 x = 1 → x ∈ l ∧ kd x = 0) ∧ ∀ x, (bkL kd pc wh bh mn wd fm set l).1 6 x = -1 ∨ ((bkL kd pc wh bh mn wd fm set l).1 6 x ∈ l ∧ kd ((bkL kd pc wh bh mn wd fm set l).1 6 x) = 3) := by
  intro l
  suffices h : ∀ (r : List Int), r.reverse.Nodup → (∀ c ∈ r.reverse, chB kd pc wh bh c) → okB (bkL kd pc wh bh mn wd fm set r.reverse) ∧ (∀ x, (bkL kd pc wh bh mn wd fm set r.reverse).1 0 x = 1 → x ∈ r.reverse ∧ kd x = 0) ∧ ∀ x, (bkL kd pc wh bh mn wd fm set r.reverse).1 6 x = -1 ∨ ((bkL kd pc wh bh mn wd fm set r.reverse).1 6 x ∈ r.reverse ∧ kd ((bkL kd pc wh bh mn wd fm set r.reverse).1 6 x) = 3) by
    intro hn hc
    have := h l.reverse
    rw [List.reverse_reverse] at this
    exact this hn hc
  intro r
  induction r with
  | nil => intro _ _; exact ⟨okB_0, fun x hx => by simp [bkL, bk0] at hx, fun x => Or.inl (by simp [bkL, bk0])⟩
  | cons c r ih =>
    intro hn hc
    rw [List.reverse_cons] at hn hc ⊢
    rw [List.nodup_append] at hn
    obtain ⟨i1, i2, i3⟩ := ih hn.1 (fun x hx => hc x (List.mem_append_left _ hx))
    have hcc := hc c (by simp)
    have hnew : c ∉ r.reverse := fun hx => hn.2.2 c hx c (by simp) rfl
    rw [bkL_snoc]
    unfold stp
    split
    · have h0 : kd c = 0 → (bkL kd pc wh bh mn wd fm set r.reverse).1 0 (pc c) = 0 := fun hk => by
        rw [hcc.2.2.1 hk]
        rcases (i1.1 c).1 with e | e
        · exact e
        · exact absurd (i2 c e).1 hnew
      refine ⟨stB_ok i1 hcc h0, fun x hx => ?_, fun x => ?_⟩
      · have hx2 : (stS kd pc wh bh mn wd fm (bkL kd pc wh bh mn wd fm set r.reverse) c).1 0 x = 1 := by
          have e : (stB kd pc wh bh mn wd fm (bkL kd pc wh bh mn wd fm set r.reverse) c).1 0 x = (stS kd pc wh bh mn wd fm (bkL kd pc wh bh mn wd fm set r.reverse) c).1 0 x := by
            exact setB_ne (by decide)
          rw [← e]; exact hx
        rcases stS_0 hx2 with h | ⟨h1, h2⟩
        · obtain ⟨g1, g2⟩ := i2 x h
          exact ⟨List.mem_append_left _ g1, g2⟩
        · rw [h2, hcc.2.2.1 h1]; exact ⟨by simp, h1⟩
      · have e : (stB kd pc wh bh mn wd fm (bkL kd pc wh bh mn wd fm set r.reverse) c).1 6 x = (stS kd pc wh bh mn wd fm (bkL kd pc wh bh mn wd fm set r.reverse) c).1 6 x := by
          exact setB_ne (by decide)
        rw [e]
        rcases stS_6 (kd := kd) (pc := pc) (wh := wh) (bh := bh) (mn := mn) (wd := wd) (fm := fm) (B := bkL kd pc wh bh mn wd fm set r.reverse) (c := c) (x := x) with h | ⟨h1, h2⟩
        · rw [h]
          rcases i3 x with h | ⟨g1, g2⟩
          · exact Or.inl h
          · exact Or.inr ⟨List.mem_append_left _ g1, g2⟩
        · rw [h2]; exact Or.inr ⟨by simp, h1⟩
    · exact ⟨i1, fun x hx => ⟨List.mem_append_left _ (i2 x hx).1, (i2 x hx).2⟩, fun x => (i3 x).imp id (fun g => ⟨List.mem_append_left _ g.1, g.2⟩)⟩
