/-! books: what always holds of them -/
theorem mem_insA {f p x : Int} : ∀ {l : List Int}, x ∈ insA f p l ↔ x = p ∨ x ∈ l
  | [] => by simp [insA]
  | a :: l => by
    unfold insA
    split
    · simp; constructor <;> rintro (h | h | h) <;> simp [h]
    · simp [mem_insA (l := l)]; constructor <;> rintro (h | h | h) <;> simp [h]
theorem mem_insK {l : List Int} {p bh x : Int} : x ∈ insK l p bh ↔ x = p ∨ x ∈ l := by
  unfold insK
  split
  · simp
  · split
    · exact mem_insA
    · simp; exact Or.comm
theorem nodup_insA {f p : Int} : ∀ {l : List Int}, l.Nodup → p ∉ l → (insA f p l).Nodup
  | [], _, _ => by simp [insA]
  | a :: l, hn, hp => by
    obtain ⟨h1, h2⟩ := List.nodup_cons.mp hn
    simp only [List.mem_cons, not_or] at hp
    unfold insA
    split
    · simp only [List.nodup_cons, List.mem_cons, not_or]
      exact ⟨⟨fun h => hp.1 h.symm, h1⟩, hp.2, h2⟩
    · rw [List.nodup_cons, mem_insA, not_or]
      exact ⟨⟨fun h => hp.1 h.symm, h1⟩, nodup_insA h2 hp.2⟩
theorem nodup_insK {l : List Int} {p bh : Int} (hn : l.Nodup) (hp : p ∉ l) : (insK l p bh).Nodup := by
  unfold insK
  split
  · exact List.nodup_cons.mpr ⟨hp, hn⟩
  · split
    · exact nodup_insA hn hp
    · rw [List.nodup_append]
      exact ⟨hn, by simp, fun a ha b hb => by simp at hb; subst hb; rintro rfl; exact hp ha⟩
theorem insA_split {f p : Int} : ∀ {l : List Int}, f ∈ l → ∃ l1 l2, l = l1 ++ l2 ∧ insA f p l = l1 ++ p :: l2 ∧ l1.getLast? = some f
  | a :: l, h => by
    unfold insA
    by_cases ha : a = f
    · rw [if_pos ha]
      exact ⟨[a], l, rfl, rfl, by simp [ha]⟩
    · rw [if_neg ha]
      rcases List.mem_cons.mp h with h | h
      · exact absurd h.symm ha
      · obtain ⟨l1, l2, rfl, h2, h3⟩ := insA_split (p := p) h
        refine ⟨a :: l1, l2, rfl, by rw [h2]; rfl, ?_⟩
        rw [List.getLast?_cons, h3]; rfl
theorem insK_split {l : List Int} {p bh : Int} : ∃ l1 l2, l = l1 ++ l2 ∧ insK l p bh = l1 ++ p :: l2 ∧ l1.getLast?.getD (-1) = if bh ≠ -1 ∧ bh ∉ l then l.getLast?.getD (-1) else bh := by
  unfold insK
  by_cases h1 : bh = -1
  · rw [if_pos h1]
    exact ⟨[], l, rfl, rfl, by simp [h1]⟩
  · rw [if_neg h1]
    by_cases h2 : bh ∈ l
    · rw [if_pos h2]
      obtain ⟨l1, l2, e1, e2, e3⟩ := insA_split (p := p) h2
      exact ⟨l1, l2, e1, e2, by rw [e3]; simp [h2]⟩
    · rw [if_neg h2]
      exact ⟨l, [], by simp, rfl, by simp [h1, h2]⟩
theorem mem_delK {l : List Int} {p x : Int} : x ∈ delK l p ↔ x ∈ l ∧ x ≠ p := by simp [delK]
theorem nodup_delK {l : List Int} {p : Int} (h : l.Nodup) : (delK l p).Nodup := h.filter _
theorem delK_split {l : List Int} {p : Int} (hn : l.Nodup) (hp : p ∈ l) : ∃ l1 l2, l = l1 ++ p :: l2 ∧ delK l p = l1 ++ l2 := by
  obtain ⟨l1, l2, rfl⟩ := List.append_of_mem hp
  refine ⟨l1, l2, rfl, ?_⟩
  rw [List.nodup_append] at hn
  obtain ⟨h1, h2, h3⟩ := hn
  have h4 := List.nodup_cons.mp h2
  unfold delK
  rw [List.filter_append, List.filter_cons]
  have e1 : l1.filter (fun a => decide (a ≠ p)) = l1 := List.filter_eq_self.mpr fun a ha => by simp; exact h3 a ha p (by simp)
  have e2 : l2.filter (fun a => decide (a ≠ p)) = l2 := List.filter_eq_self.mpr fun a ha => by simp; rintro rfl; exact h4.1 ha
  rw [e1, e2]
  simp
theorem delK_none {l : List Int} {p : Int} (hp : p ∉ l) : delK l p = l := List.filter_eq_self.mpr fun a ha => by simp; rintro rfl; exact hp ha
def okB (B : Bk) : Prop :=
  (∀ p, (B.1 0 p = 0 ∨ B.1 0 p = 1) ∧ (B.1 1 p = 0 ∨ B.1 1 p = 1)) ∧ (∀ p, B.1 0 p = 1 → 0 ≤ p ∧ p < 60) ∧ (∀ q p, p ∈ B.2.1 q ↔ B.1 0 p = 1 ∧ B.1 2 p = q) ∧ (∀ q, (B.2.1 q).Nodup) ∧
    ∀ p, B.1 0 p = 1 → (B.1 2 p = -1 ∨ B.1 0 (B.1 2 p) = 1) ∧ ∃ d, dpt (B.1 2) d p
theorem okB_0 : okB bk0 := ⟨fun p => ⟨Or.inl rfl, Or.inl rfl⟩, fun p h => by simp [bk0] at h, fun q p => by simp [bk0], fun q => by simp [bk0], fun p h => by simp [bk0] at h⟩
/-- the least length of a chain -/
def mnl (par : Int → Int) (d : Nat) (p : Int) : Prop := dpt par d p ∧ ∀ e, e < d → ¬ dpt par e p
theorem mnl_of {par : Int → Int} : ∀ {d : Nat} {p : Int}, dpt par d p → ∃ e, e ≤ d ∧ mnl par e p := by
  intro d
  induction d using Nat.strongRecOn with
  | _ d ih =>
    intro p h
    by_cases hx : ∃ e, e < d ∧ dpt par e p
    · obtain ⟨e, he, h2⟩ := hx
      obtain ⟨e2, h3, h4⟩ := ih e he h2
      exact ⟨e2, by omega, h4⟩
    · exact ⟨d, Nat.le_refl _, h, fun e he h2 => hx ⟨e, he, h2⟩⟩
theorem mnl_list {par : Int → Int} : ∀ (d : Nat) (p : Int), mnl par d p → ∃ l : List Int, l.length = d ∧ l.Nodup ∧ ∀ x ∈ l, (0 ≤ x ∧ x < 60) ∧ ∃ e, e ≤ d ∧ mnl par e x
  | 0, p, _ => ⟨[], rfl, by simp, by simp⟩
  | d + 1, p, h => by
    have h1 := h.1
    rcases h1 with h1 | ⟨h1, h2, h3⟩
    · exact absurd (show dpt par 0 p from h1) (h.2 0 (by omega))
    · have hm : mnl par d (par p) := ⟨h3, fun e he h4 => h.2 (e + 1) (by omega) (Or.inr ⟨h1, h2, h4⟩)⟩
      obtain ⟨l, e1, e2, e3⟩ := mnl_list d _ hm
      refine ⟨p :: l, by simp [e1], List.nodup_cons.mpr ⟨fun hp => ?_, e2⟩, fun x hx => ?_⟩
      · obtain ⟨-, e, he, h5⟩ := e3 p hp
        exact h.2 e (by omega) h5.1
      · rcases List.mem_cons.mp hx with rfl | hx
        · exact ⟨⟨h1, h2⟩, d + 1, Nat.le_refl _, h⟩
        · obtain ⟨g1, e, g2, g3⟩ := e3 x hx
          exact ⟨g1, e, by omega, g3⟩
theorem dpt60 {par : Int → Int} {d : Nat} {p : Int} (h : dpt par d p) : dpt par 60 p := by
  obtain ⟨e, -, he⟩ := mnl_of h
  obtain ⟨l, h1, h2, h3⟩ := mnl_list e p he
  have := nodup_len 60 l h2 (fun x hx => (h3 x hx).1)
  exact dpt_mono (by omega) he.1
theorem okB_dpt {B : Bk} (h : okB B) {p : Int} (hp : p = -1 ∨ B.1 0 p = 1) : dpt (B.1 2) 60 p := by
  rcases hp with rfl | hp
  · exact Or.inl rfl
  · obtain ⟨-, d, hd⟩ := h.2.2.2.2 p hp
    exact dpt60 hd
/-- within by any length of chain -/
theorem wth61 {par : Int → Int} {d : Nat} {p w : Int} (h : dpt par d p) : wth par (d + 1) p w = wth par 61 p w := by
  rw [wth_fuel (dpt60 h) (show 60 < 61 by omega)]
  rcases Nat.le_total d 60 with hd | hd
  · exact (wth_fuel h (by omega)).symm
  · exact wth_fuel (dpt60 h) (by omega)
def putB (B : Bk) (p part bh : Int) : Bk := setB (inB B p part bh) 0 p 1
def movB (B : Bk) (p part bh : Int) : Bk := inB (outB B p) p part bh
theorem okB_put {B : Bk} {p part bh : Int} (h : okB B) (hp : 0 ≤ p ∧ p < 60) (h0 : B.1 0 p = 0) (hq : part = -1 ∨ B.1 0 part = 1) : okB (putB B p part bh) := by
  obtain ⟨h1, h2, h3, h4, h5⟩ := h
  have e0 : ∀ x, (putB B p part bh).1 0 x = if x = p then 1 else B.1 0 x := fun x => by simp [putB, setB, inB]
  have e1 : ∀ x, (putB B p part bh).1 1 x = B.1 1 x := fun x => by simp [putB, setB, inB]
  have e2 : ∀ x, (putB B p part bh).1 2 x = if x = p then part else B.1 2 x := fun x => by simp [putB, setB, inB]
  have ek : ∀ q, (putB B p part bh).2.1 q = if q = part then insK (B.2.1 q) p bh else B.2.1 q := fun q => rfl
  have hpp : part ≠ p := by rintro rfl; rcases hq with hq | hq <;> omega
  refine ⟨fun x => ⟨by rw [e0]; split; exact Or.inr rfl; exact (h1 x).1, by rw [e1]; exact (h1 x).2⟩, fun x hx => ?_, fun q x => ?_, fun q => ?_, fun x hx => ?_⟩
  · rw [e0] at hx
    split at hx
    · omega
    · exact h2 x hx
  · rw [ek, e0, e2]
    by_cases hx : x = p
    · subst hx
      rw [if_pos rfl, if_pos rfl]
      by_cases hq2 : q = part
      · subst hq2; rw [if_pos rfl, mem_insK]; simp
      · rw [if_neg hq2, h3]; constructor
        · rintro ⟨h, -⟩; omega
        · rintro ⟨-, h⟩; exact absurd h.symm hq2
    · rw [if_neg hx, if_neg hx]
      by_cases hq2 : q = part
      · rw [if_pos hq2, mem_insK, h3]; simp [hx]
      · rw [if_neg hq2, h3]
  · rw [ek]
    split
    · exact nodup_insK (h4 q) (fun hm => by rw [h3] at hm; omega)
    · exact h4 q
  · -- chains
    have hP : ∀ y, B.1 0 y = 1 → (putB B p part bh).1 2 y = B.1 2 y ∧ (B.1 2 y = -1 ∨ B.1 0 (B.1 2 y) = 1) := fun y hy => ⟨by rw [e2, if_neg (by rintro rfl; omega)], (h5 y hy).1⟩
    have old : ∀ y, y = -1 ∨ B.1 0 y = 1 → ∃ d, dpt ((putB B p part bh).1 2) d y := fun y hy => by
      rcases hy with rfl | hy
      · exact ⟨0, rfl⟩
      · obtain ⟨-, d, hd⟩ := h5 y hy
        exact ⟨d, dpt_congr _ hP d y (Or.inr hy) hd⟩
    by_cases hxp : x = p
    · rw [hxp, e2, if_pos rfl, e0, if_neg hpp]
      obtain ⟨d, hd⟩ := old part hq
      exact ⟨hq, d + 1, Or.inr ⟨hp.1, hp.2, by rw [e2, if_pos rfl]; exact hd⟩⟩
    · rw [e0, if_neg hxp] at hx
      rw [e2, if_neg hxp, e0]
      refine ⟨?_, old x (Or.inr hx)⟩
      rcases (h5 x hx).1 with g | g
      · exact Or.inl g
      · right; split; rfl; exact g
theorem okB_mov {B : Bk} {p part bh : Int} (h : okB B) (h0 : B.1 0 p = 1) (hq : part = -1 ∨ B.1 0 part = 1) (hw : wth (B.1 2) 61 part p = false) : okB (movB B p part bh) := by
  have hpr := h.2.1 p h0
  have hdq := okB_dpt h hq
  obtain ⟨h1, h2, h3, h4, h5⟩ := h
  have e0 : ∀ x, (movB B p part bh).1 0 x = B.1 0 x := fun x => by simp [movB, inB, outB]
  have e1 : ∀ x, (movB B p part bh).1 1 x = B.1 1 x := fun x => by simp [movB, inB, outB]
  have e2 : ∀ x, (movB B p part bh).1 2 x = if x = p then part else B.1 2 x := fun x => by simp [movB, inB, outB]
  have ek : ∀ q, (movB B p part bh).2.1 q = if q = part then insK (if q = B.1 2 p then delK (B.2.1 q) p else B.2.1 q) p bh else if q = B.1 2 p then delK (B.2.1 q) p else B.2.1 q := fun q => rfl
  have hdel : ∀ q x, x ∈ (if q = B.1 2 p then delK (B.2.1 q) p else B.2.1 q) ↔ x ≠ p ∧ B.1 0 x = 1 ∧ B.1 2 x = q := fun q x => by
    split
    · rename_i hq2
      rw [mem_delK, h3]; exact And.comm
    · rename_i hq2
      rw [h3]
      constructor
      · rintro ⟨g1, g2⟩; exact ⟨by rintro rfl; exact hq2 g2.symm, g1, g2⟩
      · rintro ⟨-, g⟩; exact g
  refine ⟨fun x => ⟨by rw [e0]; exact (h1 x).1, by rw [e1]; exact (h1 x).2⟩, fun x hx => h2 x (by rw [← e0]; exact hx), fun q x => ?_, fun q => ?_, fun x hx => ?_⟩
  · rw [ek, e0, e2]
    by_cases hx : x = p
    · rw [if_pos hx]
      by_cases hq2 : q = part
      · rw [if_pos hq2, mem_insK]; simp [hx, h0, hq2]
      · rw [if_neg hq2, hdel]; simp [hx, Ne.symm hq2]
    · rw [if_neg hx]
      by_cases hq2 : q = part
      · rw [if_pos hq2, mem_insK, hdel]; simp [hx]
      · rw [if_neg hq2, hdel]; simp [hx]
  · rw [ek]
    have nd : (if q = B.1 2 p then delK (B.2.1 q) p else B.2.1 q).Nodup := by split; exact nodup_delK (h4 q); exact h4 q
    split
    · exact nodup_insK nd (fun hm => by rw [hdel] at hm; exact hm.1 rfl)
    · exact nd
  · rw [e0] at hx
    -- the chain of the part is as it was
    have cp : ∀ (d : Nat) (y : Int), (y = -1 ∨ B.1 0 y = 1) → wth (B.1 2) (d + 1) y p = false → dpt (B.1 2) d y → dpt ((movB B p part bh).1 2) d y := by
      intro d
      induction d with
      | zero => intro y _ _ hd; exact hd
      | succ d ih =>
        intro y hy hwy hd
        rcases hd with hd | ⟨g1, g2, g3⟩
        · exact Or.inl hd
        · rcases hy with hy | hy
          · omega
          · rw [wth, if_neg (by omega)] at hwy
            by_cases hyp : y = p
            · rw [if_pos hyp] at hwy; cases hwy
            · rw [if_neg hyp] at hwy
              exact Or.inr ⟨g1, g2, by rw [e2, if_neg hyp]; exact ih _ (h5 y hy).1 hwy g3⟩
    have hpart : dpt ((movB B p part bh).1 2) 60 part := cp 60 part hq hw hdq
    have all : ∀ (d : Nat) (y : Int), (y = -1 ∨ B.1 0 y = 1) → dpt (B.1 2) d y → ∃ e, dpt ((movB B p part bh).1 2) e y := by
      intro d
      induction d with
      | zero => intro y _ hd; exact ⟨0, hd⟩
      | succ d ih =>
        intro y hy hd
        rcases hd with hd | ⟨g1, g2, g3⟩
        · exact ⟨0, hd⟩
        · rcases hy with hy | hy
          · omega
          · by_cases hyp : y = p
            · exact ⟨61, Or.inr ⟨g1, g2, by rw [e2, if_pos hyp]; exact hpart⟩⟩
            · obtain ⟨e, he⟩ := ih _ (h5 y hy).1 g3
              exact ⟨e + 1, Or.inr ⟨g1, g2, by rw [e2, if_neg hyp]; exact he⟩⟩
    obtain ⟨g, d, hd⟩ := h5 x hx
    refine ⟨?_, all d x (Or.inr hx) hd⟩
    rw [e2, e0]
    split
    · exact hq
    · exact g
theorem okB_set {B : Bk} {f : Nat} {p v : Int} (h : okB B) (hf : f ≠ 0 ∧ f ≠ 2) (hv : f = 1 → v = 0 ∨ v = 1) : okB (setB B f p v) := by
  obtain ⟨h1, h2, h3, h4, h5⟩ := h
  have e0 : (setB B f p v).1 0 = B.1 0 := by funext x; simp [setB, Ne.symm hf.1]
  have e2 : (setB B f p v).1 2 = B.1 2 := by funext x; simp [setB, Ne.symm hf.2]
  refine ⟨fun x => ⟨by rw [e0]; exact (h1 x).1, ?_⟩, by rw [e0]; exact h2, by rw [e0, e2]; exact h3, h4, by rw [e0, e2]; exact h5⟩
  show (if 1 = f ∧ x = p then v else B.1 1 x) = 0 ∨ (if 1 = f ∧ x = p then v else B.1 1 x) = 1
  split
  · rename_i hc; exact hv hc.1.symm
  · exact (h1 x).2
