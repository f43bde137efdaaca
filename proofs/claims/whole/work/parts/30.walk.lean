/-! the parts in the order of reading -/
def wlk (B : Bk) : Nat → Int → List Int
  | 0, _ => []
  | f + 1, p => p :: (if B.1 1 p = 0 then (B.2.1 p).flatMap (wlk B f) else [])
/-- a part with all in it, what is struck without what is in it -/
def wkF (B : Bk) (p : Int) : List Int := wlk B (61 - chl (B.1 2) 60 p) p
theorem flatMap_congr' {α β : Type} {f g : α → List β} : ∀ {l : List α}, (∀ x ∈ l, f x = g x) → l.flatMap f = l.flatMap g
  | [], _ => rfl
  | a :: l, h => by rw [List.flatMap_cons, List.flatMap_cons, h a (by simp), flatMap_congr' (fun x hx => h x (List.mem_cons_of_mem _ hx))]
theorem chl_kid {B : Bk} (ok : okB B) {p : Int} (hp : B.1 0 p = 1) : chl (B.1 2) 60 p = chl (B.1 2) 60 (B.1 2 p) + 1 := by
  have hr := ok.2.1 p hp
  rw [← chl_fuel (okB_dpt ok (Or.inr hp)) (show 60 ≤ 61 by omega), chl, if_neg (by omega)]
theorem wk_eq {B : Bk} (ok : okB B) {p : Int} (hp : B.1 0 p = 1) : wkF B p = p :: if B.1 1 p = 0 then (B.2.1 p).flatMap (wkF B) else [] := by
  have hn := chl_le (par := B.1 2) (d := 60) (p := p)
  unfold wkF
  rw [show 61 - chl (B.1 2) 60 p = (60 - chl (B.1 2) 60 p) + 1 by omega, wlk]
  congr 1
  split
  · refine flatMap_congr' (fun x hx => ?_)
    obtain ⟨h1, h2⟩ := (ok.2.2.1 p x).mp hx
    rw [show 61 - chl (B.1 2) 60 x = 60 - chl (B.1 2) 60 p by rw [chl_kid ok h1, h2]; omega]
  · rfl
def wkL (B : Bk) : List Int := (B.2.1 (-1)).flatMap (wkF B)
/-- what is read -/
def readL (B : Bk) : List Int := (wkL B).filter (fun p => decide (B.1 1 p = 0))
/-- what comes behind p in a list -/
def aft (p : Int) : List Int → List Int
  | [] => []
  | a :: l => if a = p then l else aft p l
theorem aft_split {p : Int} : ∀ {l1 l2 : List Int}, p ∉ l1 → aft p (l1 ++ p :: l2) = l2
  | [], l2, _ => by simp [aft]
  | a :: l1, l2, h => by
    simp only [List.mem_cons, not_or] at h
    show (if a = p then _ else aft p (l1 ++ p :: l2)) = l2
    rw [if_neg (fun e => h.1 e.symm), aft_split h.2]
/-- what comes behind all that is in p -/
def tl (B : Bk) : Nat → Int → List Int
  | 0, _ => []
  | d + 1, q => if q < 0 then [] else (aft q (B.2.1 (B.1 2 q))).flatMap (wkF B) ++ tl B d (B.1 2 q)
theorem tl_fuel {B : Bk} : ∀ {d e : Nat} {p : Int}, dpt (B.1 2) d p → d ≤ e → tl B e p = tl B d p
  | 0, 0, p, h, _ => rfl
  | 0, e + 1, p, h, _ => by
    have : p = -1 := h
    subst this
    simp [tl]
  | d + 1, e + 1, p, h, hle => by
    rcases h with h | ⟨h1, h2, h3⟩
    · subst h; simp [tl]
    · rw [tl, tl, tl_fuel h3 (by omega)]
def tlF (B : Bk) (p : Int) : List Int := tl B 60 p
theorem tl_m1 {B : Bk} : tlF B (-1) = [] := by simp [tlF, tl]
theorem tl_eq {B : Bk} (ok : okB B) {p : Int} (hp : B.1 0 p = 1) : tlF B p = (aft p (B.2.1 (B.1 2 p))).flatMap (wkF B) ++ tlF B (B.1 2 p) := by
  have hr := ok.2.1 p hp
  show tl B 60 p = _ ++ tl B 60 (B.1 2 p)
  rw [← tl_fuel (okB_dpt ok (Or.inr hp)) (show 60 ≤ 61 by omega), tl, if_neg (by omega)]
theorem wth_par {B : Bk} (ok : okB B) {x p : Int} (hx : B.1 0 x = 1) : wth (B.1 2) 61 x p = true ↔ x = p ∨ wth (B.1 2) 61 (B.1 2 x) p = true := by
  have hr := ok.2.1 x hx
  have h2 := okB_dpt ok (ok.2.2.2.2 x hx).1
  have hd : dpt (B.1 2) 61 x := dpt_mono (by omega) (okB_dpt ok (Or.inr hx))
  rw [← wth61 hd, wth, if_neg (by omega)]
  by_cases h : x = p
  · rw [if_pos h]; simp [h]
  · rw [if_neg h]; simp [h]
/-- by the chain upward -/
theorem up_ind {B : Bk} (ok : okB B) (P : Int → Prop) (h : ∀ p, B.1 0 p = 1 → (B.1 2 p = -1 ∨ P (B.1 2 p)) → P p) : ∀ p, B.1 0 p = 1 → P p := by
  have : ∀ (n : Nat) (p : Int), B.1 0 p = 1 → chl (B.1 2) 60 p = n → P p := by
    intro n
    induction n with
    | zero => intro p hp e; rw [chl_kid ok hp] at e; omega
    | succ n ih =>
      intro p hp e
      rw [chl_kid ok hp] at e
      exact h p hp ((ok.2.2.2.2 p hp).1.imp id (fun g => ih _ g (by omega)))
  exact fun p hp => this _ p hp rfl
/-- by what is in it -/
theorem dn_ind {B : Bk} (ok : okB B) (P : Int → Prop) (h : ∀ p, B.1 0 p = 1 → (∀ x ∈ B.2.1 p, P x) → P p) : ∀ p, B.1 0 p = 1 → P p := by
  have : ∀ (n : Nat) (p : Int), B.1 0 p = 1 → 60 - chl (B.1 2) 60 p = n → P p := by
    intro n
    induction n using Nat.strongRecOn with
    | ind n ih =>
      intro p hp e
      refine h p hp (fun x hx => ?_)
      obtain ⟨h1, h2⟩ := (ok.2.2.1 p x).mp hx
      have e2 := chl_kid ok h1
      have e3 := chl_le (par := B.1 2) (d := 60) (p := x)
      rw [h2] at e2
      exact ih (60 - chl (B.1 2) 60 x) (by omega) x h1 rfl
  exact fun p hp => this _ p hp rfl
theorem wth_chl {B : Bk} (ok : okB B) {x p : Int} (hx : B.1 0 x = 1) (h : wth (B.1 2) 61 x p = true) : x = p ∨ chl (B.1 2) 60 p < chl (B.1 2) 60 x := by
  revert h
  refine up_ind ok (fun x => wth (B.1 2) 61 x p = true → x = p ∨ chl (B.1 2) 60 p < chl (B.1 2) 60 x) (fun x hx ih h => ?_) x hx
  rcases (wth_par ok hx).mp h with h | h
  · exact Or.inl h
  · rcases ih with e | ih
    · rw [e] at h; simp [wth] at h
    · have := chl_kid ok hx
      rcases ih h with e | e
      · rw [← e]; right; omega
      · right; omega
theorem wth_uniq {B : Bk} (ok : okB B) {x p q : Int} (hx : B.1 0 x = 1) (h1 : wth (B.1 2) 61 x p = true) (h2 : wth (B.1 2) 61 x q = true) (he : chl (B.1 2) 60 p = chl (B.1 2) 60 q) : p = q := by
  revert h1 h2
  refine up_ind ok (fun x => wth (B.1 2) 61 x p = true → wth (B.1 2) 61 x q = true → p = q) (fun x hx ih h1 h2 => ?_) x hx
  have hk := chl_kid ok hx
  have ne1 : wth (B.1 2) 61 (-1) p = false := by simp [wth]
  have ne2 : wth (B.1 2) 61 (-1) q = false := by simp [wth]
  rcases (wth_par ok hx).mp h1 with a | a
  · rcases (wth_par ok hx).mp h2 with b | b
    · rw [← a, ← b]
    · rcases ih with e | ih
      · rw [e, ne2] at b; cases b
      · rcases (ok.2.2.2.2 x hx).1 with e | e
        · rw [e, ne2] at b; cases b
        · have := wth_chl ok e b
          subst a
          rcases this with g | g
          · rw [g] at hk; omega
          · omega
  · rcases (ok.2.2.2.2 x hx).1 with e | e
    · rw [e, ne1] at a; cases a
    · rcases (wth_par ok hx).mp h2 with b | b
      · have := wth_chl ok e a
        subst b
        rcases this with g | g
        · rw [g] at hk; omega
        · omega
      · rcases ih with g | ih
        · rw [g, ne1] at a; cases a
        · exact ih a b
theorem wk_mem {B : Bk} (ok : okB B) {p : Int} (hp : B.1 0 p = 1) : ∀ x ∈ wkF B p, B.1 0 x = 1 ∧ wth (B.1 2) 61 x p = true := by
  refine dn_ind ok (fun p => ∀ x ∈ wkF B p, B.1 0 x = 1 ∧ wth (B.1 2) 61 x p = true) (fun p hp ih x hx => ?_) p hp
  rw [wk_eq ok hp] at hx
  rcases List.mem_cons.mp hx with rfl | hx
  · exact ⟨hp, (wth_par ok hp).mpr (Or.inl rfl)⟩
  · split at hx
    · obtain ⟨c, hc, hx⟩ := List.mem_flatMap.mp hx
      obtain ⟨h1, h2⟩ := ih c hc x hx
      obtain ⟨c1, c2⟩ := (ok.2.2.1 p c).mp hc
      refine ⟨h1, ?_⟩
      -- c in the chain of x, p around c
      clear hx
      revert h2
      refine up_ind ok (fun x => wth (B.1 2) 61 x c = true → wth (B.1 2) 61 x p = true) (fun x hx ih2 h2 => ?_) x h1
      rcases (wth_par ok hx).mp h2 with e | e
      · subst e
        refine (wth_par ok hx).mpr (Or.inr ?_)
        rw [c2]
        exact (wth_par ok hp).mpr (Or.inl rfl)
      · rcases ih2 with g | g
        · rw [g] at e; simp [wth] at e
        · exact (wth_par ok hx).mpr (Or.inr (g e))
    · simp at hx
theorem nodup_flatMap' {f : Int → List Int} : ∀ {l : List Int}, l.Nodup → (∀ a ∈ l, (f a).Nodup) → (∀ a ∈ l, ∀ b ∈ l, ∀ x, x ∈ f a → x ∈ f b → a = b) → (l.flatMap f).Nodup
  | [], _, _, _ => by simp
  | a :: l, hn, h1, h2 => by
    obtain ⟨n1, n2⟩ := List.nodup_cons.mp hn
    rw [List.flatMap_cons, List.nodup_append]
    refine ⟨h1 a (by simp), nodup_flatMap' n2 (fun b hb => h1 b (List.mem_cons_of_mem _ hb)) (fun b hb c hc => h2 b (List.mem_cons_of_mem _ hb) c (List.mem_cons_of_mem _ hc)), fun x hx y hy => ?_⟩
    rintro rfl
    obtain ⟨b, hb, hx2⟩ := List.mem_flatMap.mp hy
    have := h2 a (by simp) b (List.mem_cons_of_mem _ hb) x hx hx2
    subst this
    exact n1 hb
theorem wk_kids {B : Bk} (ok : okB B) {q a b x : Int} (ha : a ∈ B.2.1 q) (hb : b ∈ B.2.1 q) (h1 : x ∈ wkF B a) (h2 : x ∈ wkF B b) : a = b := by
  obtain ⟨a1, a2⟩ := (ok.2.2.1 q a).mp ha
  obtain ⟨b1, b2⟩ := (ok.2.2.1 q b).mp hb
  have m1 := wk_mem ok a1 x h1
  have m2 := wk_mem ok b1 x h2
  refine wth_uniq ok m1.1 m1.2 m2.2 ?_
  rw [chl_kid ok a1, chl_kid ok b1, a2, b2]
theorem wk_nodup {B : Bk} (ok : okB B) {p : Int} (hp : B.1 0 p = 1) : (wkF B p).Nodup := by
  refine dn_ind ok (fun p => (wkF B p).Nodup) (fun p hp ih => ?_) p hp
  rw [wk_eq ok hp]
  split
  · refine List.nodup_cons.mpr ⟨fun hx => ?_, nodup_flatMap' (ok.2.2.2.1 p) ih (fun a ha b hb x => wk_kids ok ha hb)⟩
    obtain ⟨c, hc, hx⟩ := List.mem_flatMap.mp hx
    obtain ⟨c1, c2⟩ := (ok.2.2.1 p c).mp hc
    have h := wth_chl ok hp (wk_mem ok c1 p hx).2
    have hk := chl_kid ok c1
    rw [c2] at hk
    rcases h with h | h
    · rw [← h] at hk; omega
    · omega
  · simp
theorem wkL_nodup {B : Bk} (ok : okB B) : (wkL B).Nodup := nodup_flatMap' (ok.2.2.2.1 _) (fun a ha => wk_nodup ok ((ok.2.2.1 _ a).mp ha).1) (fun a ha b hb x => wk_kids ok ha hb)
theorem wkL_mem {B : Bk} (ok : okB B) {x : Int} (h : x ∈ wkL B) : B.1 0 x = 1 := by
  obtain ⟨c, hc, hx⟩ := List.mem_flatMap.mp h
  exact (wk_mem ok ((ok.2.2.1 _ c).mp hc).1 x hx).1
theorem readL_nodup {B : Bk} (ok : okB B) : (readL B).Nodup := (wkL_nodup ok).filter _
theorem readL_len {B : Bk} (ok : okB B) : (readL B).length ≤ 60 := nodup_len 60 _ (readL_nodup ok) (fun x hx => ok.2.1 x (wkL_mem ok (List.mem_filter.mp hx).1))
/-- what is read is what is seen -/
theorem wkL_iff {B : Bk} (ok : okB B) {x : Int} (hx : B.1 0 x = 1) : x ∈ wkL B ↔ B.1 2 x = -1 ∨ sn B (B.1 2 x) := by
  have sub : ∀ p, B.1 0 p = 1 → (∀ x ∈ wkF B p, x = p ∨ (B.1 1 p = 0 ∧ (B.1 2 x = p ∨ (∃ c ∈ B.2.1 p, x ∈ wkF B c)))) := fun p hp x hx => by
    rw [wk_eq ok hp] at hx
    rcases List.mem_cons.mp hx with h | h
    · exact Or.inl h
    · split at h
      · obtain ⟨c, hc, h⟩ := List.mem_flatMap.mp h
        exact Or.inr ⟨by assumption, Or.inr ⟨c, hc, h⟩⟩
      · simp at h
  constructor
  · intro h
    obtain ⟨c, hc, h⟩ := List.mem_flatMap.mp h
    obtain ⟨c1, c2⟩ := (ok.2.2.1 _ c).mp hc
    have key : ∀ p, B.1 0 p = 1 → (B.1 2 p = -1 ∨ sn B (B.1 2 p)) → ∀ x ∈ wkF B p, B.1 2 x = -1 ∨ sn B (B.1 2 x) := by
      refine dn_ind ok (fun p => (B.1 2 p = -1 ∨ sn B (B.1 2 p)) → ∀ x ∈ wkF B p, B.1 2 x = -1 ∨ sn B (B.1 2 x)) (fun p hp ih hs x hx => ?_)
      rw [wk_eq ok hp] at hx
      rcases List.mem_cons.mp hx with h | h
      · rw [h]; exact hs
      · split at h
        · rename_i hst
          obtain ⟨c, hc, h⟩ := List.mem_flatMap.mp h
          have c2 := ((ok.2.2.1 _ c).mp hc).2
          exact ih c hc (Or.inr (by rw [c2]; exact (sn_iff ok hp).mpr ⟨hst, hs⟩)) x h
        · simp at h
    exact key c c1 (Or.inl c2) x h
  · -- upward
    have top : ∀ p, B.1 0 p = 1 → (sn B p → p ∈ wkL B ∧ ∀ c ∈ B.2.1 p, c ∈ wkL B) := by
      have ins : ∀ r, B.1 0 r = 1 → ∀ p ∈ wkF B r, B.1 1 p = 0 → ∀ c ∈ B.2.1 p, c ∈ wkF B r := by
        refine dn_ind ok (fun r => ∀ p ∈ wkF B r, B.1 1 p = 0 → ∀ c ∈ B.2.1 p, c ∈ wkF B r) (fun r hr ih p hp hst c hc => ?_)
        rw [wk_eq ok hr] at hp ⊢
        rcases List.mem_cons.mp hp with h | h
        · subst h
          rw [if_pos hst]
          refine List.mem_cons_of_mem _ (List.mem_flatMap.mpr ⟨c, hc, ?_⟩)
          rw [wk_eq ok ((ok.2.2.1 _ c).mp hc).1]; simp
        · split at h
          · rename_i h0
            obtain ⟨a, ha, h⟩ := List.mem_flatMap.mp h
            refine List.mem_cons_of_mem _ ?_
            try rw [if_pos h0]
            exact List.mem_flatMap.mpr ⟨a, ha, ih a ha p h hst c hc⟩
          · simp at h
      refine up_ind ok (fun p => sn B p → p ∈ wkL B ∧ ∀ c ∈ B.2.1 p, c ∈ wkL B) (fun p hp ih hs => ?_)
      have hs2 := (sn_iff ok hp).mp hs
      have hpL : p ∈ wkL B := by
        rcases hs2.2 with e | e
        · refine List.mem_flatMap.mpr ⟨p, (ok.2.2.1 _ p).mpr ⟨hp, e⟩, ?_⟩
          rw [wk_eq ok hp]; simp
        · rcases ih with g | g
          · have := ok.2.1 _ e.1; omega
          · exact (g e).2 p ((ok.2.2.1 _ p).mpr ⟨hp, rfl⟩)
      refine ⟨hpL, fun c hc => ?_⟩
      obtain ⟨r, hr, h⟩ := List.mem_flatMap.mp hpL
      exact List.mem_flatMap.mpr ⟨r, hr, ins r ((ok.2.2.1 _ r).mp hr).1 p h hs2.1 c hc⟩
    rintro (e | e)
    · refine List.mem_flatMap.mpr ⟨x, (ok.2.2.1 _ x).mpr ⟨hx, e⟩, ?_⟩
      rw [wk_eq ok hx]; simp
    · exact (top _ e.1 e).2 x ((ok.2.2.1 _ x).mpr ⟨hx, rfl⟩)
theorem readL_mem {B : Bk} (ok : okB B) {x : Int} : x ∈ readL B ↔ sn B x := by
  constructor
  · intro h
    obtain ⟨h1, h2⟩ := List.mem_filter.mp h
    have hx := wkL_mem ok h1
    exact (sn_iff ok hx).mpr ⟨by simpa using h2, (wkL_iff ok hx).mp h1⟩
  · intro h
    have := (sn_iff ok h.1).mp h
    exact List.mem_filter.mpr ⟨(wkL_iff ok h.1).mpr this.2, by simpa using this.1⟩
