/-! the book of a set of changes, as lists and functions -/
/-- a chain of parts that ends -/
def dpt (par : Int → Int) : Nat → Int → Prop
  | 0, p => p = -1
  | d + 1, p => p = -1 ∨ (0 ≤ p ∧ p < 60 ∧ dpt par d (par p))
/-- is w in the chain from p on -/
def wth (par : Int → Int) : Nat → Int → Int → Bool
  | 0, _, _ => false
  | d + 1, p, w => if p < 0 then false else if p = w then true else wth par d (par p) w
theorem dpt_rng {par : Int → Int} {d : Nat} {p : Int} (h : dpt par d p) : -1 ≤ p ∧ p < 60 := by
  cases d with
  | zero => have : p = -1 := h; omega
  | succ d => rcases h with h | h <;> omega
theorem dpt_mono {par : Int → Int} : ∀ {d e : Nat} {p : Int}, d ≤ e → dpt par d p → dpt par e p
  | 0, 0, _, _, h => h
  | 0, e + 1, _, _, h => Or.inl h
  | d + 1, 0, _, hle, _ => by omega
  | d + 1, e + 1, p, hle, h => h.imp id (fun h => ⟨h.1, h.2.1, dpt_mono (by omega) h.2.2⟩)
theorem wth_fuel {par : Int → Int} {w : Int} : ∀ {d e : Nat} {p : Int}, dpt par d p → d < e → wth par e p w = wth par (d + 1) p w
  | 0, e + 1, p, h, _ => by
    have : p = -1 := h
    subst this
    simp [wth]
  | d + 1, e + 1, p, h, hle => by
    rcases h with h | ⟨h1, h2, h3⟩
    · subst h; simp [wth]
    · rw [wth, wth]
      by_cases hp : p < 0
      · rw [if_pos hp, if_pos hp]
      · rw [if_neg hp, if_neg hp]
        by_cases hw : p = w
        · rw [if_pos hw, if_pos hw]
        · rw [if_neg hw, if_neg hw]
          exact wth_fuel h3 (by omega)
theorem wth_congr {par par' : Int → Int} {w : Int} (P : Int → Prop) (hP : ∀ p, P p → par' p = par p ∧ (par p = -1 ∨ P (par p))) : ∀ (d : Nat) (p : Int), (p = -1 ∨ P p) → wth par' d p w = wth par d p w
  | 0, _, _ => rfl
  | d + 1, p, h => by
    rcases h with rfl | h
    · simp [wth]
    · rw [wth, wth, (hP p h).1, wth_congr P hP d _ (hP p h).2]
theorem dpt_congr {par par' : Int → Int} (P : Int → Prop) (hP : ∀ p, P p → par' p = par p ∧ (par p = -1 ∨ P (par p))) : ∀ (d : Nat) (p : Int), (p = -1 ∨ P p) → dpt par d p → dpt par' d p
  | 0, _, _, h => h
  | d + 1, p, hp, h => by
    rcases h with h | ⟨h1, h2, h3⟩
    · exact Or.inl h
    · rcases hp with hp | hp
      · omega
      · exact Or.inr ⟨h1, h2, by rw [(hP p hp).1]; exact dpt_congr P hP d _ (hP p hp).2 h3⟩
/-- at most as many different numbers as there are -/
theorem nodup_len : ∀ (n : Nat) (l : List Int), l.Nodup → (∀ x ∈ l, 0 ≤ x ∧ x < n) → l.length ≤ n
  | 0, l, _, h => by
    cases l with
    | nil => simp
    | cons a l => have := h a (by simp); omega
  | n + 1, l, hn, h => by
    by_cases hm : (n : Int) ∈ l
    · have h1 := nodup_len n (l.erase n) (hn.erase _) (fun x hx => by
        have hx' := (List.Nodup.mem_erase_iff hn).mp hx
        have := h x hx'.2
        omega)
      rw [List.length_erase_of_mem hm] at h1
      omega
    · have := nodup_len n l hn (fun x hx => by
        have := h x hx
        have : x ≠ n := by rintro rfl; exact hm hx
        omega)
      omega
/-- a book: numbers by kind (0 there, 1 struck, 2 part around, 3 note, 4 tie, 5 what came of a change, 6 the change that says the words), what is in a part (-1: the book), who put a word -/
abbrev Bk : Type := (Nat → Int → Int) × (Int → List Int) × (Int → Int → Int)
def setB (B : Bk) (f : Nat) (p v : Int) : Bk := (fun g q => if g = f ∧ q = p then v else B.1 g q, B.2)
def bk0 : Bk := (fun g _ => if g = 2 ∨ g = 4 ∨ g = 6 then -1 else if g = 5 then -6 else 0, fun _ => [], fun _ _ => 0)
def insA (f p : Int) : List Int → List Int
  | [] => [p]
  | a :: l => if a = f then a :: p :: l else a :: insA f p l
def insK (l : List Int) (p bh : Int) : List Int := if bh = -1 then p :: l else if bh ∈ l then insA bh p l else l ++ [p]
def delK (l : List Int) (p : Int) : List Int := l.filter (fun a => decide (a ≠ p))
def outB (B : Bk) (p : Int) : Bk := (B.1, fun q => if q = B.1 2 p then delK (B.2.1 q) p else B.2.1 q, B.2.2)
def inB (B : Bk) (p part bh : Int) : Bk := (fun g q => if g = 2 ∧ q = p then part else B.1 g q, fun q => if q = part then insK (B.2.1 q) p bh else B.2.1 q, B.2.2)
/-- how many are the same from s on -/
def smF (a b : Int → Int) (m n : Int) : Nat → Int → Int
  | 0, s => s
  | f + 1, s => if s < m ∧ s < n ∧ a s = b s then smF a b m n f (s + 1) else s
theorem smF_rng {a b : Int → Int} {m n : Int} : ∀ {f : Nat} {s : Int}, s ≤ smF a b m n f s ∧ (s ≤ m → smF a b m n f s ≤ m) ∧ (s ≤ n → smF a b m n f s ≤ n)
  | 0, s => ⟨Int.le_refl _, id, id⟩
  | f + 1, s => by
    unfold smF
    split
    · have := smF_rng (a := a) (b := b) (m := m) (n := n) (f := f) (s := s + 1)
      omega
    · exact ⟨Int.le_refl _, id, id⟩
theorem smF_congr {a b a' b' : Int → Int} {m n : Int} : ∀ {f : Nat} {s : Int}, (∀ x, s ≤ x → x < m → x < n → a' x = a x ∧ b' x = b x) → smF a' b' m n f s = smF a b m n f s
  | 0, _, _ => rfl
  | f + 1, s, h => by
    unfold smF
    by_cases hc : s < m ∧ s < n
    · obtain ⟨e1, e2⟩ := h s (Int.le_refl _) hc.1 hc.2
      rw [e1, e2, smF_congr (f := f) (s := s + 1) (fun x h1 h2 h3 => h x (by omega) h2 h3)]
    · rw [if_neg (fun h => hc ⟨h.1, h.2.1⟩), if_neg (fun h => hc ⟨h.1, h.2.1⟩)]
/-- who put the words: first ones that stay, last ones that stay, else the change -/
def rwW (old : Int → Int) (had many same last c i : Int) : Int := if i < same then old i else if many - last ≤ i then old (had - many + i) else c
def smA (a b : Int → Int) (had many : Int) : Int := smF a b had many 9 0
def smZ (a b : Int → Int) (had many : Int) : Int := smF (fun s => a (had - 1 - s)) (fun s => b (many - 1 - s)) (had - smA a b had many) (many - smA a b had many) 9 0
