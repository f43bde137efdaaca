/-! how words are broken into lines: what is least, what is picked; one answer -/
def wdF (f : Int → Int) (i n : Int) : Int := n - 1 + sumF f i n.toNat
def fitP (f : Int → Int) (N w i n : Int) : Prop := 1 ≤ n ∧ i + n ≤ N ∧ wdF f i n ≤ w
def csF (f : Int → Int) (N w : Int) (b : Int → Int) (i n : Int) : Int := (if i + n = N then 0 else (w - wdF f i n) * (w - wdF f i n)) + b (i + n)
/-- from j on the numbers b are least -/
def bstR (f : Int → Int) (N w : Int) (b : Int → Int) (j : Int) : Prop := b N = 0 ∧ ∀ i, j ≤ i → i < N → (∃ n, fitP f N w i n ∧ b i = csF f N w b i n) ∧ ∀ n, fitP f N w i n → b i ≤ csF f N w b i n
def pckR (f : Int → Int) (N w : Int) (b : Int → Int) (i n : Int) : Prop := fitP f N w i n ∧ b i = csF f N w b i n ∧ ∀ n', fitP f N w i n' → n < n' → b i ≠ csF f N w b i n'
def lnsR (f : Int → Int) (N w : Int) (b : Int → Int) : Int → List Int → Prop
  | i, [] => i = N
  | i, n :: l => pckR f N w b i n ∧ lnsR f N w b (i + n) l
def brkR (f : Int → Int) (N w : Int) (L : List Int) (q : Int) : Prop := ∃ b : Int → Int, bstR f N w b 0 ∧ lnsR f N w b 0 L ∧ q = b 0
theorem wdF_s {f : Int → Int} {i n : Int} (h : 0 ≤ n) : wdF f i (n + 1) = wdF f i n + 1 + f (i + n) := by
  unfold wdF
  rw [show (n + 1).toNat = n.toNat + 1 by omega, sumF_s, show ((n.toNat : Nat) : Int) = n by omega]
  omega
theorem wdF_1 {f : Int → Int} {i : Int} : wdF f i 1 = f i := by
  unfold wdF
  rw [show (1 : Int).toNat = 0 + 1 by decide, sumF_s]
  simp [sumF]
theorem fit_mono {f : Int → Int} {N w i : Int} (hf : ∀ x, 0 ≤ x → x < N → 0 ≤ f x) (hi : 0 ≤ i) : ∀ (d : Nat) (n : Int), 1 ≤ n → fitP f N w i (n + d) → fitP f N w i n
  | 0, n, h1, h => by simpa using h
  | d + 1, n, h1, h => by
    have ih := fit_mono (w := w) hf hi d (n + 1) (by omega) (by rw [show n + 1 + (d : Int) = n + ((d + 1 : Nat) : Int) by omega]; exact h)
    obtain ⟨a1, a2, a3⟩ := ih
    rw [wdF_s (by omega)] at a3
    have := hf (i + n) (by omega) (by omega)
    exact ⟨h1, by omega, by omega⟩
theorem bst_uniq {f : Int → Int} {N w : Int} {b b' : Int → Int} (h : bstR f N w b 0) (h' : bstR f N w b' 0) : ∀ (d : Nat) (i : Int), 0 ≤ i → i ≤ N → N - i ≤ d → b i = b' i
  | 0, i, h0, h1, h2 => by rw [show i = N by omega, h.1, h'.1]
  | d + 1, i, h0, h1, h2 => by
    by_cases hi : i = N
    · rw [hi, h.1, h'.1]
    · obtain ⟨⟨n, n1, n2⟩, n3⟩ := h.2 i h0 (by omega)
      obtain ⟨⟨m, m1, m2⟩, m3⟩ := h'.2 i h0 (by omega)
      have c : ∀ n, fitP f N w i n → csF f N w b i n = csF f N w b' i n := fun n hn => by
        unfold csF
        rw [bst_uniq h h' d (i + n) (by have := hn.1; omega) hn.2.1 (by have := hn.1; omega)]
      have e1 := n3 m m1
      have e2 := m3 n n1
      rw [c m m1, ← m2] at e1
      rw [← c n n1, ← n2] at e2
      omega
theorem lns_uniq {f : Int → Int} {N w : Int} {b b' : Int → Int} (he : ∀ i, 0 ≤ i → i ≤ N → b i = b' i) : ∀ (l l' : List Int) (i : Int), 0 ≤ i → lnsR f N w b i l → lnsR f N w b' i l' → l = l'
  | [], [], _, _, _, _ => rfl
  | [], n :: l, i, _, h, h' => by have : i = N := h; have := h'.1.1; unfold fitP at this; omega
  | n :: l, [], i, _, h, h' => by have : i = N := h'; have := h.1.1; unfold fitP at this; omega
  | n :: l, m :: l', i, h0, h, h' => by
    have c : ∀ n, fitP f N w i n → csF f N w b i n = csF f N w b' i n := fun n hn => by
      unfold csF
      rw [he (i + n) (by have := hn.1; omega) hn.2.1]
    obtain ⟨⟨n1, n2, n3⟩, hl⟩ := h
    obtain ⟨⟨m1, m2, m3⟩, hl'⟩ := h'
    have n1' := n1
    unfold fitP at n1'
    have ei := he i h0 (by omega)
    have e : n = m := by
      rcases Int.lt_trichotomy n m with q | q | q
      · exact absurd (by rw [ei, m2, c m m1]) (n3 m m1 q)
      · exact q
      · exact absurd (by rw [← ei, n2, c n n1]) (m3 n n1 q)
    subst e
    rw [lns_uniq he l l' (i + n) (by omega) hl hl']
theorem brk_uniq {f : Int → Int} {N w : Int} {L L' : List Int} {q q' : Int} (hN : 0 ≤ N) (h : brkR f N w L q) (h' : brkR f N w L' q') : L = L' ∧ q = q' := by
  obtain ⟨b, b1, b2, b3⟩ := h
  obtain ⟨c, c1, c2, c3⟩ := h'
  have e := fun i h0 h1 => bst_uniq b1 c1 (N - i).toNat i h0 h1 (by omega)
  exact ⟨lns_uniq e L L' 0 (by omega) b2 c2, by rw [b3, c3, e 0 (by omega) hN]⟩
theorem sumF_congr {f g : Int → Int} {a : Int} : ∀ {n : Nat}, (∀ i : Int, 0 ≤ i → i < n → f (a + i) = g (a + i)) → sumF f a n = sumF g a n
  | 0, _ => rfl
  | n + 1, h => by rw [sumF_s, sumF_s, sumF_congr (n := n) (fun i x y => h i x (by omega)), h n (by omega) (by omega)]
theorem brk_congr {f g : Int → Int} {N w : Int} {L : List Int} {q : Int} (he : ∀ x, 0 ≤ x → x < N → f x = g x) (h : brkR f N w L q) : brkR g N w L q := by
  obtain ⟨b, b1, b2, b3⟩ := h
  have wd : ∀ i n, 0 ≤ i → i + n ≤ N → wdF f i n = wdF g i n := fun i n h0 h1 => by
    unfold wdF
    rw [sumF_congr (fun x y z => he _ (by omega) (by omega))]
  have ft : ∀ i n, 0 ≤ i → (fitP f N w i n ↔ fitP g N w i n) := fun i n h0 => by
    unfold fitP
    constructor
    · rintro ⟨a, b, c⟩; rw [wd i n h0 b] at c; exact ⟨a, b, c⟩
    · rintro ⟨a, b, c⟩; rw [← wd i n h0 b] at c; exact ⟨a, b, c⟩
  have cs : ∀ i n, 0 ≤ i → fitP g N w i n → csF f N w b i n = csF g N w b i n := fun i n h0 hn => by
    unfold csF
    rw [wd i n h0 hn.2.1]
  refine ⟨b, ⟨b1.1, fun i h0 h1 => ?_⟩, ?_, b3⟩
  · obtain ⟨⟨n, n1, n2⟩, n3⟩ := b1.2 i h0 h1
    have n1' := (ft i n h0).mp n1
    exact ⟨⟨n, n1', by rw [← cs i n h0 n1']; exact n2⟩, fun m hm => by rw [← cs i m h0 hm]; exact n3 m ((ft i m h0).mpr hm)⟩
  · have key : ∀ (l : List Int) (i : Int), 0 ≤ i → lnsR f N w b i l → lnsR g N w b i l := by
      intro l
      induction l with
      | nil => intro i _ h; exact h
      | cons n l ih =>
        intro i h0 h
        obtain ⟨⟨n1, n2, n3⟩, hl⟩ := h
        have n1' := (ft i n h0).mp n1
        have := n1.1
        exact ⟨⟨n1', by rw [← cs i n h0 n1']; exact n2, fun m hm hnm => by rw [← cs i m h0 hm]; exact n3 m ((ft i m h0).mpr hm) hnm⟩, ih (i + n) (by omega) hl⟩
    exact key L 0 (by omega) b2
/-- the lines of widths: how many words in each, and the squares left -/
noncomputable def brO (W : List Int) (w : Int) : List Int × Int := Classical.epsilon (fun r : List Int × Int => brkR (fun x => W.getD x.toNat 0) W.length w r.1 r.2)
theorem brO_eq {f : Int → Int} {W : List Int} {w : Int} {L : List Int} {q : Int} (hf : arL f W) (h : brkR f W.length w L q) : brO W w = (L, q) := by
  have h2 : brkR (fun x => W.getD x.toNat 0) W.length w L q := brk_congr (fun x h0 h1 => by
    obtain ⟨n, rfl⟩ := Int.eq_ofNat_of_zero_le h0
    have hn : n < W.length := by omega
    rw [hf n W[n] (List.getElem?_eq_getElem hn)]
    simp [List.getD, List.getElem?_eq_getElem hn]) h
  have e : brkR (fun x => W.getD x.toNat 0) W.length w (brO W w).1 (brO W w).2 := Classical.epsilon_spec (p := fun r : List Int × Int => brkR (fun x => W.getD x.toNat 0) W.length w r.1 r.2) ⟨(L, q), h2⟩
  have := brk_uniq (by omega) h2 e
  exact Prod.ext this.1.symm this.2.symm
theorem sq_rng {x : Int} (h0 : 0 ≤ x) (h1 : x ≤ 60) : 0 ≤ x * x ∧ x * x ≤ 3600 := ⟨Int.mul_nonneg h0 h0, Int.le_trans (Int.mul_le_mul h1 h1 h0 (by decide)) (by decide)⟩
theorem lns_len {f : Int → Int} {N w : Int} {b : Int → Int} : ∀ {l : List Int} {i : Int}, lnsR f N w b i l → i + l.length ≤ N ∧ (∀ n ∈ l, 1 ≤ n) ∧ (i < N → l ≠ [])
  | [], i, h => by have : i = N := h; simp; omega
  | n :: l, i, h => by
    have h1 := lns_len (l := l) h.2
    have h2 := h.1.1.1
    refine ⟨by rw [List.length_cons]; omega, fun m hm => ?_, fun _ => by simp⟩
    rcases List.mem_cons.mp hm with rfl | hm
    · exact h2
    · exact h1.2.1 m hm
