/-! pages run on as pieces are read -/
theorem tk_mo {h n : Int} {s : S6} : s.1 ≤ (tk h n s).1 ∧ (tk h n s).2.2.1 = (tk h n s).1 := by
  unfold tk
  split
  · exact ⟨by show s.1 ≤ s.1 + 1; omega, rfl⟩
  · exact ⟨Int.le_refl _, rfl⟩
theorem tkS_mo {h nt : Int} {len : Nat} {s : S6} (i : Nat) : ∀ d : Nat, (tkS h nt len i s).1 ≤ (tkS h nt len (i + d) s).1
  | 0 => Int.le_refl _
  | d + 1 => Int.le_trans (tkS_mo i d) (tk_mo (h := h) (n := if i + d + 1 = len then 1 + nt else 1) (s := tkS h nt len (i + d) s)).1
theorem tkS_last {h nt : Int} {len : Nat} {s : S6} (i : Nat) : (tkS h nt len (i + 1) s).2.2.1 = (tkS h nt len (i + 1) s).1 := tk_mo.2
theorem stE_mo {E : En} {s : S6} {p : Int} : s.1 ≤ (stE E s p).1 ∧ (s.2.2.1 ≤ s.1 → s.2.2.1 ≤ (stE E s p).2.2.1 ∧ (stE E s p).2.2.1 ≤ (stE E s p).1) ∧ (E.1 p = 1 → ∀ l : Nat, l < (eL E p).length → s.1 ≤ lpE E s p l ∧ lpE E s p l ≤ (stE E s p).1 ∧ lpE E s p l ≤ (stE E s p).2.2.1) := by
  unfold stE
  by_cases c : E.1 p = 1
  · rw [if_pos c]
    generalize hn : (eL E p).length = n
    have h0 := tkS_mo (h := E.2.2.2.2.2) (nt := E.2.2.1 p) (len := n) (s := ln1 E s p) 0 n
    rw [Nat.zero_add] at h0
    have h0 : s.1 ≤ (tkS E.2.2.2.2.2 (E.2.2.1 p) n n (ln1 E s p)).1 := h0
    refine ⟨h0, fun hs => ?_, fun _ l hl => ?_⟩
    · cases n with
      | zero => exact ⟨Int.le_refl _, hs⟩
      | succ n => rw [tkS_last]; exact ⟨by omega, Int.le_refl _⟩
    · unfold lpE
      rw [hn]
      have h1 := tkS_mo (h := E.2.2.2.2.2) (nt := E.2.2.1 p) (len := n) (s := ln1 E s p) 0 (l + 1)
      have h2 := tkS_mo (h := E.2.2.2.2.2) (nt := E.2.2.1 p) (len := n) (s := ln1 E s p) (l + 1) (n - (l + 1))
      rw [Nat.zero_add] at h1
      rw [show l + 1 + (n - (l + 1)) = n by omega] at h2
      refine ⟨h1, h2, ?_⟩
      obtain ⟨m, rfl⟩ : ∃ m, n = m + 1 := ⟨n - 1, by omega⟩
      rw [tkS_last]; exact h2
  · rw [if_neg c]
    refine ⟨tk_mo.1, fun hs => ?_, fun q => absurd q c⟩
    rw [tk_mo.2]
    exact ⟨Int.le_trans hs tk_mo.1, Int.le_refl _⟩
theorem lpE_mo {E : En} {s : S6} {p : Int} {l l' : Nat} (h : l ≤ l') : lpE E s p l ≤ lpE E s p l' := by
  unfold lpE
  have := tkS_mo (h := E.2.2.2.2.2) (nt := E.2.2.1 p) (len := (eL E p).length) (s := ln1 E s p) (l + 1) (l' - l)
  rw [show l + 1 + (l' - l) = l' + 1 by omega] at this
  exact this
theorem rnE_mo {E : En} : ∀ (l' l : List Int), (rnE E l).2.2.1 ≤ (rnE E l).1 → (rnE E l).1 ≤ (rnE E (l ++ l')).1 ∧ (rnE E l).2.2.1 ≤ (rnE E (l ++ l')).2.2.1
  | [], l, h => by rw [List.append_nil]; exact ⟨Int.le_refl _, Int.le_refl _⟩
  | p :: l', l, h => by
    have st := stE_mo (E := E) (s := rnE E l) (p := p)
    have e : l ++ p :: l' = (l ++ [p]) ++ l' := by simp
    have h2 := st.2.1 h
    rw [← rnE_s] at h2 st
    have ih := rnE_mo l' (l ++ [p]) h2.2
    rw [e]
    exact ⟨Int.le_trans st.1 ih.1, Int.le_trans h2.1 ih.2⟩
theorem rnE_lo1 {E : En} (l : List Int) : (rnE E l).2.2.1 ≤ (rnE E l).1 ∧ 1 ≤ (rnE E l).1 := by
  suffices h : ∀ (m : List Int), (rnE E m.reverse).2.2.1 ≤ (rnE E m.reverse).1 ∧ 1 ≤ (rnE E m.reverse).1 by
    have := h l.reverse
    rwa [List.reverse_reverse] at this
  intro m
  induction m with
  | nil => exact ⟨by show (0 : Int) ≤ 1; omega, by show (1 : Int) ≤ 1; omega⟩
  | cons p m ih =>
    rw [List.reverse_cons, rnE_s]
    have st := stE_mo (E := E) (s := rnE E m.reverse) (p := p)
    exact ⟨(st.2.1 ih.1).2, Int.le_trans ih.2 st.1⟩
/-- hits of a word, as pieces are read -/
def htE (so : Int → Int) (E : En) (R : List Int) (Sf : Int → List Int) (w on p : Int) : Prop := hitP so (eL E) Sf (fun p l => lpE E (bfE E R p) p l) w on p
theorem ht_1 {so : Int → Int} {E : En} {R : List Int} {Sf : Int → List Int} {w on p : Int} (hso : so = E.1) (hnd : R.Nodup) (hp : p ∈ R) (h : htE so E R Sf w on p) : 1 ≤ on ∧ on ≤ (rnE E R).2.2.1 := by
  obtain ⟨a, b, rfl⟩ := List.append_of_mem hp
  have hpa : p ∉ a := by rw [List.nodup_append] at hnd; exact fun q => hnd.2.2 p q p (by simp) rfl
  obtain ⟨h1, l, hl, he, -⟩ := h
  rw [hso] at h1
  simp only at he
  rw [bfE_at hpa] at he
  have st := (stE_mo (E := E) (s := rnE E a) (p := p)).2.2 h1 l hl
  have lo := rnE_lo1 (E := E) a
  have lo2 := rnE_lo1 (E := E) (a ++ [p])
  have mo := rnE_mo (E := E) b (a ++ [p]) lo2.1
  rw [List.append_assoc, List.singleton_append, rnE_s] at mo
  rw [← he]
  exact ⟨by omega, by omega⟩
theorem ht_2 {so : Int → Int} {E : En} {l1 l2 : List Int} {Sf : Int → List Int} {w on p : Int} (hso : so = E.1) (hnd : (l1 ++ l2).Nodup) (hp : p ∈ l1) (h : htE so E (l1 ++ l2) Sf w on p) : on ≤ (rnE E l1).1 := by
  obtain ⟨a, b, rfl⟩ := List.append_of_mem hp
  have hpa : p ∉ a := by
    rw [List.append_assoc, List.cons_append, List.nodup_append] at hnd
    exact fun q => hnd.2.2 p q p (by simp) rfl
  obtain ⟨h1, l, hl, he, -⟩ := h
  rw [hso] at h1
  simp only at he
  rw [List.append_assoc, List.cons_append, bfE_at hpa] at he
  have st := (stE_mo (E := E) (s := rnE E a) (p := p)).2.2 h1 l hl
  have mo := rnE_mo (E := E) b (a ++ [p]) (rnE_lo1 (E := E) (a ++ [p])).1
  rw [List.append_assoc, List.singleton_append, rnE_s] at mo
  omega
theorem ht_3 {so : Int → Int} {E : En} {l1 l2 : List Int} {Sf : Int → List Int} {w on p : Int} (hso : so = E.1) (hnd : (l1 ++ l2).Nodup) (hp : p ∈ l2) (h : htE so E (l1 ++ l2) Sf w on p) : (rnE E l1).1 ≤ on := by
  obtain ⟨a, b, rfl⟩ := List.append_of_mem hp
  have hpa : p ∉ l1 ++ a := by
    rw [← List.append_assoc, List.nodup_append] at hnd
    exact fun q => hnd.2.2 p q p (by simp) rfl
  obtain ⟨h1, l, hl, he, -⟩ := h
  rw [hso] at h1
  simp only at he
  rw [← List.append_assoc, bfE_at hpa] at he
  have st := (stE_mo (E := E) (s := rnE E (l1 ++ a)) (p := p)).2.2 h1 l hl
  have mo := rnE_mo (E := E) a l1 (rnE_lo1 (E := E) l1).1
  omega
/-- the pages of hits, each once -/
noncomputable def pgG (N : Nat) (M : Int → Prop) : List Int := ((rngL N).map (· + 1)).filter (fun on => pb (M on))
theorem pgG_congr {N : Nat} {M M' : Int → Prop} (h : ∀ on, M on ↔ M' on) : pgG N M = pgG N M' := by
  unfold pgG
  congr 1
  funext on
  have := h on
  cases q : pb (M' on) with
  | true => exact pb_iff.mpr (this.mpr (pb_iff.mp q))
  | false =>
    cases q2 : pb (M on) with
    | false => rfl
    | true => rw [pb_iff.mpr (this.mp (pb_iff.mp q2))] at q; exact absurd q (by decide)
theorem pgG_cut {N : Nat} {M T : Int → Prop} {q : Int} (hq : 1 ≤ q ∧ q ≤ N) (hM : ∀ on, M on → on < q) (hT : T q) (hlt : ∀ on, on < q → (T on ↔ M on)) : ∃ C, pgG N T = pgG N M ++ q :: C ∧ ((∀ on, T on → on ≤ q) → C = []) := by
  obtain ⟨a, rfl⟩ : ∃ a : Nat, q = (a : Int) + 1 := ⟨(q - 1).toNat, by omega⟩
  obtain ⟨d, rfl⟩ : ∃ d, N = a + (1 + d) := ⟨N - a - 1, by omega⟩
  have e : (rngL (a + (1 + d))).map (· + 1) = (rngL a).map (· + 1) ++ ((a : Int) + 1) :: (List.range d).map (fun i : Nat => (a : Int) + 2 + i) := by
    unfold rngL
    rw [List.range_add, List.range_add]
    simp only [List.map_append, List.map_map, List.range_one, List.map_cons, List.map_nil, List.append_assoc, List.cons_append, List.nil_append]
    congr 1
    rw [List.cons.injEq]
    refine ⟨by simp, List.map_congr_left (fun i _ => ?_)⟩
    simp only [Function.comp]
    omega
  have fA : ((rngL a).map (· + 1)).filter (fun on => pb (T on)) = ((rngL a).map (· + 1)).filter (fun on => pb (M on)) := by
    refine List.filter_congr (fun x hx => ?_)
    obtain ⟨y, hy, rfl⟩ := List.mem_map.mp hx
    unfold rngL at hy
    obtain ⟨z, hz, rfl⟩ := List.mem_map.mp hy
    have := List.mem_range.mp hz
    have hl := hlt ((z : Int) + 1) (by omega)
    cases q : pb (M ((z : Int) + 1)) with
    | true => exact pb_iff.mpr (hl.mpr (pb_iff.mp q))
    | false =>
      cases q2 : pb (T ((z : Int) + 1)) with
      | false => rfl
      | true => rw [pb_iff.mpr (hl.mp (pb_iff.mp q2))] at q; exact absurd q (by decide)
  have gC : ∀ P : Int → Prop, (∀ on, P on → on ≤ (a : Int) + 1) → ((List.range d).map (fun i : Nat => (a : Int) + 2 + i)).filter (fun on => pb (P on)) = [] := fun P hP => by
    rw [List.filter_eq_nil_iff]
    intro x hx q
    obtain ⟨i, hi, rfl⟩ := List.mem_map.mp hx
    have := hP _ (pb_iff.mp q)
    omega
  have hMq : ¬ pb (M ((a : Int) + 1)) = true := fun z => by have := hM _ (pb_iff.mp z); omega
  refine ⟨((List.range d).map (fun i : Nat => (a : Int) + 2 + i)).filter (fun on => pb (T on)), ?_, gC T⟩
  unfold pgG
  rw [e, List.filter_append, List.filter_append, List.filter_cons, List.filter_cons, if_pos (pb_iff.mpr hT), if_neg hMq, gC M (fun on h => by have := hM on h; omega), List.append_nil, fA]
