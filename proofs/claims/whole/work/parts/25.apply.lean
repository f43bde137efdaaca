/-! the check: a change worked -/
theorem MB_setB {σ σ' : Mm} {B : Bk} {p v : Int} (h : MB σ B) (f : Nat) (hf : f = 1 ∨ f = 3 ∨ f = 4)
    (e0 : (Mi σ' 1224868322 0) = (Mi σ 1224868322 0)) (e1 : (Mi σ' 1241645538 0) = if f = 1 then upd1 (Mi σ 1241645538 0) p v else (Mi σ 1241645538 0)) (e3 : (Mi σ' 1375863265 0) = if f = 3 then upd1 (Mi σ 1375863265 0) p v else (Mi σ 1375863265 0)) (e4 : (Mi σ' 1392640481 0) = if f = 4 then upd1 (Mi σ 1392640481 0) p v else (Mi σ 1392640481 0))
    (e5 : ∀ a, List.contains [1325531617, 1107427809, 1258422753, 1342312193, 1359089409, 1124208385, 1308754401, 1291977185, 1275199977] a = true → Mi σ' a 0 = Mi σ a 0) : MB σ' (setB B f p v) := by
  refine ⟨fun x x1 x2 => ?_, by rw [e5 _ rfl, e5 _ rfl, e5 _ rfl]; exact h.2⟩
  obtain ⟨a1, a2, a3, a4, a5, a6, a7⟩ := h.1 x x1 x2
  have ew : mWk (Mi σ' 1107427809 0) (setB B f p v) x = mWk (Mi σ 1107427809 0) B x := by
    rw [e5 1107427809 rfl]
    have : (setB B f p v).1 6 x = B.1 6 x := by show (if 6 = f ∧ x = p then v else B.1 6 x) = _; rw [if_neg (by omega)]
    unfold mWk; rw [this]
  have e6 : (setB B f p v).1 6 x = B.1 6 x := by show (if 6 = f ∧ x = p then v else B.1 6 x) = _; rw [if_neg (by omega)]
  have e02 : (setB B f p v).1 0 x = B.1 0 x := by show (if 0 = f ∧ x = p then v else B.1 0 x) = _; rw [if_neg (by omega)]
  have e22 : (setB B f p v).1 2 x = B.1 2 x := by show (if 2 = f ∧ x = p then v else B.1 2 x) = _; rw [if_neg (by omega)]
  rw [ew, e6, e02, e22, e0, e1, e3, e4, e5 1325531617 rfl, e5 1258422753 rfl, e5 1342312193 rfl, e5 1359089409 rfl, e5 1124208385 rfl]
  refine ⟨a1, ?_, ?_, ?_, a5, a6, a7⟩
  · show _ = if 1 = f ∧ x = p then v else B.1 1 x
    by_cases hf1 : f = 1
    · subst hf1
      rw [if_pos rfl, upd1_e]
      by_cases hx : x = p
      · rw [if_pos hx, if_pos ⟨rfl, hx⟩]
      · rw [if_neg hx, if_neg (fun q => hx q.2)]; exact a2
    · rw [if_neg hf1, if_neg (fun q => hf1 q.1.symm)]; exact a2
  · show _ = if 3 = f ∧ x = p then v else B.1 3 x
    by_cases hf1 : f = 3
    · subst hf1
      rw [if_pos rfl, upd1_e]
      by_cases hx : x = p
      · rw [if_pos hx, if_pos ⟨rfl, hx⟩]
      · rw [if_neg hx, if_neg (fun q => hx q.2)]; exact a3
    · rw [if_neg hf1, if_neg (fun q => hf1 q.1.symm)]; exact a3
  · show _ = if 4 = f ∧ x = p then v else B.1 4 x
    by_cases hf1 : f = 4
    · subst hf1
      rw [if_pos rfl, upd1_e]
      by_cases hx : x = p
      · rw [if_pos hx, if_pos ⟨rfl, hx⟩]
      · rw [if_neg hx, if_neg (fun q => hx q.2)]; exact a4
    · rw [if_neg hf1, if_neg (fun q => hf1 q.1.symm)]; exact a4
/-- struck no more, if not firm -/
theorem MB_rs {σ : Mm} {B : Bk} {p v : Int} (hB : okB B) (h : MB σ B) (hp : 0 ≤ p ∧ p < 60) (hv : v = if (Mi σ 1241645538 0) p = 1 ∧ (Mi σ 184680536 0 16) = 1 then 1 else 0) : MB (sI σ 1241645538 0 p v) (rsB (Mi σ 184680536 0 16) B p) := by
  have a2 := (h.1 p hp.1 hp.2).2.1
  have h01 := (hB.1 p).2
  unfold rsB
  by_cases hf : (Mi σ 184680536 0 16) = 1
  · rw [if_pos hf]
    have ev : v = (Mi σ 1241645538 0) p := by
      rw [hv]; split
      · omega
      · have : ¬ (Mi σ 1241645538 0) p = 1 := fun e => by simp_all
        omega
    have e : Mi (sI σ 1241645538 0 p v) 1241645538 0 = (Mi σ 1241645538 0) := by
      rw [Mi_s, ev]; funext x; rw [upd1_e]; split
      · rename_i e; rw [e]
      · rfl
    refine ⟨fun x x1 x2 => ?_, by rw [Mi_n rfl, Mi_n rfl, Mi_n rfl]; exact h.2⟩
    rw [e, Mi_n rfl, Mi_n rfl, Mi_n rfl, Mi_n rfl, Mi_n rfl, Mi_n rfl, Mi_n rfl, Mi_n rfl, Mi_n rfl]
    exact h.1 x x1 x2
  · rw [if_neg hf]
    have ev : v = 0 := by rw [hv, if_neg (fun q => hf q.2)]
    subst ev
    refine MB_setB h 1 (Or.inl rfl) (by rw [Mi_n rfl]) (by rw [if_pos rfl, Mi_s]) (by rw [if_neg (by decide), Mi_n rfl]) (by rw [if_neg (by decide), Mi_n rfl]) (fun a ha => ?_)
    have : a ≠ 1241645538 := by rintro rfl; revert ha; decide
    rw [Mi_n (by cases hb : Nat.beq a 1241645538 with | false => rfl | true => exact absurd (Nat.eq_of_beq_eq_true hb) this)]
theorem smA_rng {a b : Int → Int} {had many : Int} (h1 : 0 ≤ had) (h2 : 0 ≤ many) : 0 ≤ smA a b had many ∧ smA a b had many ≤ had ∧ smA a b had many ≤ many := by
  have := smF_rng (a := a) (b := b) (m := had) (n := many) (f := 9) (s := 0)
  exact ⟨this.1, this.2.1 h1, this.2.2 h2⟩
theorem smZ_rng {a b : Int → Int} {had many : Int} (h1 : 0 ≤ had) (h2 : 0 ≤ many) : 0 ≤ smZ a b had many ∧ smZ a b had many ≤ had - smA a b had many ∧ smZ a b had many ≤ many - smA a b had many := by
  have hA := smA_rng (a := a) (b := b) h1 h2
  have := smF_rng (a := fun s => a (had - 1 - s)) (b := fun s => b (many - 1 - s)) (m := had - smA a b had many) (n := many - smA a b had many) (f := 9) (s := 0)
  exact ⟨this.1, this.2.1 (by omega), this.2.2 (by omega)⟩
theorem MB_wrd {σ σ' : Mm} {B : Bk} {p c : Int} (h : MB σ B) (hp : 0 ≤ p ∧ p < 60) (hc : 0 ≤ c) (hF : Fr [1426194497, 1442971713, 1342312193, 1359089409, 1325531617] σ σ') (e1 : (Mi σ' 1325531617 0) = upd1 (Mi σ 1325531617 0) p ((Mi σ 1107427809 0) c))
    (e2 : ∀ i, 0 ≤ i → i < (Mi σ 1107427809 0) c → (Mi σ' 1342312193 0) (8 * p + i) = (Mi σ 1124208385 0) (8 * c + i) ∧ (Mi σ' 1359089409 0) (8 * p + i) = rwW (fun i => (Mi σ 1359089409 0) (8 * p + i)) ((Mi σ 1325531617 0) p) ((Mi σ 1107427809 0) c) (smA (fun i => (Mi σ 1342312193 0) (8 * p + i)) (fun i => (Mi σ 1124208385 0) (8 * c + i)) ((Mi σ 1325531617 0) p) ((Mi σ 1107427809 0) c)) (smZ (fun i => (Mi σ 1342312193 0) (8 * p + i)) (fun i => (Mi σ 1124208385 0) (8 * c + i)) ((Mi σ 1325531617 0) p) ((Mi σ 1107427809 0) c)) c i)
    (e3 : ∀ x, (x < 8 * p ∨ 8 * p + 8 ≤ x) → (Mi σ' 1342312193 0) x = (Mi σ 1342312193 0) x ∧ (Mi σ' 1359089409 0) x = (Mi σ 1359089409 0) x) (h8 : ∀ q, 0 ≤ q → q < 60 → 0 ≤ mWk (Mi σ 1107427809 0) B q ∧ mWk (Mi σ 1107427809 0) B q ≤ 8) (hmc : 0 ≤ (Mi σ 1107427809 0) c) : MB σ' (wrdB (Mi σ 1107427809 0) (Mi σ 1124208385 0) B p c) := by
  have fr := fun (a : Nat) (ha : List.contains [1426194497, 1442971713, 1342312193, 1359089409, 1325531617] a = false) => hF.i a ha
  refine ⟨fun x x1 x2 => ?_, by rw [fr _ rfl, fr _ rfl, fr _ rfl]; exact h.2⟩
  obtain ⟨a1, a2, a3, a4, a5, a6, a7⟩ := h.1 x x1 x2
  have e60 : (wrdB (Mi σ 1107427809 0) (Mi σ 1124208385 0) B p c).1 6 x = if x = p then c else B.1 6 x := by
    show (if 6 = 6 ∧ x = p then c else B.1 6 x) = _
    by_cases hx : x = p
    · rw [if_pos ⟨rfl, hx⟩, if_pos hx]
    · rw [if_neg (fun q => hx q.2), if_neg hx]
  have ef : ∀ f, f ≠ 6 → (wrdB (Mi σ 1107427809 0) (Mi σ 1124208385 0) B p c).1 f x = B.1 f x := fun f hf => by
    show (if f = 6 ∧ x = p then c else B.1 f x) = _
    rw [if_neg (fun q => hf q.1)]
  rw [fr 1224868322 rfl, fr 1241645538 rfl, fr 1375863265 rfl, fr 1392640481 rfl, fr 1258422753 rfl, fr 1107427809 rfl, fr 1124208385 rfl, ef 0 (by decide), ef 1 (by decide), ef 2 (by decide), ef 3 (by decide), ef 4 (by decide)]
  have ew : mWk (Mi σ 1107427809 0) (wrdB (Mi σ 1107427809 0) (Mi σ 1124208385 0) B p c) x = if x = p then (Mi σ 1107427809 0) c else mWk (Mi σ 1107427809 0) B x := by
    unfold mWk
    rw [e60]
    by_cases hx : x = p
    · rw [if_pos hx, if_pos hx, if_neg (by omega)]
    · rw [if_neg hx, if_neg hx]
  rw [ew, e60]
  refine ⟨a1, a2, a3, a4, ?_, a6, fun i i1 i2 => ?_⟩
  · rw [e1, upd1_e]; split
    · rfl
    · exact a5
  · by_cases hx : x = p
    · subst hx
      rw [if_pos rfl] at i2
      rw [if_pos rfl]
      obtain ⟨g1, g2⟩ := e2 i i1 i2
      refine ⟨g1, ?_⟩
      rw [g2]
      show _ = (if x = x then rwW (B.2.2 x) (mWk (Mi σ 1107427809 0) B x) ((Mi σ 1107427809 0) c) _ _ c i else B.2.2 x i)
      rw [if_pos rfl, a5]
      have cA : smA (fun i => (Mi σ 1342312193 0) (8 * x + i)) (fun i => (Mi σ 1124208385 0) (8 * c + i)) (mWk (Mi σ 1107427809 0) B x) ((Mi σ 1107427809 0) c) = smA (fun i => (Mi σ 1124208385 0) (8 * B.1 6 x + i)) (fun i => (Mi σ 1124208385 0) (8 * c + i)) (mWk (Mi σ 1107427809 0) B x) ((Mi σ 1107427809 0) c) :=
        smF_congr (fun y y1 y2 y3 => ⟨(a7 y (by omega) y2).1, rfl⟩)
      have hw8 := h8 x x1 x2
      have rA := smA_rng (a := fun i => (Mi σ 1124208385 0) (8 * B.1 6 x + i)) (b := fun i => (Mi σ 1124208385 0) (8 * c + i)) hw8.1 hmc
      have rZ := smZ_rng (a := fun i => (Mi σ 1124208385 0) (8 * B.1 6 x + i)) (b := fun i => (Mi σ 1124208385 0) (8 * c + i)) hw8.1 hmc
      have cZ : smZ (fun i => (Mi σ 1342312193 0) (8 * x + i)) (fun i => (Mi σ 1124208385 0) (8 * c + i)) (mWk (Mi σ 1107427809 0) B x) ((Mi σ 1107427809 0) c) = smZ (fun i => (Mi σ 1124208385 0) (8 * B.1 6 x + i)) (fun i => (Mi σ 1124208385 0) (8 * c + i)) (mWk (Mi σ 1107427809 0) B x) ((Mi σ 1107427809 0) c) := by
        unfold smZ
        rw [cA]
        exact smF_congr (fun y y1 y2 y3 => ⟨(a7 _ (by omega) (by omega)).1, rfl⟩)
      rw [cA, cZ]
      unfold rwW
      split
      · exact (a7 i i1 (by omega)).2
      · split
        · exact (a7 _ (by omega) (by omega)).2
        · rfl
    · rw [if_neg hx] at i2
      rw [if_neg hx]
      have hw8 := h8 x x1 x2
      obtain ⟨g1, g2⟩ := e3 (8 * x + i) (by omega)
      obtain ⟨b1, b2⟩ := a7 i i1 i2
      refine ⟨g1.trans b1, g2.trans ?_⟩
      rw [b2]
      show _ = (if x = p then _ else B.2.2 x i)
      rw [if_neg hx]
