/-! one change worked on a book -/
def mWk (mn : Int → Int) (B : Bk) (p : Int) : Int := if B.1 6 p = -1 then 0 else mn (B.1 6 p)
def rsB (fm : Int) (B : Bk) (p : Int) : Bk := if fm = 1 then B else setB B 1 p 0
def wrdB (mn wd : Int → Int) (B : Bk) (p c : Int) : Bk := ((setB B 6 p c).1, B.2.1, fun q i => if q = p then rwW (B.2.2 p) (mWk mn B p) (mn c) (smA (fun i => wd (8 * B.1 6 p + i)) (fun i => wd (8 * c + i)) (mWk mn B p) (mn c)) (smZ (fun i => wd (8 * B.1 6 p + i)) (fun i => wd (8 * c + i)) (mWk mn B p) (mn c)) c i else B.2.2 q i)
/-- what comes of a change: 0 it came about, 1 it waits, 2 it loses -/
def stR (kd pc wh : Int → Int) (B : Bk) (c : Int) : Int :=
  if kd c = 0 then (if wh c = -1 ∨ B.1 0 (wh c) = 1 then 0 else 1)
  else if B.1 0 (pc c) ≠ 1 ∨ (kd c = 2 ∧ ¬ (wh c = -1 ∨ B.1 0 (wh c) = 1)) then 1
  else if kd c = 2 ∧ wth (B.1 2) 61 (wh c) (pc c) = true then 2 else 0
/-- the book behind it -/
def stS (kd pc wh bh mn wd : Int → Int) (fm : Int) (B : Bk) (c : Int) : Bk :=
  if stR kd pc wh B c ≠ 0 then B
  else if kd c = 0 then putB B (pc c) (wh c) (bh c)
  else if kd c = 1 then setB B 1 (pc c) 1
  else if kd c = 2 then rsB fm (movB B (pc c) (wh c) (bh c)) (pc c)
  else if kd c = 3 then rsB fm (wrdB mn wd B (pc c) c) (pc c)
  else if kd c = 4 then setB B 3 (pc c) (wh c)
  else if kd c = 5 then setB B 4 (pc c) (wh c)
  else setB B 1 (pc c) 0
def stB (kd pc wh bh mn wd : Int → Int) (fm : Int) (B : Bk) (c : Int) : Bk := setB (stS kd pc wh bh mn wd fm B c) 5 c (stR kd pc wh B c)
theorem rsB_ok {fm : Int} {B : Bk} {p : Int} (h : okB B) : okB (rsB fm B p) := by unfold rsB; split; exact h; exact okB_set h (by decide) (fun _ => Or.inl rfl)
theorem wrdB_ok {mn wd : Int → Int} {B : Bk} {p c : Int} (h : okB B) : okB (wrdB mn wd B p c) := by
  have := okB_set (f := 6) (p := p) (v := c) h (by decide) (fun e => by omega)
  exact this
/-- what a change must be -/
def chB (kd pc wh bh : Int → Int) (c : Int) : Prop := (0 ≤ kd c ∧ kd c ≤ 6) ∧ (0 ≤ pc c ∧ pc c < 60) ∧ (kd c = 0 → pc c = c) ∧ ((kd c = 0 ∨ kd c = 2) → (-1 ≤ wh c ∧ wh c < 60) ∧ (-1 ≤ bh c ∧ bh c < 60) ∧ bh c ≠ pc c)
theorem stS_ok {kd pc wh bh mn wd : Int → Int} {fm : Int} {B : Bk} {c : Int} (h : okB B) (hc : chB kd pc wh bh c) (h0 : kd c = 0 → B.1 0 (pc c) = 0) : okB (stS kd pc wh bh mn wd fm B c) := by
  obtain ⟨c1, c2, c3, c4⟩ := hc
  unfold stS
  split
  · exact h
  · rename_i hr
    have hr : stR kd pc wh B c = 0 := Classical.byContradiction hr
    unfold stR at hr
    split
    · rename_i hk
      rw [if_pos hk] at hr
      split at hr
      · rename_i hw; exact okB_put h c2 (h0 hk) hw
      · omega
    · rename_i hk
      rw [if_neg hk] at hr
      split at hr
      · omega
      · rename_i hw
        split
        · exact okB_set h (by decide) (fun _ => Or.inr rfl)
        · split
          · rename_i hk1 hk2
            split at hr
            · omega
            · rename_i hn
              refine rsB_ok (okB_mov h ?_ ?_ ?_)
              · have := (h.1 (pc c)).1; omega
              · exact Classical.byContradiction fun g => hw (Or.inr ⟨hk2, g⟩)
              · cases hx : wth (B.1 2) 61 (wh c) (pc c) with
                | false => rfl
                | true => exact absurd ⟨hk2, hx⟩ hn
          · split
            · exact rsB_ok (wrdB_ok h)
            · split
              · exact okB_set h (by decide) (fun e => by omega)
              · split
                · exact okB_set h (by decide) (fun e => by omega)
                · exact okB_set h (by decide) (fun _ => Or.inl rfl)
theorem stB_ok {kd pc wh bh mn wd : Int → Int} {fm : Int} {B : Bk} {c : Int} (h : okB B) (hc : chB kd pc wh bh c) (h0 : kd c = 0 → B.1 0 (pc c) = 0) : okB (stB kd pc wh bh mn wd fm B c) := okB_set (stS_ok h hc h0) (by decide) (fun e => by omega)
/-- that the check's rows are a book -/
def MB (σ : Mm) (B : Bk) : Prop :=
  (∀ p, 0 ≤ p → p < 60 → (Mi σ 1224868322 0) p = B.1 0 p ∧ (Mi σ 1241645538 0) p = B.1 1 p ∧ (Mi σ 1375863265 0) p = B.1 3 p ∧ (Mi σ 1392640481 0) p = B.1 4 p ∧ (Mi σ 1325531617 0) p = mWk (Mi σ 1107427809 0) B p ∧ (B.1 0 p = 1 → (Mi σ 1258422753 0) p = B.1 2 p) ∧
    ∀ i, 0 ≤ i → i < mWk (Mi σ 1107427809 0) B p → (Mi σ 1342312193 0) (8 * p + i) = (Mi σ 1124208385 0) (8 * B.1 6 p + i) ∧ (Mi σ 1359089409 0) (8 * p + i) = B.2.2 p i) ∧
  LK (Mi σ 1308754401 0) (Mi σ 1291977185 0) (Mi σ 1275199977 0) B.2.1
def mS (σ : Mm) : Bk → Int → Bk := stS (Mi σ 973210081 0) (Mi σ 1023541729 0) (Mi σ 1040318945 0) (Mi σ 1057096161 0) (Mi σ 1107427809 0) (Mi σ 1124208385 0) (Mi σ 184680536 0 16)
def mR (σ : Mm) : Bk → Int → Int := stR (Mi σ 973210081 0) (Mi σ 1023541729 0) (Mi σ 1040318945 0)
/-- the scratch of working a change -/
abbrev scrA : List Nat := [1224868322, 1241645538, 1258422753, 1275199977, 1291977185, 1308754401, 1325531617, 1342312193, 1359089409, 1375863265, 1392640481, 1426194497, 1442971713]
/-- what a change is, and its words -/
def chM (σ : Mm) (c : Int) : Prop := chB (Mi σ 973210081 0) (Mi σ 1023541729 0) (Mi σ 1040318945 0) (Mi σ 1057096161 0) c ∧ (0 ≤ (Mi σ 1107427809 0) c ∧ (Mi σ 1107427809 0) c ≤ 8) ∧ ∀ i, 0 ≤ i → i < (Mi σ 1107427809 0) c → 1 ≤ (Mi σ 1124208385 0) (8 * c + i) ∧ (Mi σ 1124208385 0) (8 * c + i) ≤ 99
/-- the changes whose words a book says -/
def spkOk (σ : Mm) (B : Bk) : Prop := ∀ p, 0 ≤ p → p < 60 → B.1 6 p = -1 ∨ ((0 ≤ B.1 6 p ∧ B.1 6 p < 60) ∧ chM σ (B.1 6 p))
theorem MB_wk {σ : Mm} {B : Bk} (h : spkOk σ B) {p : Int} (hp : 0 ≤ p ∧ p < 60) : (0 ≤ mWk (Mi σ 1107427809 0) B p ∧ mWk (Mi σ 1107427809 0) B p ≤ 8) ∧ ∀ i, 0 ≤ i → i < mWk (Mi σ 1107427809 0) B p → 1 ≤ (Mi σ 1124208385 0) (8 * B.1 6 p + i) ∧ (Mi σ 1124208385 0) (8 * B.1 6 p + i) ≤ 99 := by
  unfold mWk
  rcases h p hp.1 hp.2 with e | ⟨e1, e2, e3, e4⟩
  · rw [if_pos e]; exact ⟨by omega, fun i h1 h2 => by omega⟩
  · rw [if_neg (by omega)]; exact ⟨e3, e4⟩
theorem MB_th {σ : Mm} {B : Bk} (hB : okB B) (h : MB σ B) : ∀ q, 0 ≤ q → q < 60 → (Mi σ 1224868322 0) q = 0 ∨ (Mi σ 1224868322 0) q = 1 := fun q h1 h2 => by rw [(h.1 q h1 h2).1]; exact (hB.1 q).1
theorem okB_par {B : Bk} (hB : okB B) {p : Int} (h : B.1 0 p = 1) : -1 ≤ B.1 2 p ∧ B.1 2 p < 60 := by
  rcases (hB.2.2.2.2 p h).1 with e | e
  · omega
  · have := hB.2.1 _ e; omega
theorem MB_ar {σ : Mm} {B : Bk} (hB : okB B) (h : MB σ B) : ∀ q, 0 ≤ q → q < 60 → (Mi σ 1224868322 0) q = 1 → (Mi σ 1258422753 0) q = B.1 2 q ∧ -1 ≤ (Mi σ 1258422753 0) q ∧ (Mi σ 1258422753 0) q < 60 := fun q h1 h2 h3 => by
  have h4 : B.1 0 q = 1 := by rw [← (h.1 q h1 h2).1]; exact h3
  have e := (h.1 q h1 h2).2.2.2.2.2.1 h4
  have := okB_par hB h4
  rw [e]; exact ⟨rfl, this⟩
theorem okB_behind {B : Bk} (hB : okB B) {part bh : Int} (hbh : -1 ≤ bh) (p : Int) (hp : bh ≠ p) : (bh ≠ -1 ∧ bh ∉ B.2.1 part) ↔ (0 ≤ bh ∧ (B.1 0 bh = 0 ∨ B.1 2 bh ≠ part ∨ bh = p)) := by
  rw [hB.2.2.1]
  have := (hB.1 bh).1
  constructor
  · rintro ⟨g1, g2⟩
    refine ⟨by omega, ?_⟩
    rcases this with e | e
    · exact Or.inl e
    · exact Or.inr (Or.inl fun e2 => g2 ⟨e, e2⟩)
  · rintro ⟨g1, g2⟩
    refine ⟨by omega, ?_⟩
    rintro ⟨e1, e2⟩
    rcases g2 with g | g | g
    · omega
    · exact g e2
    · exact hp g
/-- a piece is put in: a put, or the second half of a move (then it is there, in no list) -/
theorem m_putInB {p part bh : Int} {σ : Mm} {B : Bk} {k : Mm → Prop} (hB : okB B) (h : MB σ B) (hp : 0 ≤ p ∧ p < 60) (h0 : B.1 0 p = 0) (hq : part = -1 ∨ B.1 0 part = 1) (hbh : -1 ≤ bh ∧ bh < 60) (hbp : bh ≠ p)
    (hk : ∀ σ', Fr scrA σ σ' → (Mi σ' 1224868322 0) = (Mi σ 1224868322 0) → MB (sI σ' 1224868322 0 p 1) (putB B p part bh) → k σ') : OkV 105 [vR 184680536 0, vI p, vI part, vI bh] σ k := by
  have hpart : -1 ≤ part ∧ part < 60 := by rcases hq with e | e; omega; have := hB.2.1 _ e; omega
  have hpp : part ≠ p := by rintro rfl; rcases hq with e | e <;> omega
  obtain ⟨f, hf⟩ : ∃ f, f = if bh ≠ -1 ∧ bh ∉ B.2.1 part then (B.2.1 part).getLast?.getD (-1) else bh := ⟨_, rfl⟩
  obtain ⟨n, hn⟩ : ∃ n, n = if f < 0 then (Mi σ 1275199977 0) (hol part) else (Mi σ 1291977185 0) f := ⟨_, rfl⟩
  have hnew : ∀ q, p ∉ B.2.1 q := fun q hm => by have := ((hB.2.2.1 q p).mp hm).1; omega
  obtain ⟨g1, g2, g3⟩ := LK_in h.2 (okB_kids hB) hp hnew hpart ⟨hbh.1, hbp⟩ hf hn
  refine m_putIn (f := f) (n := n) (l := B.2.1 part) hp hpart hbh (MB_th hB h) (fun q q1 q2 q3 => by have := MB_ar hB h q q1 q2 q3; exact (by first | omega | (unfold IR; omega))) (h.2 part hpart.1 hpart.2) (fun x hx => hB.2.1 x ((hB.2.2.1 _ _).mp hx).1) ?_ g1 hn g2 (fun σ' hF e1 e2 e3 e4 => ?_)
  · rw [hf]
    by_cases hc : 0 ≤ bh
    · have e1 := (h.1 bh hc hbh.2).1
      have key := okB_behind hB (part := part) hbh.1 p hbp
      by_cases ht : B.1 0 bh = 1
      · have e2 := (h.1 bh hc hbh.2).2.2.2.2.2.1 ht
        rw [e1, e2]
        simp only [key]
      · rw [e1]
        have ht0 : B.1 0 bh = 0 := by have := (hB.1 bh).1; omega
        rw [if_pos (key.mpr ⟨hc, Or.inl ht0⟩), if_pos ⟨hc, Or.inl ht0⟩]
    · rw [if_neg (by omega), if_neg (by omega)]
  · have fr := fun (a : Nat) (ha : List.contains [1258422753, 1275199977, 1291977185, 1308754401] a = false) => hF.i a ha
    refine hk σ' (hF.mono (by decide)) (by rw [fr 1224868322 rfl]) ⟨fun x x1 x2 => ?_, ?_⟩
    · obtain ⟨a1, a2, a3, a4, a5, a6, a7⟩ := h.1 x x1 x2
      have ew : mWk (Mi (sI σ' 1224868322 0 p 1) 1107427809 0) (putB B p part bh) x = mWk (Mi σ 1107427809 0) B x := by
        rw [Mi_n rfl, fr 1107427809 rfl]; rfl
      rw [ew]
      rw [Mi_s, Mi_n rfl, Mi_n rfl, Mi_n rfl, Mi_n rfl, Mi_n rfl, Mi_n rfl, Mi_n rfl, Mi_n rfl, fr 1224868322 rfl, fr 1241645538 rfl, fr 1375863265 rfl, fr 1392640481 rfl, fr 1325531617 rfl, fr 1342312193 rfl, fr 1359089409 rfl, fr 1124208385 rfl, e1]
      refine ⟨?_, a2, a3, a4, a5, ?_, a7⟩
      · show (if x = p then (1 : Int) else (Mi σ 1224868322 0) x) = if 0 = 0 ∧ x = p then 1 else B.1 0 x
        by_cases hx : x = p
        · rw [if_pos hx, if_pos ⟨rfl, hx⟩]
        · rw [if_neg hx, if_neg (by rintro ⟨-, e⟩; exact hx e)]; exact a1
      · intro hx
        show (if x = p then part else (Mi σ 1258422753 0) x) = if 2 = 2 ∧ x = p then part else B.1 2 x
        by_cases hxp : x = p
        · rw [if_pos hxp, if_pos ⟨rfl, hxp⟩]
        · rw [if_neg hxp, if_neg (by rintro ⟨-, e⟩; exact hxp e)]
          refine a6 ?_
          have : (if 0 = 0 ∧ x = p then (1 : Int) else B.1 0 x) = 1 := hx
          rw [if_neg (by rintro ⟨-, e⟩; exact hxp e)] at this
          exact this
    · rw [Mi_n rfl, Mi_n rfl, Mi_n rfl, e2, e3, e4]
      exact g3
/-- a piece moves: taken out, put in -/
theorem out_kids {B : Bk} (hB : okB B) (p : Int) : kidsOk (outB B p).2.1 ∧ (∀ q, p ∉ (outB B p).2.1 q) ∧ ∀ q x, x ∈ (outB B p).2.1 q ↔ x ≠ p ∧ B.1 0 x = 1 ∧ B.1 2 x = q := by
  have hm : ∀ q x, x ∈ (outB B p).2.1 q ↔ x ≠ p ∧ B.1 0 x = 1 ∧ B.1 2 x = q := fun q x => by
    show x ∈ (if q = B.1 2 p then delK (B.2.1 q) p else B.2.1 q) ↔ _
    split
    · rw [mem_delK, hB.2.2.1]; exact And.comm
    · rename_i hq2
      rw [hB.2.2.1]
      constructor
      · rintro ⟨g1, g2⟩; exact ⟨by rintro rfl; exact hq2 g2.symm, g1, g2⟩
      · rintro ⟨-, g⟩; exact g
  refine ⟨⟨fun q => ?_, fun q x hx => hB.2.1 x ((hm q x).mp hx).2.1, fun q q' x h1 h2 => by rw [← ((hm q x).mp h1).2.2, ← ((hm q' x).mp h2).2.2]⟩, fun q hx => ((hm q p).mp hx).1 rfl, hm⟩
  show (if q = B.1 2 p then delK (B.2.1 q) p else B.2.1 q).Nodup
  split
  · exact nodup_delK (hB.2.2.2.1 q)
  · exact hB.2.2.2.1 q
theorem m_movB {p part bh : Int} {σ : Mm} {B : Bk} {k : Mm → Prop} (hB : okB B) (h : MB σ B) (h0 : B.1 0 p = 1) (hq : part = -1 ∨ B.1 0 part = 1) (hbh : -1 ≤ bh ∧ bh < 60) (hbp : bh ≠ p)
    (hk : ∀ σ', Fr scrA σ σ' → MB σ' (movB B p part bh) → k σ') : OkV 108 [vR 184680536 0, vI p] σ (fun σ1 => Fr scrA σ σ1 ∧ OkV 105 [vR 184680536 0, vI p, vI part, vI bh] σ1 k) := by
  have hp := hB.2.1 p h0
  have hpart : -1 ≤ part ∧ part < 60 := by rcases hq with e | e; omega; have := hB.2.1 _ e; omega
  have hpar := okB_par hB h0
  have epar := (h.1 p hp.1 hp.2).2.2.2.2.2.1 h0
  have hin : p ∈ B.2.1 (B.1 2 p) := (hB.2.2.1 _ _).mpr ⟨h0, rfl⟩
  obtain ⟨g1, g2, g3⟩ := LK_out h.2 (okB_kids hB) hpar hin
  obtain ⟨o1, o2, o3⟩ := out_kids hB p
  refine m_takeOut hp g1 g2 (by rw [epar]; exact hpar) (fun σ1 hF1 e1 e2 e3 => ⟨hF1.mono (by decide), ?_⟩)
  have fr1 := fun (a : Nat) (ha : List.contains [1275199977, 1291977185, 1308754401] a = false) => hF1.i a ha
  have hLK : LK (Mi σ1 1308754401 0) (Mi σ1 1291977185 0) (Mi σ1 1275199977 0) (outB B p).2.1 := by rw [e1, e2, e3, epar]; exact g3
  obtain ⟨f, hf⟩ : ∃ f, f = if bh ≠ -1 ∧ bh ∉ (outB B p).2.1 part then ((outB B p).2.1 part).getLast?.getD (-1) else bh := ⟨_, rfl⟩
  obtain ⟨n, hn⟩ : ∃ n, n = if f < 0 then (Mi σ1 1275199977 0) (hol part) else (Mi σ1 1291977185 0) f := ⟨_, rfl⟩
  obtain ⟨q1, q2, q3⟩ := LK_in hLK o1 hp o2 hpart ⟨hbh.1, hbp⟩ hf hn
  refine m_putIn (f := f) (n := n) (l := (outB B p).2.1 part) hp hpart hbh (by rw [fr1 1224868322 rfl]; exact MB_th hB h) (fun q z1 z2 z3 => ?_) (hLK part hpart.1 hpart.2) (fun x hx => o1.2.1 _ x hx) ?_ q1 hn q2 (fun σ' hF d1 d2 d3 d4 => ?_)
  · rw [fr1 1224868322 rfl] at z3
    rw [fr1 1258422753 rfl]
    have := MB_ar hB h q z1 z2 z3
    exact (by first | omega | (unfold IR; omega))
  · rw [hf, fr1 1224868322 rfl, fr1 1258422753 rfl]
    have key : (bh ≠ -1 ∧ bh ∉ (outB B p).2.1 part) ↔ (0 ≤ bh ∧ (B.1 0 bh = 0 ∨ B.1 2 bh ≠ part ∨ bh = p)) := by
      rw [o3, ← okB_behind hB hbh.1 p hbp, hB.2.2.1]
      simp [hbp]
    by_cases hc : 0 ≤ bh
    · have a1 := (h.1 bh hc hbh.2).1
      by_cases ht : B.1 0 bh = 1
      · have a2 := (h.1 bh hc hbh.2).2.2.2.2.2.1 ht
        rw [a1, a2]
        simp only [key]
      · rw [a1]
        have ht0 : B.1 0 bh = 0 := by have := (hB.1 bh).1; omega
        rw [if_pos (key.mpr ⟨hc, Or.inl ht0⟩), if_pos ⟨hc, Or.inl ht0⟩]
    · rw [if_neg (by omega), if_neg (by omega)]
  · have fr := fun (a : Nat) (ha : List.contains [1258422753, 1275199977, 1291977185, 1308754401] a = false) => hF.i a ha
    refine hk σ' ((hF1.mono (by decide)).trans' (hF.mono (by decide))) ⟨fun x x1 x2 => ?_, ?_⟩
    · obtain ⟨a1, a2, a3, a4, a5, a6, a7⟩ := h.1 x x1 x2
      have ew : mWk (Mi σ' 1107427809 0) (movB B p part bh) x = mWk (Mi σ 1107427809 0) B x := by
        rw [fr 1107427809 rfl, fr1 1107427809 rfl]; rfl
      rw [ew, fr 1224868322 rfl, fr 1241645538 rfl, fr 1375863265 rfl, fr 1392640481 rfl, fr 1325531617 rfl, fr 1342312193 rfl, fr 1359089409 rfl, fr 1124208385 rfl, d1,
        fr1 1224868322 rfl, fr1 1241645538 rfl, fr1 1375863265 rfl, fr1 1392640481 rfl, fr1 1325531617 rfl, fr1 1342312193 rfl, fr1 1359089409 rfl, fr1 1124208385 rfl, fr1 1258422753 rfl]
      refine ⟨a1, a2, a3, a4, a5, fun hx => ?_, a7⟩
      show (if x = p then part else (Mi σ 1258422753 0) x) = if 2 = 2 ∧ x = p then part else B.1 2 x
      by_cases hxp : x = p
      · rw [if_pos hxp, if_pos ⟨rfl, hxp⟩]
      · rw [if_neg hxp, if_neg (by rintro ⟨-, e⟩; exact hxp e)]
        exact a6 hx
    · rw [d2, d3, d4]
      exact q3
