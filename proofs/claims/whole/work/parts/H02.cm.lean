/-! the constructors by a machine of numbers: cells by their places behind the base -/
abbrev Cv : Type := Nat ⊕ Nat
/-- a cell: kind (0 object, 1 int[], 2 boolean[], 3 long[], 4 Row[]), class or length, what was written -/
abbrev Cc : Type := Nat × Nat × List (Nat × Nat)
/-- an instruction: place, kind, three numbers, places of words -/
abbrev Ci : Type := Nat × Nat × Nat × Nat × Nat × List Nat
def lkp (k : Nat) : List (Nat × Nat) → Option Nat
  | [] => none
  | q :: l => if q.1 = k then some q.2 else lkp k l
def cad (C : Cx) (a : Nat) : Nat := if a = 999999 then cSc C else cBa C + a
def cuV (C : Cx) : Cv → Value
  | .inl n => .int (nI n)
  | .inr a => .ref (cad C a)
def cuF (C : Cx) (ci : Nat) (ws : List (Nat × Nat)) : List Value := (CF.getD ci []).mapIdx fun k q => match lkp k ws with
  | some a => .ref (cBa C + a)
  | none => if q.1 = 0 ∨ q.1 = 5 then .int 0 else if q.1 = 1 then .long 0 else .null
def cuE (C : Cx) (x : Cc) : va_E := if x.1 = 0 then .inr (x.2.1, cuF C x.2.1 x.2.2)
  else if x.1 = 1 then .inl ((cTy C).1, x.2.1, .inl (fun k => nI ((lkp k x.2.2).getD 0)))
  else if x.1 = 2 then .inl ((cTy C).2.1, x.2.1, .inl (fun _ => 0))
  else if x.1 = 3 then .inl ((cTy C).2.2.1, x.2.1, .inr (.inl (fun _ => 0)))
  else .inl ((cTy C).2.2.2, x.2.1, .inr (.inr (.inr (.inr (fun k => (lkp k x.2.2).map fun a => cBa C + a)))))
def cuW (C : Cx) (hp : List Cc) : va_W := hp.mapIdx fun k x => (cBa C + k, cuE C x)
def frc {α β : Type} : List α → (List α → β) → β
  | [], K => K []
  | a :: t, K => frc t fun t' => K (a :: t')
theorem frc_e {α β : Type} : ∀ (l : List α) (K : List α → β), frc l K = K l
  | [], _ => rfl
  | _ :: t, _ => by unfold frc; rw [frc_e t]
def frN {β : Type} (n : Nat) (K : Nat → β) : β := match n with
  | 0 => K 0
  | k + 1 => K (k + 1)
theorem frN_e {β : Type} (n : Nat) (K : Nat → β) : frN n K = K n := by cases n <;> rfl
def spl : Nat → List Cv → List Cv → Option (List Cv × List Cv)
  | 0, st, acc => some (acc, st)
  | n + 1, v :: st, acc => spl n st (v :: acc)
  | _ + 1, [], _ => none
theorem spl_e : ∀ {n : Nat} {st acc r st' : List Cv}, spl n st acc = some (r, st') → ∃ as : List Cv, as.length = n ∧ st = as.reverse ++ st' ∧ r = as ++ acc
  | 0, st, acc, r, st', h => by
    simp only [spl, Option.some.injEq, Prod.mk.injEq] at h
    obtain ⟨rfl, rfl⟩ := h
    exact ⟨[], rfl, rfl, rfl⟩
  | n + 1, [], acc, r, st', h => by simp [spl] at h
  | n + 1, v :: st, acc, r, st', h => by
    obtain ⟨as, h1, h2, h3⟩ := spl_e (n := n) (st := st) (show spl n st (v :: acc) = _ from h)
    refine ⟨as ++ [v], by simp [h1], ?_, by simp [h3]⟩
    simp [h2]
/-- the cells: how many, the newest first -/
abbrev Ch : Type := Nat × List Cc
def hg (h : Ch) (a : Nat) : Option Cc := if a < h.1 then h.2[h.1 - 1 - a]? else none
def setK {β : Type} : List Cc → Nat → Cc → (List Cc → β) → β
  | [], _, _, K => K []
  | _ :: t, 0, c, K => K (c :: t)
  | a :: t, k + 1, c, K => setK t k c fun t' => K (a :: t')
theorem setK_e {β : Type} : ∀ (l : List Cc) (k : Nat) (c : Cc) (K : List Cc → β), setK l k c K = K (l.set k c)
  | [], _, _, _ => rfl
  | _ :: _, 0, _, _ => rfl
  | _ :: t, k + 1, c, _ => by unfold setK; rw [setK_e t]; rfl
def hs {β : Type} (h : Ch) (a : Nat) (c : Cc) (K : Ch → β) : β := setK h.2 (h.1 - 1 - a) c fun l => K (h.1, l)
def hn {β : Type} (h : Ch) (c : Cc) (K : Nat → Ch → β) : β := frN (h.1 + 1) fun n => K h.1 (n, c :: h.2)
theorem hs_e {β : Type} (h : Ch) (a : Nat) (c : Cc) (K : Ch → β) : hs h a c K = K (h.1, h.2.set (h.1 - 1 - a) c) := by unfold hs; rw [setK_e]
theorem hn_e {β : Type} (h : Ch) (c : Cc) (K : Nat → Ch → β) : hn h c K = K h.1 (h.1 + 1, c :: h.2) := by unfold hn; rw [frN_e]
abbrev Cr : Type := Nat × List (Option Cv) × Ch × Nat
abbrev Ck : Type := Nat → List (Option Cv) → List Cv → Ch → Nat → Option Cr
def c1_0 (x y z q : Nat) (ls : List (Option Cv)) (st : List Cv) (hp : Ch) (sl : Nat) (K : Ck) : Option Cr := K (q + 1) ls (.inl x :: st) hp sl
def c1_1 (x y z q : Nat) (ls : List (Option Cv)) (st : List Cv) (hp : Ch) (sl : Nat) (K : Ck) : Option Cr := match ls[x]? with
    | some (some (.inr a)) => K (q + 1) ls (.inr a :: st) hp sl
    | _ => none
def c1_2 (x y z q : Nat) (ls : List (Option Cv)) (st : List Cv) (hp : Ch) (sl : Nat) (K : Ck) : Option Cr := match ls[x]? with
    | some (some (.inl n)) => K (q + 1) ls (.inl n :: st) hp sl
    | _ => none
def c1_3 (x y z q : Nat) (ls : List (Option Cv)) (st : List Cv) (hp : Ch) (sl : Nat) (K : Ck) : Option Cr := match st with
    | .inl n :: st => frc (ls.set x (some (.inl n))) fun ls => K (q + 1) ls st hp sl
    | _ => none
def c1_19 (x y z q : Nat) (ls : List (Option Cv)) (st : List Cv) (hp : Ch) (sl : Nat) (K : Ck) : Option Cr := match st with
    | .inr n :: st => frc (ls.set x (some (.inr n))) fun ls => K (q + 1) ls st hp sl
    | _ => none
def c1_4 (x y z q : Nat) (ls : List (Option Cv)) (st : List Cv) (hp : Ch) (sl : Nat) (K : Ck) : Option Cr := match ls[x]? with
    | some (some (.inl n)) => frN (n + y) fun n => frc (ls.set x (some (.inl n))) fun ls => K (q + 1) ls st hp sl
    | _ => none
def c1_5 (x y z q : Nat) (ls : List (Option Cv)) (st : List Cv) (hp : Ch) (sl : Nat) (K : Ck) : Option Cr := hn hp (0, y, []) fun k hp => K (q + 1) ls (.inr k :: st) hp (sl + (CF.getD y []).length)
def c1_6 (x y z q : Nat) (ls : List (Option Cv)) (st : List Cv) (hp : Ch) (sl : Nat) (K : Ck) : Option Cr := match st with
    | a :: st => K (q + 1) ls (a :: a :: st) hp sl
    | _ => none
def c1_7 (x y z q : Nat) (ls : List (Option Cv)) (st : List Cv) (hp : Ch) (sl : Nat) (K : Ck) : Option Cr := match st with
    | .inl n :: st => if n ≤ 16383 then hn hp (x, n, []) fun k hp => K (q + 1) ls (.inr k :: st) hp (sl + n) else none
    | _ => none
def c1_8 (x y z q : Nat) (ls : List (Option Cv)) (st : List Cv) (hp : Ch) (sl : Nat) (K : Ck) : Option Cr := match st with
    | .inl n :: st => if n ≤ 16383 then hn hp (4, n, []) fun k hp => K (q + 1) ls (.inr k :: st) hp (sl + n) else none
    | _ => none
def c1_9 (x y z q : Nat) (ls : List (Option Cv)) (st : List Cv) (hp : Ch) (sl : Nat) (K : Ck) : Option Cr := match st with
    | .inr v :: .inr a :: st => (match hg hp a with
      | some (0, ci, ws) => if ci = y ∧ v < 999999 ∧ a < 999999 then hs hp a (0, ci, (z, v) :: ws) fun hp => K (q + 1) ls st hp sl else none
      | _ => none)
    | _ => none
def c1_10 (x y z q : Nat) (ls : List (Option Cv)) (st : List Cv) (hp : Ch) (sl : Nat) (K : Ck) : Option Cr := match st with
    | .inr a :: st => (match hg hp a with
      | some (0, ci, ws) => (match lkp z ws with
        | some v => if ci = y ∧ v < 999999 ∧ a < 999999 then K (q + 1) ls (.inr v :: st) hp sl else none
        | none => none)
      | _ => none)
    | _ => none
def c1_11 (x y z q : Nat) (ls : List (Option Cv)) (st : List Cv) (hp : Ch) (sl : Nat) (K : Ck) : Option Cr := match st with
    | .inr v :: .inl n :: .inr a :: st => (match hg hp a, hg hp v with
      | some (4, k, ws), some (0, 6, _) => if n < k ∧ k ≤ 16383 ∧ v < 999999 ∧ a < 999999 then hs hp a (4, k, (n, v) :: ws) fun hp => K (q + 1) ls st hp sl else none
      | _, _ => none)
    | _ => none
def c1_12 (x y z q : Nat) (ls : List (Option Cv)) (st : List Cv) (hp : Ch) (sl : Nat) (K : Ck) : Option Cr := match st with
    | .inl v :: .inl n :: .inr a :: st => (match hg hp a with
      | some (1, k, ws) => if n < k ∧ k ≤ 16383 ∧ a < 999999 then hs hp a (1, k, (n, v) :: ws) fun hp => K (q + 1) ls st hp sl else none
      | _ => none)
    | _ => none
def c1_13 (x y z q : Nat) (ls : List (Option Cv)) (st : List Cv) (hp : Ch) (sl : Nat) (K : Ck) : Option Cr := match st with
    | .inl b :: .inl a :: st => if a ≤ 16383 ∧ b ≤ 16383 then if z = 0 then (if b ≤ a then K x ls st hp sl else K (q + 1) ls st hp sl) else if b < a then K x ls st hp sl else K (q + 1) ls st hp sl else none
    | _ => none
def c1_14 (x y z q : Nat) (ls : List (Option Cv)) (st : List Cv) (hp : Ch) (sl : Nat) (K : Ck) : Option Cr := K x ls st hp sl
def c1_16 (x y z q : Nat) (ls : List (Option Cv)) (st : List Cv) (hp : Ch) (sl : Nat) (K : Ck) : Option Cr := match st with
    | .inr _ :: st => if st.length ≤ 8 then K (q + 1) ls st hp sl else none
    | _ => none
def c1_18 (x y z q : Nat) (ls : List (Option Cv)) (st : List Cv) (hp : Ch) (sl : Nat) (K : Ck) : Option Cr := match st with
    | .inl b :: .inl a :: st => if a ≤ 16383 ∧ b ≤ 16383 ∧ st.length ≤ 8 then K (q + 1) ls (.inl (max a b) :: st) hp sl else none
    | _ => none
/-- one instruction that calls nothing of ours -/
def c1 (i : Ci) (q : Nat) (ls : List (Option Cv)) (st : List Cv) (hp : Ch) (sl : Nat) (K : Ck) : Option Cr :=
  let x := i.2.2.1
  let y := i.2.2.2.1
  let z := i.2.2.2.2.1
  match i.2.1 with
  | 0 => c1_0 x y z q ls st hp sl K
  | 1 => c1_1 x y z q ls st hp sl K
  | 2 => c1_2 x y z q ls st hp sl K
  | 3 => c1_3 x y z q ls st hp sl K
  | 19 => c1_19 x y z q ls st hp sl K
  | 4 => c1_4 x y z q ls st hp sl K
  | 5 => c1_5 x y z q ls st hp sl K
  | 6 => c1_6 x y z q ls st hp sl K
  | 7 => c1_7 x y z q ls st hp sl K
  | 8 => c1_8 x y z q ls st hp sl K
  | 9 => c1_9 x y z q ls st hp sl K
  | 10 => c1_10 x y z q ls st hp sl K
  | 11 => c1_11 x y z q ls st hp sl K
  | 12 => c1_12 x y z q ls st hp sl K
  | 13 => c1_13 x y z q ls st hp sl K
  | 14 => c1_14 x y z q ls st hp sl K
  | 16 => c1_16 x y z q ls st hp sl K
  | 18 => c1_18 x y z q ls st hp sl K
  | _ => none
/-- a run, to the end of the method (15) or to a stop (20) -/
def cm (code : Nat → List Ci) (ml : Nat → Nat) : Nat → Nat → Ck
  | 0 => fun _ _ _ _ _ _ => none
  | n + 1 => fun id q ls st hp sl => match (code id)[q]? with
    | none => none
    | some i => if i.2.1 = 15 ∨ i.2.1 = 20 then (match st with
        | [] => some (q, ls, hp, sl)
        | _ => none)
      else if i.2.1 = 17 then (match spl (i.2.2.2.2.1 + 1) st [] with
        | some (.inr b :: as, st') => if st'.length ≤ 8 then (match cm code ml n i.2.2.2.1 0 ((.inr b :: as).map some ++ List.replicate (ml i.2.2.2.1 - (as.length + 1)) none) [] hp sl with
          | some (_, _, hp', sl') => cm code ml n id (q + 1) ls st' hp' sl'
          | none => none) else none
        | _ => none)
      else c1 i q ls st hp sl fun q ls st hp sl => cm code ml n id q ls st hp sl
