/-! memory: what stays -/
section
variable {id : Nat} {B : List (List In)} {as : List Vv} {σ : Mm}
theorem okI_loop {k : Int → Mm → Prop} (hB : MkB id B) (Inv : Nat → Nat → List (Option Vv) → Mm → Prop) (hlen : (entL as).length ≤ (sgD id).2.2.1)
    (h0 : ∀ K : Nat → Sx, (∀ b n ls σ', 1000 ≤ b → Inv b n ls σ' → K b ls [] σ') → xs (go B K (kI k) 60) (kI k) (B.getD 0 []) (ent0 as (sgD id).2.2.1) [] σ)
    (hs : ∀ b n ls σ', Inv b n ls σ' → ∀ K : Nat → Sx, (∀ b' n' ls' σ'', 1000 ≤ b' → n' < n → Inv b' n' ls' σ'' → K b' ls' [] σ'') → xs (go B K (kI k) 60) (kI k) (B.getD (b % 1000) []) ls [] σ') : OkI id as σ k := ok_loop hB Inv hlen h0 hs
theorem okL_loop {k : Int64 → Mm → Prop} (hB : MkB id B) (Inv : Nat → Nat → List (Option Vv) → Mm → Prop) (hlen : (entL as).length ≤ (sgD id).2.2.1)
    (h0 : ∀ K : Nat → Sx, (∀ b n ls σ', 1000 ≤ b → Inv b n ls σ' → K b ls [] σ') → xs (go B K (kL k) 60) (kL k) (B.getD 0 []) (ent0 as (sgD id).2.2.1) [] σ)
    (hs : ∀ b n ls σ', Inv b n ls σ' → ∀ K : Nat → Sx, (∀ b' n' ls' σ'', 1000 ≤ b' → n' < n → Inv b' n' ls' σ'' → K b' ls' [] σ'') → xs (go B K (kL k) 60) (kL k) (B.getD (b % 1000) []) ls [] σ') : OkL id as σ k := ok_loop hB Inv hlen h0 hs
theorem okR_loop {k : Nat → Int → Mm → Prop} (hB : MkB id B) (Inv : Nat → Nat → List (Option Vv) → Mm → Prop) (hlen : (entL as).length ≤ (sgD id).2.2.1)
    (h0 : ∀ K : Nat → Sx, (∀ b n ls σ', 1000 ≤ b → Inv b n ls σ' → K b ls [] σ') → xs (go B K (kR k) 60) (kR k) (B.getD 0 []) (ent0 as (sgD id).2.2.1) [] σ)
    (hs : ∀ b n ls σ', Inv b n ls σ' → ∀ K : Nat → Sx, (∀ b' n' ls' σ'', 1000 ≤ b' → n' < n → Inv b' n' ls' σ'' → K b' ls' [] σ'') → xs (go B K (kR k) 60) (kR k) (B.getD (b % 1000) []) ls [] σ') : OkR id as σ k := ok_loop hB Inv hlen h0 hs
theorem okV_loop {k : Mm → Prop} (hB : MkB id B) (Inv : Nat → Nat → List (Option Vv) → Mm → Prop) (hlen : (entL as).length ≤ (sgD id).2.2.1)
    (h0 : ∀ K : Nat → Sx, (∀ b n ls σ', 1000 ≤ b → Inv b n ls σ' → K b ls [] σ') → xs (go B K (kV k) 60) (kV k) (B.getD 0 []) (ent0 as (sgD id).2.2.1) [] σ)
    (hs : ∀ b n ls σ', Inv b n ls σ' → ∀ K : Nat → Sx, (∀ b' n' ls' σ'', 1000 ≤ b' → n' < n → Inv b' n' ls' σ'' → K b' ls' [] σ'') → xs (go B K (kV k) 60) (kV k) (B.getD (b % 1000) []) ls [] σ') : OkV id as σ k := ok_loop hB Inv hlen h0 hs
end
def Fr (S : List Nat) (σ σ' : Mm) : Prop := (∀ a, a ∉ S → Mi σ' a = Mi σ a ∧ Ml σ' a = Ml σ a ∧ Mr σ' a = Mr σ a) ∧ Mn σ' = Mn σ ∧ Mc σ' = Mc σ ∧ Ma σ' = Ma σ
theorem Fr.rfl' {S : List Nat} {σ : Mm} : Fr S σ σ := ⟨fun _ _ => ⟨rfl, rfl, rfl⟩, rfl, rfl, rfl⟩
theorem Fr.trans' {S : List Nat} {a b c : Mm} (h1 : Fr S a b) (h2 : Fr S b c) : Fr S a c := ⟨fun x hx => ⟨(h2.1 x hx).1.trans (h1.1 x hx).1, (h2.1 x hx).2.1.trans (h1.1 x hx).2.1, (h2.1 x hx).2.2.trans (h1.1 x hx).2.2⟩, h2.2.1.trans h1.2.1, h2.2.2.1.trans h1.2.2.1, h2.2.2.2.trans h1.2.2.2⟩
theorem Fr.mono {S T : List Nat} {a b : Mm} (hs : ∀ x ∈ S, x ∈ T) (h : Fr S a b) : Fr T a b := ⟨fun x hx => h.1 x (fun q => hx (hs x q)), h.2⟩
theorem Fr.sI {S : List Nat} {σ σ' : Mm} {r : Nat} {j k v : Int} (hr : r ∈ S) (h : Fr S σ σ') : Fr S σ (sI σ' r j k v) := ⟨fun x hx => ⟨by rw [← (h.1 x hx).1]; funext b c; show up3 (Mi σ') r j k v x b c = _; simp only [up3]; rw [if_neg]; rintro ⟨e, -⟩; exact hx (e ▸ hr), (h.1 x hx).2⟩, h.2⟩
theorem Fr.sL {S : List Nat} {σ σ' : Mm} {r : Nat} {j k : Int} {v : Int64} (hr : r ∈ S) (h : Fr S σ σ') : Fr S σ (sL σ' r j k v) := ⟨fun x hx => ⟨(h.1 x hx).1, by rw [← (h.1 x hx).2.1]; funext b c; show up3 (Ml σ') r j k v x b c = _; simp only [up3]; rw [if_neg]; rintro ⟨e, -⟩; exact hx (e ▸ hr), (h.1 x hx).2.2⟩, h.2⟩
theorem Fr.sR {S : List Nat} {σ σ' : Mm} {r : Nat} {j k : Int} {v : Nat × Int} (hr : r ∈ S) (h : Fr S σ σ') : Fr S σ (sR σ' r j k v) := ⟨fun x hx => ⟨(h.1 x hx).1, (h.1 x hx).2.1, by rw [← (h.1 x hx).2.2]; funext b c; show up3 (Mr σ') r j k v x b c = _; simp only [up3]; rw [if_neg]; rintro ⟨e, -⟩; exact hx (e ▸ hr)⟩, h.2⟩
theorem Fr.cpI {S : List Nat} {σ σ' : Mm} {rs rd : Nat} {js sp jd dp n : Int} (hr : rd ∈ S) (h : Fr S σ σ') : Fr S σ (cpI σ' rs js sp rd jd dp n) := ⟨fun x hx => ⟨by rw [← (h.1 x hx).1]; funext b c; show (if x = rd ∧ b = jd ∧ dp ≤ c ∧ c < dp + n then _ else _) = _; rw [if_neg]; rintro ⟨e, -⟩; exact hx (e ▸ hr), (h.1 x hx).2⟩, h.2⟩
theorem Fr.i {S : List Nat} {σ σ' : Mm} (h : Fr S σ σ') (a : Nat) (ha : (S.contains a) = false) : Mi σ' a = Mi σ a := (h.1 a (by simpa using ha)).1
theorem Fr.l {S : List Nat} {σ σ' : Mm} (h : Fr S σ σ') (a : Nat) (ha : (S.contains a) = false) : Ml σ' a = Ml σ a := (h.1 a (by simpa using ha)).2.1
theorem Fr.r {S : List Nat} {σ σ' : Mm} (h : Fr S σ σ') (a : Nat) (ha : (S.contains a) = false) : Mr σ' a = Mr σ a := (h.1 a (by simpa using ha)).2.2
/-- a function of places, changed at one -/
def upd1 (f : Int → Int) (k v : Int) : Int → Int := fun x => if x = k then v else f x
theorem upd1_s {f : Int → Int} {k v : Int} : upd1 f k v k = v := if_pos rfl
theorem upd1_n {f : Int → Int} {k v x : Int} (h : x ≠ k) : upd1 f k v x = f x := if_neg h
theorem upd1_e {f : Int → Int} {k v x : Int} : upd1 f k v x = if x = k then v else f x := rfl
theorem Mi_s {σ : Mm} {r : Nat} {j k v : Int} : Mi (sI σ r j k v) r j = upd1 (Mi σ r j) k v := by funext x; show up3 (Mi σ) r j k v r j x = _; simp [up3, upd1]
theorem Mi_n {σ : Mm} {r : Nat} {j k v : Int} {a : Nat} (h : (Nat.beq a r) = false) : Mi (sI σ r j k v) a = Mi σ a := by
  funext b c; show up3 (Mi σ) r j k v a b c = _; simp only [up3]; rw [if_neg]; rintro ⟨e, -⟩; subst e; simp at h
theorem Mi_c {σ : Mm} {r : Nat} {j k v : Int} {a : Nat} {L : List Nat} (ha : L.contains a = true) (hr : L.contains r = false) : Mi (sI σ r j k v) a = Mi σ a := by
  refine Mi_n ?_
  cases hb : Nat.beq a r with
  | false => rfl
  | true => rw [Nat.eq_of_beq_eq_true hb] at ha; rw [ha] at hr; cases hr
theorem Mi_j {σ : Mm} {r : Nat} {j k v : Int} {b : Int} (h : b ≠ j) : Mi (sI σ r j k v) r b = Mi σ r b := by
  funext c; show up3 (Mi σ) r j k v r b c = _; simp only [up3]; rw [if_neg]; rintro ⟨-, e, -⟩; exact h e
theorem Mi_sL {σ : Mm} {r : Nat} {j k : Int} {v : Int64} : Mi (sL σ r j k v) = Mi σ := rfl
theorem Mi_sR {σ : Mm} {r : Nat} {j k : Int} {v : Nat × Int} : Mi (sR σ r j k v) = Mi σ := rfl
theorem Ml_sI {σ : Mm} {r : Nat} {j k v : Int} : Ml (sI σ r j k v) = Ml σ := rfl
theorem Mr_sI {σ : Mm} {r : Nat} {j k v : Int} : Mr (sI σ r j k v) = Mr σ := rfl
theorem Mr_sL {σ : Mm} {r : Nat} {j k : Int} {v : Int64} : Mr (sL σ r j k v) = Mr σ := rfl
theorem Ml_sR {σ : Mm} {r : Nat} {j k : Int} {v : Nat × Int} : Ml (sR σ r j k v) = Ml σ := rfl
theorem Mn_sI {σ : Mm} {r : Nat} {j k v : Int} : Mn (sI σ r j k v) = Mn σ := rfl
theorem Mc_sI {σ : Mm} {r : Nat} {j k v : Int} : Mc (sI σ r j k v) = Mc σ := rfl
theorem Ml_s {σ : Mm} {r : Nat} {j k : Int} {v : Int64} {x : Int} : Ml (sL σ r j k v) r j x = if x = k then v else Ml σ r j x := by show up3 (Ml σ) r j k v r j x = _; simp [up3]
theorem Ml_n {σ : Mm} {r : Nat} {j k : Int} {v : Int64} {a : Nat} (h : (Nat.beq a r) = false) : Ml (sL σ r j k v) a = Ml σ a := by
  funext b c; show up3 (Ml σ) r j k v a b c = _; simp only [up3]; rw [if_neg]; rintro ⟨e, -⟩; subst e; simp at h
/-! lists that are linked forth and back -/
def lnk (prv nxt : Int → Int) : Int → Int → List Int → Prop
  | _, c, [] => c = -1
  | pr, c, a :: l => c = a ∧ prv a = pr ∧ lnk prv nxt a (nxt a) l
theorem lnk_congr {prv nxt prv' nxt' : Int → Int} : ∀ {l : List Int} {pr c : Int}, (∀ a ∈ l, prv' a = prv a ∧ nxt' a = nxt a) → lnk prv nxt pr c l → lnk prv' nxt' pr c l
  | [], _, _, _, h => h
  | a :: l, pr, c, he, h => ⟨h.1, (he a List.mem_cons_self).1.trans h.2.1, by rw [(he a List.mem_cons_self).2]; exact lnk_congr (fun b hb => he b (List.mem_cons_of_mem _ hb)) h.2.2⟩
/-- taken out -/
theorem lnk_out {prv nxt : Int → Int} {p : Int} : ∀ {l1 l2 : List Int} {pr c : Int}, (l1 ++ p :: l2).Nodup → (∀ a ∈ l1 ++ p :: l2, 0 ≤ a) → pr ∉ l1 ++ p :: l2 → lnk prv nxt pr c (l1 ++ p :: l2) →
    (l1 = [] → prv p = pr) ∧ (∀ l0 a, l1 = l0 ++ [a] → prv p = a) ∧ (l2 = [] → nxt p = -1) ∧ (∀ b l3, l2 = b :: l3 → nxt p = b ∧ prv b = p) ∧
    ∀ prv' nxt' : Int → Int, (∀ x, x ≠ nxt p → prv' x = prv x) → (0 ≤ nxt p → prv' (nxt p) = prv p) → (∀ x, x ≠ prv p → nxt' x = nxt x) → (l1 ≠ [] → nxt' (prv p) = nxt p) → lnk prv' nxt' pr (if l1 = [] then nxt p else c) (l1 ++ l2)
  | [], l2, pr, c, hnd, hpos, hpr, h => by
    obtain ⟨rfl, hp, hl⟩ := h
    refine ⟨fun _ => hp, fun l0 a h => by simp at h, fun h => by subst h; exact hl, fun b l3 h => by subst h; exact ⟨hl.1, hl.2.1⟩, fun prv' nxt' h1 h2 h3 _ => ?_⟩
    rw [if_pos rfl]
    cases l2 with
    | nil => exact hl
    | cons b l3 =>
      obtain ⟨e1, e2, e3⟩ := hl
      rw [e1] at h1 h2
      have hb0 : 0 ≤ b := hpos b (by simp)
      simp only [List.nil_append, List.nodup_cons, List.mem_cons, not_or] at hnd
      refine ⟨e1, ?_, ?_⟩
      · rw [h2 hb0, hp]
      · have hbp : b ≠ prv c := by rw [hp]; rintro rfl; exact hpr (by simp)
        rw [h3 b hbp]
        refine lnk_congr (fun a ha => ⟨h1 a ?_, h3 a ?_⟩) e3
        · rintro rfl; exact hnd.2.1 ha
        · rw [hp]; rintro rfl; exact hpr (by simp [ha])
  | a :: l1, l2, pr, c, hnd, hpos, hpr, h => by
    obtain ⟨rfl, hp, hl⟩ := h
    have hnd' : (l1 ++ p :: l2).Nodup := (List.nodup_cons.mp hnd).2
    have hna : c ∉ l1 ++ p :: l2 := (List.nodup_cons.mp hnd).1
    obtain ⟨g1, g2, g3, g4, g5⟩ := lnk_out hnd' (fun x hx => hpos x (List.mem_cons_of_mem _ hx)) hna hl
    refine ⟨fun h => by simp at h, fun l0 b h => ?_, g3, g4, fun prv' nxt' h1 h2 h3 h4 => ?_⟩
    · cases l0 with
      | nil => simp at h; obtain ⟨rfl, rfl⟩ := h; exact g1 rfl
      | cons x l0 => simp at h; exact g2 l0 b h.2
    · rw [if_neg (by simp)]
      have hc0 : 0 ≤ c := hpos c (by simp)
      refine ⟨rfl, ?_, ?_⟩
      · rw [h1 c ?_]
        · exact hp
        · cases l2 with
          | nil => rw [g3 rfl]; omega
          | cons b l3 => rw [(g4 b l3 rfl).1]; rintro rfl; exact hna (by simp)
      · cases l1 with
        | nil =>
          have e := g1 rfl
          have h4' := h4 (by simp)
          rw [e] at h4'
          rw [h4']
          have := g5 prv' nxt' h1 h2 h3 (fun h => absurd rfl h)
          simpa using this
        | cons b l1 =>
          have h5 := g5 prv' nxt' h1 h2 h3 (fun _ => h4 (by simp))
          rw [if_neg (by simp)] at h5
          have hcn : c ≠ prv p := by
            rcases List.eq_nil_or_concat (b :: l1) with h | ⟨l0, x, h⟩
            · simp at h
            · rw [List.concat_eq_append] at h
              rw [g2 l0 x h]
              rintro rfl
              exact hna (by rw [h]; simp)
          rw [h3 c hcn]
          exact h5
/-- put in behind one (or first) -/
theorem lnk_in {prv nxt : Int → Int} {p : Int} (hp0 : 0 ≤ p) : ∀ {l1 l2 : List Int} {pr c : Int}, (l1 ++ l2).Nodup → (∀ a ∈ l1 ++ l2, 0 ≤ a) → p ∉ l1 ++ l2 → pr ∉ l1 ++ l2 → pr ≠ p → lnk prv nxt pr c (l1 ++ l2) →
    ∀ (prv' nxt' : Int → Int) (f n : Int), f = (l1.getLast?.getD pr) → n = (if l1 = [] then c else nxt f) → prv' p = f → (∀ x, x ≠ p → x ≠ n → prv' x = prv x) → (0 ≤ n → prv' n = p) → nxt' p = n → (∀ x, x ≠ p → x ≠ f → nxt' x = nxt x) → (l1 ≠ [] → nxt' f = p) → lnk prv' nxt' pr (if l1 = [] then p else c) (l1 ++ p :: l2)
  | [], l2, pr, c, hnd, hpos, hpn, hpr, hne, h => by
    intro prv' nxt' f n hf hn e1 e2 e3 e4 e5 e6
    simp at hf hn
    subst hf hn
    rw [if_pos rfl]
    refine ⟨rfl, e1, ?_⟩
    rw [e4]
    cases l2 with
    | nil => exact h
    | cons b l3 =>
      obtain ⟨rfl, h1, h2⟩ := h
      have hb0 : 0 ≤ n := hpos n (by simp)
      simp only [List.nil_append, List.nodup_cons, List.mem_cons, not_or] at hnd hpn hpr
      refine ⟨rfl, e3 hb0, ?_⟩
      rw [e5 n (Ne.symm hpn.1) (Ne.symm hpr.1)]
      refine lnk_congr (fun a ha => ⟨e2 a ?_ ?_, e5 a ?_ ?_⟩) h2
      · rintro rfl; exact hpn.2 ha
      · rintro rfl; exact hnd.1 ha
      · rintro rfl; exact hpn.2 ha
      · rintro rfl; exact hpr.2 ha
  | a :: l1, l2, pr, c, hnd, hpos, hpn, hpr, hne, h => by
    intro prv' nxt' f n hf hn e1 e2 e3 e4 e5 e6
    obtain ⟨rfl, h1, h2⟩ := h
    have hnd' := List.nodup_cons.mp hnd
    have hc0 : 0 ≤ c := hpos c (by simp)
    have hcp : c ≠ p := by rintro rfl; exact hpn (by simp)
    rw [if_neg (by simp)] at hn ⊢
    have hf' : f = l1.getLast?.getD c := by rw [hf]; cases l1 <;> simp [List.getLast?_cons]
    have hn' : n = (if l1 = [] then nxt c else nxt f) := by
      by_cases hl : l1 = []
      · subst hl; simp at hf'; rw [hn, hf', if_pos rfl]
      · rw [if_neg hl]; exact hn
    have ih := lnk_in hp0 hnd'.2 (fun x hx => hpos x (List.mem_cons_of_mem _ hx)) (fun hx => hpn (List.mem_cons_of_mem _ hx)) hnd'.1 hcp h2 prv' nxt' f n hf' hn' e1 e2 e3 e4 e5 (fun hl => e6 (by simp))
    refine ⟨rfl, ?_, ?_⟩
    · rw [e2 c hcp ?_]
      · exact h1
      · -- c is not what comes behind
        rw [hn']
        cases l1 with
        | nil =>
          rw [if_pos rfl]
          cases l2 with
          | nil => have : nxt c = -1 := h2; rw [this]; omega
          | cons b l3 => have := h2.1; rw [this]; rintro rfl; exact hnd'.1 (by simp)
        | cons b l1 =>
          rw [if_neg (by simp)]
          -- the successor of f within the rest, or -1
          have key : ∀ (l1 l2 : List Int) (pr c : Int), l1 ≠ [] → lnk prv nxt pr c (l1 ++ l2) → nxt (l1.getLast?.getD pr) = -1 ∨ nxt (l1.getLast?.getD pr) ∈ l2 := by
            intro l1
            induction l1 with
            | nil => intro _ _ _ h; exact absurd rfl h
            | cons x l1 ih =>
              intro l2 pr c _ h
              obtain ⟨rfl, -, h3⟩ := h
              cases l1 with
              | nil =>
                simp
                cases l2 with
                | nil => exact Or.inl h3
                | cons y l2 => exact Or.inr (by rw [h3.1]; simp)
              | cons y l1 =>
                have := ih l2 c (nxt c) (by simp) h3
                rw [List.getLast?_cons_cons]
                rw [List.getLast?_cons] at this ⊢
                exact this
          have k2 := key (b :: l1) l2 c (nxt c) (by simp) h2
          rw [← hf'] at k2
          rcases k2 with k2 | k2
          · rw [k2]; omega
          · rintro e; rw [← e] at k2; exact hnd'.1 (by simp [k2])
    · cases l1 with
      | nil =>
        simp at hf' ih
        subst hf'
        rw [e6 (by simp)]
        exact ih
      | cons b l1 =>
        rw [if_neg (by simp)] at ih
        have hcf : c ≠ f := by
          rw [hf']
          rcases List.eq_nil_or_concat (b :: l1) with h | ⟨l0, x, h⟩
          · simp at h
          · rw [List.concat_eq_append] at h
            rw [h]
            simp
            rintro rfl
            exact hnd'.1 (by rw [h]; simp)
        rw [e5 c hcp hcf]
        exact ih
/-! what is asked behind a call, made less -/
theorem OkG_mono {g : Sg} {mc ms : Nat} {as : List Vv} {σ : Mm} {k k' : Option Vv → Mm → Prop} (h : OkG g mc ms as σ k) (hk : ∀ r σ', k r σ' → k' r σ') : OkG g mc ms as σ k' := by
  intro C p e ha hc hd s m args below hf hap hP hK
  obtain ⟨n, o, h1, h2, h3, hQ, hF⟩ := h C p e ha hc hd s m args below hf hap hP hK
  obtain ⟨r, σ', q1, q2, q3⟩ := hQ
  exact ⟨n, o, h1, h2, h3, ⟨r, σ', q1, hk _ _ q2, q3⟩, hF⟩
theorem OkI_mono {id : Nat} {as : List Vv} {σ : Mm} {k k' : Int → Mm → Prop} (h : OkI id as σ k) (hk : ∀ r σ', k r σ' → k' r σ') : OkI id as σ k' := OkG_mono h fun r σ' ⟨x, e, h⟩ => ⟨x, e, hk _ _ h⟩
theorem OkL_mono {id : Nat} {as : List Vv} {σ : Mm} {k k' : Int64 → Mm → Prop} (h : OkL id as σ k) (hk : ∀ r σ', k r σ' → k' r σ') : OkL id as σ k' := OkG_mono h fun r σ' ⟨x, e, h⟩ => ⟨x, e, hk _ _ h⟩
theorem OkV_mono {id : Nat} {as : List Vv} {σ : Mm} {k k' : Mm → Prop} (h : OkV id as σ k) (hk : ∀ σ', k σ' → k' σ') : OkV id as σ k' := OkG_mono h fun r σ' ⟨e, h⟩ => ⟨e, hk _ h⟩
