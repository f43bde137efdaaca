/-! the check: what is said on a sheet -/
/-- a side of a pair -/
def pwL (pm pw : Int → Int) (k sd : Int) : List Int := (List.range (pm (2 * k + sd)).toNat).map (fun (i : Nat) => pw (16 * k + 8 * sd + i))
/-- the words of a piece in a book -/
def bWd (mn wd : Int → Int) (B : Bk) (p : Int) : List Int := (List.range (mWk mn B p).toNat).map (fun (i : Nat) => wd (8 * B.1 6 p + i))
theorem pwL_len {pm pw : Int → Int} {k sd : Int} : (pwL pm pw k sd).length = (pm (2 * k + sd)).toNat := by simp [pwL]
theorem bWd_len {mn wd : Int → Int} {B : Bk} {p : Int} : (bWd mn wd B p).length = (mWk mn B p).toNat := by simp [bWd]
def mbW (σ : Mm) (B : Bk) (p : Int) : List Int := bWd (Mi σ 1107427809 0) (Mi σ 1124208385 0) B p
def mpW (σ : Mm) (k sd : Int) : List Int := pwL (Mi σ 1644298625 0) (Mi σ 1661078529 0) k sd
/-- the pair that leads a piece in a tongue, or -1 -/
def mLd (σ : Mm) (B : Bk) (t p : Int) : Int := if prF (Mi σ 1627521217 0) (Mi σ 1610744001 0) t p ((Mi σ 184680536 0 50)).toNat ≠ -1 ∧ (mpW σ (prF (Mi σ 1627521217 0) (Mi σ 1610744001 0) t p ((Mi σ 184680536 0 50)).toNat) 0).map (Mi σ 1476526881 0) = (mbW σ B p).map (Mi σ 1476526881 0) then prF (Mi σ 1627521217 0) (Mi σ 1610744001 0) t p ((Mi σ 184680536 0 50)).toNat else -1
def mSay (σ : Mm) (B : Bk) (t p : Int) : List Int := if mLd σ B t p = -1 then mbW σ B p else mpW σ (mLd σ B t p) 1
def pairS (σ : Mm) : Prop := pairR σ ∧ ∀ i : Int, 0 ≤ i → i < (Mi σ 184680536 0 50) → 1 ≤ (Mi σ 1627521217 0) i ∧ 1 ≤ (Mi σ 1644298625 0) (2 * i)
theorem wrd_B {σ : Mm} {B : Bk} (h : MB σ B) {p : Int} (hp : 0 ≤ p ∧ p < 60) : wrd (Mi σ 1325531617 0) (Mi σ 1342312193 0) p = mbW σ B p := by
  have h1 := h.1 p hp.1 hp.2
  unfold wrd mbW bWd
  rw [h1.2.2.2.2.1]
  refine List.map_congr_left (fun i hi => ?_)
  have := List.mem_range.mp hi
  exact (h1.2.2.2.2.2.2 i (by omega) (by omega)).1
theorem map_range_eq {f g : Int → Int} {m n : Nat} : (List.range m).map (fun (i : Nat) => f i) = (List.range n).map (fun (i : Nat) => g i) ↔ m = n ∧ ∀ i : Nat, i < n → f i = g i := by
  constructor
  · intro h
    have hl := congrArg List.length h
    simp at hl
    subst hl
    refine ⟨rfl, fun i hi => ?_⟩
    have := congrArg (fun l => l[i]?) h
    simpa [hi] using this
  · rintro ⟨rfl, h⟩
    exact List.map_congr_left (fun i hi => h i (List.mem_range.mp hi))
theorem agP_iff {pm pw sm sy lk : Int → Int} {q p : Int} (h1 : 0 ≤ pm (2 * q)) (h2 : 0 ≤ sm p) : agP pm pw sm sy lk q p ↔ (pwL pm pw q 0).map lk = (wrd sm sy p).map lk := by
  unfold agP pwL wrd
  rw [List.map_map, List.map_map]
  have := map_range_eq (f := fun i => lk (pw (16 * q + 8 * 0 + i))) (g := fun i => lk (sy (8 * p + i))) (m := (pm (2 * q + 0)).toNat) (n := (sm p).toNat)
  rw [show (List.map (lk ∘ fun (i : Nat) => pw (16 * q + 8 * 0 + i)) (List.range (pm (2 * q + 0)).toNat)) = (List.range (pm (2 * q + 0)).toNat).map (fun (i : Nat) => lk (pw (16 * q + 8 * 0 + i))) from rfl, show (List.map (lk ∘ fun (i : Nat) => sy (8 * p + i)) (List.range (sm p).toNat)) = (List.range (sm p).toNat).map (fun (i : Nat) => lk (sy (8 * p + i))) from rfl, this, Int.add_zero, Int.mul_zero, Int.add_zero]
  constructor
  · rintro ⟨a, b⟩; exact ⟨by omega, fun i hi => b i (by omega) (by omega)⟩
  · rintro ⟨a, b⟩
    refine ⟨by omega, fun i i0 i1 => ?_⟩
    obtain ⟨n, rfl⟩ := Int.eq_ofNat_of_zero_le i0
    exact b n (by omega)
theorem prF_mem {tg pp : Int → Int} {t p : Int} : ∀ {n : Nat}, prF tg pp t p n ≠ -1 → tg (prF tg pp t p n) = t ∧ pp (prF tg pp t p n) = p
  | 0, h => absurd rfl h
  | n + 1, h => by
    unfold prF at h ⊢
    split
    · assumption
    · rename_i c
      rw [if_neg c] at h
      exact prF_mem h
/-- the check's way to the leading pair -/
theorem mLd_iff {σ : Mm} {B : Bk} {t p : Int} (hM : MB σ B) (hP : pairS σ) (hp : 0 ≤ p ∧ p < 60) (hs : 0 ≤ (Mi σ 1325531617 0) p) : mLd σ B t p ≠ -1 ↔ 0 ≤ prF (Mi σ 1627521217 0) (Mi σ 1610744001 0) t p ((Mi σ 184680536 0 50)).toNat ∧ 0 < (Mi σ 1325531617 0) p ∧ ¬ stlP σ t p := by
  have rg := prF_rng (tg := (Mi σ 1627521217 0)) (pp := (Mi σ 1610744001 0)) (t := t) (p := p) (n := ((Mi σ 184680536 0 50)).toNat)
  unfold mLd stlP
  rw [← wrd_B hM hp]
  unfold mpW
  generalize prF (Mi σ 1627521217 0) (Mi σ 1610744001 0) t p ((Mi σ 184680536 0 50)).toNat = q at rg ⊢
  by_cases hq : q = -1
  · rw [if_neg (fun z => z.1 hq)]
    exact ⟨fun z => absurd rfl z, fun z => by omega⟩
  · have hq2 := hP.2 q (by omega) (by omega)
    have ai := agP_iff (pm := (Mi σ 1644298625 0)) (pw := (Mi σ 1661078529 0)) (sm := (Mi σ 1325531617 0)) (sy := (Mi σ 1342312193 0)) (lk := (Mi σ 1476526881 0)) (q := q) (p := p) (by omega) hs
    by_cases ha : agP (Mi σ 1644298625 0) (Mi σ 1661078529 0) (Mi σ 1325531617 0) (Mi σ 1342312193 0) (Mi σ 1476526881 0) q p
    · rw [if_pos ⟨hq, ai.mp ha⟩]
      have := ha.1
      exact ⟨fun _ => ⟨by omega, by omega, fun z => z.2.elim hq (fun z => z ha)⟩, fun _ => hq⟩
    · rw [if_neg (fun z => ha (ai.mpr z.2))]
      exact ⟨fun z => absurd rfl z, fun z => absurd (⟨z.2.1, Or.inr ha⟩) z.2.2⟩
theorem mLd_q {σ : Mm} {B : Bk} {t p : Int} (h : mLd σ B t p ≠ -1) : mLd σ B t p = prF (Mi σ 1627521217 0) (Mi σ 1610744001 0) t p ((Mi σ 184680536 0 50)).toNat := by
  unfold mLd at h ⊢
  split
  · rfl
  · rename_i c; rw [if_neg c] at h; exact absurd rfl h
theorem prF_0 {σ : Mm} (hP : pairS σ) {p : Int} : prF (Mi σ 1627521217 0) (Mi σ 1610744001 0) 0 p ((Mi σ 184680536 0 50)).toNat = -1 := by
  have rg := prF_rng (tg := (Mi σ 1627521217 0)) (pp := (Mi σ 1610744001 0)) (t := 0) (p := p) (n := ((Mi σ 184680536 0 50)).toNat)
  refine Classical.byContradiction fun c => ?_
  have h1 := (prF_mem c).1
  have h3 := hP.1.1
  have h2 := (hP.2 (prF (Mi σ 1627521217 0) (Mi σ 1610744001 0) 0 p ((Mi σ 184680536 0 50)).toNat) (by omega) (by omega)).1
  omega
