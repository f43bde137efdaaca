/-! the check: how far a pair is from a saying -/
/-- the cost of the first i words against the first j -/
def cstF (a b : Int → Int) : Nat → Nat → Int
  | 0, j => j
  | i + 1, 0 => i + 1
  | i + 1, j + 1 => min (min (cstF a b i (j + 1) + 1) (cstF a b (i + 1) j + 1)) (cstF a b i j + if a i = b j then 0 else 2)
theorem cstF_rng {a b : Int → Int} : ∀ {i j : Nat}, 0 ≤ cstF a b i j ∧ cstF a b i j ≤ i + j
  | 0, j => by simp [cstF]
  | i + 1, 0 => by simp [cstF]; omega
  | i + 1, j + 1 => by
    have h1 := cstF_rng (a := a) (b := b) (i := i) (j := j + 1)
    have h2 := cstF_rng (a := a) (b := b) (i := i + 1) (j := j)
    have h3 := cstF_rng (a := a) (b := b) (i := i) (j := j)
    rw [cstF]
    split <;> omega
