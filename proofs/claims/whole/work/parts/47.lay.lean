/-! the check: the widths of what is said -/
/-- the widths of the words said at cell x -/
def widL (sm sd : Int → Int) (x : Int) : List Int := (List.range (sm x).toNat).map (fun (i : Nat) => 1 + sd (8 * x + i) % 7)
theorem widL_len {sm sd : Int → Int} {x : Int} : (widL sm sd x).length = (sm x).toNat := by simp [widL]
