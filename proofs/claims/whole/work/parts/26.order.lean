/-! the order of stamps, as the rows are sorted: a list -/
/-- put into its place from the end -/
def insE (P : Int → Int → Bool) (c : Int) : List Int → List Int
  | [] => [c]
  | a :: l => if (a :: l).all (fun b => P c b) then c :: a :: l else a :: insE P c l
