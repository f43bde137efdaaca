/-! what always holds, holds of the first memory -/
theorem mz {C : Cx} {r : Nat} {j k : Int} (h : (Nat.beq r 262134 || Nat.beq r 386007841 || Nat.beq r 1476526881) = false) : Mi (mm0 C) r j k = 0 := by
  rw [Bool.or_eq_false_iff, Bool.or_eq_false_iff] at h
  show (if r = 262134 then (cSx C k.toNat).toInt else if r = 386007841 ∨ r = 1476526881 then _ else (0 : Int)) = 0
  rw [if_neg (fun e => Nat.ne_of_beq_eq_false h.1.1 e), if_neg]
  rintro (e | e)
  · exact Nat.ne_of_beq_eq_false h.1.2 e
  · exact Nat.ne_of_beq_eq_false h.2 e
theorem mzm {C : Cx} {n : Int} : Mi (mm0 C) 184680536 0 n = 0 := mz (by decide)
theorem mno {C : Cx} {P : Prop} {c n : Int} (h1 : 0 ≤ c) (h2 : c < Mi (mm0 C) 184680536 0 n) : P := by rw [mzm] at h2; omega
theorem mlk {C : Cx} {w : Int} (h1 : 0 ≤ w) (h2 : w < 100) : Mi (mm0 C) 1476526881 0 w = w ∧ Mi (mm0 C) 386007841 0 w = w := by
  constructor
  · show (if 1476526881 = 262134 then (cSx C w.toNat).toInt else if 1476526881 = 386007841 ∨ 1476526881 = 1476526881 then (if 0 ≤ w ∧ w < 100 then w else 0) else (0 : Int)) = w
    rw [if_neg (by decide), if_pos (by decide), if_pos ⟨h1, h2⟩]
  · show (if 386007841 = 262134 then (cSx C w.toNat).toInt else if 386007841 = 386007841 ∨ 386007841 = 1476526881 then (if 0 ≤ w ∧ w < 100 then w else 0) else (0 : Int)) = w
    rw [if_neg (by decide), if_pos (by decide), if_pos ⟨h1, h2⟩]
theorem IR0 : IR 0 := ⟨by decide, by decide⟩
theorem mlkR {C : Cx} : ∀ w : Int, 0 ≤ w → w < 100 → IR (Mi (mm0 C) 1476526881 0 w) := fun w h1 h2 => by rw [(mlk h1 h2).1]; exact ⟨by omega, by omega⟩
theorem mr0 {C : Cx} {n : Int} {b : Int} (hb : 0 ≤ b) : 0 ≤ Mi (mm0 C) 184680536 0 n ∧ Mi (mm0 C) 184680536 0 n ≤ b := by rw [mzm]; exact ⟨Int.le_refl _, hb⟩
theorem mI0 {C : Cx} : mI (mm0 C) := by
  refine ⟨⟨⟨mr0 (by decide), fun c h1 h2 => mno h1 h2⟩, by rw [mzm]; exact IR0, fun c h1 h2 => mno h1 h2⟩, fun c h1 h2 => mno h1 h2, ⟨fun h h1 h2 c h3 h4 hb => ?_, mr0 (by decide), Or.inl mzm, mr0 (by decide)⟩, fun h h1 h2 => ⟨?_, fun i i1 i2 => ?_⟩, ⟨mr0 (by decide), fun i h1 h2 => mno h1 h2⟩, ⟨mr0 (by decide), fun i h1 h2 => mno h1 h2, fun x h1 h2 => ?_, mlkR⟩, ⟨⟨mr0 (by decide), fun i h1 h2 => mno h1 h2, fun i s x h1 h2 => mno h1 h2, mlkR⟩, fun i h1 h2 => mno h1 h2⟩, ⟨mr0 (by decide), fun i h1 h2 => mno h1 h2⟩, mr0 (by decide), fun i h1 h2 => mno h1 h2⟩
  · have hb : hasB (0 : Int64) c := hb
    unfold hasB at hb
    simp at hb
  · rw [mz (by decide)]; decide
  · rw [mz (by decide)] at i2; omega
  · rw [mz (by decide)]; decide
theorem XR0 {C : Cx} : XR (mm0 C) (mm0 C) := by
  have z : ∀ {r : Nat} {j k : Int} {n : Int}, (Nat.beq r 262134 || Nat.beq r 386007841 || Nat.beq r 1476526881) = false → Mi (mm0 C) r j k = Mi (mm0 C) 184680536 0 n := fun h => by rw [mz h, mzm]
  refine ⟨⟨z (by decide), fun c h1 h2 => mno h1 h2, ?_, fun c h1 h2 => mno h1 h2, mz (by decide), fun i x h => by cases h⟩, ⟨fun h _ _ => rfl, z (by decide), fun i h1 h2 => mno h1 h2, z (by decide)⟩, fun h h1 h2 => ?_, ⟨z (by decide), fun w h1 h2 => by rw [(mlk h1 h2).1, (mlk h1 h2).2]⟩, ⟨z (by decide), fun i h1 h2 => mno h1 h2⟩, ⟨z (by decide), fun i h1 h2 => mno h1 h2⟩, ⟨z (by decide), fun i h1 h2 => mno h1 h2⟩, ⟨z (by decide), fun i h1 h2 => mno h1 h2⟩, ⟨z (by decide), fun i h1 h2 => mno h1 h2⟩⟩
  · have e : mOrd (mm0 C) = [] := by
      unfold mOrd
      rw [mzm]
      rfl
    rw [e]
    intro i x h
    cases h
  · have e : padL (mm0 C) h = [] := by
      unfold padL
      rw [mz (by decide)]
      rfl
    rw [e]
    exact ⟨mz (by decide), fun i x h => by cases h⟩
