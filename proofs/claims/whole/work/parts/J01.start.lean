/-! the state of the start: classes, arrays, nests -/
theorem tb_lw {n : Nat} {w : Jvm.Cond} (h : tbAt n = some w) : w ∈ lw_tbl := by
  unfold tbAt at h
  rw [List.getD_eq_getElem?_getD] at h
  cases ht : tbS[n / 1000]? with
  | none => rw [ht] at h; simp at h
  | some t => rw [ht] at h; exact tbS_mem t (List.mem_of_getElem? ht) w (List.mem_of_getElem? h)
theorem ao_in : Jvm.Cond.arrayOver (.object "BookHouse$Row") ∈ lw_tbl := tb_lw (n := 1032) rfl
theorem nes_in : ∀ q ∈ nests, Jvm.Cond.methodLinkNest q.1 q.2.1 q.2.2.1 q.2.2.2 ∈ lw_tbl := by
  intro q hq
  simp only [nests, List.mem_cons, List.not_mem_nil, or_false] at hq
  rcases hq with rfl | rfl | rfl | rfl | rfl | rfl | rfl
  · exact tb_lw (n := 1228) rfl
  · exact tb_lw (n := 2092) rfl
  · exact tb_lw (n := 2113) rfl
  · exact tb_lw (n := 3037) rfl
  · exact tb_lw (n := 3056) rfl
  · exact tb_lw (n := 3130) rfl
  · exact tb_lw (n := 3202) rfl
theorem ins_in : ∀ (ci : Nat) (q : vw_C), vwCl[ci]? = some q → ∃ n : Nat, Jvm.Cond.instantiable q.1 n ∈ tbG := by
  intro ci q h
  match ci, h with
  | 0, h => cases h; exact ⟨17, tb_at (n := 2014) rfl rfl⟩
  | 1, h => cases h; exact ⟨4, tb_at (n := 2091) rfl rfl⟩
  | 2, h => cases h; exact ⟨9, tb_at (n := 1142) rfl rfl⟩
  | 3, h => cases h; exact ⟨3, tb_at (n := 1124) rfl rfl⟩
  | 4, h => cases h; exact ⟨12, tb_at (n := 1026) rfl rfl⟩
  | 5, h => cases h; exact ⟨4, tb_at (n := 2112) rfl rfl⟩
  | 6, h => cases h; exact ⟨2, tb_at (n := 1033) rfl rfl⟩
  | 7, h => cases h; exact ⟨16, tb_at (n := 2085) rfl rfl⟩
  | 8, h => cases h; exact ⟨5, tb_at (n := 1227) rfl rfl⟩
  | 9, h => cases h; exact ⟨11, tb_at (n := 1180) rfl rfl⟩
  | 10, h => cases h; exact ⟨14, tb_at (n := 1018) rfl rfl⟩
  | 11, h => cases h; exact ⟨82, tb_at (n := 5112) rfl rfl⟩
  | k + 12, h => simp [vwCl] at h
theorem start_env {args : Array Value} {s : State} (hts : ∀ w ∈ lw_tbl, w.before args s = true) : ∃ (D : va_G) (ty : ClassId × ClassId × ClassId × ClassId), va_K D vwCl [(ty.1, .int), (ty.2.1, .boolean), (ty.2.2.1, .long), (ty.2.2.2, .object "BookHouse$Row")] s ∧ va_AO "BookHouse$Row" s ∧ NwG s := by
  have hG : ∀ w ∈ tbG, w.before args s = true := fun w hw => hts w (List.mem_filter.mp hw).1
  obtain ⟨n0, hn0⟩ := ins_in 0 _ rfl
  obtain ⟨c0, i0, -⟩ := u_known hG (cl_in 0 _ rfl) (hG _ hn0)
  have hcl : ∀ k : Nat, ∃ (c : ClassId) (iS : Nat → Nat), ∀ q : vw_C, vwCl[k]? = some q → u_Kn s q.1 q.2.1 q.2.2 c iS := by
    intro k
    cases hq : vwCl[k]? with
    | none => exact ⟨c0, i0, fun q e => by cases e⟩
    | some q =>
      obtain ⟨n, hn⟩ := ins_in k q hq
      obtain ⟨c, iS, h⟩ := u_known hG (cl_in k q hq) (hG _ hn)
      exact ⟨c, iS, fun q' e => by cases e; exact h⟩
  obtain ⟨a1, k1, p1, e1, f1, g1⟩ := Cond.arrayClass_spec (hG (.arrayClass .int) (tb_at (n := 1059) rfl rfl))
  obtain ⟨a2, k2, p2, e2, f2, g2⟩ := Cond.arrayClass_spec (hG (.arrayClass .boolean) (tb_at (n := 6124) rfl rfl))
  obtain ⟨a3, k3, p3, e3, f3, g3⟩ := Cond.arrayClass_spec (hG (.arrayClass .long) (tb_at (n := 1140) rfl rfl))
  have hao := hts _ ao_in
  obtain ⟨p4, a4, k4, e4, -, f4, g4, h4⟩ := Cond.arrayOver_spec hao
  refine ⟨(fun k => Classical.choose (hcl k), fun k => Classical.choose (Classical.choose_spec (hcl k))), (a1, a2, a3, a4), ⟨fun k q h => Classical.choose_spec (Classical.choose_spec (hcl k)) q h, fun k q h => ?_⟩, hao, fun q hq => va_Nw.of rfl (hts _ (nes_in q hq))⟩
  match k, h with
  | 0, h => cases h; exact ⟨fun n z => ⟨(fun k h => by cases h), k1, f1, p1, g1⟩, e1⟩
  | 1, h => cases h; exact ⟨fun n z => ⟨(fun k h => by cases h), k2, f2, p2, g2⟩, e2⟩
  | 2, h => cases h; exact ⟨fun n z => ⟨(fun k h => by cases h), k3, f3, p3, g3⟩, e3⟩
  | 3, h => cases h; exact ⟨fun n z => ⟨(fun k h => by cases h), k4, f4, p4, g4⟩, k4, p4, f4, g4, e4, h4⟩
  | k + 4, h => simp at h
