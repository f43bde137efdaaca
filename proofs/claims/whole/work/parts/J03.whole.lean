/-! the law walked from its start -/
theorem ls0_LR {C : Cx} {Ls : Array Slot} (h : CLR C Ls 4 ls0) : LR C (mm0 C) Ls 4 (lwL 0) := by
  obtain ⟨h1, h2, h3⟩ := h
  refine ⟨h1, h2, fun i v hi => ?_⟩
  unfold lwL at hi
  match i, hi with
  | 0, hi =>
    cases hi
    have := h3 0 (.inr 999999) rfl
    rw [this]
    show some (Slot.val (Value.ref (cad C 999999))) = some (Slot.val (Value.ref (adr C (mm0 C) 262134 0)))
    have e1 : cad C 999999 = cSc C := if_pos rfl
    have e2 : adr C (mm0 C) 262134 0 = cSc C := by
      unfold adr
      rw [if_neg (by decide), if_neg (by decide), if_pos (by decide)]
    rw [e1, e2]
  | 1, hi =>
    cases hi
    have := h3 1 (.inr (off (16908368, 0))) rfl
    rw [this]
    show some (Slot.val (Value.ref (cad C (off (16908368, 0))))) = some (Slot.val (Value.ref (adr C (mm0 C) 16908368 0)))
    rw [adr0 (by decide), cad_lt (by decide +kernel)]
  | 2, hi =>
    cases hi
    have := h3 2 (.inr (off (184680536, 0))) rfl
    rw [this]
    show some (Slot.val (Value.ref (cad C (off (184680536, 0))))) = some (Slot.val (Value.ref (adr C (mm0 C) 184680536 0)))
    rw [adr0 (by decide), cad_lt (by decide +kernel)]
  | 3, hi =>
    cases hi
    have := h3 3 (.inl 0) rfl
    rw [this]
    rfl
  | i + 4, hi => simp at hi
theorem xm_in : (16908368, (0 : Int)) ∈ scells ∧ (184680536, (0 : Int)) ∈ scells := ⟨by decide +kernel, by decide +kernel⟩
theorem ls0_wf {C : Cx} : wfs (mm0 C) (lwL 0) [] := by
  refine ⟨(fun v hv => by cases hv), fun i v hi => ?_⟩
  unfold lwL at hi
  match i, hi with
  | 0, hi => cases hi; exact Or.inl ⟨rfl, rfl⟩
  | 1, hi => cases hi; exact Or.inr (by rw [cells0]; exact xm_in.1)
  | 2, hi => cases hi; exact Or.inr (by rw [cells0]; exact xm_in.2)
  | 3, hi => cases hi; trivial
  | i + 4, hi => simp at hi
theorem scr_ir {C : Cx} {j : Int} : IR (Mi (mm0 C) 262134 0 j) := by
  have e : Mi (mm0 C) 262134 0 j = (cSx C j.toNat).toInt := by
    show (if 262134 = 262134 then (cSx C j.toNat).toInt else if 262134 = 386007841 ∨ 262134 = 1476526881 then (if 0 ≤ j ∧ j < 100 then j else 0) else (0 : Int)) = _
    exact if_pos rfl
  rw [e]
  unfold IR
  have h1 := Int32.le_toInt (cSx C j.toNat)
  have h2 := Int32.toInt_lt (cSx C j.toNat)
  omega
theorem cp0 : cpc (cmC 12) 0 = 0 ∧ cpc (cmC 12) 10 = 18 := by decide +kernel
theorem whole_start {p : Program} {e : Env} {s : State} {m : MethodId} {below : List Frame} {meth : Method} {c : Code} (l : Launch) {b L : Nat} {xs : Nat → Int32} (hL : L ≤ 3072) (C0 : lw_At p s m meth c b L xs) : W p l e room_1 s m #[Value.ref b] below meth c s.heap [] 0 0 (lw_Z below #[Value.ref b] s) (entryFrame m ([Value.ref b] : List Value).toArray 4) := by
  obtain ⟨hx, hb, hr, hml, hown, hts, hX, hbl, hlocks, hgv⟩ := id C0
  obtain ⟨D, ty, hK, hAO, hN⟩ := start_env hts
  have hG : ∀ w ∈ tbG, w.before #[Value.ref b] s = true := fun w hw => hts w (List.mem_filter.mp hw).1
  obtain ⟨C, hC⟩ : ∃ C : Cx, C = (l, s.heap.size, D, ty, b, L, xs) := ⟨_, rfl⟩
  have c1 : cLa C = l := by rw [hC]; rfl
  have c2 : cBa C = s.heap.size := by rw [hC]; rfl
  have c3 : cSc C = b := by rw [hC]; rfl
  have c4 : cSl C = L := by rw [hC]; rfl
  have hKk : Kk C s := by rw [hC]; exact hK
  have hXC : va_X (cSc C) (cSl C) (cSx C) s s.heap := by rw [hC]; exact hX
  clear hC
  subst c1
  have hv : 1 ≤ 10 ∧ 10 ≤ room_1.frames ∧ 40 * 10 ≤ room_1.locals := by decide
  have X : CX C p (cLa C) room_1 s m #[Value.ref b] meth c s.heap 4 10 code "BookHouseLaw" false := ⟨⟨hx, hb⟩, ⟨hml, hown, hG, hKk, fun _ => hAO, hN⟩, (fun h => by cases h), hv, by rw [c2]; exact Nat.le_refl _, rfl⟩
  have F : lwX C p s m b c 0 0 := ⟨⟨hx, hb⟩, ⟨hml, hown, hG, hKk⟩, ⟨hXC, by rw [c2, c3]; exact hbl, by rw [c2]; exact Nat.le_refl _⟩, hv, ⟨Nat.zero_le _, Nat.zero_le _⟩, rfl, hN⟩
  obtain ⟨hp, hcm, hp1, hck⟩ := cm_fin
  have hmn : Mn (mm0 C) (-1) = L := by
    show (if (-1 : Int) = -1 then cSl C else 0) = L
    rw [if_pos rfl]
    exact c4
  have key := cm_snd C 3000 (id := 12) (q := 0) (n0 := 0) (s0 := 0) (e := e) (below := below) (Q := lw_Z below #[Value.ref b] s) X chcL hcm (show hp.1 < 999999 by omega) (show hp.1 - 0 ≤ 600000 by omega) (show 24962 - 0 ≤ 7302249 by omega) (Nat.zero_le _) (Nat.zero_le _) (by
    show CJ C p (cLa C) e room_1 s m #[Value.ref b] below meth c s.heap 0 0 (lw_Z below #[Value.ref b] s) 4 (cpc (cmC 12) 10) ls0 [] hp 24962
    rw [cp0.2]
    intro Ls H locs hLR h1 hP hD hz hS
    have lp := lw_loop (e := e) (below := below) (σ0 := mm0 C) hr hlocks c2 F L 332 24962 0 (mm0 C) (by rw [hmn]; omega) (by omega) (by omega) ⟨mI0, XR0, fun j => scr_ir, Int.le_refl _, by rw [hmn]; omega, by rw [hmn]; omega⟩
    have := lp Ls H locs (ls0_LR hLR) ls0_wf (Hh0 h1 hck hP (by rw [c4]; omega)) hS (Ext.rfl' _)
    rw [hp1]
    exact this)
  rw [cp0.1] at key
  have ecu : ([Sum.inr 999999] : List Cv).map (cuV C) = [Value.ref b] := by
    show [Value.ref (cad C 999999)] = _
    rw [show cad C 999999 = cSc C from if_pos rfl, c3]
  have hE := CLR_entry (C := C) (as := [.inr 999999]) (n := 4) (by decide)
  rw [ecu] at hE
  have key2 := key _ s.heap [] hE rfl (fun k q h => by simp [cuW] at h) ⟨fun i j p q h => by simp [cuW] at h, fun k q h => by simp [cuW] at h⟩ (by rw [c2]; rfl) va_S.rf
  rw [lg_entry_eq]
  exact key2
