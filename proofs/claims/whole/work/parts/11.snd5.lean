/-! soundness: calls; returns; the checker of a block; blocks that lead to blocks; a method -/
theorem pN_e {K : List Vv → List Vv → Prop} : ∀ {n : Nat} {st acc : List Vv}, pN n st acc K → ∃ as st', st = as.reverse ++ st' ∧ as.length = n ∧ K (as ++ acc) st'
  | 0, st, acc, h => ⟨[], st, rfl, rfl, h⟩
  | n + 1, v :: st, acc, h => by
    obtain ⟨as, st', rfl, h1, h2⟩ := pN_e (n := n) h
    exact ⟨as ++ [v], st', by simp, by simp [h1], by simpa using h2⟩
  | n + 1, [], acc, h => h.elim
theorem LR.ext {C : Cx} {σ σ' : Mm} {Ls : Array Slot} {nL : Nat} {ls : List (Option Vv)} (h : LR C σ Ls nL ls) (hE : Ext σ σ') (hw : ∀ (i : Nat) (v : Vv), ls[i]? = some (some v) → wf σ v) : LR C σ' Ls nL ls := ⟨h.1, h.2.1, fun i v hi => by rw [up_ext hE (hw i v hi)]; exact h.2.2 i v hi⟩
theorem map_ext {C : Cx} {σ σ' : Mm} {st : List Vv} (hE : Ext σ σ') (hw : ∀ v ∈ st, wf σ v) : st.map (up C σ') = st.map (up C σ) := List.map_congr_left fun v hv => up_ext hE (hw v hv)
theorem va_X_at {C : Cx} {U : State} {H0 H : Heap} {locs : List Loc} (hX : va_X (cSc C) (cSl C) (cSx C) U H0) (h1 : cSc C < cBa C) (h2 : cBa C ≤ H0.size) (hS : va_S (fun q => cBa C ≤ q) H0 H locs) : va_X (cSc C) (cSl C) (cSx C) U H := hX.kept (hS.2.1 _ (by omega) (by simp; omega))
theorem PcG_blind {C : Cx} {as : List Vv} {σ : Mm} : FrameBlind (PcG C as σ) := fun a U g mk h => ⟨h.1, h.2.1, h.2.2.1, va_K.moved (u := U) (U := U.calling g mk a) (Vm.Alike.refl U.vm) h.2.2.2.1, va_X.moved (u := U) (U := U.calling g mk a) (Vm.Alike.refl U.vm) h.2.2.2.2.1, h.2.2.2.2.2.1, h.2.2.2.2.2.2.1, fun q hq => va_Nw.same rfl (show U.vm = (U.calling g mk a).vm from rfl) (h.2.2.2.2.2.2.2 q hq)⟩
set_option maxRecDepth 100000 in
theorem tb_good : tbG.all goodWord = true := List.all_eq_true.mpr fun w h => (List.mem_filter.mp h).2
theorem gi_tb {ws : List Jvm.Cond} (h : ∀ w ∈ ws, w ∈ tbG) : GoodIn tbG ws := fun w hw => ⟨h w hw, good_of_word (List.all_eq_true.mp tb_good w (h w hw))⟩
theorem gi_ws {g : Sg} (h : Jvm.Cond.code g.1 g.2.1 g.2.2.1 g.2.2.2.1 ∈ tbG) : GoodIn tbG (wsG g) := gi_tb fun w hw => by
  rcases List.mem_cons.mp hw with rfl | hw
  · exact h
  · exact hw
section
variable {C : Cx} {p : Program} {l : Launch} {e : Env} {R : Room} {s : State} {m : MethodId} {args : Array Value} {below : List Frame} {meth : Method} {c : Code} {H0 : Heap} {ce sl : Nat} {Q : State → Prop} {σ0 : Mm} {nL lv : Nat} {cc : ByteArray} {own : String}
theorem call_fin {σ : Mm} {kq : Option Vv → Mm → Prop} {a : Array Value} {H : Heap} {locs : List Loc} {Ls : Array Slot} {pc : Nat} {st0 rest : List Value} (hr : va_Run p l e R s m args below meth c H locs ce sl 0 0 (F0 m pc Ls st0) rest (QcG C σ kq a) (fun q => cBa C ≤ q)) (hS : va_S (fun q => cBa C ≤ q) H0 H locs)
    (K : ∀ (r : Option Vv) (σ' : Mm) (H1 : Heap) (locs1 : List Loc), kq r σ' → (∀ v, r = some v → wf σ' v) → Ext σ σ' → Hh C σ' H1 → va_S (fun q => cBa C ≤ q) H0 H1 locs1 → W p l e R s m args below meth c H1 locs1 ce sl Q (F0 m (pc + 3) Ls ((r.map (up C σ')).toList ++ rest))) : W p l e R s m args below meth c H locs ce sl Q (F0 m pc Ls st0) := by
  intro T hT X
  obtain ⟨v, st₀, t, T', L, h0, X', hL, e1, e2, ⟨r, σ', hv, hk, hw, hE, hH', hF⟩, st⟩ := hr T hT X
  cases hv
  obtain ⟨hz, hk2⟩ := hF
  rw [h0] at hz hk2
  obtain ⟨t2, a1, b1⟩ := K r σ' T'.heap (locs ++ L) hk hw hE (by rw [e1]; exact hH')
    ⟨Nat.le_trans hS.1 (by rw [e1]; exact hz), fun q h1 h2 => by rw [e1, hk2 q (Nat.lt_of_lt_of_le h1 hS.1) h2]; exact hS.2.1 q h1 h2, fun q hq => by
      rcases List.mem_append.mp hq with h | h
      · exact hS.2.2 q h
      · exact hL q h⟩ T' rfl X'
  exact ⟨t2, st t2 a1, b1⟩
theorem preS_G (F : FX C p l R s m args c H0 ce sl nL cc own lv) {as : List Vv} {σ : Mm} {H : Heap} {locs : List Loc} (hw : ∀ v ∈ as, wf σ v) (hH : Hh C σ H) (hS : va_S (fun q => cBa C ≤ q) H0 H locs) : PreS s H (PcG C as σ) (as.map (up C σ)) := by
  obtain ⟨-, ⟨-, -, -, hK⟩, ⟨hX, h1, h2⟩, -, -, -, hN⟩ := F
  exact ⟨PcG_blind, fun U hU hW => ⟨rfl, hw, by rw [hU]; exact hH, va_K.moved hW.alike hK, by rw [hU]; exact va_X.moved hW.alike (va_X_at hX h1 h2 hS), h1, by rw [hU]; exact Nat.le_trans h2 hS.1, fun q hq => va_Nw.warmM hW (hN q hq)⟩⟩
/-- what a call needs of the method's name, and of the levels -/
def sigOk (g : Sg) (lv n : Nat) : Prop := Jvm.Cond.code g.1 g.2.1 g.2.2.1 g.2.2.2.1 ∈ tbG ∧ Jvm.Cond.initialized g.1.cls ∈ tbG ∧ (g.1.cls ≠ "java/lang/invoke/MethodHandle" ∧ g.1.cls ≠ "java/lang/invoke/VarHandle" ∧ (parseMethodDescriptor g.1.desc).map (fun d => d.parameters.length) = some n) ∧ (g.2.2.2.2 + 1 ≤ lv ∧ g.2.2.1 ≤ 21)
theorem room_G {g : Sg} {mc ms n : Nat} (hl : g.2.2.2.2 + 1 ≤ lv ∧ g.2.2.1 ≤ 21) (h2 : lv ≤ R.frames) (h3 : 40 * lv ≤ R.locals) : (rmG g mc ms).frames + 1 ≤ R.frames ∧ 8 + (g.2.2.1 + 11) + (rmG g mc ms).locals ≤ R.locals := by
  show g.2.2.2.2 + 1 ≤ R.frames ∧ 8 + (g.2.2.1 + 11) + 40 * g.2.2.2.2 ≤ R.locals
  omega
theorem so_callS (F : FX C p l R s m args c H0 ce sl nL cc own lv) {g : Sg} {pc ix n : Nat} {k : List (Option Vv) → List Vv → Option Vv → Mm → Prop} (hs : sigOk g lv n) (hlink : Jvm.Cond.methodLink own ix g.1 ∈ tbG) (hstat : Jvm.Cond.static g.1 ∈ tbG) (d : decode cc pc = .ok (.invokestatic ix, 3))
    (hk : ∀ ls st r σ, k ls st r σ → XJ C p l e R s m args below meth c H0 ce sl Q nL σ0 (pc + 3) ls (r.toList ++ st) σ) {ls : List (Option Vv)} {st : List Vv} {σ : Mm} (h : pN n st [] fun as st => csum st ≤ 8 ∧ OkG g 0 0 as σ (k ls st)) : XJ C p l e R s m args below meth c H0 ce sl Q nL σ0 pc ls st σ := by
  obtain ⟨as, st', rfl, hn, hcs, h⟩ := pN_e h
  rw [List.append_nil] at h
  intro Ls H locs hL hw hH hS hE0
  have hwa : ∀ v ∈ as, wf σ v := fun v hv => hw.1 v (List.mem_append_left _ (List.mem_reverse.mpr hv))
  have hwt : ∀ v ∈ st', wf σ v := fun v hv => hw.1 v (List.mem_append_right _ hv)
  have hpre := preS_G F hwa hH hS
  obtain ⟨⟨hx, hb⟩, ⟨hml, hown, hts, hK⟩, -, ⟨hv1, hv2, hv3⟩, hcs2, hl, hN⟩ := F
  subst hl
  have hcb := callB_of (R := R) (rm := rmG g 0 0) (mc := 0) (ms := 0) n hts (gi_ws hs.1) rfl rfl rfl (hts _ hs.2.1) (hts _ hlink) hs.2.2.1 (room_G (n := 0) hs.2.2.2 hv2 hv3)
  refine call_fin (σ := σ) (kq := k ls st') (va_runS (Ts := tbG) (nL := nL) (rest := st'.map (up C σ)) ⟨hx, hb, hml, hown, hts⟩ (h C) ⟨hcb, hts _ hstat⟩ hpre rfl (by simp [hn]) hL.1 (by show (List.map (up C σ) (as.reverse ++ st')) = _; simp) (lv_room (by rw [csum_eq]; exact hcs)) d ⟨hcs2.1, hcs2.2⟩) hS (fun r σ' H1 locs1 hkq hwr hE hH1 hS1 => ?_)
  have hk1 := hk ls st' r σ' hkq Ls H1 locs1 (hL.ext hE hw.2) ⟨fun v hv => ?_, fun i v hi => wf_ext hE (hw.2 i v hi)⟩ hH1 hS1 (hE0.trans' hE)
  · rw [List.map_append, map_ext hE hwt] at hk1
    cases r <;> exact hk1
  · rcases List.mem_append.mp hv with h | h
    · cases r with
      | none => simp at h
      | some w => simp at h; subst h; exact hwr _ rfl
    · exact wf_ext hE (hwt v h)
theorem so_callSN (F : FX C p l R s m args c H0 ce sl nL cc own lv) {g : Sg} {pc ix n : Nat} {host : String} {k : List (Option Vv) → List Vv → Option Vv → Mm → Prop} (hs : sigOk g lv n) (hlink : (own, ix, g.1, host) ∈ nests) (hstat : Jvm.Cond.static g.1 ∈ tbG) (d : decode cc pc = .ok (.invokestatic ix, 3))
    (hk : ∀ ls st r σ, k ls st r σ → XJ C p l e R s m args below meth c H0 ce sl Q nL σ0 (pc + 3) ls (r.toList ++ st) σ) {ls : List (Option Vv)} {st : List Vv} {σ : Mm} (h : pN n st [] fun as st => csum st ≤ 8 ∧ OkG g 0 0 as σ (k ls st)) : XJ C p l e R s m args below meth c H0 ce sl Q nL σ0 pc ls st σ := by
  obtain ⟨as, st', rfl, hn, hcs, h⟩ := pN_e h
  rw [List.append_nil] at h
  intro Ls H locs hL hw hH hS hE0
  have hwa : ∀ v ∈ as, wf σ v := fun v hv => hw.1 v (List.mem_append_left _ (List.mem_reverse.mpr hv))
  have hwt : ∀ v ∈ st', wf σ v := fun v hv => hw.1 v (List.mem_append_right _ hv)
  have hpre := preS_G F hwa hH hS
  obtain ⟨⟨hx, hb⟩, ⟨hml, hown, hts, hK⟩, -, ⟨hv1, hv2, hv3⟩, hcs2, hl, hN⟩ := F
  subst hl
  have hcb := va_cnB (R := R) (rm := rmG g 0 0) (mc := 0) (ms := 0) (args := args) n hts (gi_ws hs.1) rfl rfl rfl (hN _ hlink) (hts _ hs.2.1) hs.2.2.1 (room_G (n := 0) hs.2.2.2 hv2 hv3)
  refine call_fin (σ := σ) (kq := k ls st') (va_runSN (Ts := tbG) (nL := nL) (rest := st'.map (up C σ)) ⟨hx, hb, hml, hown, hts⟩ (h C) ⟨hcb, hts _ hstat, trivial⟩ hpre rfl (by simp [hn]) hL.1 (by show (List.map (up C σ) (as.reverse ++ st')) = _; simp) (lv_room (by rw [csum_eq]; exact hcs)) d ⟨hcs2.1, hcs2.2⟩) hS (fun r σ' H1 locs1 hkq hwr hE hH1 hS1 => ?_)
  have hk1 := hk ls st' r σ' hkq Ls H1 locs1 (hL.ext hE hw.2) ⟨fun v hv => ?_, fun i v hi => wf_ext hE (hw.2 i v hi)⟩ hH1 hS1 (hE0.trans' hE)
  · rw [List.map_append, map_ext hE hwt] at hk1
    cases r <;> exact hk1
  · rcases List.mem_append.mp hv with h | h
    · cases r with
      | none => simp at h
      | some w => simp at h; subst h; exact hwr _ rfl
    · exact wf_ext hE (hwt v h)
theorem so_callV (F : FX C p l R s m args c H0 ce sl nL cc own lv) {g : Sg} {pc ix n ci : Nat} {q : vw_C} {k : List (Option Vv) → List Vv → Option Vv → Mm → Prop} (hs : sigOk g lv n) (hq : vwCl[ci]? = some q) (hcl : q.1 = g.1.cls) (hlink : Jvm.Cond.methodLink own ix g.1 ∈ tbG) (hinst : Jvm.Cond.instanceMethod g.1 ∈ tbG) (hsel : Jvm.Cond.selects g.1.cls g.1 g.1 ∈ tbG) (d : decode cc pc = .ok (.invokevirtual ix, 3))
    (hk : ∀ ls st r σ, k ls st r σ → XJ C p l e R s m args below meth c H0 ce sl Q nL σ0 (pc + 3) ls (r.toList ++ st) σ) {ls : List (Option Vv)} {st : List Vv} {σ : Mm} (h : pN (n + 1) st [] fun as st => csum st ≤ 8 ∧ hdCls ci as ∧ OkG g 0 0 as σ (k ls st)) : XJ C p l e R s m args below meth c H0 ce sl Q nL σ0 pc ls st σ := by
  obtain ⟨as, st', rfl, hn, hcs, hhd, h⟩ := pN_e h
  rw [List.append_nil] at hhd h
  intro Ls H locs hL hw hH hS hE0
  have hwa : ∀ v ∈ as, wf σ v := fun v hv => hw.1 v (List.mem_append_left _ (List.mem_reverse.mpr hv))
  have hwt : ∀ v ∈ st', wf σ v := fun v hv => hw.1 v (List.mem_append_right _ hv)
  have hpre := preS_G F hwa hH hS
  match as, hhd with
  | .inr (.inr (r, j)) :: as', hhd =>
    have hhd : isCls ci r := hhd
    obtain ⟨hcl2, h8⟩ := isCls_e hhd
    obtain ⟨q0, -, hat⟩ := wl_at (C := C) (wf_cell (hwa _ List.mem_cons_self) (by omega))
    rw [ent_o h8, hcl2] at hat
    obtain ⟨⟨hx, hb⟩, ⟨hml, hown, hts, hK⟩, -, ⟨hv1, hv2, hv3⟩, hcs2, hl, hN⟩ := F
    subst hl
    have hcb := callB_of (R := R) (rm := rmG g 0 0) (mc := 0) (ms := 0) n hts (gi_ws hs.1) rfl rfl rfl (hts _ hs.2.1) (hts _ hlink) hs.2.2.1 (room_G (n := 0) hs.2.2.2 hv2 hv3)
    have hrec := va_recv hK hH.1 hq hat
    rw [hcl] at hrec
    refine call_fin (σ := σ) (kq := k ls st') (va_runV (Ts := tbG) (nL := nL) (C := g.1.cls) (As := as'.map (up C σ)) (rest := st'.map (up C σ)) ⟨hx, hb, hml, hown, hts⟩ (h C) ⟨hcb, hts _ hinst, hts _ hsel⟩ ⟨hpre.1, hrec, hpre.2⟩ rfl (by simp at hn; simp [hn]) hL.1 (by show (List.map (up C σ) ((vR r j :: as').reverse ++ st')) = _; simp; rfl) (lv_room (by rw [csum_eq]; exact hcs)) d ⟨hcs2.1, hcs2.2⟩) hS (fun r σ' H1 locs1 hkq hwr hE hH1 hS1 => ?_)
    have hk1 := hk ls st' r σ' hkq Ls H1 locs1 (hL.ext hE hw.2) ⟨fun v hv => ?_, fun i v hi => wf_ext hE (hw.2 i v hi)⟩ hH1 hS1 (hE0.trans' hE)
    · rw [List.map_append, map_ext hE hwt] at hk1
      cases r <;> exact hk1
    · rcases List.mem_append.mp hv with h | h
      · cases r with
        | none => simp at h
        | some w => simp at h; subst h; exact hwr _ rfl
      · exact wf_ext hE (hwt v h)
end
