/-! the gap in addYes: a row is made -/
section
variable {p : Program} {l : Launch} {e : Env} {R : Room} {s : State} {m : MethodId} {args : Array Value} {below : List Frame} {meth : Method} {c : Code} {H H0 : Heap} {locs : List Loc} {cells slots : Nat} {Q : State → Prop} {cc : ByteArray} {pc : Nat} {ls : Array Slot} {rest : List Value} {D : va_G} {cl : List vw_C} {tys : List (ClassId × FieldType)} {ws : va_W} {A : Nat → Prop} {a : Nat}
theorem nz_new2 {c0 : Code} (hexec : p.tables.exec = Jvm.exec) (hb : c0.code = cc) {own C : String} {T : u_T} {N ci index : Nat} {Ts : List Cond} (hts : ∀ w ∈ Ts, w.before args s = true) (hin : ∀ w ∈ u_ws C T N, w ∈ Ts) (ty : Nat → FieldType) (hty : ∀ k, k < N → parseFieldDescriptor (T k).2.2.1 = some (ty k)) (hown : s.vm.findClass own = some m.cls) (hcl : (Cond.classLink own index C).before args s = true) (hinst : (Cond.instantiable C N).before args s = true) (hini : (Cond.initialized C).before args s = true)
    (hK : va_K D cl tys s) (hP : va_P D cl ws H) (hD : va_D A ws) (hS : va_S A H0 H locs) (hA : ∀ q, H0.size ≤ q → A q) (hc : cl[ci]? = some (C, T, N)) {fs : List Value} (hfs : ∀ j, j < N → defaultValue (ty j) = vp_V fs j) (hcells : cells + 1 ≤ R.cells) (hslots : slots + N ≤ R.slots) (hdg : decode cc pc = .ok (.new index, 3))
    (kk : ∀ H1 : Heap, H1.size = H.size + 1 → (∀ q, q < H.size → H1[q]? = H[q]?) → va_P D cl (ws ++ [(H.size, .inr (ci, fs))]) H1 → va_D A (ws ++ [(H.size, .inr (ci, fs))]) → va_S A H0 H1 locs →
      W p l e R s m args below meth c0 H1 locs (cells + 1) (slots + N) Q (F0 m (pc + 3) ls (.ref H.size :: rest))) : W p l e R s m args below meth c0 H locs cells slots Q (F0 m pc ls rest) := by
  have hKn := hK.1 ci _ hc
  refine W.newcK hexec hb hown hcl hinst hini rfl hdg hcells hslots hKn.2.1 rfl fun H1 kC hkC e1 z1 o1 => ?_
  exact kk H1 z1 o1 (hz_push hP o1 ⟨_, hc, (u_born ty hts hin hKn hkC e1 hty).to hfs⟩) (hD.push hP rfl (hA _ hS.1)) (hz_S hS z1 o1)
end
def rowB (n : Nat) : Option Cr → Bool
  | some (_, _, (k, [(a, m, []), (b, c, [(d, e)])]), s) => decide (k = 2 ∧ a = 1 ∧ m = n ∧ b = 0 ∧ c = 6 ∧ d = 0 ∧ e = 1 ∧ s = n)
  | _ => false
theorem rowB_e {n : Nat} {o : Option Cr} (h : rowB n o = true) : ∃ (q : Nat) (ls' : List (Option Cv)), o = some (q, ls', (2, [(1, n, []), (0, 6, [(0, 1)])]), n) := by
  unfold rowB at h
  split at h
  · obtain ⟨rfl, rfl, rfl, rfl, rfl, rfl, rfl, rfl⟩ := of_decide_eq_true h
    exact ⟨_, _, rfl⟩
  · cases h
theorem cm_row0 : ((List.range 241).all fun n => rowB n (cm cmC cmL 20 6 0 ([.inr 0, .inl n].map some ++ List.replicate (cmL 6 - 2) none) [] (1, [(0, 6, [])]) 0)) = true := by decide +kernel
theorem cm_row {n : Nat} (hn : n ≤ 240) : ∃ (q : Nat) (ls' : List (Option Cv)), cm cmC cmL 20 6 0 ([.inr 0, .inl n].map some ++ List.replicate (cmL 6 - 2) none) [] (1, [(0, 6, [])]) 0 = some (q, ls', (2, [(1, n, []), (0, 6, [(0, 1)])]), n) := rowB_e (List.all_eq_true.mp cm_row0 n (List.mem_range.mpr (by omega)))
theorem gr_t : (decode cX2_addYes 47 = .ok (.new 24, 3) ∧ decode cX2_addYes 50 = .ok (.dup, 1) ∧ decode cX2_addYes 51 = .ok (.aload_n (f4 0), 1) ∧ decode cX2_addYes 52 = .ok (.getfield 33, 3) ∧ decode cX2_addYes 55 = .ok (.getfield 54, 3) ∧ decode cX2_addYes 58 = .ok (.invokespecial 30, 3)) := by decide +kernel
theorem gr_w : Jvm.Cond.classLink RX2 24 RX6 ∈ tbG ∧ Jvm.Cond.instantiable RX6 2 ∈ tbG ∧ Jvm.Cond.initialized RX6 ∈ tbG ∧ Jvm.Cond.fieldLink RX2 33 (TX2 8).1 (TX2 8).2.1 (TX2 8).2.2.1 ∈ tbG ∧ Jvm.Cond.fieldLink RX2 54 (TX6 1).1 (TX6 1).2.1 (TX6 1).2.2.1 ∈ tbG ∧ Jvm.Cond.methodLink RX2 30 (igD 6).1 ∈ tbG :=
  ⟨tb_at (n := 1147) rfl rfl, tb_at (n := 1033) rfl rfl, tb_at (n := 1003) rfl rfl, tb_at (n := 1159) rfl rfl, tb_at (n := 1050) rfl rfl, tb_at (n := 1148) rfl rfl⟩
theorem cons_in {σ : Mm} : (67239952, (0 : Int)) ∈ cells σ := List.mem_append_left _ (by decide +kernel)
theorem heard_in2 {σ : Mm} : (2046953351, (0 : Int)) ∈ cells σ := List.mem_append_left _ (by decide +kernel)
section
variable {C : Cx} {p : Program} {e : Env} {R : Room} {s : State} {m : MethodId} {args : Array Value} {below : List Frame} {meth : Method} {c : Code} {H0 : Heap} {ce sl : Nat} {Q : State → Prop} {σ0 : Mm} {lv : Nat}
theorem gap_row (F : FX C p (cLa C) R s m args c H0 ce sl 4 cX2_addYes RX2 lv) (hlv : 3 ≤ lv) {n : Nat} (hn : n ≤ 240) (hroom : ce + 2 ≤ R.cells ∧ sl + 2 + n ≤ R.slots) {ls : List (Option Vv)} {st : List Vv} {σ : Mm} (hc : Mi σ 2046953351 0 1 = (n : Int)) (h0 : ls[0]? = some (some (vR 67239952 0))) (hcs : csum st ≤ 7)
    (hk : ∀ a : Nat, XJ C p (cLa C) e R s m args below meth c H0 (ce + 2) (sl + 2 + n) Q 4 σ0 61 ls (vR rg_row_cov (Mc σ) :: st) (nrow σ n a)) : XJ C p (cLa C) e R s m args below meth c H0 ce sl Q 4 σ0 47 ls st σ := by
  intro Ls H locs hL hw hH hS hE
  obtain ⟨⟨hx, hb⟩, ⟨hml, hown, hts, hK⟩, ⟨hX, hX1, hX2⟩, ⟨hv1, hv2, hv3⟩, hcs2, hl, hN⟩ := F
  obtain ⟨d47, d50, d51, d52, d55, d58⟩ := gr_t
  obtain ⟨w1, w2, w3, w4, w5, w6⟩ := gr_w
  have hq6 : vwCl[6]? = some (RX6, TX6, 2) := rfl
  have hq2 : vwCl[2]? = some (RX2, TX2, 9) := rfl
  obtain ⟨ty0, hty⟩ := cl_ty 6 _ hq6
  have hA : ∀ a : Nat, H0.size ≤ a → cBa C ≤ a := fun a ha => Nat.le_trans hX2 ha
  have hzb : cBa C ≤ H.size := Nat.le_trans hX2 hS.1
  refine nz_new2 (Ts := tbG) (T := TX6) (N := 2) (C := RX6) (ci := 6) (fs := cuF C 6 []) hx hb hts (cl_in 6 _ hq6) ty0 hty hown (hts _ w1) (hts _ w2) (hts _ w3) hK hH.1 hH.2.1 hS hA hq6 (CF_def hq6 hty) (by omega) (by omega) d47 (fun H1 z1 o1 hP1 hD1 hS1 => ?_)
  refine lv_dup hx hb d50 rfl ?_
  refine lv_aload_n hx hb d51 rfl (hL.2.2 0 _ h0) ?_
  obtain ⟨q0, -, hat0⟩ := wl_at (C := C) (σ := σ) cons_in
  rw [ent_o (by decide)] at hat0
  obtain ⟨q1, -, hat1⟩ := wl_at (C := C) (σ := σ) heard_in2
  rw [ent_o (by decide)] at hat1
  have ap : ∀ {q : Nat} {y : Nat × va_E}, (wl C σ)[q]? = some y → (wl C σ ++ [(H.size, Sum.inr (6, cuF C 6 []))])[q]? = some y := fun hy => by
    rw [List.getElem?_append_left (List.getElem?_eq_some_iff.mp hy).1]; exact hy
  refine va_get (Ts := tbG) (T := TX2) (N := 9) (C := RX2) hx hb hts (cl_in 2 _ hq2) hown hK hP1 q0 (ap hat0) hq2 8 (by decide) (hts _ w4) (fun _ w => w) (fv_at (q := (2, 2046953351)) (k := 8) rfl) d52 ?_
  refine va_get (Ts := tbG) (T := TX6) (N := 2) (C := RX6) hx hb hts (cl_in 6 _ hq6) hown hK hP1 q1 (ap hat1) hq6 1 (by decide) (hts _ w5) (fun _ w => w) (fv_at (q := (0, 0)) (k := 1) rfl) d55 ?_
  have hv : fval C σ 2046953351 0 (0, 0) 1 = .int (nI n) := by
    show Value.int (Int32.ofInt (Mi σ 2046953351 0 1)) = _
    rw [hc, nI_int]
  rw [hv]
  -- the constructor, over a base of its own
  obtain ⟨qe, lse, hrun⟩ := cm_row hn
  let C' : Cx := (C.1, H.size, C.2.2)
  have hmet := ig_met (C := C') (cm_snd C' 20) (id := 6) (as := [.inr 0, .inl n]) (hp := (1, [(0, 6, [])])) (sl := 0) (by decide) (show 2 ≤ cmL 6 from Nat.le_of_ble_eq_true rfl) hrun (show (2 : Nat) < 999999 from by decide)
  dsimp only at hmet
  have hcu : cuF C' 6 [] = cuF C 6 [] := rfl
  have hat6 : va_at (cDa C) vwCl (H.size, .inr (6, cuF C 6 [])) H1 := hP1 (wl C σ).length _ (by rw [List.getElem?_append_right (Nat.le_refl _), Nat.sub_self]; rfl)
  have hpre : PreS s H1 (PcI C' 6 [.inr 0, .inl n] (1, [(0, 6, [])])) (.ref H.size :: [.int (nI n)]) := by
    refine ⟨PcI_blind, fun U hU hW => ⟨rfl, rfl, fun k y hy => ?_, ⟨fun i j y z hi hj _ => ?_, fun k y hy => ?_⟩, by rw [hU]; exact z1, va_K.moved hW.alike hK, fun w => absurd rfl w, fun q hq => va_Nw.warmM hW (hN q hq)⟩⟩
    · rw [hU]
      have hk0 : k < 1 := (List.getElem?_eq_some_iff.mp hy).1
      rw [show k = 0 by omega] at hy
      cases hy
      exact hat6
    · have h1 : i < 1 := (List.getElem?_eq_some_iff.mp hi).1
      have h2 : j < 1 := (List.getElem?_eq_some_iff.mp hj).1
      omega
    · have hk0 : k < 1 := (List.getElem?_eq_some_iff.mp hy).1
      rw [show k = 0 by omega] at hy
      cases hy
      exact Nat.le_refl _
  obtain ⟨f1, f2, ⟨f3, f4, f5, f6, f6'⟩, f7⟩ := ig_f (id := 6) (by decide)
  obtain ⟨t1, t2, t3⟩ := ig_t (id := 6) (by decide)
  have hgi : GoodIn tbG (wsG (igD 6)) := gi_ws t1
  have hroom2 := room_G (R := R) (lv := lv) (g := igD 6) (mc := 1) (ms := n) (n := 0) ⟨hlv, by decide⟩ hv2 hv3
  have hrunI := va_runI (Ts := tbG) (nL := 4) (own := RX2) (b := H.size) (As := [.int (nI n)]) (rest := .ref H.size :: st.map (up C σ)) (g := F0 m 58 Ls (.int (nI n) :: .ref H.size :: .ref H.size :: st.map (up C σ))) (below := below) (meth := meth) (locs := locs) (e := e) (cells := ce + 1) (slots := sl + 2) ⟨hx, hb, hml, hown, hts⟩ hmet (cwI (ws' := tbG) 1 hts hgi rfl rfl rfl (hts _ t3) (hts _ w6) (hts _ t2) rfl ⟨f6, f6', by decide +kernel⟩ hroom2) hpre rfl rfl hL.1 rfl (lv_room (by rw [List.map_cons, List.sum_cons, csum_eq]; show 1 + csum st ≤ 8; omega)) d58 ⟨by omega, by omega⟩
  intro T hT X
  obtain ⟨v, st₀, t, T', L, hh, X', hLl, e1, e2, ⟨hvv, -, hPn, -, hzn, hF⟩, stp⟩ := hrunI T hT X
  cases hvv
  obtain ⟨hz2, hk2⟩ := hF
  rw [hh] at hz2 hk2
  have hold : ∀ q, q < H.size → T'.heap[q]? = H[q]? := fun q hq => by
    rw [e1, hk2 q (by omega) (by show ¬ (H.size ≤ q); omega)]
    exact o1 q hq
  have p1 : va_at (cDa C) vwCl (H.size, .inr (6, [.ref (H.size + 1), .int 0])) T'.heap := by rw [e1]; exact hPn 0 _ rfl
  have p2 : va_at (cDa C) vwCl (H.size + 1, .inl ((cTy C).1, n, .inl (fun _ => 0))) T'.heap := by rw [e1]; exact hPn 1 _ rfl
  have hS2 : va_S (fun q => cBa C ≤ q) H0 T'.heap (locs ++ L) := ⟨by rw [e1]; exact Nat.le_trans hS1.1 hz2, fun q h1 h2 => by
      rw [hold q (Nat.lt_of_lt_of_le h1 hS.1)]
      exact hS.2.1 q h1 h2, fun q hq => by
      rcases List.mem_append.mp hq with h | h
      · exact hS.2.2 q h
      · exact Nat.le_trans hzb (hLl q h)⟩
  have key := hk H.size Ls T'.heap (locs ++ L) (hL.ext nrow_ext hw.2) ⟨fun v hv => ?_, fun i v hi => wf_ext nrow_ext (hw.2 i v hi)⟩ (Hh_nrow hH hn hold hzb p1 p2) hS2 (hE.trans' nrow_ext)
  · rw [List.map_cons, map_ext nrow_ext hw.1, show up C (nrow σ n H.size) (vR rg_row_cov (Mc σ)) = .ref H.size from congrArg Value.ref ent_nr1.1] at key
    obtain ⟨t2, a1, b1⟩ := key T' rfl X'
    exact ⟨t2, stp t2 a1, b1⟩
  · rcases List.mem_cons.mp hv with rfl | hv
    · exact Or.inr (by rw [nrow_cells]; simp)
    · exact wf_ext nrow_ext (hw.1 v hv)
end
