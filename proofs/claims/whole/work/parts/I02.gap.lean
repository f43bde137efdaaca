/-! calls that make cells; a method with a gap -/
section
variable {C : Cx} {p : Program} {l : Launch} {e : Env} {R : Room} {s : State} {m : MethodId} {args : Array Value} {below : List Frame} {meth : Method} {c : Code} {H0 : Heap} {ce sl : Nat} {Q : State → Prop} {σ0 : Mm} {nL lv : Nat} {cc : ByteArray} {own : String}
theorem call_finM {σ : Mm} {mc ms : Nat} {kq : Option Vv → Mm → Prop} {a : Array Value} {H : Heap} {locs : List Loc} {Ls : Array Slot} {pc : Nat} {st0 rest : List Value} (hr : va_Run p l e R s m args below meth c H locs ce sl mc ms (F0 m pc Ls st0) rest (QcG C σ kq a) (fun q => cBa C ≤ q)) (hS : va_S (fun q => cBa C ≤ q) H0 H locs)
    (K : ∀ (r : Option Vv) (σ' : Mm) (H1 : Heap) (locs1 : List Loc), kq r σ' → (∀ v, r = some v → wf σ' v) → Ext σ σ' → Hh C σ' H1 → va_S (fun q => cBa C ≤ q) H0 H1 locs1 → W p l e R s m args below meth c H1 locs1 (ce + mc) (sl + ms) Q (F0 m (pc + 3) Ls ((r.map (up C σ')).toList ++ rest))) : W p l e R s m args below meth c H locs ce sl Q (F0 m pc Ls st0) := by
  intro T hT X
  obtain ⟨v, st₀, t, T', L, h0, X', hL, e1, e2, ⟨r, σ', hv, hk, hw, hE, hH', hF⟩, st⟩ := hr T hT X
  cases hv
  obtain ⟨hz, hk2⟩ := hF
  rw [h0] at hz hk2
  obtain ⟨t2, a1, b1⟩ := K r σ' T'.heap (locs ++ L) hk hw hE (by rw [e1]; exact hH')
    ⟨Nat.le_trans hS.1 (by rw [e1]; exact hz), fun q h1 h2 => by rw [e1, hk2 q (Nat.lt_of_lt_of_le h1 hS.1) h2]; exact hS.2.1 q h1 h2, fun q hq => by
      rcases List.mem_append.mp hq with h | h
      · exact hS.2.2 q h
      · exact hL q h⟩ T' rfl X'
  exact ⟨t2, st t2 a1, b1⟩
theorem so_callVM (F : FX C p l R s m args c H0 ce sl nL cc own lv) {g : Sg} {mc ms : Nat} {pc ix n ci : Nat} {q : vw_C} {k : List (Option Vv) → List Vv → Option Vv → Mm → Prop} (hs : sigOk g lv n) (hroom : ce + mc ≤ R.cells ∧ sl + ms ≤ R.slots) (hq : vwCl[ci]? = some q) (hcl : q.1 = g.1.cls) (hlink : Jvm.Cond.methodLink own ix g.1 ∈ tbG) (hinst : Jvm.Cond.instanceMethod g.1 ∈ tbG) (hsel : Jvm.Cond.selects g.1.cls g.1 g.1 ∈ tbG) (d : decode cc pc = .ok (.invokevirtual ix, 3))
    (hk : ∀ ls st r σ, k ls st r σ → XJ C p l e R s m args below meth c H0 (ce + mc) (sl + ms) Q nL σ0 (pc + 3) ls (r.toList ++ st) σ) {ls : List (Option Vv)} {st : List Vv} {σ : Mm} (h : pN (n + 1) st [] fun as st => csum st ≤ 8 ∧ hdCls ci as ∧ OkG g mc ms as σ (k ls st)) : XJ C p l e R s m args below meth c H0 ce sl Q nL σ0 pc ls st σ := by
  obtain ⟨as, st', rfl, hn, hcs, hhd, h⟩ := pN_e h
  rw [List.append_nil] at hhd h
  intro Ls H locs hL hw hH hS hE0
  have hwa : ∀ v ∈ as, wf σ v := fun v hv => hw.1 v (List.mem_append_left _ (List.mem_reverse.mpr hv))
  have hwt : ∀ v ∈ st', wf σ v := fun v hv => hw.1 v (List.mem_append_right _ hv)
  have hpre := preS_G F hwa hH hS
  match as, hhd with
  | .inr (.inr (r, j)) :: as', hhd =>
    have hhd : isCls ci r := hhd
    obtain ⟨hcl2, h8⟩ := isCls_e hhd
    obtain ⟨q0, -, hat⟩ := wl_at (C := C) (wf_cell (hwa _ List.mem_cons_self) (by omega))
    rw [ent_o h8, hcl2] at hat
    obtain ⟨⟨hx, hb⟩, ⟨hml, hown, hts, hK⟩, -, ⟨hv1, hv2, hv3⟩, hcs2, hl, hN⟩ := F
    subst hl
    have hcb := callB_of (R := R) (rm := rmG g mc ms) (mc := mc) (ms := ms) n hts (gi_ws hs.1) rfl rfl rfl (hts _ hs.2.1) (hts _ hlink) hs.2.2.1 (room_G (n := 0) hs.2.2.2 hv2 hv3)
    have hrec := va_recv hK hH.1 hq hat
    rw [hcl] at hrec
    refine call_finM (σ := σ) (kq := k ls st') (va_runV (Ts := tbG) (nL := nL) (C := g.1.cls) (As := as'.map (up C σ)) (rest := st'.map (up C σ)) ⟨hx, hb, hml, hown, hts⟩ (h C) ⟨hcb, hts _ hinst, hts _ hsel⟩ ⟨hpre.1, hrec, hpre.2⟩ rfl (by simp at hn; simp [hn]) hL.1 (by show (List.map (up C σ) ((vR r j :: as').reverse ++ st')) = _; simp; rfl) (lv_room (by rw [csum_eq]; exact hcs)) d hroom) hS (fun r σ' H1 locs1 hkq hwr hE hH1 hS1 => ?_)
    have hk1 := hk ls st' r σ' hkq Ls H1 locs1 (hL.ext hE hw.2) ⟨fun v hv => ?_, fun i v hi => wf_ext hE (hw.2 i v hi)⟩ hH1 hS1 (hE0.trans' hE)
    · rw [List.map_append, map_ext hE hwt] at hk1
      cases r <;> exact hk1
    · rcases List.mem_append.mp hv with h | h
      · cases r with
        | none => simp at h
        | some w => simp at h; subst h; exact hwr _ rfl
      · exact wf_ext hE (hwt v h)
end
/-- a method with gaps, without loops: what is asked from the entry, and that a gap leads on -/
theorem okG_gap {id : Nat} {B : List (List In)} (hB : MkB id B) {mc ms : Nat} (Fu : Nat) {as : List Vv} {σ : Mm} {k : Option Vv → Mm → Prop} (K : Nat → Sx) (hlen : (entL as).length ≤ (sgD id).2.2.1)
    (h0 : xs (go B K k Fu) k (B.getD 0 []) (ent0 as (sgD id).2.2.1) [] σ)
    (hgap : ∀ (C : Cx) (p : Program) (e : Env) (s : State) (m : MethodId) (args : Array Value) (below : List Frame) (meth : Method) (c : Code) (H0 : Heap) (Q : State → Prop),
      FX C p (cLa C) (rmG (sgD id) mc ms) s m args c H0 0 0 (sgD id).2.2.1 (sgD id).2.1 (sgD id).1.cls (sgD id).2.2.2.2 →
      (∀ ce sl, ce ≤ mc → sl ≤ ms → ∀ b ls st σ', xs (go B (fun _ _ _ _ => False) k Fu) k (B.getD b []) ls st σ' → XJ C p (cLa C) e (rmG (sgD id) mc ms) s m args below meth c H0 ce sl Q (sgD id).2.2.1 σ (pcOf (B.getD b [])) ls st σ') →
      ∀ q ls st σ', 1000 ≤ q → K q ls st σ' → XJ C p (cLa C) e (rmG (sgD id) mc ms) s m args below meth c H0 0 0 Q (sgD id).2.2.1 σ (pcOf (B.getD (q % 1000) [])) ls st σ') : OkG (sgD id) mc ms as σ k := by
  intro C
  refine Met.ofW (cc := (sgD id).2.1) (maxL := (sgD id).2.2.1) (ret := (sgD id).2.2.2.1) hB.1 rfl ?_
  intro p e s m args below meth c s₁ Bd hml hP
  obtain ⟨rfl, hw, hH, hK, hX, hX1, hX2, hN⟩ := hP
  have hts := atoms_spec (ws := wsG (sgD id)) Bd.pre
  have hlocks := Bd.notSynchronized
  have hr := Bd.returns
  have FF : ∀ ce sl, ce ≤ mc → sl ≤ ms → FX C p (cLa C) (rmG (sgD id) mc ms) s m (as.map (up C σ)).toArray c s.heap ce sl (sgD id).2.2.1 (sgD id).2.1 (sgD id).1.cls (sgD id).2.2.2.2 := fun ce sl h1 h2 =>
    ⟨⟨Bd.exec, Bd.bytes⟩, ⟨hml, findClass_of_methodNamed Bd.named, fun w hw => hts w (List.mem_cons_of_mem _ hw), hK⟩, ⟨hX, hX1, hX2⟩, ⟨hB.2.2.1, Nat.le_refl _, Nat.le_refl _⟩, ⟨h1, h2⟩, rfl, hN⟩
  have hR : ∀ ce sl, ce ≤ mc → sl ≤ ms → ∀ pc ro σ', retOk (sgD id).2.2.2.1 (sgD id).2.1 pc ro → k ro σ' → RJ C p (cLa C) e (rmG (sgD id) mc ms) s m (as.map (up C σ)).toArray below meth c s.heap ce sl (MQ below (QcG C σ k) (as.map (up C σ)).toArray s mc ms (fun q => cBa C ≤ q)) σ pc ro σ' := by
    intro ce sl h1 h2 pc ro σ' hro hk Ls H locs hwr hH' hS hE
    have hq : ∀ t : State, t.heap = H → s.WarmedH t.vm → QcG C σ k (as.map (up C σ)).toArray s (.returned (ro.map (up C σ'))) t := fun t ht _ => ⟨ro, σ', rfl, hk, hwr, hE, by rw [ht]; exact hH', hS.F ht⟩
    refine W.widen h1 h2 ?_
    rcases hro with ⟨x, rfl, d, hret⟩ | ⟨x, hx, rfl, d, hret⟩ | ⟨x, rfl, d, hret⟩ | ⟨r, j, n, rfl, d, hret⟩ | ⟨rfl, d, hret⟩
    · exact W.iret (FF 0 0 (Nat.zero_le _) (Nat.zero_le _)).1.1 (FF 0 0 (Nat.zero_le _) (Nat.zero_le _)).1.2 (hr.trans hret) hq hS.2.2 d
    · exact W.zret (FF 0 0 (Nat.zero_le _) (Nat.zero_le _)).1.1 (FF 0 0 (Nat.zero_le _) (Nat.zero_le _)).1.2 (hr.trans hret) (by rcases hx with rfl | rfl <;> decide) hq hS.2.2 d
    · exact W.lret (FF 0 0 (Nat.zero_le _) (Nat.zero_le _)).1.1 (FF 0 0 (Nat.zero_le _) (Nat.zero_le _)).1.2 (hr.trans hret) hq hS.2.2 d
    · exact W.aret (FF 0 0 (Nat.zero_le _) (Nat.zero_le _)).1.1 (FF 0 0 (Nat.zero_le _) (Nat.zero_le _)).1.2 (hr.trans hret) (Or.inl ⟨n, rfl⟩) (Or.inr ⟨_, rfl⟩) hq hS.2.2 d
    · exact W.vret (FF 0 0 (Nat.zero_le _) (Nat.zero_le _)).1.1 (FF 0 0 (Nat.zero_le _) (Nat.zero_le _)).1.2 (hr.trans hret) hq hS.2.2 d
  have hck := hB.2.1
  have base : ∀ ce sl (h1 : ce ≤ mc) (h2 : sl ≤ ms) {K : Nat → Sx}, (∀ b ls st σ', 1000 ≤ b → K b ls st σ' → XJ C p (cLa C) e (rmG (sgD id) mc ms) s m (as.map (up C σ)).toArray below meth c s.heap ce sl (MQ below (QcG C σ k) (as.map (up C σ)).toArray s mc ms (fun q => cBa C ≤ q)) (sgD id).2.2.1 σ (pcOf (B.getD (b % 1000) [])) ls st σ') → ∀ b ls st σ', xs (go B K k Fu) k (B.getD b []) ls st σ' → XJ C p (cLa C) e (rmG (sgD id) mc ms) s m (as.map (up C σ)).toArray below meth c s.heap ce sl (MQ below (QcG C σ k) (as.map (up C σ)).toArray s mc ms (fun q => cBa C ≤ q)) (sgD id).2.2.1 σ (pcOf (B.getD b [])) ls st σ' := fun ce sl h1 h2 {K} hK b ls st σ' h =>
    chkL_sound (FF ce sl h1 h2) (bp := fun b => pcOf (B.getD (b % 1000) [])) (go_sound (FF ce sl h1 h2) hck hK (hR ce sl h1 h2) Fu) (hR ce sl h1 h2) (chkB_e hck b) ls st σ' h
  have hg := hgap C p e s m (as.map (up C σ)).toArray below meth c s.heap (MQ below (QcG C σ k) (as.map (up C σ)).toArray s mc ms (fun q => cBa C ≤ q)) (FF 0 0 (Nat.zero_le _) (Nat.zero_le _)) (fun ce sl h1 h2 => base ce sl h1 h2 (fun _ _ _ _ _ h => h.elim))
  have key := base 0 0 (Nat.zero_le _) (Nat.zero_le _) hg 0 _ [] σ h0
  have e0 : pcOf (B.getD 0 []) = 0 := hB.2.2.2
  rw [e0] at key
  rw [lg_entry_eq]
  exact key _ s.heap [] (ent0_LR hlen) ⟨(fun v hv => by cases hv), ent0_wf hw C⟩ hH va_S.rf (Ext.rfl' σ)
