/-! the machine of numbers: a constructor meets its words -/
def igC (id : Nat) : Bool := plainName (igD id).1.cls && chcA (igD id).1.cls true (cmL id) (igD id).2.2.2.2 (igD id).2.1 (cmC id) && decide (1 ≤ (igD id).2.2.2.2 ∧ cpc (cmC id) 0 = 0 ∧ (igD id).1.name = "<init>" ∧ (igD id).1.cls ≠ "java/lang/invoke/MethodHandle" ∧ (igD id).1.cls ≠ "java/lang/invoke/VarHandle") && (igD id).2.2.2.1.isNone
def igT (id : Nat) : Bool := decide (tbAt (igP.getD id (0, 0, 0)).1 = some (Jvm.Cond.code (igD id).1 (igD id).2.1 (igD id).2.2.1 none) ∧ tbAt (igP.getD id (0, 0, 0)).2.1 = some (Jvm.Cond.instanceMethod (igD id).1) ∧ tbAt (igP.getD id (0, 0, 0)).2.2 = some (Jvm.Cond.initialized (igD id).1.cls))
theorem igC_0 : igC 0 = true := by decide +kernel
theorem igC_1 : igC 1 = true := by decide +kernel
theorem igC_2 : igC 2 = true := by decide +kernel
theorem igC_3 : igC 3 = true := by decide +kernel
theorem igC_4 : igC 4 = true := by decide +kernel
theorem igC_5 : igC 5 = true := by decide +kernel
theorem igC_6 : igC 6 = true := by decide +kernel
theorem igC_7 : igC 7 = true := by decide +kernel
theorem igC_8 : igC 8 = true := by decide +kernel
theorem igC_9 : igC 9 = true := by decide +kernel
theorem igC_10 : igC 10 = true := by decide +kernel
theorem igC_11 : igC 11 = true := by decide +kernel
theorem igT_a : ((List.range 12).all igT) = true := by decide +kernel
theorem chcL : chcA "BookHouseLaw" false 4 10 code (cmC 12) = true := by decide +kernel
theorem igC_e {id : Nat} (h : id < 12) : igC id = true := by
  have : id = 0 ∨ id = 1 ∨ id = 2 ∨ id = 3 ∨ id = 4 ∨ id = 5 ∨ id = 6 ∨ id = 7 ∨ id = 8 ∨ id = 9 ∨ id = 10 ∨ id = 11 := by omega
  rcases this with rfl | rfl | rfl | rfl | rfl | rfl | rfl | rfl | rfl | rfl | rfl | rfl
  · exact igC_0
  · exact igC_1
  · exact igC_2
  · exact igC_3
  · exact igC_4
  · exact igC_5
  · exact igC_6
  · exact igC_7
  · exact igC_8
  · exact igC_9
  · exact igC_10
  · exact igC_11
theorem ig_f {id : Nat} (h : id < 12) : plainName (igD id).1.cls = true ∧ chcA (igD id).1.cls true (cmL id) (igD id).2.2.2.2 (igD id).2.1 (cmC id) = true ∧ (1 ≤ (igD id).2.2.2.2 ∧ cpc (cmC id) 0 = 0 ∧ (igD id).1.name = "<init>" ∧ (igD id).1.cls ≠ "java/lang/invoke/MethodHandle" ∧ (igD id).1.cls ≠ "java/lang/invoke/VarHandle") ∧ (igD id).2.2.2.1 = none := by
  have h1 := igC_e h
  unfold igC at h1
  simp only [Bool.and_eq_true, decide_eq_true_eq, Option.isNone_iff_eq_none] at h1
  exact ⟨h1.1.1.1, h1.1.1.2, h1.1.2, h1.2⟩
theorem ig_t {id : Nat} (h : id < 12) : Jvm.Cond.code (igD id).1 (igD id).2.1 (igD id).2.2.1 none ∈ tbG ∧ Jvm.Cond.instanceMethod (igD id).1 ∈ tbG ∧ Jvm.Cond.initialized (igD id).1.cls ∈ tbG := by
  have h1 := List.all_eq_true.mp igT_a id (List.mem_range.mpr h)
  obtain ⟨a, b, c⟩ := of_decide_eq_true h1
  exact ⟨tb_at a rfl, tb_at b rfl, tb_at c rfl⟩
def PcI (C : Cx) (id : Nat) (as : List Cv) (hp : Ch) : Array Value → State → Prop := fun a U => a = (as.map (cuV C)).toArray ∧ hp.1 = hp.2.length ∧ va_P (cDa C) vwCl (cuW C hp.2.reverse) U.heap ∧ va_D (fun q => cBa C ≤ q) (cuW C hp.2.reverse) ∧ U.heap.size = cBa C + hp.1 ∧ Kk C U ∧ ((igD id).1.cls ≠ "BookHouse$Row" → va_AO "BookHouse$Row" U) ∧ NwG U
def QcI (C : Cx) (hp : Ch) : Array Value → State → Outcome → State → Prop := fun _ st oc t => oc = .returned none ∧ hp.1 = hp.2.length ∧ va_P (cDa C) vwCl (cuW C hp.2.reverse) t.heap ∧ va_D (fun q => cBa C ≤ q) (cuW C hp.2.reverse) ∧ t.heap.size = cBa C + hp.1 ∧ va_F (fun q => cBa C ≤ q) st t
theorem PcI_blind {C : Cx} {id : Nat} {as : List Cv} {hp : Ch} : FrameBlind (PcI C id as hp) := fun a U g mk h => ⟨h.1, h.2.1, h.2.2.1, h.2.2.2.1, h.2.2.2.2.1, va_K.moved (u := U) (U := U.calling g mk a) (Vm.Alike.refl U.vm) h.2.2.2.2.2.1, fun w => va_AO.moved (u := U) (U := U.calling g mk a) (Vm.Alike.refl U.vm) (h.2.2.2.2.2.2.1 w), fun q hq => va_Nw.same rfl (show U.vm = (U.calling g mk a).vm from rfl) (h.2.2.2.2.2.2.2 q hq)⟩
section
variable {C : Cx} {p : Program} {l : Launch} {e : Env} {R : Room} {s : State} {m : MethodId} {args : Array Value} {below : List Frame} {meth : Method} {c : Code} {H0 : Heap} {n0 s0 : Nat} {Q : State → Prop} {nL lv : Nat} {cc : ByteArray} {own : String} {ini : Bool}
theorem ci_fin {hp' : Ch} {mc ms ce sl : Nat} {a : Array Value} {H : Heap} {locs : List Loc} {Ls : Array Slot} {pc : Nat} {st0 rest : List Value} (hr : va_Run p l e R s m args below meth c H locs ce sl mc ms (F0 m pc Ls st0) rest (QcI C hp' a) (fun q => cBa C ≤ q)) (hS : va_S (fun q => cBa C ≤ q) H0 H locs)
    (K : ∀ (H1 : Heap) (locs1 : List Loc), hp'.1 = hp'.2.length → va_P (cDa C) vwCl (cuW C hp'.2.reverse) H1 → va_D (fun q => cBa C ≤ q) (cuW C hp'.2.reverse) → H1.size = cBa C + hp'.1 → va_S (fun q => cBa C ≤ q) H0 H1 locs1 → W p l e R s m args below meth c H1 locs1 (ce + mc) (sl + ms) Q (F0 m (pc + 3) Ls rest)) : W p l e R s m args below meth c H locs ce sl Q (F0 m pc Ls st0) := by
  intro T hT X
  obtain ⟨v, st₀, t, T', L, h0, X', hL, e1, e2, ⟨hv, h1, hP, hD, hz, hF⟩, st⟩ := hr T hT X
  cases hv
  obtain ⟨hz2, hk2⟩ := hF
  rw [h0] at hz2 hk2
  obtain ⟨t2, a1, b1⟩ := K T'.heap (locs ++ L) h1 (by rw [e1]; exact hP) hD (by rw [e1]; exact hz)
    ⟨Nat.le_trans hS.1 (by rw [e1]; exact hz2), fun q h1 h2 => by rw [e1, hk2 q (Nat.lt_of_lt_of_le h1 hS.1) h2]; exact hS.2.1 q h1 h2, fun q hq => by
      rcases List.mem_append.mp hq with h | h
      · exact hS.2.2 q h
      · exact hL q h⟩ T' rfl X'
  exact ⟨t2, st t2 a1, b1⟩
end
/-- a run of the machine of numbers, sound, with so much fuel -/
def SndN (C : Cx) (n : Nat) : Prop := ∀ {p : Program} {l : Launch} {e : Env} {R : Room} {s : State} {m : MethodId} {args : Array Value} {below : List Frame} {meth : Method} {c : Code} {H0 : Heap} {n0 s0 : Nat} {Q : State → Prop} {nL lv : Nat} {cc : ByteArray} {own : String} {ini : Bool} {id q : Nat} {ls : List (Option Cv)} {st : List Cv} {hp : Ch} {sl : Nat} {r : Cr}, CX C p l R s m args meth c H0 nL lv cc own ini → chcA own ini nL lv cc (cmC id) = true → cm cmC cmL n id q ls st hp sl = some r → r.2.2.1.1 < 999999 → r.2.2.1.1 - n0 ≤ R.cells → r.2.2.2 - s0 ≤ R.slots → n0 ≤ hp.1 → s0 ≤ sl → CJ C p l e R s m args below meth c H0 n0 s0 Q nL (cpc (cmC id) r.1) r.2.1 [] r.2.2.1 r.2.2.2 → CJ C p l e R s m args below meth c H0 n0 s0 Q nL (cpc (cmC id) q) ls st hp sl
theorem ig_met {C : Cx} {n : Nat} (hS : SndN C n) {id : Nat} (hid : id < 12) {as : List Cv} {hp : Ch} {sl : Nat} {r : Cr} (hl : as.length ≤ cmL id) (h : cm cmC cmL n id 0 (as.map some ++ List.replicate (cmL id - as.length) none) [] hp sl = some r) (hb : r.2.2.1.1 < 999999) : Met (cLa C) (igD id).1 (wsG (igD id)) (rmG (igD id) (r.2.2.1.1 - hp.1) (r.2.2.2 - sl)) (PcI C id as hp) (QcI C r.2.2.1) (r.2.2.1.1 - hp.1) (r.2.2.2 - sl) (fun q => cBa C ≤ q) := by
  obtain ⟨f1, f2, ⟨f3, f4, f5, f6⟩, f7⟩ := ig_f hid
  refine Met.ofW (cc := (igD id).2.1) (maxL := cmL id) (ret := (igD id).2.2.2.1) f1 rfl ?_
  intro p e s m args below meth c s₁ Bd hml hP
  obtain ⟨rfl, h1, hPP, hDD, hz, hK, hAO, hN⟩ := hP
  have hts := atoms_spec (ws := wsG (igD id)) Bd.pre
  have hr := Bd.returns
  have hlocks := Bd.notSynchronized
  have X : CX C p (cLa C) (rmG (igD id) (r.2.2.1.1 - hp.1) (r.2.2.2 - sl)) s m (as.map (cuV C)).toArray meth c s.heap (cmL id) (igD id).2.2.2.2 (igD id).2.1 (igD id).1.cls true :=
    ⟨⟨Bd.exec, Bd.bytes⟩, ⟨hml, findClass_of_methodNamed Bd.named, fun w hw => hts w (List.mem_cons_of_mem _ hw), hK, hAO, hN⟩, fun _ => (name_of_methodNamed Bd.named Bd.method).1.trans f5, ⟨f3, Nat.le_refl _, Nat.le_refl _⟩, by omega, rfl⟩
  have key := hS (n0 := hp.1) (s0 := sl) (Q := MQ below (QcI C r.2.2.1) (as.map (cuV C)).toArray s (r.2.2.1.1 - hp.1) (r.2.2.2 - sl) (fun q => cBa C ≤ q)) (e := e) (below := below) X f2 h hb (Nat.le_refl _) (Nat.le_refl _) (Nat.le_refl _) (Nat.le_refl _) (by
    obtain ⟨i, hi, ho⟩ := cm_end h
    have hk := chcA_e f2 hi
    have e1 : cpc (cmC id) r.1 = i.1 := by unfold cpc; rw [hi]; rfl
    rw [e1]
    unfold chcI at hk
    rcases ho with ho | ho
    · rw [if_pos ho] at hk
      have d := of_decide_eq_true hk
      intro Ls H locs hL h1 hP hD hz hS
      exact W.vret X.1.1 X.1.2 (hr.trans f7) (fun t ht _ => ⟨rfl, h1, by rw [ht]; exact hP, hD, by rw [ht]; exact hz, hS.F ht⟩) hS.2.2 d
    · rw [if_neg (by omega), if_pos ho] at hk
      cases hk)
  rw [f4] at key
  have key2 := key _ s.heap [] (CLR_entry hl) h1 hPP hDD hz va_S.rf
  rw [Nat.sub_self, Nat.sub_self] at key2
  rw [lg_entry_eq]
  exact key2
