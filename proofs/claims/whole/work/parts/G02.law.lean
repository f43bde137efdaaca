/-! the law: a call of the class, the same of the check -/
def nrm (x : Int) : Int := (Int32.ofInt x).toInt
theorem nrm_ir {x : Int} : IR (nrm x) := by
  unfold nrm IR
  have h1 := Int32.le_toInt (Int32.ofInt x)
  have h2 := Int32.toInt_lt (Int32.ofInt x)
  omega
theorem OkI_nrm {id : Nat} {as : List Vv} {σ : Mm} {k : Int → Mm → Prop} (h : OkI id as σ (fun x σ' => k (nrm x) σ')) : OkI id as σ (fun x σ' => IR x ∧ k x σ') := by
  intro C p e ha hc hd s m args below hf hap hP hK
  obtain ⟨n, o, h1, h2, h3, hQ, hF⟩ := h C p e ha hc hd s m args below hf hap hP hK
  obtain ⟨r, σ', q1, q2, q3⟩ := hQ
  obtain ⟨x, rfl, hx⟩ := q2
  have e : Int32.ofInt (nrm x) = Int32.ofInt x := Int32.ofInt_toInt _
  refine ⟨n, o, h1, h2, h3, ⟨some (vI (nrm x)), σ', ?_, ⟨nrm x, rfl, nrm_ir, hx⟩, fun v hv => by cases hv; trivial, q3.2⟩, hF⟩
  rw [q1]
  show Outcome.returned (some (Value.int (Int32.ofInt x))) = Outcome.returned (some (Value.int (Int32.ofInt (nrm x))))
  rw [e]
/-- what stays: the script -/
def lwF (σ σ' : Mm) : Prop := Mi σ' 262134 = Mi σ 262134 ∧ Mn σ' (-1) = Mn σ (-1)
def LwS (idx idm : Nat) (as : List Vv) (σ : Mm) : Prop := ∀ k : Mm → Prop, (∀ σ2, lwF σ σ2 → mI σ2 → XR σ2 σ2 → k σ2) → OkI idx (vR 16908368 0 :: as) σ (fun r σ1 => IR r ∧ lwF σ σ1 ∧ OkI idm (vR 184680536 0 :: as) σ1 (fun r2 σ2 => r2 = r ∧ k σ2))
theorem lw_mk {idx idm : Nat} {as : List Vv} {σ : Mm} {k : Mm → Prop} (h : OkI idx (vR 16908368 0 :: as) σ (fun r σ1 => lwF σ σ1 ∧ OkI idm (vR 184680536 0 :: as) σ1 (fun r2 σ2 => r2 = r ∧ k σ2))) : OkI idx (vR 16908368 0 :: as) σ (fun r σ1 => IR r ∧ lwF σ σ1 ∧ OkI idm (vR 184680536 0 :: as) σ1 (fun r2 σ2 => r2 = r ∧ k σ2)) :=
  OkI_nrm (k := fun r σ1 => lwF σ σ1 ∧ OkI idm (vR 184680536 0 :: as) σ1 (fun r2 σ2 => r2 = r ∧ k σ2)) (OkI_mono h (fun r σ1 h => ⟨h.1, OkI_mono (OkI_nrm (k := fun r2 σ2 => r2 = nrm r ∧ k σ2) (OkI_mono h.2 (fun r2 σ2 h2 => ⟨by rw [h2.1], h2.2⟩))) (fun r2 σ2 h2 => h2.2)⟩))
theorem xFr_same {σ σ' : Mm} (h : xFr σ σ') : same [] [] σ σ' := by
  have g : ∀ a ∈ perM, a ∉ xEv := by decide
  refine ⟨fun a ha _ => ⟨(h.1 a (g a ha)).1, (h.1 a (g a ha)).2.1⟩, fun f _ _ => ?_⟩
  rw [(h.1 184680536 (by decide)).1]
theorem xFr_lw {σ σ' : Mm} (h : xFr σ σ') : lwF σ σ' := ⟨(h.1 262134 (by decide)).1, h.2⟩
theorem mFr_lw {σ σ' : Mm} (h : mFr σ σ') : lwF σ σ' := ⟨h.i _ rfl, by rw [h.2.1]⟩
theorem lwF_trans {a b c : Mm} (h1 : lwF a b) (h2 : lwF b c) : lwF a c := ⟨h2.1.trans h1.1, h2.2.trans h1.2⟩
theorem lw_w {idx idm : Nat} {as : List Vv} {σ : Mm} {o : Mm → Int → Mm → Prop} (hI : mI σ) (hR : XR σ σ) (hx : ∀ k, kX σ σ (o σ) k → OkI idx (vR 16908368 0 :: as) σ k) (hm : ∀ τ k, mI τ → kM τ (o τ) k → OkI idm (vR 184680536 0 :: as) τ k) (hs : ∀ τ r μ, same [] [] σ τ → o τ r μ → o σ r μ) : LwS idx idm as σ := fun k hk => lw_mk
  (hx _ (fun r σ1 hF ho => ⟨xFr_lw hF, hm σ1 _ (mI_same (xFr_same hF) hI) (fun r2 σ2 ho2 hF2 hI2 => by
    have g := ho r2 σ2 (hs σ1 r2 σ2 (xFr_same hF) ho2)
    exact ⟨g.1, hk σ2 (lwF_trans (xFr_lw hF) (mFr_lw hF2)) hI2 (XR_fr hF2 (by decide) g.2)⟩)⟩))
theorem sc_xFr {σ σ' : Mm} (h : Fr scX σ σ') : xFr σ σ' := xFr_of h (by decide)
theorem lw_a {idx idm : Nat} {as : List Vv} {σ : Mm} {a : Mm → Int} (hI : mI σ) (hR : XR σ σ) (hx : ∀ k, (∀ σ', Fr scX σ σ' → XR σ' σ → k (a σ) σ') → OkI idx (vR 16908368 0 :: as) σ k) (hm : ∀ τ k, mI τ → kM τ (fun r σ' => r = a τ ∧ same [] [] τ σ') k → OkI idm (vR 184680536 0 :: as) τ k) (hs : ∀ τ, same [] [] σ τ → a τ = a σ) : LwS idx idm as σ := fun k hk => lw_mk
  (hx _ (fun σ1 hF hR1 => ⟨xFr_lw (sc_xFr hF), hm σ1 _ (mI_same (xFr_same (sc_xFr hF)) hI) (fun r2 σ2 ho2 hF2 hI2 => by
    have h1 := xFr_same (sc_xFr hF)
    exact ⟨ho2.1.trans (hs σ1 h1), hk σ2 (lwF_trans (xFr_lw (sc_xFr hF)) (mFr_lw hF2)) hI2 (XR_m (same_trans h1 ho2.2) (XR_fr hF2 (by decide) hR1))⟩)⟩))
/-! more that is the same -/
theorem sm_wanted {σ σ1 : Mm} (h : same [] [] σ σ1) (f t : Int) : wanted σ1 f t = wanted σ f t := by funext c; unfold wanted; rw [h.l 1140981811 rfl rfl]
theorem sm_stH {σ σ1 : Mm} (h : same [] [] σ σ1) : stH σ1 = stH σ := by funext B t p; unfold stH; rw [sm_mbW h, sm_mLd h]
theorem sm_unT {σ σ1 : Mm} (h : same [] [] σ σ1) (q t i : Int) : unT σ1 q t i ↔ unT σ q t i := by
  unfold unT
  rw [h.i 1644298625 rfl rfl, h.i 1661078529 rfl rfl, h.i 1694629937 rfl rfl, h.i 1677852721 rfl rfl, h.i 1711407153 rfl rfl]
theorem sm_unH {σ σ1 : Mm} (h : same [] [] σ σ1) : unH σ1 = unH σ := by
  funext B t p
  unfold unH
  rw [sm_mLd h, h.f 54 rfl rfl]
  congr 1
  exact congrArg pb (propext (sm_unT h _ _ _))
theorem sm_bestO {σ σ1 : Mm} (h : same [] [] σ σ1) : bestO σ1 = bestO σ := by
  funext B t p
  unfold bestO
  have : cstB σ1 B p = cstB σ B p := by
    funext q
    unfold cstB
    rw [h.i 1476526881 rfl rfl, h.i 1661078529 rfl rfl, h.i 1124208385 rfl rfl, h.i 1644298625 rfl rfl, h.i 1107427809 rfl rfl]
  rw [this, h.i 1627521217 rfl rfl, h.f 50 rfl rfl]
theorem sm_clP {σ σ1 : Mm} (h : same [] [] σ σ1) : clP σ1 = clP σ := by
  funext a b p
  unfold clP clK
  rw [h.i 973210081 rfl rfl, h.i 1023541729 rfl rfl, h.f 10 rfl rfl]
theorem sm_edB {σ σ1 : Mm} (h : same [] [] σ σ1) (e : Int) : edB σ1 e = edB σ e := by unfold edB; rw [h.l 1744961587 rfl rfl, same_allB h]
theorem sm_edE {σ σ1 : Mm} (h : same [] [] σ σ1) (e : Int) : edE σ1 e = edE σ e := by unfold edE; rw [sm_edB h, same_lastE h, h.i 1761738801 rfl rfl, h.i 1778516017 rfl rfl, h.i 1795293233 rfl rfl]
theorem sm_edN {σ σ1 : Mm} (h : same [] [] σ σ1) (e : Int) : edN σ1 e = edN σ e := by unfold edN; rw [sm_edB h, same_nrE h, h.i 1761738801 rfl rfl, h.i 1778516017 rfl rfl, h.i 1795293233 rfl rfl]
theorem sm_edS {σ σ1 : Mm} (h : same [] [] σ σ1) (e : Int) : edS σ1 e = edS σ e := by unfold edS; rw [sm_edB h, sm_edE h]
theorem sm_edR1 {σ σ1 : Mm} (h : same [] [] σ σ1) (e : Int) : edR1 σ1 e = edR1 σ e := by unfold edR1; rw [sm_edB h, sm_edN h, same_mkE h, h.i 1761738801 rfl rfl, h.i 1778516017 rfl rfl, h.i 1795293233 rfl rfl]
theorem sm_edP {σ σ1 : Mm} (h : same [] [] σ σ1) (e : Int) : edP σ1 e = edP σ e := by unfold edP; rw [sm_edB h, same_pgL h, h.i 1761738801 rfl rfl, h.i 1778516017 rfl rfl, h.i 1795293233 rfl rfl]
theorem sm_edBf {σ σ1 : Mm} (h : same [] [] σ σ1) (e p : Int) : edBf σ1 e p = edBf σ e p := by unfold edBf; rw [sm_edB h, sm_edE h]
theorem sm_onHit {σ σ1 : Mm} (h : same [] [] σ σ1) (e w : Int) : onHit σ1 e w = onHit σ e w := by
  funext on
  unfold onHit
  simp only [sm_edB h, sm_edE h, sm_edBf h, same_mSay h, h.i 1073873377 rfl rfl, h.i 1761738801 rfl rfl]
theorem sm_elsB {σ σ1 : Mm} (h : same [] [] σ σ1) (e s : Int) : elsB σ1 e s = elsB σ e s := by
  funext p
  unfold elsB
  rw [sm_edB h, sm_edP h, same_mSet h, same_allB h, same_pgL h, h.i 1761738801 rfl rfl, h.i 1778516017 rfl rfl, h.i 1795293233 rfl rfl]
theorem sm_tlV {σ σ1 : Mm} (h : same [] [] σ σ1) (B : Bk) (t w hh p : Int) : tlV σ1 B t w hh p = tlV σ B t w hh p := by unfold tlV; rw [same_pgL h, h.i 1073873377 rfl rfl]
theorem sm_rchB {σ σ1 : Mm} (h : same [] [] σ σ1) (e s w : Int) : rchB σ1 e s w = rchB σ e s w := by
  funext p
  unfold rchB
  simp only [sm_elsB h, sm_edB h, same_mSet h, same_allB h, same_mSay h, sm_tlV h, h.i 1073873377 rfl rfl, h.i 1761738801 rfl rfl, h.i 1778516017 rfl rfl, h.i 1795293233 rfl rfl]
theorem sm_lsF {σ σ1 : Mm} (h : same [] [] σ σ1) (e s : Int) : ∀ n : Nat, lsF σ1 e s n = lsF σ e s n
  | 0 => rfl
  | n + 1 => by
    have ih := sm_lsF h e s n
    unfold lsF
    rw [ih, sm_elsB h, sm_edB h, sm_edP h]
theorem sm_metB {σ σ1 : Mm} (h : same [] [] σ σ1) : metB σ1 = metB σ := funext (same_metB h)
theorem sm_isP {σ σ1 : Mm} (h : same [] [] σ σ1) (p : Int) : isP σ1 p ↔ isP σ p := by
  unfold isP
  rw [h.i 973210081 rfl rfl, h.f 10 rfl rfl]
