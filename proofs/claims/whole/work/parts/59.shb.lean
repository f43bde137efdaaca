/-! the check: a sheet, what stands through its rounds -/
abbrev scrZ : List Nat := [1963065825, 1946289089, 1812071362, 1828848577, 1845632513, 1979842641, 1996619865, 1895957441, 1912743297, 1929520513, 1862403009, 1879180225, 1459749345, 184680536, 1208091105, 1409417697, 1224868322, 1241645538, 1258422753, 1275199977, 1291977185, 1308754401, 1325531617, 1342312193, 1359089409, 1375863265, 1392640481, 1426194497, 1442971713]
def outZ (σ σ' : Mm) : Prop := ∀ f, f ≠ 80 → f ≠ 81 → f ≠ 73 → f ≠ 74 → f ≠ 75 → f ≠ 76 → f ≠ 78 → f ≠ 33 → f ≠ 71 → f ≠ 72 → Mi σ' 184680536 0 f = Mi σ 184680536 0 f
/-- the other sheet stays -/
def outS (σ σ' : Mm) (e : Int) : Prop := outR (Mi σ 1812071362 0) (Mi σ' 1812071362 0) (60 * e) (60 * e + 60) ∧ outR (Mi σ 1828848577 0) (Mi σ' 1828848577 0) (60 * e) (60 * e + 60) ∧ outR (Mi σ 1845632513 0) (Mi σ' 1845632513 0) (480 * e) (480 * e + 480) ∧ outR (Mi σ 1895957441 0) (Mi σ' 1895957441 0) (60 * e) (60 * e + 60) ∧ outR (Mi σ 1862403009 0) (Mi σ' 1862403009 0) (60 * e) (60 * e + 60) ∧ outR (Mi σ 1879180225 0) (Mi σ' 1879180225 0) (60 * e) (60 * e + 60) ∧ outR (Mi σ 1912743297 0) (Mi σ' 1912743297 0) (600 * e) (600 * e + 600) ∧ outR (Mi σ 1929520513 0) (Mi σ' 1929520513 0) (600 * e) (600 * e + 600) ∧ outR (Mi σ 1946289089 0) (Mi σ' 1946289089 0) (60 * e) (60 * e + 60)
theorem outR_trans {f g h : Int → Int} {a b : Int} (h1 : outR f g a b) (h2 : outR g h a b) : outR f h a b := fun x hx => (h2 x hx).trans (h1 x hx)
theorem outR_rfl {f g : Int → Int} {a b : Int} (h : g = f) : outR f g a b := fun x _ => by rw [h]
def shB (σ σ' : Mm) (e t : Int) (B : Bk) : Prop := Fr scrZ σ σ' ∧ outZ σ σ' ∧ outS σ σ' e ∧ MBc σ' B ∧ (Mi σ' 184680536 0 33) = (readL B).length ∧ arL (Mi σ' 1459749345 0) (readL B) ∧ onOk σ' e B 60 ∧ shOk σ σ' e t B (readL B)
theorem onOk_eq {σ σ' : Mm} {e n : Int} {B : Bk} (h : Mi σ' 1812071362 = Mi σ 1812071362) (ho : onOk σ e B n) : onOk σ' e B n := by unfold onOk at ho ⊢; rw [h]; exact ho
theorem shOk_eq {σ0 σ σ' : Mm} {e t : Int} {B : Bk} {l : List Int} (h : Mi σ' 1828848577 = Mi σ 1828848577) (h2 : Mi σ' 1845632513 = Mi σ 1845632513) (ho : shOk σ0 σ e t B l) : shOk σ0 σ' e t B l := by unfold shOk at ho ⊢; rw [h, h2]; exact ho
theorem MBc_fr {σ σ' : Mm} {B : Bk} (hi : ∀ a ∈ 1409417697 :: 1107427809 :: 1124208385 :: scrA, Mi σ' a = Mi σ a) (h : MBc σ B) : MBc σ' B := ⟨MB_fr (fun a ha => hi a (List.mem_cons_of_mem _ ha)) h.1, by rw [hi _ List.mem_cons_self]; exact h.2⟩
/-- a round leaves it so -/
theorem shB_round {σ σ' σ2 : Mm} {e t : Int} {B : Bk} {E : En} {R : List Int} (h : shB σ σ' e t B) (hr : rInv σ' σ2 e E R R) : shB σ σ2 e t B := by
  obtain ⟨a1, a2, ⟨s1, s2, s3, s4, s5, s6', s7, s8, s9⟩, a4, a5, a6, a7, a8⟩ := h
  obtain ⟨g1, g2, g3, g4, g5, g6, g7, g8, g9, g10, g11⟩ := hr
  refine ⟨a1.trans' (g1.mono (by decide)), fun f q1 q2 q3 q4 q5 q6 q7 q8 q9 q10 => (g2 f q1 q2 q3 q4 q5 q6 q7).trans (a2 f q1 q2 q3 q4 q5 q6 q7 q8 q9 q10), ⟨outR_trans s1 (outR_rfl (by rw [g1.i _ rfl])), outR_trans s2 (outR_rfl (by rw [g1.i _ rfl])), outR_trans s3 (outR_rfl (by rw [g1.i _ rfl])), outR_trans s4 g7, outR_trans s5 g8, outR_trans s6' g9, outR_trans s7 g10, outR_trans s8 g11, outR_trans s9 (outR_rfl (by rw [g1.i _ rfl]))⟩, MBc_fr (fun a ha => g1.i a (by revert a ha; decide)) a4, by rw [g2 _ (by decide) (by decide) (by decide) (by decide) (by decide) (by decide) (by decide)]; exact a5, by rw [g1.i _ rfl]; exact a6, onOk_eq (g1.i _ rfl) a7, shOk_eq (g1.i _ rfl) (g1.i _ rfl) a8⟩
/-- rounds, goesRound, pagesWere written -/
theorem shB_m {σ σ' : Mm} {e t v : Int} {B : Bk} {f : Int} (hf : f = 71 ∨ f = 72) (h : shB σ σ' e t B) : shB σ (sI σ' 184680536 0 f v) e t B := by
  obtain ⟨a1, a2, a3, a4, a5, a6, a7, a8⟩ := h
  have e0 : ∀ a, (Nat.beq a 184680536) = false → Mi (sI σ' 184680536 0 f v) a = Mi σ' a := fun a h => Mi_n h
  refine ⟨Fr.sI (by decide) a1, fun g q1 q2 q3 q4 q5 q6 q7 q8 q9 q10 => ?_, ?_, MBc_fr (fun a ha => e0 a (by revert a ha; decide)) a4, ?_, by rw [e0 _ rfl]; exact a6, onOk_eq (e0 _ rfl) a7, shOk_eq (e0 _ rfl) (e0 _ rfl) a8⟩
  · rw [Mi_s, upd1_n (by rcases hf with rfl | rfl <;> assumption)]; exact a2 g q1 q2 q3 q4 q5 q6 q7 q8 q9 q10
  · unfold outS at a3 ⊢
    rw [e0 _ rfl, e0 _ rfl, e0 _ rfl, e0 _ rfl, e0 _ rfl, e0 _ rfl, e0 _ rfl, e0 _ rfl, e0 _ rfl]
    exact a3
  · rw [Mi_s, upd1_n (by rcases hf with rfl | rfl <;> decide)]; exact a5
theorem shB_pw {σ σ' : Mm} {e t v x : Int} {B : Bk} (h : shB σ σ' e t B) : shB σ (sI σ' 1963065825 0 x v) e t B := by
  obtain ⟨a1, a2, a3, a4, a5, a6, a7, a8⟩ := h
  have e0 : ∀ a, (Nat.beq a 1963065825) = false → Mi (sI σ' 1963065825 0 x v) a = Mi σ' a := fun a h => Mi_n h
  refine ⟨Fr.sI (by decide) a1, fun g q1 q2 q3 q4 q5 q6 q7 q8 q9 q10 => by rw [e0 _ rfl]; exact a2 g q1 q2 q3 q4 q5 q6 q7 q8 q9 q10, ?_, MBc_fr (fun a ha => e0 a (by revert a ha; decide)) a4, by rw [e0 _ rfl]; exact a5, by rw [e0 _ rfl]; exact a6, onOk_eq (e0 _ rfl) a7, shOk_eq (e0 _ rfl) (e0 _ rfl) a8⟩
  unfold outS at a3 ⊢
  rw [e0 _ rfl, e0 _ rfl, e0 _ rfl, e0 _ rfl, e0 _ rfl, e0 _ rfl, e0 _ rfl, e0 _ rfl, e0 _ rfl]
  exact a3
theorem shB_tl {σ σ' : Mm} {e t v x : Int} {B : Bk} (hx : 60 * e ≤ x ∧ x < 60 * e + 60) (h : shB σ σ' e t B) : shB σ (sI σ' 1946289089 0 x v) e t B := by
  obtain ⟨a1, a2, a3, a4, a5, a6, a7, a8⟩ := h
  have e0 : ∀ a, (Nat.beq a 1946289089) = false → Mi (sI σ' 1946289089 0 x v) a = Mi σ' a := fun a h => Mi_n h
  refine ⟨Fr.sI (by decide) a1, fun g q1 q2 q3 q4 q5 q6 q7 q8 q9 q10 => by rw [e0 _ rfl]; exact a2 g q1 q2 q3 q4 q5 q6 q7 q8 q9 q10, ?_, MBc_fr (fun a ha => e0 a (by revert a ha; decide)) a4, by rw [e0 _ rfl]; exact a5, by rw [e0 _ rfl]; exact a6, onOk_eq (e0 _ rfl) a7, shOk_eq (e0 _ rfl) (e0 _ rfl) a8⟩
  unfold outS at a3 ⊢
  rw [e0 _ rfl, e0 _ rfl, e0 _ rfl, e0 _ rfl, e0 _ rfl, e0 _ rfl, e0 _ rfl, e0 _ rfl]
  obtain ⟨b1, b2, b3, b4, b5, b6, b7, b8, b9⟩ := a3
  exact ⟨b1, b2, b3, b4, b5, b6, b7, b8, fun y hy => by rw [Mi_s, upd1_n (by omega)]; exact b9 y hy⟩
/-- what is said is short, and words -/
theorem mSay_rng {σ : Mm} {B : Bk} {t p : Int} (hs : spkOk σ B) (hP : pairS σ) (hp : 0 ≤ p ∧ p < 60) : (mSay σ B t p).length ≤ 8 ∧ ∀ x ∈ mSay σ B t p, 0 ≤ x ∧ x < 100 := by
  obtain ⟨w1, w2⟩ := MB_wk hs hp
  unfold mSay
  split
  · refine ⟨by rw [mbW, bWd_len]; omega, fun x hx => ?_⟩
    obtain ⟨i, hi, rfl⟩ := List.mem_map.mp hx
    have := List.mem_range.mp hi
    have := w2 i (by omega) (by omega)
    omega
  · rename_i hl
    have hq := mLd_q hl
    have rg := prF_rng (tg := (Mi σ 1627521217 0)) (pp := (Mi σ 1610744001 0)) (t := t) (p := p) (n := ((Mi σ 184680536 0 50)).toNat)
    have p24 := hP.1.1
    have h2 := (hP.1.2.1 (mLd σ B t p) (by omega) (by omega)).2.2 1 (by omega) (by omega)
    refine ⟨by rw [mpW, pwL_len]; omega, fun x hx => ?_⟩
    obtain ⟨i, hi, rfl⟩ := List.mem_map.mp hx
    have := List.mem_range.mp hi
    exact hP.1.2.2.1 (mLd σ B t p) 1 i (by omega) (by omega) (by omega) (by omega) (by omega) (by omega)
theorem widL_eq {f g : Int → Int} {x : Int} {L : List Int} (h1 : f x = L.length) (h2 : arL (fun i => g (8 * x + i)) L) : widL f g x = L.map (fun y => 1 + y % 7) := by
  unfold widL
  apply List.ext_getElem
  · simp; omega
  · intro i h3 h4
    simp at h3 h4
    have := h2 i L[i] (List.getElem?_eq_getElem h4)
    simp
    rw [show g (8 * x + i) = L[i] from this]
theorem dig_rng {v : Int} : 1 ≤ dig v ∧ dig v ≤ 3 := by unfold dig; split; omega; split <;> omega
def mkE (σ : Mm) (B : Bk) (t w h : Int) : (Int → Int) → En := envB (Mi σ 1073873377 0) (Mi σ 1090650593 0) B (mSay σ B t) w h
/-- all is ready for a round -/
theorem rdy_of {σ σ' : Mm} {e t w h : Int} {s : Int64} {r : Nat} (hl : logM σ) (hx : logX σ) (hP : pairS σ) (hw : 10 ≤ w ∧ w ≤ 60) (hh : 10 ≤ h ∧ h ≤ 20) (he : 0 ≤ e ∧ e < 2) (hb : shB σ σ' e t (allB σ s)) (hr : (Mi σ' 184680536 0 71) = r + 1) (hr9 : r ≤ 9)
    (hpw : r ≠ 0 → ∀ p ∈ readL (allB σ s), (Mi σ' 1963065825 0) p = rpE (mkE σ (allB σ s) t w h) (readL (allB σ s)) r p ∧ 1 ≤ rpE (mkE σ (allB σ s) t w h) (readL (allB σ s)) r p ∧ rpE (mkE σ (allB σ s) t w h) (readL (allB σ s)) r p ≤ 1000) : rdy σ' e (allB σ s) (mkE σ (allB σ s) t w h (rpE (mkE σ (allB σ s) t w h) (readL (allB σ s)) r)) (readL (allB σ s)) := by
  obtain ⟨a1, a2, a3, a4, a5, a6, a7, a8⟩ := hb
  obtain ⟨ok, hs, hB⟩ := allB_ok hl s
  have hv := fun p => allB_v hl hx (s := s) (p := p)
  generalize hrp : rpE (mkE σ (allB σ s) t w h) (readL (allB σ s)) r = g at hpw ⊢
  generalize allB σ s = B at *
  have hrr : ∀ x ∈ readL B, (0 ≤ x ∧ x < 60) ∧ B.1 0 x = 1 := fun x hx => by have := ((readL_mem ok).mp hx).1; exact ⟨ok.2.1 x this, this⟩
  refine ⟨a4.1, ok, a5, a6, readL_nodup ok, readL_len ok, hw, hh, by rw [hr]; exact (by first | omega | (unfold IR; omega)), fun p hp => ?_⟩
  have hpp := hrr p hp
  have eso : Mi σ' 1073873377 = Mi σ 1073873377 := a1.i _ rfl
  have ehi : Mi σ' 1090650593 = Mi σ 1090650593 := a1.i _ rfl
  have hMp := a4.1.1 p hpp.1.1 hpp.1.2
  have hxp := hx p (hB p hpp.2).1.1 (hB p hpp.2).1.2
  have hx4 := hxp.2.2.2.1 (hB p hpp.2).2
  have hvp := hv p
  have htl : tlP (Mi σ' 1073873377 0) (Mi σ' 1392640481 0) B p ↔ tlb (Mi σ 1073873377 0) B p = true := by
    rw [tlb_iff]; unfold tlP; rw [hMp.2.2.2.1, eso]
  have hsay := mSay_rng (t := t) hs hP hpp.1
  have h8 := (a8 p hpp.1.1 hpp.1.2).2 hp
  refine ⟨⟨hpp.1, by rw [eso]; exact hx4.1, by rw [eso]; rfl, by rw [ehi]; rfl, by rw [hMp.2.2.1]; rfl, by rw [eso, ehi]; exact hx4.2, by rw [hMp.2.2.1]; exact hvp.1⟩, fun hso => ⟨by rw [hMp.2.2.2.1]; exact hvp.2.1, fun q1 q2 => ?_, by rw [h8.1]; omega, fun i i0 i1 => ?_, fun q => ?_, fun q => ?_, ?_, fun x hx => ?_⟩⟩
  · have hti : sn B ((Mi σ' 1392640481 0) p) := q2.2.2
    have := hpw (by omega) _ ((readL_mem ok).mpr hti)
    rw [this.1]
    exact (by first | omega | (unfold IR; omega))
  · rw [h8.1] at i1
    obtain ⟨n, rfl⟩ := Int.eq_ofNat_of_zero_le i0
    have hn : n < (mSay σ B t p).length := by omega
    have := h8.2 n _ (List.getElem?_eq_getElem hn)
    rw [show (Mi σ' 1845632513 0) (8 * (60 * e + p) + n) = (mSay σ B t p)[n] from this]
    have := hsay.2 _ (List.getElem_mem hn)
    omega
  · show (mSay σ B t p).map (fun x => 1 + x % 7) ++ (if tlb (Mi σ 1073873377 0) B p = true then [dig (g (B.1 4 p))] else []) = _
    rw [if_pos (htl.mp q), widL_eq h8.1 h8.2]
    congr 2
    have hti : sn B ((Mi σ' 1392640481 0) p) := q.2.2
    rw [← hMp.2.2.2.1]
    refine (tellW_dig (fun c => ?_) (fun c => ?_)).symm
    · have r0 : r = 0 := by omega
      rw [← hrp, r0]; rfl
    · exact ((hpw (by omega) _ ((readL_mem ok).mpr hti)).1).symm
  · show (mSay σ B t p).map (fun x => 1 + x % 7) ++ (if tlb (Mi σ 1073873377 0) B p = true then [dig (g (B.1 4 p))] else []) = _
    rw [if_neg (fun z => q (htl.mpr z)), widL_eq h8.1 h8.2, List.append_nil]
  · show ((mSay σ B t p).map (fun x => 1 + x % 7) ++ (if tlb (Mi σ 1073873377 0) B p = true then [dig (g (B.1 4 p))] else [])).length ≤ 9
    rw [List.length_append, List.length_map]
    split <;> simp <;> omega
  · have hx : x ∈ (mSay σ B t p).map (fun x => 1 + x % 7) ++ (if tlb (Mi σ 1073873377 0) B p = true then [dig (g (B.1 4 p))] else []) := hx
    rcases List.mem_append.mp hx with hx | hx
    · obtain ⟨y, hy, rfl⟩ := List.mem_map.mp hx
      have := hsay.2 y hy
      omega
    · split at hx
      · rw [List.mem_singleton.mp hx]
        have := dig_rng (v := g (B.1 4 p)); omega
      · simp at hx
