/-! the class: a change made, as the check makes it -/
theorem cW_new {μ μ' : Mm} {n : Int} {ws : List Int} (hm : (Mi μ' 1107427809 0) = upd1 (Mi μ 1107427809 0) n ws.length) (hw : ∀ x, (Mi μ' 1124208385 0) x = if 8 * n ≤ x ∧ x < 8 * n + ws.length then ws.getD (x - 8 * n).toNat 0 else (Mi μ 1124208385 0) x) : cW μ' n = ws ∧ ∀ c, 0 ≤ c → c < n → (Mi μ 1107427809 0) c ≤ 8 → cW μ' c = cW μ c := by
  unfold cW
  rw [hm]
  refine ⟨?_, fun c c0 c1 c8 => ?_⟩
  · rw [upd1_s]
    refine List.ext_getElem (by simp) (fun i h1 h2 => ?_)
    simp only [List.getElem_map, List.getElem_range]
    simp at h1
    rw [hw, if_pos (by omega), show (8 * n + (i : Int) - 8 * n).toNat = i by omega, List.getD_eq_getElem?_getD, List.getElem?_eq_getElem h2]
    rfl
  · rw [upd1_n (by omega)]
    refine List.map_congr_left (fun i hi => ?_)
    have := List.mem_range.mp hi
    rw [hw, if_neg (by omega)]
theorem XR_new {σ σ1 σ2 μ μ' : Mm} {hd kd pc wh bh so hi : Int} {ws : List Int} {cl : Bool} (hR : XR σ μ) (hI : mI μ) (hn : (Mi μ 184680536 0 10) < 60) (hh : 0 ≤ hd ∧ hd < 6)
    (hm : xMk σ σ1 ((Mi μ 184680536 0 10)).toNat hd kd pc (if kd = 3 then (ws.length : Int) else wh) bh) (hF : Fr [335675873, 352453089, 2021130311, 2021130305, 2064384071, 2064384065] σ1 σ2)
    (hs1 : ∀ c, (Mi σ2 335675873 0) c = if c = (Mi μ 184680536 0 10) then so else (Mi σ 335675873 0) c) (hs2 : ∀ c, (Mi σ2 352453089 0) c = if c = (Mi μ 184680536 0 10) then hi else (Mi σ 352453089 0) c)
    (hw : ∀ c L, 0 ≤ c → c < (Mi μ 184680536 0 10) → rowR σ 2021130311 c L → rowR σ2 2021130311 c L) (hw2 : kd = 3 → rowR σ2 2021130311 (Mi μ 184680536 0 10) ws)
    (hp : xPad σ2 μ') (ho : newC μ μ' cl hd kd pc wh bh so hi ws) : XR σ2 μ' := by
  obtain ⟨hs, o1, o2, o3, o4, o5, o6, o7, o8, o9, o10, o11, o12, -⟩ := ho
  obtain ⟨⟨a1, a2, a3, a4, a5⟩, h2, h3, h4, h5, h6, h7, h8, h9⟩ := hR
  have hcW := cW_new o10 o11
  have h0 := hI.1.1.1
  obtain ⟨mF, m1, m2, m3, m4, m5, m6, m7, m8, m9, m10, m11⟩ := hm
  have en : (((Mi μ 184680536 0 10)).toNat : Int) = (Mi μ 184680536 0 10) := by omega
  have m8c : ∀ c, 0 ≤ c → c < (Mi μ 184680536 0 10) → (Mi μ 1107427809 0) c ≤ 8 := fun c c0 c1 => (hI.1.2.2 c c0 c1).1.2.1.2
  have hFF : Fr (xAllA) σ σ2 := (mF.mono (by decide)).trans' (hF.mono (by decide))
  rw [en] at m1 m2 m3 m8 m9 m10 m11 m7
  have est : ∀ c, 0 ≤ c → c < (Mi μ 184680536 0 10) + 1 → (Mi σ1 268567009 0) c = (Mi μ' 1006764513 0) c ∧ (Mi σ1 251789793 0) c = (Mi μ' 989987297 0) c := fun c c0 c1 => by
    rw [m3, m1, o4, o3]
    by_cases e : c = (Mi μ 184680536 0 10)
    · subst e
      rw [upd1_s, upd1_s, upd1_s, upd1_s]
      refine ⟨?_, rfl⟩
      rw [h2.1 hd hh.1 hh.2, Int.add_comm]
      congr 1
      exact mxC_congr (fun x x0 x1 => ⟨(a2 x x0 (by omega)).2.2.1, Iff.rfl⟩)
    · rw [upd1_n e, upd1_n e, upd1_n e, upd1_n e]
      exact ⟨(a2 c c0 (by omega)).2.2.1, (a2 c c0 (by omega)).2.1⟩
  refine ⟨⟨?_, fun c c0 c1 => ?_, ?_, fun c c0 c1 ck => ?_, ?_⟩, ?_, hp, ?_, ?_, ?_, ?_, ?_, ?_⟩
  · rw [hF.i 33685536 rfl, m7, upd1_s, o1]
  · rw [o1] at c1
    rw [hF.i 235012577 rfl, hF.i 251789793 rfl, hF.i 268567009 rfl, hF.i 285344225 rfl, hF.i 302121441 rfl, hF.i 318898657 rfl, hs1, hs2, (est c c0 c1).1, (est c c0 c1).2, m2, m8, m9, m10, o2, o5, o6, o7, o8, o9, o10]
    by_cases e : c = (Mi μ 184680536 0 10)
    · subst e
      simp only [upd1_s, if_pos]
      exact ⟨trivial, trivial, trivial, trivial, trivial, trivial, trivial, trivial⟩
    · simp only [upd1_n e, if_neg e]
      have := a2 c c0 (by omega)
      exact ⟨this.1, trivial, trivial, this.2.2.2⟩
  · have : mOrd μ' = ordL (Mi σ1 268567009 0) (Mi σ1 251789793 0) (((Mi μ 184680536 0 10)).toNat + 1) := by
      unfold mOrd
      rw [o1, show ((Mi μ 184680536 0 10) + 1).toNat = ((Mi μ 184680536 0 10)).toNat + 1 by omega]
      exact (ordL_congr (fun x x0 x1 => est x x0 (by omega))).symm
    rw [hF.i 369230305 rfl, this]
    exact m6
  · rw [o1] at c1
    by_cases e : c = (Mi μ 184680536 0 10)
    · subst e
      rw [o2, upd1_s] at ck
      rw [hcW.1]; exact hw2 ck
    · rw [o2, upd1_n e] at ck
      rw [hcW.2 c c0 (by omega) (m8c c c0 (by omega))]
      exact hw c _ c0 (by omega) (a4 c c0 (by omega) ck)
  · unfold rowR at a5 ⊢
    rw [hF.i 2030174215 rfl, hF.i (2030174215 - 6) rfl, mF.i 2030174215 rfl, mF.i (2030174215 - 6) rfl]
    exact a5
  · obtain ⟨b1, b2, b3, b4⟩ := h2
    refine ⟨fun h g0 g1 => ?_, ?_, ?_, ?_⟩
    · rw [hF.l 201457715 rfl, m11, o12]
      by_cases e : h = hd
      · rw [if_pos e, if_pos e, b1 hd hh.1 hh.2]
      · rw [if_neg e, if_neg e, b1 h g0 g1]
    · rw [hF.i 16908368 rfl, mF.i 16908368 rfl, hs.f 13 rfl rfl]; exact b2
    · rw [hF.l 218234947 rfl, mF.l 218234947 rfl, hs.f 13 rfl rfl, hs.l 1157759043 rfl rfl]; exact b3
    · rw [hF.i 16908368 rfl, mF.i 16908368 rfl, hs.f 16 rfl rfl]; exact b4
  · exact xFold_m hs rfl rfl (xFold_fr hF (by decide) (xFold_fr mF (by decide) h4))
  · exact xRule_m hs ⟨rfl, rfl⟩ rfl (xRule_fr hF (by decide) (xRule_fr mF (by decide) h5))
  · exact xYes_m hs ⟨rfl, rfl, rfl, rfl⟩ rfl (xYes_fr hF (by decide) (xYes_fr mF (by decide) h6))
  · have h7 := xPair_fr hF (by decide) (xPair_fr mF (by decide) h7)
    refine ⟨by rw [hs.f 50 rfl rfl]; exact h7.1, fun i i0 i1 => ?_⟩
    rw [hs.f 50 rfl rfl] at i1
    have := h7.2 i i0 i1
    rw [hs.i 1627521217 rfl rfl, hs.i 1610744001 rfl rfl, mpW_eq (hs.i 1644298625 rfl rfl) (hs.i 1661078529 rfl rfl), o1, o2]
    obtain ⟨q1, q2, q3, q4, q5, q6⟩ := this
    refine ⟨q1, q2, q3, ⟨q4.1, by omega⟩, ?_, ?_⟩
    · rw [upd1_n (by omega)]; exact q5
    · rw [hcW.2 _ q4.1 q4.2 (m8c _ q4.1 q4.2)]; exact q6
  · exact xTerm_m hs ⟨rfl, rfl, rfl⟩ rfl (xTerm_fr hF (by decide) (xTerm_fr mF (by decide) h8))
  · exact xShelf_m hs ⟨rfl, rfl, rfl, rfl⟩ rfl (xShelf_fr hF (by decide) (xShelf_fr mF (by decide) h9))
