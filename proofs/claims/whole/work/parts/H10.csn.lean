/-! the machine of numbers: every run is sound -/
theorem cm_snd (C : Cx) (n : Nat) : SndN C n := by
  induction n with
  | zero =>
    intro p l e R s m args below meth c H0 n0 s0 Q nL lv cc own ini id q ls st hp sl r X hA h
    cases h
  | succ n IH =>
    intro p l e R s m args below meth c H0 n0 s0 Q nL lv cc own ini id q ls st hp sl r X hA h hb hc hs hn hs0 hend
    obtain ⟨i, hi, ⟨ho, rfl, rfl⟩ | ⟨ho, b, as, st', q', ls', hp', sl', hsp, h8, h1, h2⟩ | ⟨ho1, ho2, h1⟩⟩ := cm_cases h
    · exact hend
    · have hk := chcA_e hA hi
      have ei : cpc (cmC id) q = i.1 := by unfold cpc; rw [hi]; rfl
      rw [ei]
      unfold chcI at hk
      rw [if_neg (by omega), if_neg (by omega), if_pos ho] at hk
      unfold ch17 at hk
      rw [Bool.and_eq_true] at hk
      obtain ⟨hk, hk2⟩ := hk
      obtain ⟨hne, hid, hlv, hnl, h21, d, enx, hpar⟩ := of_decide_eq_true hk
      obtain ⟨as2, hlen, rfl, e2⟩ := spl_e hsp
      rw [List.append_nil] at e2
      subst e2
      have hlen : as.length = i.2.2.2.2.1 := by simpa using hlen
      obtain ⟨f1, f2, ⟨f3, f4, f5, f6, f6'⟩, f7⟩ := ig_f hid
      obtain ⟨t1, t2, t3⟩ := ig_t hid
      have m1 := cm_mono h1
      have m2 := cm_mono h2
      dsimp only at m1
      have hmet := ig_met IH hid (as := .inr b :: as) (by show as.length + 1 ≤ (igD i.2.2.2.1).2.2.1; omega) h1 (by show hp'.1 < _; omega)
      dsimp only at hmet
      intro Ls H locs hL hl hP hD hz hS
      have hpre : PreS s H (PcI C i.2.2.2.1 (.inr b :: as) hp) (.ref (cad C b) :: as.map (cuV C)) := by
        obtain ⟨-, ⟨-, -, -, hK, hAO, hN⟩, -⟩ := X
        exact ⟨PcI_blind, fun U hU hW => ⟨rfl, hl, by rw [hU]; exact hP, hD, by rw [hU]; exact hz, va_K.moved hW.alike hK, fun _ => va_AO.moved hW.alike (hAO hne), fun q hq => va_Nw.warmM hW (hN q hq)⟩⟩
      have X0 := X
      obtain ⟨⟨hx, hbb⟩, ⟨hml, hown, hts, hKk, hAO, hN⟩, hini, ⟨hv1, hv2, hv3⟩, hH0, hll⟩ := X
      subst hll
      have fin : va_Run p (cLa C) e R s m args below meth c H locs (hp.1 - n0) (sl - s0) (hp'.1 - hp.1) (sl' - sl) (F0 m i.1 Ls (((.inr b :: as).reverse ++ st').map (cuV C))) (st'.map (cuV C)) (QcI C hp' (.ref (cad C b) :: as.map (cuV C)).toArray) (fun q => cBa C ≤ q) := by
        have hgi : GoodIn tbG (wsG (igD i.2.2.2.1)) := gi_ws (by rw [f7]; exact t1)
        have hst : ((.inr b :: as).reverse ++ st').map (cuV C) = (as.map (cuV C)).reverse ++ .ref (cad C b) :: st'.map (cuV C) := by simp [cuV]
        have hroom := room_G (R := R) (lv := lv) (g := igD i.2.2.2.1) (mc := hp'.1 - hp.1) (ms := sl' - sl) (n := 0) ⟨hlv, h21⟩ hv2 hv3
        by_cases b1 : i.2.2.2.2.2.getD 1 0 = 1
        · rw [if_pos b1] at hk2
          have hn2 := of_decide_eq_true hk2
          exact va_runIN (Ts := tbG) (nL := nL) (own := own) (b := cad C b) (As := as.map (cuV C)) (rest := st'.map (cuV C)) ⟨hx, hbb, hml, hown, hts⟩ hmet ⟨va_cnB (ws' := tbG) i.2.2.2.2.1 hts hgi (by unfold wsG; rw [f7]) rfl rfl (hN _ hn2) (hts _ t3) ⟨f6, f6', hpar⟩ hroom, f5, hts _ t2⟩ hpre rfl (by simpa using hlen) hL.1 hst (lv_room (by rw [cs_cat]; exact h8)) d ⟨by omega, by omega⟩
        · rw [if_neg b1] at hk2
          have hlink := tb_at (of_decide_eq_true hk2) rfl
          exact va_runI (Ts := tbG) (nL := nL) (own := own) (b := cad C b) (As := as.map (cuV C)) (rest := st'.map (cuV C)) ⟨hx, hbb, hml, hown, hts⟩ hmet (cwI (ws' := tbG) i.2.2.2.2.1 hts hgi (by unfold wsG; rw [f7]) rfl rfl (hts _ t3) (hts _ hlink) (hts _ t2) f5 ⟨f6, f6', hpar⟩ hroom) hpre rfl (by simpa using hlen) hL.1 hst (lv_room (by rw [cs_cat]; exact h8)) d ⟨by omega, by omega⟩
      refine ci_fin fin hS (fun H1 locs1 hl1 hP1 hD1 hz1 hS1 => ?_)
      have hk3 := IH X0 hA h2 hb hc hs (by omega) (by omega) hend
      rw [enx] at hk3
      have hk4 := hk3 Ls H1 locs1 hL hl1 hP1 hD1 hz1 hS1
      rw [show hp.1 - n0 + (hp'.1 - hp.1) = hp'.1 - n0 by omega, show sl - s0 + (sl' - sl) = sl' - s0 by omega]
      exact hk4
    · have hk := chcA_e hA hi
      have ei : cpc (cmC id) q = i.1 := by unfold cpc; rw [hi]; rfl
      rw [ei]
      unfold chcI at hk
      rw [if_neg (fun w => ho1 (Or.inl w)), if_neg (fun w => ho1 (Or.inr w)), if_neg ho2] at hk
      exact c1_sound X hk (fun q' ls' st' hp' sl' h => cm_mono h) ⟨hb, hc, hs⟩ (fun q' ls' st' hp' sl' h n1 s1 => IH X hA h hb hc hs n1 s1 hend) hn hs0 h1
