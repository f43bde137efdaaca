/-! what a call asks of the check, where what is kept is the same -/
theorem sm_all {σ σ1 : Mm} (h : same [] [] σ σ1) : Mi σ1 973210081 = Mi σ 973210081 ∧ Mi σ1 989987297 = Mi σ 989987297 ∧ Mi σ1 1006764513 = Mi σ 1006764513 ∧ Mi σ1 1023541729 = Mi σ 1023541729 ∧ Mi σ1 1040318945 = Mi σ 1040318945 ∧ Mi σ1 1057096161 = Mi σ 1057096161 ∧ Mi σ1 1073873377 = Mi σ 1073873377 ∧ Mi σ1 1090650593 = Mi σ 1090650593 ∧ Mi σ1 1107427809 = Mi σ 1107427809 ∧ Mi σ1 1124208385 = Mi σ 1124208385 ∧ Ml σ1 1140981811 = Ml σ 1140981811 ∧ Ml σ1 1157759043 = Ml σ 1157759043 ∧ Mi σ1 1174536577 = Mi σ 1174536577 ∧ Mi σ1 1191313457 = Mi σ 1191313457 ∧ Mi σ1 1476526881 = Mi σ 1476526881 ∧ Mi σ1 1493303345 = Mi σ 1493303345 ∧ Mi σ1 1510080561 = Mi σ 1510080561 ∧ Mi σ1 1526857889 = Mi σ 1526857889 ∧ Mi σ1 1543635105 = Mi σ 1543635105 ∧ Mi σ1 1560412321 = Mi σ 1560412321 ∧ Mi σ1 1577266177 = Mi σ 1577266177 ∧ Mi σ1 1610744001 = Mi σ 1610744001 ∧ Mi σ1 1627521217 = Mi σ 1627521217 ∧ Mi σ1 1644298625 = Mi σ 1644298625 ∧ Mi σ1 1661078529 = Mi σ 1661078529 ∧ Mi σ1 1677852721 = Mi σ 1677852721 ∧ Mi σ1 1694629937 = Mi σ 1694629937 ∧ Mi σ1 1711407153 = Mi σ 1711407153 ∧ Ml σ1 1744961587 = Ml σ 1744961587 ∧ Mi σ1 1761738801 = Mi σ 1761738801 ∧ Mi σ1 1778516017 = Mi σ 1778516017 ∧ Mi σ1 1795293233 = Mi σ 1795293233 ∧ Mi σ1 184680536 0 10 = Mi σ 184680536 0 10 ∧ Mi σ1 184680536 0 13 = Mi σ 184680536 0 13 ∧ Mi σ1 184680536 0 16 = Mi σ 184680536 0 16 ∧ Mi σ1 184680536 0 35 = Mi σ 184680536 0 35 ∧ Mi σ1 184680536 0 38 = Mi σ 184680536 0 38 ∧ Mi σ1 184680536 0 43 = Mi σ 184680536 0 43 ∧ Mi σ1 184680536 0 50 = Mi σ 184680536 0 50 ∧ Mi σ1 184680536 0 54 = Mi σ 184680536 0 54 ∧ Mi σ1 184680536 0 60 = Mi σ 184680536 0 60 := ⟨h.i 973210081 rfl rfl, h.i 989987297 rfl rfl, h.i 1006764513 rfl rfl, h.i 1023541729 rfl rfl, h.i 1040318945 rfl rfl, h.i 1057096161 rfl rfl, h.i 1073873377 rfl rfl, h.i 1090650593 rfl rfl, h.i 1107427809 rfl rfl, h.i 1124208385 rfl rfl, h.l 1140981811 rfl rfl, h.l 1157759043 rfl rfl, h.i 1174536577 rfl rfl, h.i 1191313457 rfl rfl, h.i 1476526881 rfl rfl, h.i 1493303345 rfl rfl, h.i 1510080561 rfl rfl, h.i 1526857889 rfl rfl, h.i 1543635105 rfl rfl, h.i 1560412321 rfl rfl, h.i 1577266177 rfl rfl, h.i 1610744001 rfl rfl, h.i 1627521217 rfl rfl, h.i 1644298625 rfl rfl, h.i 1661078529 rfl rfl, h.i 1677852721 rfl rfl, h.i 1694629937 rfl rfl, h.i 1711407153 rfl rfl, h.l 1744961587 rfl rfl, h.i 1761738801 rfl rfl, h.i 1778516017 rfl rfl, h.i 1795293233 rfl rfl, h.f 10 rfl rfl, h.f 13 rfl rfl, h.f 16 rfl rfl, h.f 35 rfl rfl, h.f 38 rfl rfl, h.f 43 rfl rfl, h.f 50 rfl rfl, h.f 54 rfl rfl, h.f 60 rfl rfl⟩
theorem sm_same {S : List Nat} {fs : List Int} {σ σ1 σ2 : Mm} (h : same [] [] σ σ1) : same S fs σ1 σ2 ↔ same S fs σ σ2 := by
  constructor
  · exact fun g => same_trans (same_mono (by simp) (by simp) h) g
  · refine fun g => ⟨fun a ha hn => ?_, fun f hf hn => ?_⟩
    · have h1 := h.1 a ha (by simp)
      rw [h1.1, h1.2]; exact g.1 a ha hn
    · rw [h.2 f hf (by simp)]; exact g.2 f hf hn
theorem sm_isS {σ σ1 : Mm} (h : same [] [] σ σ1) (s : Int) : isS σ1 s ↔ isS σ s := by
  unfold isS
  rw [h.f 13 rfl rfl]
theorem sm_mbW {σ σ1 : Mm} (h : same [] [] σ σ1) : mbW σ1 = mbW σ := by
  funext B p
  exact mbW_eq (h.i _ rfl rfl) (h.i _ rfl rfl)
theorem sm_padL {σ σ1 : Mm} (h : same [] [] σ σ1) : padL σ1 = padL σ := padL_eq (h.i _ rfl rfl) (h.i _ rfl rfl)
theorem sm_mOrd {σ σ1 : Mm} (h : same [] [] σ σ1) : mOrd σ1 = mOrd σ := by
  unfold mOrd
  rw [h.i 1006764513 rfl rfl, h.i 989987297 rfl rfl, h.f 10 rfl rfl]
theorem sm_ahL {σ σ1 : Mm} (h : same [] [] σ σ1) : ahL σ1 = ahL σ := by funext c; unfold ahL; rw [sm_mOrd h]
theorem sm_mBk {σ σ1 : Mm} (h : same [] [] σ σ1) : mBk σ1 = mBk σ := by
  funext s l
  unfold mBk
  rw [h.i 973210081 rfl rfl, h.i 1023541729 rfl rfl, h.i 1040318945 rfl rfl, h.i 1057096161 rfl rfl, h.i 1107427809 rfl rfl, h.i 1124208385 rfl rfl, h.f 16 rfl rfl]
theorem sm_sayB {σ σ1 : Mm} (h : same [] [] σ σ1) (B : Bk) (s : Int64) (c : Int) : sayB σ1 B s c ↔ sayB σ B s c := by
  unfold sayB
  rw [h.i 973210081 rfl rfl, h.i 1023541729 rfl rfl, h.i 1006764513 rfl rfl, h.i 989987297 rfl rfl, h.f 10 rfl rfl, h.f 16 rfl rfl]
theorem sm_txB {σ σ1 : Mm} (h : same [] [] σ σ1) (B : Bk) : txB σ1 B = txB σ B := by funext p; unfold txB; rw [sm_mbW h]
theorem sm_mLd {σ σ1 : Mm} (h : same [] [] σ σ1) (B : Bk) (t p : Int) : mLd σ1 B t p = mLd σ B t p := mLd_eq h
theorem sm_newC {σ σ1 σ2 : Mm} {cl : Bool} {hd kd pc wh bh so hi : Int} {ws : List Int} (h : same [] [] σ σ1) : newC σ1 σ2 cl hd kd pc wh bh so hi ws ↔ newC σ σ2 cl hd kd pc wh bh so hi ws := by
  unfold newC
  rw [sm_same h]
  simp only [sm_all h]
