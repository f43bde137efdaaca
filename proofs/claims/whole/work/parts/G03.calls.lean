/-! the law: call by call -/
theorem lw_word {h w : Int} {σ : Mm} (hI : mI σ) (hR : XR σ σ) (hh : IR h) (hw : IR w) : LwS 137 152 [vI h, vI w] σ :=
  lw_w (o := fun τ => oWord τ h w) hI hR (fun k hk => x_word hR hI hh hw hk) (fun τ k hτ hk => m_word hτ hh hw hk) (fun τ r μ hq ho => by
    revert ho
    unfold oWord
    simp only [sm_all hq, sm_isS hq, sm_isP hq, same_allB hq, same_mSet hq, sm_mbW hq, sm_padL hq, sm_mOrd hq, sm_ahL hq, sm_mBk hq, sm_sayB hq, sm_txB hq, sm_newC hq, sm_same hq, sm_wanted hq]
    exact id)
theorem lw_put {h so un bh hi : Int} {σ : Mm} (hI : mI σ) (hR : XR σ σ) (hh : IR h) (hso : IR so) (hu : IR un) (hb : IR bh) (hhi : IR hi) : LwS 229 193 [vI h, vI so, vI un, vI bh, vI hi] σ :=
  lw_w (o := fun τ => oPut τ h so un bh hi) hI hR (fun k hk => x_put hR hI hh hso hu hb hhi hk) (fun τ k hτ hk => m_put hτ hh hso hu hb hhi hk) (fun τ r μ hq ho => by
    revert ho
    unfold oPut
    simp only [sm_all hq, sm_isS hq, sm_isP hq, same_allB hq, same_mSet hq, sm_mbW hq, sm_padL hq, sm_mOrd hq, sm_ahL hq, sm_mBk hq, sm_sayB hq, sm_txB hq, sm_newC hq, sm_same hq, sm_wanted hq]
    exact id)
theorem lw_strike {h p : Int} {σ : Mm} (hI : mI σ) (hR : XR σ σ) (hh : IR h) (hp : IR p) : LwS 236 212 [vI h, vI p] σ :=
  lw_w (o := fun τ => oStrike τ h p) hI hR (fun k hk => x_strike hR hI hh hp hk) (fun τ k hτ hk => m_strike hτ hh hp hk) (fun τ r μ hq ho => by
    revert ho
    unfold oStrike
    simp only [sm_all hq, sm_isS hq, sm_isP hq, same_allB hq, same_mSet hq, sm_mbW hq, sm_padL hq, sm_mOrd hq, sm_ahL hq, sm_mBk hq, sm_sayB hq, sm_txB hq, sm_newC hq, sm_same hq, sm_wanted hq]
    exact id)
theorem lw_move {h p un bh : Int} {σ : Mm} (hI : mI σ) (hR : XR σ σ) (hh : IR h) (hp : IR p) (hu : IR un) (hb : IR bh) : LwS 224 205 [vI h, vI p, vI un, vI bh] σ :=
  lw_w (o := fun τ => oMove τ h p un bh) hI hR (fun k hk => x_move hR hI hh hp hu hb hk) (fun τ k hτ hk => m_move hτ hh hp hu hb hk) (fun τ r μ hq ho => by
    revert ho
    unfold oMove
    simp only [sm_all hq, sm_isS hq, sm_isP hq, same_allB hq, same_mSet hq, sm_mbW hq, sm_padL hq, sm_mOrd hq, sm_ahL hq, sm_mBk hq, sm_sayB hq, sm_txB hq, sm_newC hq, sm_same hq, sm_wanted hq]
    exact id)
theorem lw_words {h p : Int} {σ : Mm} (hI : mI σ) (hR : XR σ σ) (hh : IR h) (hp : IR p) : LwS 239 215 [vI h, vI p] σ :=
  lw_w (o := fun τ => oWords τ h p) hI hR (fun k hk => x_words hR hI hh hp hk) (fun τ k hτ hk => m_words hτ hh hp hk) (fun τ r μ hq ho => by
    revert ho
    unfold oWords
    simp only [sm_all hq, sm_isS hq, sm_isP hq, same_allB hq, same_mSet hq, sm_mbW hq, sm_padL hq, sm_mOrd hq, sm_ahL hq, sm_mBk hq, sm_sayB hq, sm_txB hq, sm_newC hq, sm_same hq, sm_wanted hq]
    exact id)
theorem lw_note {h p l : Int} {σ : Mm} (hI : mI σ) (hR : XR σ σ) (hh : IR h) (hp : IR p) (hl : IR l) : LwS 225 206 [vI h, vI p, vI l] σ :=
  lw_w (o := fun τ => oNote τ h p l) hI hR (fun k hk => x_note hR hI hh hp hl hk) (fun τ k hτ hk => m_note hτ hh hp hl hk) (fun τ r μ hq ho => by
    revert ho
    unfold oNote
    simp only [sm_all hq, sm_isS hq, sm_isP hq, same_allB hq, same_mSet hq, sm_mbW hq, sm_padL hq, sm_mOrd hq, sm_ahL hq, sm_mBk hq, sm_sayB hq, sm_txB hq, sm_newC hq, sm_same hq, sm_wanted hq]
    exact id)
theorem lw_tie {h p to : Int} {σ : Mm} (hI : mI σ) (hR : XR σ σ) (hh : IR h) (hp : IR p) (ht : IR to) : LwS 237 213 [vI h, vI p, vI to] σ :=
  lw_w (o := fun τ => oTie τ h p to) hI hR (fun k hk => x_tie hR hI hh hp ht hk) (fun τ k hτ hk => m_tie hτ hh hp ht hk) (fun τ r μ hq ho => by
    revert ho
    unfold oTie
    simp only [sm_all hq, sm_isS hq, sm_isP hq, same_allB hq, same_mSet hq, sm_mbW hq, sm_padL hq, sm_mOrd hq, sm_ahL hq, sm_mBk hq, sm_sayB hq, sm_txB hq, sm_newC hq, sm_same hq, sm_wanted hq]
    exact id)
theorem lw_back {h c : Int} {σ : Mm} (hI : mI σ) (hR : XR σ σ) (hh : IR h) (hc : IR c) : LwS 220 188 [vI h, vI c] σ :=
  lw_w (o := fun τ => oBack τ h c) hI hR (fun k hk => x_back hR hI hh hc hk) (fun τ k hτ hk => m_back hτ hh hc hk) (fun τ r μ hq ho => by
    revert ho
    unfold oBack
    simp only [sm_all hq, sm_isS hq, sm_isP hq, same_allB hq, same_mSet hq, sm_mbW hq, sm_padL hq, sm_mOrd hq, sm_ahL hq, sm_mBk hq, sm_sayB hq, sm_txB hq, sm_newC hq, sm_same hq, sm_wanted hq]
    exact id)
theorem lw_give {f t n : Int} {σ : Mm} (hI : mI σ) (hR : XR σ σ) (hf : IR f) (ht : IR t) (hn : IR n) : LwS 80 141 [vI f, vI t, vI n] σ :=
  lw_w (o := fun τ => oGive τ f t n) hI hR (fun k hk => x_give hR hI hf ht hn hk) (fun τ k hτ hk => m_give hτ hf ht hn hk) (fun τ r μ hq ho => by
    revert ho
    unfold oGive
    simp only [sm_all hq, sm_isS hq, sm_isP hq, same_allB hq, same_mSet hq, sm_mbW hq, sm_padL hq, sm_mOrd hq, sm_ahL hq, sm_mBk hq, sm_sayB hq, sm_txB hq, sm_newC hq, sm_same hq, sm_wanted hq]
    exact id)
theorem lw_keep {h : Int} {σ : Mm} (hI : mI σ) (hR : XR σ σ) (hh : IR h) : LwS 84 146 [vI h] σ :=
  lw_w (o := fun τ => oKeep τ h) hI hR (fun k hk => x_keep hR hI hh hk) (fun τ k hτ hk => m_keep hτ hh hk) (fun τ r μ hq ho => by
    revert ho
    unfold oKeep
    simp only [sm_all hq, sm_isS hq, sm_isP hq, same_allB hq, same_mSet hq, sm_mbW hq, sm_padL hq, sm_mOrd hq, sm_ahL hq, sm_mBk hq, sm_sayB hq, sm_txB hq, sm_newC hq, sm_same hq, sm_wanted hq]
    exact id)
theorem lw_firm {v : Int} {σ : Mm} (hI : mI σ) (hR : XR σ σ) (hv : IR v) : LwS 15 91 [vI v] σ :=
  lw_w (o := fun τ => oFirm τ v) hI hR (fun k hk => x_firm hR hI hv hk) (fun τ k hτ hk => m_firm hτ hv hk) (fun τ r μ hq ho => by
    revert ho
    unfold oFirm
    simp only [sm_all hq, sm_isS hq, sm_isP hq, same_allB hq, same_mSet hq, sm_mbW hq, sm_padL hq, sm_mOrd hq, sm_ahL hq, sm_mBk hq, sm_sayB hq, sm_txB hq, sm_newC hq, sm_same hq, sm_wanted hq]
    exact id)
theorem sa_change {i w : Int} {σ τ : Mm} (hq : same [] [] σ τ) : aChange τ i w = aChange σ i w := by
  have e1 : stH τ = stH σ := sm_stH hq
  have e2 : unH τ = unH σ := sm_unH hq
  have e3 : bestO τ = bestO σ := sm_bestO hq
  have e4 : clP τ = clP σ := sm_clP hq
  unfold aChange
  simp only [sm_all hq, sm_isS hq, sm_isP hq, same_allB hq, same_mSet hq, sm_mbW hq, sm_padL hq, sm_sayB hq, same_unB hq, sm_edB hq, sm_edE hq, sm_edN hq, sm_edS hq, sm_edR1 hq, sm_edP hq, sm_edBf hq, sm_onHit hq, same_metB hq, sm_rchB hq, sm_lsF hq, e1, e2, e3, e4]
theorem lw_change {i w : Int} {σ : Mm} (hI : mI σ) (hR : XR σ σ) (hi : IR i) (hw : IR w) : LwS 78 89 [vI i, vI w] σ :=
  lw_a (a := fun τ => aChange τ i w) hI hR (fun k hk => x_change hR hI hi hw (hk _ Fr.rfl' hR)) (fun τ k hτ hk => m_change hτ hi hw hk) (fun τ hq => sa_change hq)
theorem sa_came {s c : Int} {σ τ : Mm} (hq : same [] [] σ τ) : aCame τ s c = aCame σ s c := by
  have e1 : stH τ = stH σ := sm_stH hq
  have e2 : unH τ = unH σ := sm_unH hq
  have e3 : bestO τ = bestO σ := sm_bestO hq
  have e4 : clP τ = clP σ := sm_clP hq
  unfold aCame
  simp only [sm_all hq, sm_isS hq, sm_isP hq, same_allB hq, same_mSet hq, sm_mbW hq, sm_padL hq, sm_sayB hq, same_unB hq, sm_edB hq, sm_edE hq, sm_edN hq, sm_edS hq, sm_edR1 hq, sm_edP hq, sm_edBf hq, sm_onHit hq, same_metB hq, sm_rchB hq, sm_lsF hq, e1, e2, e3, e4]
theorem lw_came {s c : Int} {σ : Mm} (hI : mI σ) (hR : XR σ σ) (hs : IR s) (hc : IR c) : LwS 221 189 [vI s, vI c] σ :=
  lw_a (a := fun τ => aCame τ s c) hI hR (fun k hk => x_came hR hI hs hc (hk)) (fun τ k hτ hk => m_came hτ hs hc hk) (fun τ hq => sa_came hq)
theorem sa_say {s c : Int} {σ τ : Mm} (hq : same [] [] σ τ) : aSay τ s c = aSay σ s c := by
  have e1 : stH τ = stH σ := sm_stH hq
  have e2 : unH τ = unH σ := sm_unH hq
  have e3 : bestO τ = bestO σ := sm_bestO hq
  have e4 : clP τ = clP σ := sm_clP hq
  unfold aSay
  simp only [sm_all hq, sm_isS hq, sm_isP hq, same_allB hq, same_mSet hq, sm_mbW hq, sm_padL hq, sm_sayB hq, same_unB hq, sm_edB hq, sm_edE hq, sm_edN hq, sm_edS hq, sm_edR1 hq, sm_edP hq, sm_edBf hq, sm_onHit hq, same_metB hq, sm_rchB hq, sm_lsF hq, e1, e2, e3, e4]
theorem lw_say {s c : Int} {σ : Mm} (hI : mI σ) (hR : XR σ σ) (hs : IR s) (hc : IR c) : LwS 230 194 [vI s, vI c] σ :=
  lw_a (a := fun τ => aSay τ s c) hI hR (fun k hk => x_say hR hI hs hc (hk)) (fun τ k hτ hk => m_say hτ hs hc hk) (fun τ hq => sa_say hq)
theorem sa_seen {s i : Int} {σ τ : Mm} (hq : same [] [] σ τ) : aSeen τ s i = aSeen σ s i := by
  have e1 : stH τ = stH σ := sm_stH hq
  have e2 : unH τ = unH σ := sm_unH hq
  have e3 : bestO τ = bestO σ := sm_bestO hq
  have e4 : clP τ = clP σ := sm_clP hq
  unfold aSeen
  simp only [sm_all hq, sm_isS hq, sm_isP hq, same_allB hq, same_mSet hq, sm_mbW hq, sm_padL hq, sm_sayB hq, same_unB hq, sm_edB hq, sm_edE hq, sm_edN hq, sm_edS hq, sm_edR1 hq, sm_edP hq, sm_edBf hq, sm_onHit hq, same_metB hq, sm_rchB hq, sm_lsF hq, e1, e2, e3, e4]
theorem lw_seen {s i : Int} {σ : Mm} (hI : mI σ) (hR : XR σ σ) (hs : IR s) (hi : IR i) : LwS 232 209 [vI s, vI i] σ :=
  lw_a (a := fun τ => aSeen τ s i) hI hR (fun k hk => x_seen hR hI hs hi (hk)) (fun τ k hτ hk => m_seen hτ hs hi hk) (fun τ hq => sa_seen hq)
theorem sa_piece {s p w : Int} {σ τ : Mm} (hq : same [] [] σ τ) : aPiece τ s p w = aPiece σ s p w := by
  have e1 : stH τ = stH σ := sm_stH hq
  have e2 : unH τ = unH σ := sm_unH hq
  have e3 : bestO τ = bestO σ := sm_bestO hq
  have e4 : clP τ = clP σ := sm_clP hq
  unfold aPiece
  simp only [sm_all hq, sm_isS hq, sm_isP hq, same_allB hq, same_mSet hq, sm_mbW hq, sm_padL hq, sm_sayB hq, same_unB hq, sm_edB hq, sm_edE hq, sm_edN hq, sm_edS hq, sm_edR1 hq, sm_edP hq, sm_edBf hq, sm_onHit hq, same_metB hq, sm_rchB hq, sm_lsF hq, e1, e2, e3, e4]
theorem lw_piece {s p w : Int} {σ : Mm} (hI : mI σ) (hR : XR σ σ) (hs : IR s) (hp : IR p) (hw : IR w) : LwS 228 192 [vI s, vI p, vI w] σ :=
  lw_a (a := fun τ => aPiece τ s p w) hI hR (fun k hk => x_piece hR hI hs hp hw (hk)) (fun τ k hτ hk => m_piece hτ hs hp hw hk) (fun τ hq => sa_piece hq)
theorem sa_at {s p i w : Int} {σ τ : Mm} (hq : same [] [] σ τ) : aAt τ s p i w = aAt σ s p i w := by
  have e1 : stH τ = stH σ := sm_stH hq
  have e2 : unH τ = unH σ := sm_unH hq
  have e3 : bestO τ = bestO σ := sm_bestO hq
  have e4 : clP τ = clP σ := sm_clP hq
  unfold aAt
  simp only [sm_all hq, sm_isS hq, sm_isP hq, same_allB hq, same_mSet hq, sm_mbW hq, sm_padL hq, sm_sayB hq, same_unB hq, sm_edB hq, sm_edE hq, sm_edN hq, sm_edS hq, sm_edR1 hq, sm_edP hq, sm_edBf hq, sm_onHit hq, same_metB hq, sm_rchB hq, sm_lsF hq, e1, e2, e3, e4]
theorem lw_at {s p i w : Int} {σ : Mm} (hI : mI σ) (hR : XR σ σ) (hs : IR s) (hp : IR p) (hi : IR i) (hw : IR w) : LwS 219 187 [vI s, vI p, vI i, vI w] σ :=
  lw_a (a := fun τ => aAt τ s p i w) hI hR (fun k hk => x_at hR hI hs hp hi hw (hk)) (fun τ k hτ hk => m_at hτ hs hp hi hw hk) (fun τ hq => sa_at hq)
theorem sa_seek {s h i : Int} {σ τ : Mm} (hq : same [] [] σ τ) : aSeek τ s h i = aSeek σ s h i := by
  have e1 : stH τ = stH σ := sm_stH hq
  have e2 : unH τ = unH σ := sm_unH hq
  have e3 : bestO τ = bestO σ := sm_bestO hq
  have e4 : clP τ = clP σ := sm_clP hq
  unfold aSeek
  simp only [sm_all hq, sm_isS hq, sm_isP hq, same_allB hq, same_mSet hq, sm_mbW hq, sm_padL hq, sm_sayB hq, same_unB hq, sm_edB hq, sm_edE hq, sm_edN hq, sm_edS hq, sm_edR1 hq, sm_edP hq, sm_edBf hq, sm_onHit hq, same_metB hq, sm_rchB hq, sm_lsF hq, e1, e2, e3, e4]
theorem lw_seek {s h i : Int} {σ : Mm} (hI : mI σ) (hR : XR σ σ) (hs : IR s) (hh : IR h) (hi : IR i) : LwS 231 208 [vI s, vI h, vI i] σ :=
  lw_a (a := fun τ => aSeek τ s h i) hI hR (fun k hk => x_seek hR hI hs hh hi (hk)) (fun τ k hτ hk => m_seek hτ hs hh hi hk) (fun τ hq => sa_seek hq)
theorem sa_clash {a b i : Int} {σ τ : Mm} (hq : same [] [] σ τ) : aClash τ a b i = aClash σ a b i := by
  have e1 : stH τ = stH σ := sm_stH hq
  have e2 : unH τ = unH σ := sm_unH hq
  have e3 : bestO τ = bestO σ := sm_bestO hq
  have e4 : clP τ = clP σ := sm_clP hq
  unfold aClash
  simp only [sm_all hq, sm_isS hq, sm_isP hq, same_allB hq, same_mSet hq, sm_mbW hq, sm_padL hq, sm_sayB hq, same_unB hq, sm_edB hq, sm_edE hq, sm_edN hq, sm_edS hq, sm_edR1 hq, sm_edP hq, sm_edBf hq, sm_onHit hq, same_metB hq, sm_rchB hq, sm_lsF hq, e1, e2, e3, e4]
theorem lw_clash {a b i : Int} {σ : Mm} (hI : mI σ) (hR : XR σ σ) (ha : IR a) (hb : IR b) (hi : IR i) : LwS 133 170 [vI a, vI b, vI i] σ :=
  lw_a (a := fun τ => aClash τ a b i) hI hR (fun k hk => x_clash hR hI ha hb hi (hk _ Fr.rfl' hR)) (fun τ k hτ hk => m_clash hτ ha hb hi hk) (fun τ hq => sa_clash hq)
theorem lw_settle {h p kd s : Int} {σ : Mm} (hI : mI σ) (hR : XR σ σ) (hh : IR h) (hp : IR p) (hkd : IR kd) (hs : IR s) : LwS 234 196 [vI h, vI p, vI kd, vI s] σ :=
  lw_w (o := fun τ => oSettle τ h p kd s) hI hR (fun k hk => x_settle hR hI hh hp hkd hs hk) (fun τ k hτ hk => m_settle hτ hh hp hkd hs hk) (fun τ r μ hq ho => by
    revert ho
    unfold oSettle
    simp only [sm_all hq, sm_isS hq, sm_isP hq, same_allB hq, same_mSet hq, sm_mbW hq, sm_padL hq, sm_mOrd hq, sm_ahL hq, sm_mBk hq, sm_sayB hq, sm_txB hq, sm_newC hq, sm_same hq, sm_wanted hq]
    exact id)
theorem lw_rule {h p : Int} {σ : Mm} (hI : mI σ) (hR : XR σ σ) (hh : IR h) (hp : IR p) : LwS 136 149 [vI h, vI p] σ :=
  lw_w (o := fun τ => oRule τ h p) hI hR (fun k hk => x_rule hR hI hh hp hk) (fun τ k hτ hk => m_rule hτ hh hp hk) (fun τ r μ hq ho => by
    revert ho
    unfold oRule
    simp only [sm_all hq, sm_isS hq, sm_isP hq, same_allB hq, same_mSet hq, sm_mbW hq, sm_padL hq, sm_mOrd hq, sm_ahL hq, sm_mBk hq, sm_sayB hq, sm_txB hq, sm_newC hq, sm_same hq, sm_wanted hq]
    exact id)
theorem sa_open {s : Int} {σ τ : Mm} (hq : same [] [] σ τ) : aOpen τ s = aOpen σ s := by
  have e1 : stH τ = stH σ := sm_stH hq
  have e2 : unH τ = unH σ := sm_unH hq
  have e3 : bestO τ = bestO σ := sm_bestO hq
  have e4 : clP τ = clP σ := sm_clP hq
  unfold aOpen
  simp only [sm_all hq, sm_isS hq, sm_isP hq, same_allB hq, same_mSet hq, sm_mbW hq, sm_padL hq, sm_sayB hq, same_unB hq, sm_edB hq, sm_edE hq, sm_edN hq, sm_edS hq, sm_edR1 hq, sm_edP hq, sm_edBf hq, sm_onHit hq, same_metB hq, sm_rchB hq, sm_lsF hq, e1, e2, e3, e4]
theorem lw_open {s : Int} {σ : Mm} (hI : mI σ) (hR : XR σ σ) (hs : IR s) : LwS 227 207 [vI s] σ :=
  lw_a (a := fun τ => aOpen τ s) hI hR (fun k hk => x_open hR hI hs (hk)) (fun τ k hτ hk => m_open hτ hs hk) (fun τ hq => sa_open hq)
theorem lw_fold {a b : Int} {σ : Mm} (hI : mI σ) (hR : XR σ σ) (ha : IR a) (hb : IR b) : LwS 79 92 [vI a, vI b] σ :=
  lw_w (o := fun τ => oFold τ a b) hI hR (fun k hk => x_fold hR hI ha hb hk) (fun τ k hτ hk => m_fold hτ ha hb hk) (fun τ r μ hq ho => by
    revert ho
    unfold oFold
    simp only [sm_all hq, sm_isS hq, sm_isP hq, same_allB hq, same_mSet hq, sm_mbW hq, sm_padL hq, sm_mOrd hq, sm_ahL hq, sm_mBk hq, sm_sayB hq, sm_txB hq, sm_newC hq, sm_same hq, sm_wanted hq]
    exact id)
theorem lw_lead {t s p h : Int} {σ : Mm} (hI : mI σ) (hR : XR σ σ) (ht : IR t) (hs : IR s) (hp : IR p) (hh : IR h) : LwS 223 190 [vI t, vI s, vI p, vI h] σ :=
  lw_w (o := fun τ => oLead τ t s p h) hI hR (fun k hk => x_lead hR hI ht hs hp hh hk) (fun τ k hτ hk => m_lead hτ ht hs hp hh hk) (fun τ r μ hq ho => by
    revert ho
    unfold oLead
    simp only [sm_all hq, sm_isS hq, sm_isP hq, same_allB hq, same_mSet hq, sm_mbW hq, sm_padL hq, sm_mOrd hq, sm_ahL hq, sm_mBk hq, sm_sayB hq, sm_txB hq, sm_newC hq, sm_same hq, sm_wanted hq]
    exact id)
theorem sa_stale {t s i : Int} {σ τ : Mm} (hq : same [] [] σ τ) : aStale τ t s i = aStale σ t s i := by
  have e1 : stH τ = stH σ := sm_stH hq
  have e2 : unH τ = unH σ := sm_unH hq
  have e3 : bestO τ = bestO σ := sm_bestO hq
  have e4 : clP τ = clP σ := sm_clP hq
  unfold aStale
  simp only [sm_all hq, sm_isS hq, sm_isP hq, same_allB hq, same_mSet hq, sm_mbW hq, sm_padL hq, sm_sayB hq, same_unB hq, sm_edB hq, sm_edE hq, sm_edN hq, sm_edS hq, sm_edR1 hq, sm_edP hq, sm_edBf hq, sm_onHit hq, same_metB hq, sm_rchB hq, sm_lsF hq, e1, e2, e3, e4]
theorem lw_stale {t s i : Int} {σ : Mm} (hI : mI σ) (hR : XR σ σ) (ht : IR t) (hs : IR s) (hi : IR i) : LwS 235 211 [vI t, vI s, vI i] σ :=
  lw_a (a := fun τ => aStale τ t s i) hI hR (fun k hk => x_stale hR hI ht hs hi (hk)) (fun τ k hτ hk => m_stale hτ ht hs hi hk) (fun τ hq => sa_stale hq)
theorem sa_offer {t s p w : Int} {σ τ : Mm} (hq : same [] [] σ τ) : aOffer τ t s p w = aOffer σ t s p w := by
  have e1 : stH τ = stH σ := sm_stH hq
  have e2 : unH τ = unH σ := sm_unH hq
  have e3 : bestO τ = bestO σ := sm_bestO hq
  have e4 : clP τ = clP σ := sm_clP hq
  unfold aOffer
  simp only [sm_all hq, sm_isS hq, sm_isP hq, same_allB hq, same_mSet hq, sm_mbW hq, sm_padL hq, sm_sayB hq, same_unB hq, sm_edB hq, sm_edE hq, sm_edN hq, sm_edS hq, sm_edR1 hq, sm_edP hq, sm_edBf hq, sm_onHit hq, same_metB hq, sm_rchB hq, sm_lsF hq, e1, e2, e3, e4]
theorem lw_offer {t s p w : Int} {σ : Mm} (hI : mI σ) (hR : XR σ σ) (ht : IR t) (hs : IR s) (hp : IR p) (hw : IR w) : LwS 226 191 [vI t, vI s, vI p, vI w] σ :=
  lw_a (a := fun τ => aOffer τ t s p w) hI hR (fun k hk => x_offer hR hI ht hs hp hw (hk)) (fun τ k hτ hk => m_offer hτ ht hs hp hw hk) (fun τ hq => sa_offer hq)
theorem sa_pair {q sd i : Int} {σ τ : Mm} (hq : same [] [] σ τ) : aPair τ q sd i = aPair σ q sd i := by
  have e1 : stH τ = stH σ := sm_stH hq
  have e2 : unH τ = unH σ := sm_unH hq
  have e3 : bestO τ = bestO σ := sm_bestO hq
  have e4 : clP τ = clP σ := sm_clP hq
  unfold aPair
  simp only [sm_all hq, sm_isS hq, sm_isP hq, same_allB hq, same_mSet hq, sm_mbW hq, sm_padL hq, sm_sayB hq, same_unB hq, sm_edB hq, sm_edE hq, sm_edN hq, sm_edS hq, sm_edR1 hq, sm_edP hq, sm_edBf hq, sm_onHit hq, same_metB hq, sm_rchB hq, sm_lsF hq, e1, e2, e3, e4]
theorem lw_pair {q sd i : Int} {σ : Mm} (hI : mI σ) (hR : XR σ σ) (hq : IR q) (hsd : IR sd) (hi : IR i) : LwS 85 104 [vI q, vI sd, vI i] σ :=
  lw_a (a := fun τ => aPair τ q sd i) hI hR (fun k hk => x_pair hR hI hq hsd hi (hk _ Fr.rfl' hR)) (fun τ k hτ hk => m_pair hτ hq hsd hi hk) (fun τ hq => sa_pair hq)
theorem lw_term {t w v : Int} {σ : Mm} (hI : mI σ) (hR : XR σ σ) (ht : IR t) (hw : IR w) (hv : IR v) : LwS 86 150 [vI t, vI w, vI v] σ :=
  lw_w (o := fun τ => oTerm τ t w v) hI hR (fun k hk => x_term hR hI ht hw hv hk) (fun τ k hτ hk => m_term hτ ht hw hv hk) (fun τ r μ hq ho => by
    revert ho
    unfold oTerm
    simp only [sm_all hq, sm_isS hq, sm_isP hq, same_allB hq, same_mSet hq, sm_mbW hq, sm_padL hq, sm_mOrd hq, sm_ahL hq, sm_mBk hq, sm_sayB hq, sm_txB hq, sm_newC hq, sm_same hq, sm_wanted hq]
    exact id)
theorem sa_unlike {t s i : Int} {σ τ : Mm} (hq : same [] [] σ τ) : aUnlike τ t s i = aUnlike σ t s i := by
  have e1 : stH τ = stH σ := sm_stH hq
  have e2 : unH τ = unH σ := sm_unH hq
  have e3 : bestO τ = bestO σ := sm_bestO hq
  have e4 : clP τ = clP σ := sm_clP hq
  unfold aUnlike
  simp only [sm_all hq, sm_isS hq, sm_isP hq, same_allB hq, same_mSet hq, sm_mbW hq, sm_padL hq, sm_sayB hq, same_unB hq, sm_edB hq, sm_edE hq, sm_edN hq, sm_edS hq, sm_edR1 hq, sm_edP hq, sm_edBf hq, sm_onHit hq, same_metB hq, sm_rchB hq, sm_lsF hq, e1, e2, e3, e4]
theorem lw_unlike {t s i : Int} {σ : Mm} (hI : mI σ) (hR : XR σ σ) (ht : IR t) (hs : IR s) (hi : IR i) : LwS 238 214 [vI t, vI s, vI i] σ :=
  lw_a (a := fun τ => aUnlike τ t s i) hI hR (fun k hk => x_unlike hR hI ht hs hi (hk)) (fun τ k hτ hk => m_unlike hτ ht hs hi hk) (fun τ hq => sa_unlike hq)
theorem lw_edition {s t w h : Int} {σ : Mm} (hI : mI σ) (hR : XR σ σ) (hs : IR s) (ht : IR t) (hw : IR w) (hh : IR h) : LwS 134 171 [vI s, vI t, vI w, vI h] σ :=
  lw_w (o := fun τ => oEdition τ s t w h) hI hR (fun k hk => x_edition hR hI hs ht hw hh hk) (fun τ k hτ hk => m_edition hτ hs ht hw hh hk) (fun τ r μ hq ho => by
    revert ho
    unfold oEdition
    simp only [sm_all hq, sm_isS hq, sm_isP hq, same_allB hq, same_mSet hq, sm_mbW hq, sm_padL hq, sm_mOrd hq, sm_ahL hq, sm_mBk hq, sm_sayB hq, sm_txB hq, sm_newC hq, sm_same hq, sm_wanted hq]
    exact id)
theorem sa_pages {e w : Int} {σ τ : Mm} (hq : same [] [] σ τ) : aPages τ e w = aPages σ e w := by
  have e1 : stH τ = stH σ := sm_stH hq
  have e2 : unH τ = unH σ := sm_unH hq
  have e3 : bestO τ = bestO σ := sm_bestO hq
  have e4 : clP τ = clP σ := sm_clP hq
  unfold aPages
  simp only [sm_all hq, sm_isS hq, sm_isP hq, same_allB hq, same_mSet hq, sm_mbW hq, sm_padL hq, sm_sayB hq, same_unB hq, sm_edB hq, sm_edE hq, sm_edN hq, sm_edS hq, sm_edR1 hq, sm_edP hq, sm_edBf hq, sm_onHit hq, same_metB hq, sm_rchB hq, sm_lsF hq, e1, e2, e3, e4]
theorem lw_pages {e w : Int} {σ : Mm} (hI : mI σ) (hR : XR σ σ) (he : IR e) (hw : IR w) : LwS 245 250 [vI e, vI w] σ :=
  lw_a (a := fun τ => aPages τ e w) hI hR (fun k hk => x_pages hR hI he hw (hk)) (fun τ k hτ hk => m_pages hτ he hw hk) (fun τ hq => sa_pages hq)
theorem sa_onPage {e p w : Int} {σ τ : Mm} (hq : same [] [] σ τ) : aOnPage τ e p w = aOnPage σ e p w := by
  have e1 : stH τ = stH σ := sm_stH hq
  have e2 : unH τ = unH σ := sm_unH hq
  have e3 : bestO τ = bestO σ := sm_bestO hq
  have e4 : clP τ = clP σ := sm_clP hq
  unfold aOnPage
  simp only [sm_all hq, sm_isS hq, sm_isP hq, same_allB hq, same_mSet hq, sm_mbW hq, sm_padL hq, sm_sayB hq, same_unB hq, sm_edB hq, sm_edE hq, sm_edN hq, sm_edS hq, sm_edR1 hq, sm_edP hq, sm_edBf hq, sm_onHit hq, same_metB hq, sm_rchB hq, sm_lsF hq, e1, e2, e3, e4]
theorem lw_onPage {e p w : Int} {σ : Mm} (hI : mI σ) (hR : XR σ σ) (he : IR e) (hp : IR p) (hw : IR w) : LwS 244 249 [vI e, vI p, vI w] σ :=
  lw_a (a := fun τ => aOnPage τ e p w) hI hR (fun k hk => x_onPage hR hI he hp hw (hk)) (fun τ k hτ hk => m_onPage hτ he hp hw hk) (fun τ hq => sa_onPage hq)
theorem sa_line {e p i : Int} {σ τ : Mm} (hq : same [] [] σ τ) : aLine τ e p i = aLine σ e p i := by
  have e1 : stH τ = stH σ := sm_stH hq
  have e2 : unH τ = unH σ := sm_unH hq
  have e3 : bestO τ = bestO σ := sm_bestO hq
  have e4 : clP τ = clP σ := sm_clP hq
  unfold aLine
  simp only [sm_all hq, sm_isS hq, sm_isP hq, same_allB hq, same_mSet hq, sm_mbW hq, sm_padL hq, sm_sayB hq, same_unB hq, sm_edB hq, sm_edE hq, sm_edN hq, sm_edS hq, sm_edR1 hq, sm_edP hq, sm_edBf hq, sm_onHit hq, same_metB hq, sm_rchB hq, sm_lsF hq, e1, e2, e3, e4]
theorem lw_line {e p i : Int} {σ : Mm} (hI : mI σ) (hR : XR σ σ) (he : IR e) (hp : IR p) (hi : IR i) : LwS 243 248 [vI e, vI p, vI i] σ :=
  lw_a (a := fun τ => aLine τ e p i) hI hR (fun k hk => x_line hR hI he hp hi (hk)) (fun τ k hτ hk => m_line hτ he hp hi hk) (fun τ hq => sa_line hq)
theorem sa_index {e w i : Int} {σ τ : Mm} (hq : same [] [] σ τ) : aIndex τ e w i = aIndex σ e w i := by
  have e1 : stH τ = stH σ := sm_stH hq
  have e2 : unH τ = unH σ := sm_unH hq
  have e3 : bestO τ = bestO σ := sm_bestO hq
  have e4 : clP τ = clP σ := sm_clP hq
  unfold aIndex
  simp only [sm_all hq, sm_isS hq, sm_isP hq, same_allB hq, same_mSet hq, sm_mbW hq, sm_padL hq, sm_sayB hq, same_unB hq, sm_edB hq, sm_edE hq, sm_edN hq, sm_edS hq, sm_edR1 hq, sm_edP hq, sm_edBf hq, sm_onHit hq, same_metB hq, sm_rchB hq, sm_lsF hq, e1, e2, e3, e4]
theorem lw_index {e w i : Int} {σ : Mm} (hI : mI σ) (hR : XR σ σ) (he : IR e) (hw : IR w) (hi : IR i) : LwS 242 247 [vI e, vI w, vI i] σ :=
  lw_a (a := fun τ => aIndex τ e w i) hI hR (fun k hk => x_index hR hI he hw hi (hk)) (fun τ k hτ hk => m_index hτ he hw hi hk) (fun τ hq => sa_index hq)
theorem sa_reach {e s w : Int} {σ τ : Mm} (hq : same [] [] σ τ) : aReach τ e s w = aReach σ e s w := by
  have e1 : stH τ = stH σ := sm_stH hq
  have e2 : unH τ = unH σ := sm_unH hq
  have e3 : bestO τ = bestO σ := sm_bestO hq
  have e4 : clP τ = clP σ := sm_clP hq
  unfold aReach
  simp only [sm_all hq, sm_isS hq, sm_isP hq, same_allB hq, same_mSet hq, sm_mbW hq, sm_padL hq, sm_sayB hq, same_unB hq, sm_edB hq, sm_edE hq, sm_edN hq, sm_edS hq, sm_edR1 hq, sm_edP hq, sm_edBf hq, sm_onHit hq, same_metB hq, sm_rchB hq, sm_lsF hq, e1, e2, e3, e4]
theorem lw_reach {e s w : Int} {σ : Mm} (hI : mI σ) (hR : XR σ σ) (he : IR e) (hs : IR s) (hw : IR w) : LwS 246 251 [vI e, vI s, vI w] σ :=
  lw_a (a := fun τ => aReach τ e s w) hI hR (fun k hk => x_reach hR hI he hs hw (hk)) (fun τ k hτ hk => m_reach hτ he hs hw hk) (fun τ hq => sa_reach hq)
theorem sa_told {w : Int} {σ τ : Mm} (hq : same [] [] σ τ) : aTold τ w = aTold σ w := by
  have e1 : stH τ = stH σ := sm_stH hq
  have e2 : unH τ = unH σ := sm_unH hq
  have e3 : bestO τ = bestO σ := sm_bestO hq
  have e4 : clP τ = clP σ := sm_clP hq
  unfold aTold
  simp only [sm_all hq, sm_isS hq, sm_isP hq, same_allB hq, same_mSet hq, sm_mbW hq, sm_padL hq, sm_sayB hq, same_unB hq, sm_edB hq, sm_edE hq, sm_edN hq, sm_edS hq, sm_edR1 hq, sm_edP hq, sm_edBf hq, sm_onHit hq, same_metB hq, sm_rchB hq, sm_lsF hq, e1, e2, e3, e4]
theorem lw_told {w : Int} {σ : Mm} (hI : mI σ) (hR : XR σ σ) (hw : IR w) : LwS 87 151 [vI w] σ :=
  lw_a (a := fun τ => aTold τ w) hI hR (fun k hk => x_told hR hI hw (hk _ Fr.rfl' hR)) (fun τ k hτ hk => m_told hτ hw hk) (fun τ hq => sa_told hq)
theorem sa_digest {s : Int} {σ τ : Mm} (hq : same [] [] σ τ) : aDigest τ s = aDigest σ s := by
  unfold aDigest
  have e : dgP τ = dgP σ := by funext B; unfold dgP; rw [sm_mbW hq]
  simp only [sm_isS hq, same_allB hq, same_mSet hq, e]
theorem lw_digest {s : Int} {σ : Mm} (hI : mI σ) (hR : XR σ σ) (hs : IR s) (k : Mm → Prop) (hk : ∀ σ2, lwF σ σ2 → mI σ2 → XR σ2 σ2 → k σ2) : OkL 222 [vR 16908368 0, vI s] σ (fun r σ1 => lwF σ σ1 ∧ OkL 204 [vR 184680536 0, vI s] σ1 (fun r2 σ2 => r2 = r ∧ k σ2)) :=
  x_digest hR hI hs (fun σ1 hF hR1 => by
    have h1 := xFr_same (sc_xFr hF)
    refine ⟨xFr_lw (sc_xFr hF), m_digest (mI_same h1 hI) hs (fun r2 σ2 ho hS hF2 hI2 => ⟨ho.trans (sa_digest h1), ?_⟩)⟩
    exact hk σ2 (lwF_trans (xFr_lw (sc_xFr hF)) (mFr_lw hF2)) hI2 (XR_m (same_trans h1 hS) (XR_fr hF2 (by decide) hR1)))
