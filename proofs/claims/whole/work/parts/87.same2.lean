/-! what is the same where what is kept is -/
theorem same_allB {σ σ1 : Mm} (h : same [] [] σ σ1) (s : Int64) : allB σ1 s = allB σ s := by
  unfold allB mBk mOrd
  rw [h.i 973210081 rfl rfl, h.i 1023541729 rfl rfl, h.i 1040318945 rfl rfl, h.i 1057096161 rfl rfl, h.i 1107427809 rfl rfl, h.i 1124208385 rfl rfl, h.i 1006764513 rfl rfl, h.i 989987297 rfl rfl, h.f 10 rfl rfl, h.f 16 rfl rfl]
theorem same_mSet {σ σ1 : Mm} (h : same [] [] σ σ1) (s : Int) : mSet σ1 s = mSet σ s := by
  unfold mSet
  rw [h.l 1140981811 rfl rfl, h.l 1157759043 rfl rfl]
theorem same_mSay {σ σ1 : Mm} (h : same [] [] σ σ1) (B : Bk) (t : Int) : mSay σ1 B t = mSay σ B t := by
  funext p
  exact mSay_eq (fun a ha => h.i a (by revert a ha; decide) rfl) (h.f _ rfl rfl)
theorem same_mkE {σ σ1 : Mm} (h : same [] [] σ σ1) (B : Bk) (t w hh : Int) : mkE σ1 B t w hh = mkE σ B t w hh := by
  unfold mkE
  rw [h.i 1073873377 rfl rfl, h.i 1090650593 rfl rfl, same_mSay h]
theorem same_pgL {σ σ1 : Mm} (h : same [] [] σ σ1) (B : Bk) (t w hh : Int) : pgL σ1 B t w hh = pgL σ B t w hh := by
  unfold pgL nrE
  rw [same_mkE h]
theorem same_lastE {σ σ1 : Mm} (h : same [] [] σ σ1) (B : Bk) (t w hh : Int) : lastE σ1 B t w hh = lastE σ B t w hh := by
  unfold lastE nrE
  rw [same_mkE h]
theorem same_nrE {σ σ1 : Mm} (h : same [] [] σ σ1) (B : Bk) (t w hh : Int) : nrE σ1 B t w hh = nrE σ B t w hh := by
  unfold nrE
  rw [same_mkE h]
theorem same_metB {σ σ1 : Mm} (h : same [] [] σ σ1) (B : Bk) : metB σ1 B = metB σ B := by
  funext r
  unfold metB yesB txB yesW
  rw [h.i 1510080561 rfl rfl, h.i 1493303345 rfl rfl, h.i 1526857889 rfl rfl, h.i 1543635105 rfl rfl, h.i 1560412321 rfl rfl, h.i 1577266177 rfl rfl, h.i 1476526881 rfl rfl, h.f 43 rfl rfl]
  have e : ∀ p, mbW σ1 B p = mbW σ B p := fun p => mbW_eq (h.i _ rfl rfl) (h.i _ rfl rfl)
  rw [show mbW σ1 B = mbW σ B from funext e]
theorem same_unB {σ σ1 : Mm} (h : same [] [] σ σ1) (B : Bk) : unB σ1 B = unB σ B := by
  unfold unB
  rw [same_metB h, h.f 38 rfl rfl]
/-- a sheet set holds a book read through -/
theorem sht_inR {σ σ1 : Mm} {e t w h : Int} {s : Int64} (hI : mI σ) (hs : shtM σ σ1 e t w h (allB σ s)) : inR σ1 (allB σ s) := by
  obtain ⟨ok, hsp, hB⟩ := allB_ok hI.1 s
  obtain ⟨u1, u2⟩ := sht_all hs
  exact ⟨hs.1.2.2.2.1.1, ok, hs.1.2.2.2.2.1, hs.1.2.2.2.2.2.1, fun p hp => say_rng hsp hs.1.2.2.2.1.1 (u2.i _ rfl rfl) (u2.i _ rfl rfl) (ok.2.1 p ((readL_mem ok).mp hp).1)⟩
/-! bits of what is not met -/
theorem unF_bits : ∀ n : Fin 7, ∀ m : Fin 64, ∀ k : Fin 6, (unF (fun x => Nat.testBit m.val x.toNat) n.val ≤ 63 ∧ 0 ≤ unF (fun x => Nat.testBit m.val x.toNat) n.val) ∧ (k.val < n.val → jand (jshr (unF (fun x => Nat.testBit m.val x.toNat) n.val) (k.val : Int)) 1 = if Nat.testBit m.val k.val then 0 else 1) := by decide +kernel
theorem bits_of (P : Nat → Bool) : ∃ m : Fin 64, ∀ k : Fin 6, Nat.testBit m.val k.val = P k.val := by
  have h : ∀ a b c d e f : Bool, ∃ m : Fin 64, Nat.testBit m.val 0 = a ∧ Nat.testBit m.val 1 = b ∧ Nat.testBit m.val 2 = c ∧ Nat.testBit m.val 3 = d ∧ Nat.testBit m.val 4 = e ∧ Nat.testBit m.val 5 = f := by
    intro a b c d e f
    refine ⟨⟨a.toNat + 2 * b.toNat + 4 * c.toNat + 8 * d.toNat + 16 * e.toNat + 32 * f.toNat, ?_⟩, ?_⟩
    · cases a <;> cases b <;> cases c <;> cases d <;> cases e <;> cases f <;> decide
    · cases a <;> cases b <;> cases c <;> cases d <;> cases e <;> cases f <;> decide
  obtain ⟨m, h0, h1, h2, h3, h4, h5⟩ := h (P 0) (P 1) (P 2) (P 3) (P 4) (P 5)
  refine ⟨m, fun k => ?_⟩
  match k with
  | ⟨0, _⟩ => exact h0
  | ⟨1, _⟩ => exact h1
  | ⟨2, _⟩ => exact h2
  | ⟨3, _⟩ => exact h3
  | ⟨4, _⟩ => exact h4
  | ⟨5, _⟩ => exact h5
theorem unF_bit {P : Int → Bool} {n : Nat} (hn : n ≤ 6) : (0 ≤ unF P n ∧ unF P n ≤ 63) ∧ ∀ k : Nat, k < n → jand (jshr (unF P n) (k : Int)) 1 = if P k = true then 0 else 1 := by
  obtain ⟨m, hm⟩ := bits_of (fun k => P (k : Int))
  have e : unF P n = unF (fun x => Nat.testBit m.val x.toNat) n := unF_congr (fun x a b => by
    obtain ⟨y, rfl⟩ := Int.eq_ofNat_of_zero_le a
    have := hm ⟨y, by omega⟩
    simpa using this.symm)
  rw [e]
  have h := unF_bits ⟨n, by omega⟩ m
  refine ⟨⟨(h ⟨0, by omega⟩).1.2, (h ⟨0, by omega⟩).1.1⟩, fun k hk => ?_⟩
  have := (h ⟨k, by omega⟩).2 hk
  have hk2 := hm ⟨k, by omega⟩
  simp only at this hk2
  rw [hk2] at this
  exact this
