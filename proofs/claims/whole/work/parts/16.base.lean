/-! the rules of methods by the kind of their answer; bits of sets -/
def kI (k : Int → Mm → Prop) : Option Vv → Mm → Prop := fun r σ' => ∃ x, r = some (vI x) ∧ k x σ'
def kL (k : Int64 → Mm → Prop) : Option Vv → Mm → Prop := fun r σ' => ∃ x, r = some (vG x) ∧ k x σ'
def kR (k : Nat → Int → Mm → Prop) : Option Vv → Mm → Prop := fun r σ' => ∃ (q : Nat) (j : Int), r = some (vR q j) ∧ k q j σ'
def kV (k : Mm → Prop) : Option Vv → Mm → Prop := fun r σ' => r = none ∧ k σ'
theorem kI_e {k : Int → Mm → Prop} {x : Int} {σ : Mm} : kI k (some (vI x)) σ = k x σ := propext ⟨fun ⟨_, h, h2⟩ => by cases h; exact h2, fun h => ⟨x, rfl, h⟩⟩
theorem kL_e {k : Int64 → Mm → Prop} {x : Int64} {σ : Mm} : kL k (some (vG x)) σ = k x σ := propext ⟨fun ⟨_, h, h2⟩ => by cases h; exact h2, fun h => ⟨x, rfl, h⟩⟩
theorem kR_e {k : Nat → Int → Mm → Prop} {r : Nat} {j : Int} {σ : Mm} : kR k (some (vR r j)) σ = k r j σ := propext ⟨fun ⟨_, _, h, h2⟩ => by cases h; exact h2, fun h => ⟨r, j, rfl, h⟩⟩
theorem kV_e {k : Mm → Prop} {σ : Mm} : kV k none σ = k σ := propext ⟨fun h => h.2, fun h => ⟨rfl, h⟩⟩
section
variable {id : Nat} {B : List (List In)} {as : List Vv} {σ : Mm}
theorem ok_run {k : Option Vv → Mm → Prop} (hB : MkB id B) (hlen : (entL as).length ≤ (sgD id).2.2.1) (h : ∀ K : Nat → Sx, xs (go B K k 60) k (B.getD 0 []) (ent0 as (sgD id).2.2.1) [] σ) : OkG (sgD id) 0 0 as σ k :=
  ok_intro hB 60 (fun _ _ _ _ => False) hlen (fun K _ => h K) (fun _ _ _ _ _ h => h.elim)
theorem okI_run {k : Int → Mm → Prop} (hB : MkB id B) (hlen : (entL as).length ≤ (sgD id).2.2.1) (h : ∀ K : Nat → Sx, xs (go B K (kI k) 60) (kI k) (B.getD 0 []) (ent0 as (sgD id).2.2.1) [] σ) : OkI id as σ k := ok_run hB hlen h
theorem okL_run {k : Int64 → Mm → Prop} (hB : MkB id B) (hlen : (entL as).length ≤ (sgD id).2.2.1) (h : ∀ K : Nat → Sx, xs (go B K (kL k) 60) (kL k) (B.getD 0 []) (ent0 as (sgD id).2.2.1) [] σ) : OkL id as σ k := ok_run hB hlen h
theorem okR_run {k : Nat → Int → Mm → Prop} (hB : MkB id B) (hlen : (entL as).length ≤ (sgD id).2.2.1) (h : ∀ K : Nat → Sx, xs (go B K (kR k) 60) (kR k) (B.getD 0 []) (ent0 as (sgD id).2.2.1) [] σ) : OkR id as σ k := ok_run hB hlen h
theorem okV_run {k : Mm → Prop} (hB : MkB id B) (hlen : (entL as).length ≤ (sgD id).2.2.1) (h : ∀ K : Nat → Sx, xs (go B K (kV k) 60) (kV k) (B.getD 0 []) (ent0 as (sgD id).2.2.1) [] σ) : OkV id as σ k := ok_run hB hlen h
/-- with loops: the invariant at the heads, what is asked from the entry, what from each head -/
theorem ok_loop {k : Option Vv → Mm → Prop} (hB : MkB id B) (Inv : Nat → Nat → List (Option Vv) → Mm → Prop) (hlen : (entL as).length ≤ (sgD id).2.2.1)
    (h0 : ∀ K : Nat → Sx, (∀ b n ls σ', 1000 ≤ b → Inv b n ls σ' → K b ls [] σ') → xs (go B K k 60) k (B.getD 0 []) (ent0 as (sgD id).2.2.1) [] σ)
    (hs : ∀ b n ls σ', Inv b n ls σ' → ∀ K : Nat → Sx, (∀ b' n' ls' σ'', 1000 ≤ b' → n' < n → Inv b' n' ls' σ'' → K b' ls' [] σ'') → xs (go B K k 60) k (B.getD (b % 1000) []) ls [] σ') : OkG (sgD id) 0 0 as σ k := by
  exact ok_intro hB 60 Inv hlen h0 (fun b n ls σ' _ hI K hK => hs b n ls σ' hI K hK)
end
/-- which places of a set are in it -/
def hasB (s : Int64) (c : Int) : Prop := s.toBitVec.getLsbD c.toNat = true
theorem sh64 : ∀ c : Nat, c < 64 → ((Int32.ofInt (c : Int)).toInt64 &&& 63).toBitVec = BitVec.ofNat 64 c ∧ ((Int32.ofInt (c : Int)).toInt64.toUInt64 &&& Int64.toUInt64 63).toBitVec = BitVec.ofNat 64 c := by decide +kernel
theorem sm64 : ∀ c : Nat, c < 64 → ((BitVec.ofNat 64 c).smod 64).toNat = c ∧ (BitVec.ofNat 64 c % 64).toNat = c := by decide +kernel
theorem bv_and1 (x : BitVec 64) : (x &&& 1#64 = 1#64 ↔ x.getLsbD 0 = true) ∧ (x &&& 1#64 = 0#64 ↔ x.getLsbD 0 = false) := by
  constructor
  · constructor
    · intro h
      have := congrArg (fun y => y.getLsbD 0) h
      simpa using this
    · intro h
      apply BitVec.eq_of_getLsbD_eq
      intro i hi
      by_cases h0 : i = 0
      · subst h0; simpa using h
      · simp [BitVec.getLsbD_one, h0]
  · constructor
    · intro h
      have := congrArg (fun y => y.getLsbD 0) h
      simpa using this
    · intro h
      apply BitVec.eq_of_getLsbD_eq
      intro i hi
      by_cases h0 : i = 0
      · subst h0; simpa using h
      · simp [BitVec.getLsbD_one, h0]
theorem i64_eq {x y : Int64} : x = y ↔ x.toBitVec = y.toBitVec := ⟨fun h => by rw [h], fun h => Int64.toBitVec_inj.mp h⟩
theorem qshr_bit {s : Int64} {c : Int} (h0 : 0 ≤ c) (h1 : c < 64) : (qshr s c).toBitVec.getLsbD 0 = s.toBitVec.getLsbD c.toNat := by
  obtain ⟨n, rfl⟩ := Int.eq_ofNat_of_zero_le h0
  have hn : n < 64 := by omega
  unfold qshr
  rw [Int64.toBitVec_shiftRight, (sh64 n hn).1]
  rw [BitVec.sshiftRight', (sm64 n hn).1, BitVec.getLsbD_sshiftRight]
  simp [hn]
theorem qushr_bit {s : Int64} {c : Int} (h0 : 0 ≤ c) (h1 : c < 64) : (qushr s c).toBitVec.getLsbD 0 = s.toBitVec.getLsbD c.toNat := by
  obtain ⟨n, rfl⟩ := Int.eq_ofNat_of_zero_le h0
  have hn : n < 64 := by omega
  unfold qushr
  show (s.toUInt64 >>> _).toBitVec.getLsbD 0 = _
  rw [UInt64.toBitVec_shiftRight, (sh64 n hn).2]
  show (s.toBitVec >>> (BitVec.ofNat 64 n % 64)).getLsbD 0 = _
  rw [BitVec.ushiftRight_eq', (sm64 n hn).2, BitVec.getLsbD_ushiftRight]
  simp
theorem one64 : (Int64.ofInt 1).toBitVec = 1#64 ∧ (Int64.ofInt 0).toBitVec = 0#64 := by decide
theorem isIn_1 {s : Int64} {c : Int} (h0 : 0 ≤ c) (h1 : c < 64) : (qshr s c &&& Int64.ofInt 1 = Int64.ofInt 1 ↔ hasB s c) ∧ (qushr s c &&& Int64.ofInt 1 = Int64.ofInt 0 ↔ ¬ hasB s c) := by
  rw [i64_eq, i64_eq, Int64.toBitVec_and, Int64.toBitVec_and, one64.1, one64.2, (bv_and1 _).1, (bv_and1 _).2, qshr_bit h0 h1, qushr_bit h0 h1]
  simp [hasB]
theorem qshl_bit {c d : Int} (h0 : 0 ≤ c) (h1 : c < 64) (hd : 0 ≤ d) : hasB (qshl (Int64.ofInt 1) c) d ↔ d = c := by
  obtain ⟨n, rfl⟩ := Int.eq_ofNat_of_zero_le h0
  obtain ⟨m, rfl⟩ := Int.eq_ofNat_of_zero_le hd
  have hn : n < 64 := by omega
  unfold qshl hasB
  rw [Int64.toBitVec_shiftLeft, (sh64 n hn).1, one64.1]
  rw [BitVec.shiftLeft_eq', (sm64 n hn).1, BitVec.getLsbD_shiftLeft]
  simp [BitVec.getLsbD_one]
  omega
theorem hasB_or {s t : Int64} {d : Int} : hasB (s ||| t) d ↔ hasB s d ∨ hasB t d := by simp [hasB]
theorem hasB_and {s t : Int64} {d : Int} : hasB (s &&& t) d ↔ hasB s d ∧ hasB t d := by simp [hasB]
theorem hasB_not {s : Int64} {d : Int} (h : d < 64) : hasB (s ^^^ Int64.ofInt (-1)) d ↔ ¬ hasB s d := by
  unfold hasB
  rw [Int64.toBitVec_xor, show (Int64.ofInt (-1)).toBitVec = BitVec.allOnes 64 by decide, BitVec.getLsbD_xor, BitVec.getLsbD_allOnes]
  have : d.toNat < 64 := by omega
  simp [this]
theorem hasB_0 {d : Int} : ¬ hasB (Int64.ofInt 0) d := by unfold hasB; rw [one64.2]; simp
theorem hasB_ext {s t : Int64} (h : ∀ d : Int, 0 ≤ d → d < 64 → (hasB s d ↔ hasB t d)) : s = t := by
  rw [i64_eq]
  apply BitVec.eq_of_getLsbD_eq
  intro i hi
  have := h (i : Int) (by omega) (by omega)
  simp only [hasB, Int.toNat_natCast] at this
  rw [Bool.eq_iff_iff]
  exact this
