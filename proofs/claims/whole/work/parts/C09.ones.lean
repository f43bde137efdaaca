/-! the class: how many bits are set -/
def nB (x : Int64) : Nat := x.toBitVec.toNat
theorem nB_add {a b : Int64} : nB (a + b) = (nB a + nB b) % 2 ^ 64 := by unfold nB; rw [Int64.toBitVec_add, BitVec.toNat_add]
theorem nB_sub {a b : Int64} : nB (a - b) = (2 ^ 64 - nB b + nB a) % 2 ^ 64 := by unfold nB; rw [Int64.toBitVec_sub, BitVec.toNat_sub]
theorem nB_and {a b : Int64} : nB (a &&& b) = nB a &&& nB b := by unfold nB; rw [Int64.toBitVec_and, BitVec.toNat_and]
theorem nB_lt {a : Int64} : nB a < 2 ^ 64 := a.toBitVec.isLt
theorem nB_shr {a : Int64} {q : Int} (w : UInt64) (hw : (Int32.ofInt q).toInt64.toUInt64 &&& Int64.toUInt64 63 = w) (h : w.toNat < 64) : nB (qushr a q) = nB a / 2 ^ w.toNat := by
  unfold qushr
  rw [hw]
  show (a.toUInt64 >>> w).toNat = a.toUInt64.toNat / 2 ^ w.toNat
  rw [UInt64.toNat_shiftRight, Nat.mod_eq_of_lt h, Nat.shiftRight_eq_div_pow]
theorem sh1 {a : Int64} : nB (qushr a 1) = nB a / 2 := nB_shr 1 (by decide) (by decide)
theorem sh2 {a : Int64} : nB (qushr a 2) = nB a / 4 := nB_shr 2 (by decide) (by decide)
theorem sh4 {a : Int64} : nB (qushr a 4) = nB a / 16 := nB_shr 4 (by decide) (by decide)
theorem sh8 {a : Int64} : nB (qushr a 8) = nB a / 256 := nB_shr 8 (by decide) (by decide)
theorem sh16 {a : Int64} : nB (qushr a 16) = nB a / 65536 := nB_shr 16 (by decide) (by decide)
theorem sh32 {a : Int64} : nB (qushr a 32) = nB a / 4294967296 := nB_shr 32 (by decide) (by decide)
theorem nB_c1 : nB (Int64.ofInt 6148914691236517205) = 6148914691236517205 := by decide
theorem nB_c2 : nB (Int64.ofInt 3689348814741910323) = 3689348814741910323 := by decide
theorem nB_c3 : nB (Int64.ofInt 1085102592571150095) = 1085102592571150095 := by decide
theorem nB_l {a : Int64} : jand a.toInt32.toInt 127 = (nB a % 128 : Nat) := by
  unfold jand
  rw [Int32.ofInt_toInt]
  have e : (a.toInt32 &&& Int32.ofInt 127).toBitVec.toNat = nB a % 128 := by
    rw [Int32.toBitVec_and, BitVec.toNat_and]
    have e1 : a.toInt32.toBitVec.toNat = nB a % 2 ^ 32 := by
      rw [Int64.toBitVec_toInt32, BitVec.signExtend_eq_setWidth_of_le _ (by decide), BitVec.toNat_setWidth]; rfl
    rw [e1, show (Int32.ofInt 127).toBitVec.toNat = 127 from rfl]
    rw [show (127 : Nat) = 2 ^ 7 - 1 from rfl, Nat.and_two_pow_sub_one_eq_mod]
    omega
  rw [← e]
  exact BitVec.toInt_eq_toNat_of_lt (by omega)
theorem and_split (x y : Nat) : x &&& y = (x % 256 &&& y % 256) + 256 * (x / 256 &&& y / 256) := by
  have h1 : (x &&& y) % 256 = (x % 256 &&& y % 256) := Nat.and_mod_two_pow (n := 8)
  have h2 : (x &&& y) / 256 = (x / 256 &&& y / 256) := Nat.and_div_two_pow (n := 8)
  have := Nat.div_add_mod (x &&& y) 256
  omega
/-- the ones of a byte, of so many bytes -/
def pcb (b : Nat) : Nat := b % 2 + b / 2 % 2 + b / 4 % 2 + b / 8 % 2 + b / 16 % 2 + b / 32 % 2 + b / 64 % 2 + b / 128 % 2
def mB (m : Nat) : Nat → Nat
  | 0 => 0
  | n + 1 => m + 256 * mB m n
theorem mB_s {m n : Nat} : mB m (n + 1) = m + 256 * mB m n := rfl
def bS (f : Nat → Nat) : Nat → Nat → Nat
  | 0, _ => 0
  | n + 1, x => f (x % 256) + 256 * bS f n (x / 256)
theorem bS_le {f : Nat → Nat} {m : Nat} (hf : ∀ b, b < 256 → f b ≤ m) : ∀ (n x : Nat), bS f n x ≤ mB m n
  | 0, _ => Nat.le_refl _
  | n + 1, x => by
    unfold bS mB
    have := bS_le hf n (x / 256)
    have := hf (x % 256) (by omega)
    omega
def s1 (b : Nat) : Nat := b - (b / 2 &&& 0x55)
def s2 (c : Nat) : Nat := (c &&& 0x33) + (c / 4 &&& 0x33)
def s3 (d : Nat) : Nat := (d + d / 16) % 16
theorem b1 : ∀ c : Fin 256, (c.val &&& 0x55) = (c.val % 128 &&& 0x55) := by decide +kernel
theorem b2 : ∀ c : Fin 256, (c.val &&& 0x33) = (c.val % 64 &&& 0x33) := by decide +kernel
theorem b3 : ∀ c : Fin 256, (c.val &&& 0x0f) = c.val % 16 := by decide +kernel
theorem b4 : ∀ c : Fin 256, s1 c.val < 256 ∧ s2 (s1 c.val) < 256 ∧ s2 (s1 c.val) % 16 ≤ 4 ∧ s2 (s1 c.val) / 16 ≤ 4 ∧ s3 (s2 (s1 c.val)) = pcb c.val := by decide +kernel
theorem sw1 : ∀ (n x : Nat), x < 256 ^ n → (x / 2 &&& mB 0x55 n) ≤ x ∧ x - (x / 2 &&& mB 0x55 n) = bS s1 n x
  | 0, x, h => by
    have : x = 0 := by omega
    subst this
    simp [mB, bS]
  | n + 1, x, h => by
    have ih := sw1 n (x / 256) (by rw [Nat.pow_succ] at h; omega)
    have h1 := b1 ⟨x / 2 % 256, by omega⟩
    simp only at h1
    have e := and_split (x / 2) (mB 0x55 (n + 1))
    have e2 : mB 0x55 (n + 1) % 256 = 0x55 := by rw [mB_s]; omega
    have e3 : mB 0x55 (n + 1) / 256 = mB 0x55 n := by rw [mB_s]; omega
    rw [e2, e3, h1, show x / 2 % 256 % 128 = x % 256 / 2 by omega, show x / 2 / 256 = x / 256 / 2 by omega] at e
    have le : (x % 256 / 2 &&& 0x55) ≤ x % 256 / 2 := Nat.and_le_left
    rw [e]
    unfold bS
    rw [← ih.2]
    unfold s1
    omega
theorem sw2 : ∀ (n x : Nat), (x &&& mB 0x33 n) + (x / 4 &&& mB 0x33 n) = bS s2 n x
  | 0, x => by simp [mB, bS]
  | n + 1, x => by
    have ih := sw2 n (x / 256)
    have h1 := b2 ⟨x / 4 % 256, by omega⟩
    simp only at h1
    have e := and_split (x / 4) (mB 0x33 (n + 1))
    have e' := and_split x (mB 0x33 (n + 1))
    have e2 : mB 0x33 (n + 1) % 256 = 0x33 := by rw [mB_s]; omega
    have e3 : mB 0x33 (n + 1) / 256 = mB 0x33 n := by rw [mB_s]; omega
    rw [e2, e3, h1, show x / 4 % 256 % 64 = x % 256 / 4 by omega, show x / 4 / 256 = x / 256 / 4 by omega] at e
    rw [e2, e3] at e'
    rw [e, e']
    unfold bS
    rw [← ih]
    unfold s2
    omega
/-- all bytes have small halves -/
def sm : Nat → Nat → Prop
  | 0, _ => True
  | n + 1, x => x % 16 ≤ 4 ∧ x / 16 % 16 ≤ 4 ∧ sm n (x / 256)
theorem sw3 : ∀ (n x : Nat), x < 256 ^ n → sm n x → (x + x / 16 &&& mB 0x0f n) = bS s3 n x
  | 0, x, _, _ => by simp [mB, bS]
  | n + 1, x, h, hs => by
    obtain ⟨a1, a2, a3⟩ := hs
    have hx : x / 256 < 256 ^ n := by rw [Nat.pow_succ] at h; omega
    have ih := sw3 n (x / 256) hx a3
    have a4 : x / 256 % 16 ≤ 4 := by
      cases n with
      | zero => simp at hx; omega
      | succ n => exact a3.1
    have h1 := b3 ⟨(x + x / 16) % 256, by omega⟩
    simp only at h1
    have e := and_split (x + x / 16) (mB 0x0f (n + 1))
    have e2 : mB 0x0f (n + 1) % 256 = 0x0f := by rw [mB_s]; omega
    have e3 : mB 0x0f (n + 1) / 256 = mB 0x0f n := by rw [mB_s]; omega
    have e4 : (x + x / 16) / 256 = x / 256 + x / 256 / 16 := by
      clear e e2 e3 h1 ih hx h a3
      obtain ⟨y, u, v, rfl, hu, hv⟩ : ∃ y u v, x = 256 * y + 16 * u + v ∧ u < 16 ∧ v < 16 := ⟨x / 256, x / 16 % 16, x % 16, by omega, by omega, by omega⟩
      have f1 : (256 * y + 16 * u + v) / 256 = y := by omega
      have f2 : (256 * y + 16 * u + v) / 16 = 16 * y + u := by omega
      rw [f1] at a4 ⊢
      rw [f2] at a2 ⊢
      obtain ⟨y1, y0, rfl, hy⟩ : ∃ y1 y0, y = 16 * y1 + y0 ∧ y0 < 16 := ⟨y / 16, y % 16, by omega, by omega⟩
      have f3 : (16 * y1 + y0) / 16 = y1 := by omega
      have g1 : u ≤ 4 := by omega
      have g2 : v ≤ 4 := by omega
      have g3 : y0 ≤ 4 := by omega
      rw [f3]
      clear f1 f2 f3 a1 a2 a4
      omega
    rw [e2, e3, h1, e4] at e
    rw [e]
    unfold bS
    rw [← ih]
    unfold s3
    omega
theorem bS_div {f : Nat → Nat} (hf : ∀ b, b < 256 → f b < 256) {n x : Nat} : bS f (n + 1) x / 256 = bS f n (x / 256) ∧ bS f (n + 1) x % 256 = f (x % 256) := by
  have := hf (x % 256) (by omega)
  rw [show bS f (n + 1) x = f (x % 256) + 256 * bS f n (x / 256) from rfl]
  omega
theorem bS_bS {f g : Nat → Nat} (hg : ∀ b, b < 256 → g b < 256) : ∀ (n x : Nat), bS f n (bS g n x) = bS (fun b => f (g b)) n x
  | 0, _ => rfl
  | n + 1, x => by
    have := bS_div hg (n := n) (x := x)
    rw [show bS f (n + 1) (bS g (n + 1) x) = f (bS g (n + 1) x % 256) + 256 * bS f n (bS g (n + 1) x / 256) from rfl, this.1, this.2, bS_bS hg n]
    rfl
theorem bS_lt {f : Nat → Nat} (hf : ∀ b, b < 256 → f b < 256) : ∀ (n x : Nat), bS f n x < 256 ^ n
  | 0, _ => by simp [bS]
  | n + 1, x => by
    have := bS_lt hf n (x / 256)
    have := hf (x % 256) (by omega)
    unfold bS
    rw [Nat.pow_succ]
    omega
theorem bS_sm {f : Nat → Nat} (hf : ∀ b, b < 256 → f b < 256 ∧ f b % 16 ≤ 4 ∧ f b / 16 ≤ 4) : ∀ (n x : Nat), sm n (bS f n x)
  | 0, _ => trivial
  | n + 1, x => by
    have h := hf (x % 256) (by omega)
    have d := bS_div (f := f) (fun b hb => (hf b hb).1) (n := n) (x := x)
    refine ⟨by omega, by omega, ?_⟩
    rw [d.1]
    exact bS_sm hf n _
def pcN : Nat → Nat → Nat
  | 0, _ => 0
  | n + 1, x => pcb (x % 256) + pcN n (x / 256)
theorem bS_congr {f g : Nat → Nat} (h : ∀ b, b < 256 → f b = g b) : ∀ (n x : Nat), bS f n x = bS g n x
  | 0, _ => rfl
  | n + 1, x => by unfold bS; rw [h _ (by omega), bS_congr h n]
theorem pcb_le : ∀ c : Fin 256, pcb c.val ≤ 8 := by decide +kernel
theorem mask_55 : 6148914691236517205 = mB 0x55 8 := by decide +kernel
theorem mask_33 : 3689348814741910323 = mB 0x33 8 := by decide +kernel
theorem mask_0f : 1085102592571150095 = mB 0x0f 8 := by decide +kernel
theorem dv {A R m : Nat} (h : A < m) : (A + m * R) / m = R := by
  rw [Nat.add_mul_div_left _ _ (by omega), Nat.div_eq_of_lt h]; omega
theorem md {S T : Nat} (h : S < 128) : (S + 256 * T) % 128 = S := by omega
theorem fin_sum {p0 p1 p2 p3 p4 p5 p6 p7 y z1 z2 z3 : Nat} (h0 : p0 ≤ 8) (h1 : p1 ≤ 8) (h2 : p2 ≤ 8) (h3 : p3 ≤ 8) (h4 : p4 ≤ 8) (h5 : p5 ≤ 8) (h6 : p6 ≤ 8) (h7 : p7 ≤ 8)
    (hy : y = p0 + 256 * (p1 + 256 * (p2 + 256 * (p3 + 256 * (p4 + 256 * (p5 + 256 * (p6 + 256 * p7))))))) (e1 : z1 = (y + y / 256) % 2 ^ 64) (e2 : z2 = (z1 + z1 / 65536) % 2 ^ 64) (e3 : z3 = (z2 + z2 / 4294967296) % 2 ^ 64) : z3 % 128 = p0 + (p1 + (p2 + (p3 + (p4 + (p5 + (p6 + p7)))))) := by
  have d1 : y / 256 = p1 + 256 * (p2 + 256 * (p3 + 256 * (p4 + 256 * (p5 + 256 * (p6 + 256 * p7))))) := by rw [hy]; exact dv (by omega)
  rw [d1, hy, Nat.mod_eq_of_lt (by omega)] at e1
  have a1 : z1 = ((p0 + p1) + 256 * (p1 + p2)) + 65536 * ((p2 + p3) + 256 * ((p3 + p4) + 256 * ((p4 + p5) + 256 * ((p5 + p6) + 256 * ((p6 + p7) + 256 * p7))))) := by omega
  clear e1 hy d1
  have d2 : z1 / 65536 = (p2 + p3) + 256 * ((p3 + p4) + 256 * ((p4 + p5) + 256 * ((p5 + p6) + 256 * ((p6 + p7) + 256 * p7)))) := by rw [a1]; exact dv (by omega)
  rw [d2, a1, Nat.mod_eq_of_lt (by omega)] at e2
  have a2 : z2 = ((p0 + p1 + p2 + p3) + 256 * ((p1 + p2 + p3 + p4) + 256 * ((p2 + p3 + p4 + p5) + 256 * (p3 + p4 + p5 + p6)))) + 4294967296 * ((p4 + p5 + p6 + p7) + 256 * ((p5 + p6 + p7) + 256 * ((p6 + p7) + 256 * p7))) := by omega
  clear e2 a1 d2
  have d3 : z2 / 4294967296 = (p4 + p5 + p6 + p7) + 256 * ((p5 + p6 + p7) + 256 * ((p6 + p7) + 256 * p7)) := by rw [a2]; exact dv (by omega)
  rw [d3, a2, Nat.mod_eq_of_lt (by omega)] at e3
  have a3 : z3 = (p0 + (p1 + (p2 + (p3 + (p4 + (p5 + (p6 + p7))))))) + 256 * (((p1 + p2 + p3 + p4) + 256 * ((p2 + p3 + p4 + p5) + 256 * (p3 + p4 + p5 + p6))) + 16777216 * ((p4 + p5 + p6 + p7) + 256 * ((p5 + p6 + p7) + 256 * ((p6 + p7) + 256 * p7))) + ((p5 + p6 + p7) + 256 * ((p6 + p7) + 256 * p7))) := by omega
  rw [a3]
  exact md (by omega)
theorem swar {x a b y z1 z2 z3 : Nat} (hx : x < 2 ^ 64) (e1 : a = (2 ^ 64 - (x / 2 &&& mB 0x55 8) + x) % 2 ^ 64) (e2 : b = ((a &&& mB 0x33 8) + (a / 4 &&& mB 0x33 8)) % 2 ^ 64) (e3 : y = ((b + b / 16) % 2 ^ 64) &&& mB 0x0f 8)
    (f1 : z1 = (y + y / 256) % 2 ^ 64) (f2 : z2 = (z1 + z1 / 65536) % 2 ^ 64) (f3 : z3 = (z2 + z2 / 4294967296) % 2 ^ 64) : z3 % 128 = pcN 8 x := by
  have g1 := sw1 8 x (by omega)
  have l1 : ∀ c, c < 256 → s1 c < 256 := fun c hc => (b4 ⟨c, hc⟩).1
  have l2 : ∀ c, c < 256 → s2 (s1 c) < 256 := fun c hc => (b4 ⟨c, hc⟩).2.1
  have a1 : a = bS s1 8 x := by rw [← g1.2, e1]; omega
  have m33 : (a &&& mB 0x33 8) ≤ mB 0x33 8 := Nat.and_le_right
  have m33' : (a / 4 &&& mB 0x33 8) ≤ mB 0x33 8 := Nat.and_le_right
  have v33 : mB 0x33 8 = 3689348814741910323 := mask_33.symm
  have a2 : b = bS (fun c => s2 (s1 c)) 8 x := by
    rw [e2, Nat.mod_eq_of_lt (by omega), sw2, a1, bS_bS l1]
  have a3 : b < 256 ^ 8 := by rw [a2]; exact bS_lt l2 8 x
  have a4 : sm 8 b := by rw [a2]; exact bS_sm (fun c hc => ⟨l2 c hc, (b4 ⟨c, hc⟩).2.2.1, (b4 ⟨c, hc⟩).2.2.2.1⟩) 8 x
  have a5 : b ≤ mB 0x44 8 := by
    rw [a2]
    exact bS_le (fun c hc => by have := b4 ⟨c, hc⟩; simp only at this; omega) 8 x
  have v44 : mB 0x44 8 = 4919131752989213764 := by decide +kernel
  have a6 : y = bS pcb 8 x := by
    rw [e3, Nat.mod_eq_of_lt (by omega), sw3 8 b a3 a4, a2, bS_bS l2]
    exact bS_congr (fun c hc => (b4 ⟨c, hc⟩).2.2.2.2) 8 x
  have pl : ∀ c, pcb (c % 256) ≤ 8 := fun c => pcb_le ⟨c % 256, by omega⟩
  refine fin_sum (pl _) (pl _) (pl _) (pl _) (pl _) (pl _) (pl _) (pl _) ?_ f1 f2 f3
  exact a6
theorem bit_nB {s : Int64} {n : Nat} : hasb s n = true ↔ nB s / 2 ^ n % 2 = 1 := by
  unfold hasb nB
  rw [Int.toNat_natCast, ← BitVec.testBit_toNat, Nat.testBit_eq_decide_div_mod_eq, decide_eq_true_eq]
theorem cnt_s {s : Int64} {n : Nat} : cntB s (n + 1) = cntB s n + ((nB s / 2 ^ n % 2 : Nat) : Int) := by
  rw [show cntB s (n + 1) = cntB s n + if hasb s n = true then 1 else 0 from rfl]
  congr 1
  by_cases h : hasb s n = true
  · rw [if_pos h, bit_nB.mp h]; rfl
  · rw [if_neg h]
    have : nB s / 2 ^ n % 2 = 0 := (Nat.mod_two_eq_zero_or_one _).resolve_right (fun q => h (bit_nB.mpr q))
    rw [this]; rfl
theorem cnt_8 {s : Int64} {n : Nat} : cntB s (n + 8) = cntB s n + (pcb (nB s / 2 ^ n % 256) : Int) := by
  have h := fun m => Nat.div_div_eq_div_mul (nB s) (2 ^ n) m
  rw [show n + 8 = n + 7 + 1 by rfl, cnt_s, show n + 7 = n + 6 + 1 by rfl, cnt_s, show n + 6 = n + 5 + 1 by rfl, cnt_s, show n + 5 = n + 4 + 1 by rfl, cnt_s, show n + 4 = n + 3 + 1 by rfl, cnt_s, show n + 3 = n + 2 + 1 by rfl, cnt_s, show n + 2 = n + 1 + 1 by rfl, cnt_s, cnt_s]
  simp only [Nat.pow_succ, ← Nat.div_div_eq_div_mul]
  generalize nB s / 2 ^ n = y
  unfold pcb
  omega
theorem cnt_64 {s : Int64} : cntB s 64 = pcN 8 (nB s) := by
  rw [show (64 : Nat) = 0 + 8 + 8 + 8 + 8 + 8 + 8 + 8 + 8 from rfl, cnt_8, cnt_8, cnt_8, cnt_8, cnt_8, cnt_8, cnt_8, cnt_8]
  simp only [pcN, Nat.div_div_eq_div_mul]
  simp only [Nat.reducePow, Nat.reduceMul, Nat.div_one, Nat.add_zero, show cntB s 0 = 0 from rfl]
  omega
theorem cnt_60 {s : Int64} (h : ∀ c : Int, 0 ≤ c → c < 64 → hasB s c → c < 60) : cntB s 64 = cntB s 60 := by
  have n : ∀ c : Nat, 60 ≤ c → c < 64 → ¬ hasb s c = true := fun c c0 c1 q => by
    have := h c (by omega) (by omega) (hasb_iff.mp q)
    omega
  have e : ∀ c : Nat, 60 ≤ c → c < 64 → cntB s (c + 1) = cntB s c := fun c c0 c1 => by
    rw [show cntB s (c + 1) = cntB s c + if hasb s c = true then 1 else 0 from rfl, if_neg (n c c0 c1), Int.add_zero]
  rw [show (64 : Nat) = 63 + 1 from rfl, e 63 (by omega) (by omega), e 62 (by omega) (by omega), e 61 (by omega) (by omega), e 60 (by omega) (by omega)]
theorem j_ones {s : Int64} {σ : Mm} {k : Int → Mm → Prop} (h : k (cntB s 64) σ) : OkI 0 [vG s] σ k := by
  refine okI_run mkJ13_bitCount_95d88 (Nat.le_of_ble_eq_true rfl) (fun K => ?_)
  simp -implicitDefEqProofs only [↓kI_e, ↓kL_e, ↓kR_e, ↓kV_e, ↓x1, ↓x2, ↓x4, ↓x5, ↓x6, ↓x7, ↓x8, ↓x9, ↓x10, ↓x11, ↓x12, ↓x13, ↓x17, ↓x18, ↓x19, ↓x20, ↓x21, ↓x22, ↓x14, ↓x15, ↓x23, ↓x24, ↓x25, ↓x26, ↓x27, ↓x28, ↓x29, ↓x30, ↓x31, ↓x32, ↓x33, ↓x34, ↓x35i, ↓x35r, ↓x36, ↓x37, ↓x38, ↓x39, ↓x40, ↓x41, ↓x72, ↓x42, ↓x43, ↓x44, ↓x45, ↓x46, ↓x47, ↓x48, ↓x50, ↓x51, ↓x52, ↓x53, ↓x54, ↓x55_0, ↓x56_0, ↓x55_1, ↓x56_1, ↓x55_2, ↓x56_2, ↓x55_3, ↓x56_3, ↓x55_4, ↓x56_4, ↓x55_5, ↓x56_5, ↓x57, ↓x58, ↓x59, ↓x60, ↓x61, ↓x62, ↓x63, ↓x64, ↓x65, ↓x75, ↓x67, ↓x77, ↓x68, ↓x78, ↓x69, ↓x79, ↓x70, ↓x73, ↓x74, ↓ldI_0, ↓ldG_0, ↓ldR_0, ↓stK_0, ↓stK2_0, ↓ldI_1, ↓ldG_1, ↓ldR_1, ↓stK_1I, ↓stK_1R, ↓stK_1N, ↓stK_1G, ↓stK2_1I, ↓stK2_1R, ↓stK2_1N, ↓stK2_1G, ↓ldI_2, ↓ldG_2, ↓ldR_2, ↓stK_2I, ↓stK_2R, ↓stK_2N, ↓stK_2G, ↓stK2_2I, ↓stK2_2R, ↓stK2_2N, ↓stK2_2G, ↓ldI_3, ↓ldG_3, ↓ldR_3, ↓stK_3I, ↓stK_3R, ↓stK_3N, ↓stK_3G, ↓stK2_3I, ↓stK2_3R, ↓stK2_3N, ↓stK2_3G, ↓ldI_4, ↓ldG_4, ↓ldR_4, ↓stK_4I, ↓stK_4R, ↓stK_4N, ↓stK_4G, ↓stK2_4I, ↓stK2_4R, ↓stK2_4N, ↓stK2_4G, ↓ldI_5, ↓ldG_5, ↓ldR_5, ↓stK_5I, ↓stK_5R, ↓stK_5N, ↓stK_5G, ↓stK2_5I, ↓stK2_5R, ↓stK2_5N, ↓stK2_5G, ↓ldI_6, ↓ldG_6, ↓ldR_6, ↓stK_6I, ↓stK_6R, ↓stK_6N, ↓stK_6G, ↓stK2_6I, ↓stK2_6R, ↓stK2_6N, ↓stK2_6G, ↓ldI_7, ↓ldG_7, ↓ldR_7, ↓stK_7I, ↓stK_7R, ↓stK_7N, ↓stK_7G, ↓stK2_7I, ↓stK2_7R, ↓stK2_7N, ↓stK2_7G, ↓ldI_8, ↓ldG_8, ↓ldR_8, ↓stK_8I, ↓stK_8R, ↓stK_8N, ↓stK_8G, ↓stK2_8I, ↓stK2_8R, ↓stK2_8N, ↓stK2_8G, ↓ldI_9, ↓ldG_9, ↓ldR_9, ↓stK_9I, ↓stK_9R, ↓stK_9N, ↓stK_9G, ↓stK2_9I, ↓stK2_9R, ↓stK2_9N, ↓stK2_9G, ↓ldI_10, ↓ldG_10, ↓ldR_10, ↓stK_10I, ↓stK_10R, ↓stK_10N, ↓stK_10G, ↓stK2_10I, ↓stK2_10R, ↓stK2_10N, ↓stK2_10G, ↓ldI_11, ↓ldG_11, ↓ldR_11, ↓stK_11I, ↓stK_11R, ↓stK_11N, ↓stK_11G, ↓stK2_11I, ↓stK2_11R, ↓stK2_11N, ↓stK2_11G, ↓ldI_12, ↓ldG_12, ↓ldR_12, ↓stK_12I, ↓stK_12R, ↓stK_12N, ↓stK_12G, ↓stK2_12I, ↓stK2_12R, ↓stK2_12N, ↓stK2_12G, ↓pN_0, ↓pN_1, ↓pN_2, ↓pN_3, ↓pN_4, ↓pN_5, ↓pN_6, ↓pN_7, ↓ctI_e, ↓ctL_e, ↓ctR_e, ↓ctV_e, ↓tsK_n, ↓tsK_c, ↓go_K, ↓go_X, csum_n, csum_I, csum_R, csum_G, hdCls_r, isCls, elemR, rg_x_pads, rg_log_words, rg_row_pads, rg_row_words, rg_row_led, alen, IR, Nat.reduceMod, Nat.reduceDiv, Nat.reduceSub, Nat.reduceAdd, Nat.reduceLeDiff, Nat.reduceEqDiff, Nat.reduceLT, Int.reduceLE, Int.reduceLT, Int.reduceEq, Int.reduceNe, Int.reduceAdd, Int.reduceSub, Int.reduceNeg, Int.reduceMul, ne_eq, not_true_eq_false, not_false_eq_true, true_and, and_true, false_and, and_false, true_or, or_true, false_or, or_false, and_self, or_self, true_implies, forall_const, false_implies, implies_true, reduceIte, reduceCtorEq, eq_self, Int.le_refl, Nat.le_refl, Int.reduceNatCast, Int.cast_ofNat_Int, ↓eJ13_bitCount_95d88_0, lJ13_bitCount_95d88, ent0, entI, entR, entG, ent_n, List.length_cons, List.length_nil, List.replicate, List.cons_append, List.nil_append, Nat.reduceSub, Nat.reduceAdd]
  generalize hA : s - (qushr s 1 &&& Int64.ofInt 6148914691236517205) = A
  generalize hB : (A &&& Int64.ofInt 3689348814741910323) + (qushr A 2 &&& Int64.ofInt 3689348814741910323) = B
  generalize hY : (B + qushr B 4) &&& Int64.ofInt 1085102592571150095 = Y
  generalize hZ1 : Y + qushr Y 8 = Z1
  generalize hZ2 : Z1 + qushr Z1 16 = Z2
  generalize hZ3 : Z2 + qushr Z2 32 = Z3
  rw [nB_l, swar (x := nB s) (a := nB A) (b := nB B) (y := nB Y) (z1 := nB Z1) (z2 := nB Z2) nB_lt (by rw [← hA, nB_sub, nB_and, sh1, nB_c1, mask_55]) (by rw [← hB, nB_add, nB_and, nB_and, sh2, nB_c2, mask_33]) (by rw [← hY, nB_and, nB_add, sh4, nB_c3, mask_0f]) (by rw [← hZ1, nB_add, sh8]) (by rw [← hZ2, nB_add, sh16]) (by rw [← hZ3, nB_add, sh32]), ← cnt_64]
  exact h
def pc6 (x : Int) : Int := x % 2 + x / 2 % 2 + x / 4 % 2 + x / 8 % 2 + x / 16 % 2 + x / 32 % 2
def sw6 (s : Int) : Int :=
  let a := s - jand (jushr s 1) 1431655765
  let b := jand a 858993459 + jand (jushr a 2) 858993459
  let c := jand (b + jushr b 4) 252645135
  let d := c + jushr c 8
  jand (d + jushr d 16) 63
theorem sw6_pc : ∀ v : Fin 64, sw6 v.val = pc6 v.val := by decide +kernel
theorem j_ones6 {s : Int} {σ : Mm} {k : Int → Mm → Prop} (hs : 0 ≤ s ∧ s < 64) (h : k (pc6 s) σ) : OkI 1 [vI s] σ k := by
  have e := sw6_pc ⟨s.toNat, by omega⟩
  simp only at e
  rw [show ((s.toNat : Nat) : Int) = s by omega] at e
  rw [← e] at h
  refine okI_run mkJ6_bitCount_0f7a4 (Nat.le_of_ble_eq_true rfl) (fun K => ?_)
  simp -implicitDefEqProofs only [↓kI_e, ↓kL_e, ↓kR_e, ↓kV_e, ↓x1, ↓x2, ↓x4, ↓x5, ↓x6, ↓x7, ↓x8, ↓x9, ↓x10, ↓x11, ↓x12, ↓x13, ↓x17, ↓x18, ↓x19, ↓x20, ↓x21, ↓x22, ↓x14, ↓x15, ↓x23, ↓x24, ↓x25, ↓x26, ↓x27, ↓x28, ↓x29, ↓x30, ↓x31, ↓x32, ↓x33, ↓x34, ↓x35i, ↓x35r, ↓x36, ↓x37, ↓x38, ↓x39, ↓x40, ↓x41, ↓x72, ↓x42, ↓x43, ↓x44, ↓x45, ↓x46, ↓x47, ↓x48, ↓x50, ↓x51, ↓x52, ↓x53, ↓x54, ↓x55_0, ↓x56_0, ↓x55_1, ↓x56_1, ↓x55_2, ↓x56_2, ↓x55_3, ↓x56_3, ↓x55_4, ↓x56_4, ↓x55_5, ↓x56_5, ↓x57, ↓x58, ↓x59, ↓x60, ↓x61, ↓x62, ↓x63, ↓x64, ↓x65, ↓x75, ↓x67, ↓x77, ↓x68, ↓x78, ↓x69, ↓x79, ↓x70, ↓x73, ↓x74, ↓ldI_0, ↓ldG_0, ↓ldR_0, ↓stK_0, ↓stK2_0, ↓ldI_1, ↓ldG_1, ↓ldR_1, ↓stK_1I, ↓stK_1R, ↓stK_1N, ↓stK_1G, ↓stK2_1I, ↓stK2_1R, ↓stK2_1N, ↓stK2_1G, ↓ldI_2, ↓ldG_2, ↓ldR_2, ↓stK_2I, ↓stK_2R, ↓stK_2N, ↓stK_2G, ↓stK2_2I, ↓stK2_2R, ↓stK2_2N, ↓stK2_2G, ↓ldI_3, ↓ldG_3, ↓ldR_3, ↓stK_3I, ↓stK_3R, ↓stK_3N, ↓stK_3G, ↓stK2_3I, ↓stK2_3R, ↓stK2_3N, ↓stK2_3G, ↓ldI_4, ↓ldG_4, ↓ldR_4, ↓stK_4I, ↓stK_4R, ↓stK_4N, ↓stK_4G, ↓stK2_4I, ↓stK2_4R, ↓stK2_4N, ↓stK2_4G, ↓ldI_5, ↓ldG_5, ↓ldR_5, ↓stK_5I, ↓stK_5R, ↓stK_5N, ↓stK_5G, ↓stK2_5I, ↓stK2_5R, ↓stK2_5N, ↓stK2_5G, ↓ldI_6, ↓ldG_6, ↓ldR_6, ↓stK_6I, ↓stK_6R, ↓stK_6N, ↓stK_6G, ↓stK2_6I, ↓stK2_6R, ↓stK2_6N, ↓stK2_6G, ↓ldI_7, ↓ldG_7, ↓ldR_7, ↓stK_7I, ↓stK_7R, ↓stK_7N, ↓stK_7G, ↓stK2_7I, ↓stK2_7R, ↓stK2_7N, ↓stK2_7G, ↓ldI_8, ↓ldG_8, ↓ldR_8, ↓stK_8I, ↓stK_8R, ↓stK_8N, ↓stK_8G, ↓stK2_8I, ↓stK2_8R, ↓stK2_8N, ↓stK2_8G, ↓ldI_9, ↓ldG_9, ↓ldR_9, ↓stK_9I, ↓stK_9R, ↓stK_9N, ↓stK_9G, ↓stK2_9I, ↓stK2_9R, ↓stK2_9N, ↓stK2_9G, ↓ldI_10, ↓ldG_10, ↓ldR_10, ↓stK_10I, ↓stK_10R, ↓stK_10N, ↓stK_10G, ↓stK2_10I, ↓stK2_10R, ↓stK2_10N, ↓stK2_10G, ↓ldI_11, ↓ldG_11, ↓ldR_11, ↓stK_11I, ↓stK_11R, ↓stK_11N, ↓stK_11G, ↓stK2_11I, ↓stK2_11R, ↓stK2_11N, ↓stK2_11G, ↓ldI_12, ↓ldG_12, ↓ldR_12, ↓stK_12I, ↓stK_12R, ↓stK_12N, ↓stK_12G, ↓stK2_12I, ↓stK2_12R, ↓stK2_12N, ↓stK2_12G, ↓pN_0, ↓pN_1, ↓pN_2, ↓pN_3, ↓pN_4, ↓pN_5, ↓pN_6, ↓pN_7, ↓ctI_e, ↓ctL_e, ↓ctR_e, ↓ctV_e, ↓tsK_n, ↓tsK_c, ↓go_K, ↓go_X, csum_n, csum_I, csum_R, csum_G, hdCls_r, isCls, elemR, rg_x_pads, rg_log_words, rg_row_pads, rg_row_words, rg_row_led, alen, IR, Nat.reduceMod, Nat.reduceDiv, Nat.reduceSub, Nat.reduceAdd, Nat.reduceLeDiff, Nat.reduceEqDiff, Nat.reduceLT, Int.reduceLE, Int.reduceLT, Int.reduceEq, Int.reduceNe, Int.reduceAdd, Int.reduceSub, Int.reduceNeg, Int.reduceMul, ne_eq, not_true_eq_false, not_false_eq_true, true_and, and_true, false_and, and_false, true_or, or_true, false_or, or_false, and_self, or_self, true_implies, forall_const, false_implies, implies_true, reduceIte, reduceCtorEq, eq_self, Int.le_refl, Nat.le_refl, Int.reduceNatCast, Int.cast_ofNat_Int, ↓eJ6_bitCount_0f7a4_0, lJ6_bitCount_0f7a4, ent0, entI, entR, entG, ent_n, List.length_cons, List.length_nil, List.replicate, List.cons_append, List.nil_append, Nat.reduceSub, Nat.reduceAdd]
  exact h
