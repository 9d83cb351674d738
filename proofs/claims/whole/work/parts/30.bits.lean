/-! Sets of people as numbers below 4096; bits. -/
theorem s_l : ∀ n, n < 32 → ((nI n &&& 31).toBitVec.smod 32).toNat = n := by decide +kernel
theorem bz_shl1 : ∀ p, p < 31 → (1 : Int32) <<< (nI p &&& 31) = nI (2 ^ p) := by decide +kernel
theorem bz_ev : ∀ n, n < 13 → (1 : Int32) <<< (nI n &&& 31) - 1 = nI (2 ^ n - 1) := by decide +kernel
theorem bz_and (a b : Nat) : nI a &&& nI b = nI (a &&& b) := by
  apply Int32.toBitVec_inj.1
  show BitVec.ofNat 32 a &&& BitVec.ofNat 32 b = BitVec.ofNat 32 (a &&& b)
  apply BitVec.eq_of_getLsbD_eq
  intro i hi
  simp [hi]
theorem bz_or (a b : Nat) : nI a ||| nI b = nI (a ||| b) := by
  apply Int32.toBitVec_inj.1
  show BitVec.ofNat 32 a ||| BitVec.ofNat 32 b = BitVec.ofNat 32 (a ||| b)
  apply BitVec.eq_of_getLsbD_eq
  intro i hi
  simp [hi]
/-- what is in a and not in b -/
def dif (a b : Nat) : Nat := a ^^^ (a &&& b)
theorem dif_bit (a b i : Nat) : (dif a b).testBit i = (a.testBit i && !b.testBit i) := by
  unfold dif
  rw [Nat.testBit_xor, Nat.testBit_and]
  cases a.testBit i <;> cases b.testBit i <;> rfl
theorem bz_m1 (i : Nat) (hi : i < 32) : (-1 : Int32).toBitVec.getLsbD i = true := (by decide +kernel : ∀ i, i < 32 → (-1 : Int32).toBitVec.getLsbD i = true) i hi
theorem bz_andn (a b : Nat) : nI a &&& (nI b ^^^ (-1)) = nI (dif a b) := by
  apply Int32.toBitVec_inj.1
  rw [Int32.toBitVec_and, Int32.toBitVec_xor]
  show BitVec.ofNat 32 a &&& (BitVec.ofNat 32 b ^^^ (-1 : Int32).toBitVec) = BitVec.ofNat 32 (dif a b)
  apply BitVec.eq_of_getLsbD_eq
  intro i hi
  rw [BitVec.getLsbD_and, BitVec.getLsbD_xor, bz_m1 i hi, BitVec.getLsbD_ofNat, BitVec.getLsbD_ofNat, BitVec.getLsbD_ofNat, dif_bit]
  simp [hi]
theorem bz_shr {a p : Nat} (ha : a < 2 ^ 31) (hp : p < 31) : nI a >>> (nI p &&& 31) = nI (a / 2 ^ p) := pk_shrN ha _ p (s_l p (by omega))
theorem bz_and1 (a : Nat) : nI a &&& 1 = nI (a % 2) := by
  have h := bz_and a 1
  rw [show (1 : Int32) = nI 1 from rfl, h, Nat.and_one_is_mod]
theorem bz_bit {a p : Nat} (ha : a < 2 ^ 31) (hp : p < 31) : (nI a >>> (nI p &&& 31)) &&& 1 = if a.testBit p then 1 else 0 := by
  rw [bz_shr ha hp, bz_and1, Nat.testBit_eq_decide_div_mod_eq]
  have : a / 2 ^ p % 2 < 2 := Nat.mod_lt _ (by decide)
  rcases (show a / 2 ^ p % 2 = 0 ∨ a / 2 ^ p % 2 = 1 by omega) with h | h <;> rw [h] <;> rfl
theorem bz_bit0 {a p : Nat} (ha : a < 2 ^ 31) (hp : p < 31) : (nI a >>> (nI p &&& 31)) &&& 1 = 0 ↔ a.testBit p = false := by
  rw [bz_bit ha hp]
  cases a.testBit p <;> decide
theorem bz_bit1 {a p : Nat} (ha : a < 2 ^ 31) (hp : p < 31) : (nI a >>> (nI p &&& 31)) &&& 1 = 1 ↔ a.testBit p = true := by
  rw [bz_bit ha hp]
  cases a.testBit p <;> decide
theorem two_bit (p i : Nat) : (2 ^ p).testBit i = decide (p = i) := Nat.testBit_two_pow
/-- the set of the i below n with P -/
def bs : Nat → (Nat → Bool) → Nat
  | 0, _ => 0
  | n + 1, P => bs n P ||| (if P n then 2 ^ n else 0)
theorem bs_bit (P : Nat → Bool) : ∀ n i, (bs n P).testBit i = (decide (i < n) && P i)
  | 0, i => by simp [bs]
  | n + 1, i => by
    rw [bs, Nat.testBit_or, bs_bit P n i]
    by_cases h : P n = true
    · rw [if_pos h, two_bit]
      by_cases e : n = i
      · subst e; simp [h]
      · have : (i < n + 1) = (i < n) := by rw [eq_iff_iff]; omega
        simp [e, this]
    · rw [if_neg h]
      by_cases e : n = i
      · subst e; simp [h]
      · have : (i < n + 1) = (i < n) := by rw [eq_iff_iff]; omega
        simp [this]
theorem lt_of_bits {a n : Nat} (h : ∀ i, n ≤ i → a.testBit i = false) : a < 2 ^ n := Nat.lt_pow_two_of_testBit a h
theorem bs_lt (P : Nat → Bool) (n : Nat) : bs n P < 2 ^ n := lt_of_bits (fun i hi => by rw [bs_bit]; simp; omega)
theorem bs_congr {P P' : Nat → Bool} {n : Nat} (h : ∀ i, i < n → P i = P' i) : bs n P = bs n P' := by
  apply Nat.eq_of_testBit_eq
  intro i
  rw [bs_bit, bs_bit]
  by_cases hi : i < n
  · rw [h i hi]
  · simp [hi]
/-- how many -/
def pcn : Nat → Nat → Nat
  | 0, _ => 0
  | n + 1, s => pcn n s + (if s.testBit n then 1 else 0)
def pc (s : Nat) : Nat := pcn 12 s
