/-! The sets of skills that a town asks for, by their places in the rows that weighTown fills. -/
theorem sumU_set {f g : Nat → Nat} {k c : Nat} : ∀ n, k < n → (∀ i, i ≠ k → f i = g i) → f k = g k + c → sumU n f = sumU n g + c
  | 0, h, _, _ => absurd h (by omega)
  | n + 1, h, h1, h2 => by
    rw [sumU, sumU]
    by_cases e : k = n
    · subst e
      rw [sumU_congr k (fun i hi => h1 i (by omega)), h2]
      omega
    · rw [sumU_set n (by omega) h1 h2, h1 n (fun q => e q.symm)]
      omega
theorem orU_bit {f : Nat → Nat} : ∀ n i, (orU n f).testBit i = (List.range n).any (fun k => (f k).testBit i)
  | 0, i => by simp [orU]
  | n + 1, i => by rw [orU, Nat.testBit_or, orU_bit n i, List.range_succ, List.any_append]; simp
theorem orU_mem {f : Nat → Nat} {n i : Nat} : (orU n f).testBit i = true ↔ ∃ k, k < n ∧ (f k).testBit i = true := by
  rw [orU_bit, List.any_eq_true]
  constructor
  · rintro ⟨k, h1, h2⟩; exact ⟨k, List.mem_range.mp h1, h2⟩
  · rintro ⟨k, h1, h2⟩; exact ⟨k, List.mem_range.mpr h1, h2⟩
theorem bit_ext {a b : Nat} (h : ∀ i, a.testBit i = true ↔ b.testBit i = true) : a = b := by
  apply Nat.eq_of_testBit_eq
  intro i
  have := h i
  cases h1 : a.testBit i <;> cases h2 : b.testBit i <;> simp_all
theorem orU_set {f g : Nat → Nat} {k c n : Nat} (hk : k < n) (h1 : ∀ i, i ≠ k → f i = g i) (h2 : f k = g k ||| c) : orU n f = orU n g ||| c := by
  apply bit_ext
  intro i
  rw [Nat.testBit_or, Bool.or_eq_true, orU_mem, orU_mem]
  constructor
  · rintro ⟨j, hj, hb⟩
    by_cases e : j = k
    · subst e
      rw [h2, Nat.testBit_or, Bool.or_eq_true] at hb
      exact hb.elim (fun q => Or.inl ⟨j, hj, q⟩) Or.inr
    · rw [h1 j e] at hb
      exact Or.inl ⟨j, hj, hb⟩
  · rintro (⟨j, hj, hb⟩ | hb)
    · by_cases e : j = k
      · subst e
        exact ⟨j, hj, by rw [h2, Nat.testBit_or, hb]; rfl⟩
      · exact ⟨j, hj, by rw [h1 j e]; exact hb⟩
    · exact ⟨k, hk, by rw [h2, Nat.testBit_or, hb, Bool.or_true]⟩
/-- how many of the first k skills are asked for -/
def cntD (D : Nat → Nat) : Nat → Nat
  | 0 => 0
  | k + 1 => cntD D k + (if 0 < D k then 1 else 0)
/-- the set of skills at a place -/
def subS (D : Nat → Nat) : Nat → Nat → Nat
  | 0, _ => 0
  | k + 1, i => if 0 < D k then (if i < 2 ^ cntD D k then subS D k i else subS D k (i - 2 ^ cntD D k) ||| 2 ^ k) else subS D k i
/-- the skills that are asked for -/
def askS (D : Nat → Nat) (k : Nat) : Nat := bs k (fun j => decide (0 < D j))
def needF (D : Nat → Nat) (S : Nat) : Nat := sumU 8 (fun s => if S.testBit s then D s else 0)
def whoF (W : Nat → Nat) (S : Nat) : Nat := orU 8 (fun s => if S.testBit s then W s else 0)
theorem cntD_le (D : Nat → Nat) : ∀ k, cntD D k ≤ k
  | 0 => Nat.le_refl 0
  | k + 1 => by have := cntD_le D k; rw [cntD]; split <;> omega
theorem subS_bits (D : Nat → Nat) : ∀ k i, i < 2 ^ cntD D k → ∀ j, (subS D k i).testBit j = true → j < k ∧ 0 < D j
  | 0, i, _, j, h => by simp [subS] at h
  | k + 1, i, hi, j, h => by
    rw [cntD] at hi
    rw [subS] at h
    split at h
    · rename_i hD
      rw [if_pos hD, Nat.pow_succ] at hi
      split at h
      · rename_i h1
        have := subS_bits D k i h1 j h
        exact ⟨by omega, this.2⟩
      · rename_i h1
        rw [Nat.testBit_or, Bool.or_eq_true] at h
        rcases h with h | h
        · have := subS_bits D k _ (by omega) j h
          exact ⟨by omega, this.2⟩
        · rw [two_bit] at h
          have : k = j := of_decide_eq_true h
          subst this
          exact ⟨by omega, hD⟩
    · rename_i hD
      rw [if_neg hD] at hi
      have := subS_bits D k i hi j h
      exact ⟨by omega, this.2⟩
theorem subS_lt (D : Nat → Nat) {k i : Nat} (h : i < 2 ^ cntD D k) : subS D k i < 2 ^ k := by
  refine lt_of_bits (fun j hj => ?_)
  cases e : (subS D k i).testBit j with
  | false => rfl
  | true => have := (subS_bits D k i h j e).1; omega
/-- every set of skills that are asked for has its place -/
theorem subS_all (D : Nat → Nat) : ∀ k T, (∀ j, T.testBit j = true → j < k ∧ 0 < D j) → ∃ i, i < 2 ^ cntD D k ∧ subS D k i = T
  | 0, T, h => ⟨0, by simp [cntD], by
    apply bit_ext
    intro j
    simp only [subS, Nat.zero_testBit]
    constructor
    · intro q; cases q
    · intro q; have := (h j q).1; omega⟩
  | k + 1, T, h => by
    by_cases hk : T.testBit k = true
    · have hD := (h k hk).2
      obtain ⟨i, h1, h2⟩ := subS_all D k (dif T (2 ^ k)) (fun j hj => by
        rw [dif_bit, Bool.and_eq_true, two_bit] at hj
        have h3 := h j hj.1
        have h4 : ¬ k = j := by simpa using hj.2
        exact ⟨by omega, h3.2⟩)
      refine ⟨i + 2 ^ cntD D k, ?_, ?_⟩
      · rw [cntD, if_pos hD, Nat.pow_succ]; omega
      · rw [subS, if_pos hD, if_neg (by omega), Nat.add_sub_cancel, h2]
        apply bit_ext
        intro j
        rw [Nat.testBit_or, dif_bit, two_bit]
        by_cases e : k = j
        · subst e; simp [hk]
        · simp [e]
    · obtain ⟨i, h1, h2⟩ := subS_all D k T (fun j hj => by
        have h3 := h j hj
        refine ⟨?_, h3.2⟩
        rcases Nat.eq_or_lt_of_le (Nat.le_of_lt_succ h3.1) with e | e
        · subst e; exact absurd hj hk
        · exact e)
      refine ⟨i, ?_, ?_⟩
      · rw [cntD]
        split
        · rw [Nat.pow_succ]; omega
        · exact h1
      · rw [subS]
        split
        · exact h2
        · exact h2
theorem subS_0 (D : Nat → Nat) : ∀ k, subS D k 0 = 0
  | 0 => rfl
  | k + 1 => by rw [subS]; split; rw [if_pos (Nat.two_pow_pos _)]; exact subS_0 D k; exact subS_0 D k
theorem subS_last (D : Nat → Nat) : ∀ k, subS D k (2 ^ cntD D k - 1) = askS D k
  | 0 => rfl
  | k + 1 => by
    have ih := subS_last D k
    have hp := Nat.two_pow_pos (cntD D k)
    rw [subS, cntD]
    unfold askS at *
    rw [bs]
    split
    · rename_i hD
      rw [if_neg (by rw [Nat.pow_succ]; omega), show 2 ^ (cntD D k + 1) - 1 - 2 ^ cntD D k = 2 ^ cntD D k - 1 by rw [Nat.pow_succ]; omega, ih, if_pos (by simpa using hD)]
    · rename_i hD
      rw [Nat.add_zero, ih, if_neg (by simpa using hD), Nat.or_zero]
theorem needF_or {D : Nat → Nat} {S k : Nat} (hk : k < 8) (h : S.testBit k = false) : needF D (S ||| 2 ^ k) = needF D S + D k := by
  unfold needF
  refine sumU_set (k := k) 8 hk (fun i hi => ?_) ?_
  · rw [Nat.testBit_or, two_bit]
    have e : ¬ k = i := fun e => hi e.symm
    simp [e]
  · rw [Nat.testBit_or, two_bit, h]
    simp
theorem whoF_or {W : Nat → Nat} {S k : Nat} (hk : k < 8) (h : S.testBit k = false) : whoF W (S ||| 2 ^ k) = whoF W S ||| W k := by
  unfold whoF
  refine orU_set (k := k) hk (fun i hi => ?_) ?_
  · rw [Nat.testBit_or, two_bit]
    have e : ¬ k = i := fun e => hi e.symm
    simp [e]
  · rw [Nat.testBit_or, two_bit, h]
    simp
theorem needF_0 (D : Nat → Nat) : needF D 0 = 0 := by
  unfold needF
  have : ∀ n, sumU n (fun s => if Nat.testBit 0 s then D s else 0) = 0 := by
    intro n
    induction n with
    | zero => rfl
    | succ n ih => rw [sumU, ih]; simp
  exact this 8
theorem whoF_0 (W : Nat → Nat) : whoF W 0 = 0 := by
  apply bit_ext
  intro i
  unfold whoF
  rw [orU_mem]
  simp
theorem needF_le {D : Nat → Nat} {b S : Nat} (h : ∀ s, s < 8 → D s ≤ b) : needF D S ≤ 8 * b := by
  unfold needF
  refine sumU_le 8 (fun i hi => ?_)
  split
  · exact h i hi
  · exact Nat.zero_le b
theorem whoF_lt {W : Nat → Nat} {S : Nat} (h : ∀ s, s < 8 → W s < 4096) : whoF W S < 4096 := by
  refine lt_of_bits (n := 12) (fun i hi => ?_)
  cases e : (whoF W S).testBit i with
  | false => rfl
  | true =>
    unfold whoF at e
    obtain ⟨k, h1, h2⟩ := orU_mem.mp e
    split at h2
    · rw [Nat.testBit_lt_two_pow (Nat.lt_of_lt_of_le (h k h1) (show 4096 ≤ 2 ^ i from Nat.pow_le_pow_right (n := 2) (by decide) hi))] at h2
      cases h2
    · simp at h2
