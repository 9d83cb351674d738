/-! A land that was read is one. -/
theorem pc_1 : ∀ a, a < 12 → pc (2 ^ a) ≤ 1 := by decide +kernel
theorem pc_2 : ∀ a, a < 12 → ∀ c, c < 12 → a ≠ c → 1 < pc (2 ^ a ||| 2 ^ c) := by decide +kernel
theorem pc_0 : pc 0 ≤ 1 := by decide
theorem pair_and {a c S : Nat} : (2 ^ a ||| 2 ^ c) &&& S = (if S.testBit a then 2 ^ a else 0) ||| (if S.testBit c then 2 ^ c else 0) := by
  apply bit_ext
  intro i
  have k : ∀ b, ((if S.testBit b then 2 ^ b else 0 : Nat)).testBit i = (decide (b = i) && S.testBit i) := by
    intro b
    by_cases e : b = i
    · subst e
      cases h : S.testBit b <;> simp [Nat.testBit_two_pow]
    · cases h : S.testBit b <;> simp [Nat.testBit_two_pow, e]
  rw [Nat.testBit_and, Nat.testBit_or, Nat.testBit_or, k, k, Nat.testBit_two_pow, Nat.testBit_two_pow]
  cases decide (a = i) <;> cases decide (c = i) <;> cases S.testBit i <;> rfl
theorem pair_pc {a c S : Nat} (ha : a < 12) (hc : c < 12) (h : a ≠ c) : pc ((2 ^ a ||| 2 ^ c) &&& S) ≤ 1 ↔ ¬ (S.testBit a = true ∧ S.testBit c = true) := by
  rw [pair_and]
  cases h1 : S.testBit a <;> cases h2 : S.testBit c
  · exact ⟨fun _ q => (by cases q.1), fun _ => by simpa using pc_0⟩
  · exact ⟨fun _ q => (by cases q.1), fun _ => by simpa using pc_1 c hc⟩
  · exact ⟨fun _ q => (by cases q.2), fun _ => by simpa using pc_1 a ha⟩
  · have h9 := pc_2 a ha c hc h
    constructor
    · intro w
      have w : pc (2 ^ a ||| 2 ^ c) ≤ 1 := w
      omega
    · intro w; exact absurd ⟨rfl, rfl⟩ w
theorem DOK_of {P : PD} (hP : POK P) (hW : WOK P) : DOK (pL P) := by
  have h12 := hP.1
  have hb := hP.2.2.2.2.2.2.2.1
  have hpr := hP.2.2.2.2.2.2.1
  refine ⟨hP.1, hP.2.1, hP.2.2.1, hP.2.2.2.1, fun p hp => ⟨(hP.2.2.2.2.1 p hp).1, ?_, ?_⟩, hP.2.2.2.2.2.1, fun j hj => POK_prs hP hj, fun S hS => ?_, hW.1⟩
  · refine Nat.lt_pow_two_of_testBit _ (fun i hi => ?_)
    cases h9 : (dBnd (pL P) p).testBit i with
    | false => rfl
    | true =>
      exfalso
      obtain ⟨q1, j, q2, q3⟩ := (hb p hp i).mp h9
      obtain ⟨a, c, r1, r2, r3, r4⟩ := hpr j q2
      rw [r4] at q3
      rcases pair_eq r1 q1 q3 with z | z <;> omega
  · apply bit_ext
    intro i
    rw [hb p hp i, dif_bit, Bool.and_eq_true, Bool.not_eq_true', Nat.testBit_two_pow, decide_eq_false_iff_not, orU_mem]
    constructor
    · rintro ⟨q1, j, q2, q3⟩
      refine ⟨⟨j, q2, ?_⟩, fun e => q1 e⟩
      rw [q3, if_pos (by rw [Nat.testBit_or, Nat.testBit_two_pow_self]; rfl), Nat.testBit_or, Nat.testBit_two_pow_self, Bool.or_true]
    · rintro ⟨⟨j, q1, q2⟩, q3⟩
      refine ⟨fun e => q3 e, j, q1, ?_⟩
      obtain ⟨a, c, r1, r2, r3, r4⟩ := hpr j q1
      rw [r4] at q2 ⊢
      have hp9 : (2 ^ a ||| 2 ^ c).testBit p = true := by
        by_cases z : (2 ^ a ||| 2 ^ c).testBit p = true
        · exact z
        · rw [if_neg z, Nat.zero_testBit] at q2; cases q2
      rw [if_pos hp9] at q2
      rw [Nat.testBit_or, Nat.testBit_two_pow, Nat.testBit_two_pow, Bool.or_eq_true, decide_eq_true_eq, decide_eq_true_eq] at hp9 q2
      rcases hp9 with rfl | rfl <;> rcases q2 with rfl | rfl
      · exact absurd rfl q3
      · rfl
      · exact Nat.or_comm _ _
      · exact absurd rfl q3
  · unfold bndA
    rw [Bool.not_eq_false', allF_iff]
    constructor
    · intro w p _ hp
      have hp : p < dPpl (pL P) := by omega
      rw [Bool.not_eq_true', Bool.and_eq_false_iff]
      by_cases z : S.testBit p = true
      · right
        rw [decide_eq_false_iff_not]
        intro q
        obtain ⟨i, q1, q2⟩ := and_ne0.mp q
        obtain ⟨r1, j, r2, r3⟩ := (hb p hp i).mp q1
        have hi : i < 12 := by
          obtain ⟨a, c, s1, s2, s3, s4⟩ := hpr j r2
          rw [s4] at r3
          rcases pair_eq s1 r1 r3 with t | t <;> omega
        have := w j r2
        rw [r3, pair_pc (by omega) hi r1] at this
        exact this ⟨z, q2⟩
      · left; rw [Bool.not_eq_true] at z; exact z
    · intro w j hj
      obtain ⟨a, c, r1, r2, r3, r4⟩ := hpr j hj
      rw [r4, pair_pc (by omega) (by omega) r1]
      rintro ⟨q1, q2⟩
      have := w a (Nat.zero_le _) (by omega)
      rw [Bool.not_eq_true', Bool.and_eq_false_iff] at this
      rcases this with z | z
      · rw [q1] at z; cases z
      · rw [decide_eq_false_iff_not] at z
        exact z (and_ne0.mpr ⟨c, (hb a r2 c).mpr ⟨r1, j, hj, r4⟩, q2⟩)
