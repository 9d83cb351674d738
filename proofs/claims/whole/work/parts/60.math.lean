/-! Counting; the most by grow and by all sets. -/
theorem pcn_dif (a b : Nat) : ∀ n, pcn n (dif a b) + pcn n (a &&& b) = pcn n a
  | 0 => rfl
  | n + 1 => by
    have h := pcn_dif a b n
    rw [pcn, pcn, pcn, dif_bit, Nat.testBit_and]
    cases a.testBit n <;> cases b.testBit n <;> simp <;> omega
theorem pc_dif (a b : Nat) : pc (dif a b) + pc (a &&& b) = pc a := pcn_dif a b 12
theorem pcn_or (a b : Nat) (h : ∀ i, a.testBit i = true → b.testBit i = false) : ∀ n, pcn n (a ||| b) = pcn n a + pcn n b
  | 0 => rfl
  | n + 1 => by
    have h1 := pcn_or a b h n
    have h2 := h n
    rw [pcn, pcn, pcn, Nat.testBit_or]
    cases e : a.testBit n with
    | false => cases b.testBit n <;> simp <;> omega
    | true => rw [h2 e]; simp; omega
theorem pc_or {a b : Nat} (h : ∀ i, a.testBit i = true → b.testBit i = false) : pc (a ||| b) = pc a + pc b := pcn_or a b h 12
theorem pcn_ext {S T k : Nat} (h : ∀ i, k ≤ i → T.testBit i = S.testBit i) : ∀ n, pcn n T ≤ pcn n S + k ∧ (n ≤ k → pcn n T ≤ pcn n S + n)
  | 0 => ⟨by simp [pcn], fun _ => by simp [pcn]⟩
  | n + 1 => by
    obtain ⟨h1, h2⟩ := pcn_ext h n
    rw [pcn, pcn]
    rcases Nat.lt_or_ge n k with c | c
    · have h3 := h2 (by omega)
      refine ⟨?_, fun _ => ?_⟩
      · split <;> split <;> omega
      · split <;> split <;> omega
    · rw [h n c]
      exact ⟨by omega, fun q => absurd q (by omega)⟩
theorem pc_ext {S T k : Nat} (h : ∀ i, k ≤ i → T.testBit i = S.testBit i) : pc T ≤ pc S + k := (pcn_ext h 12).1
/-- grow finds the most -/
theorem growF_ok {fit : Nat → Bool} {U n : Nat} (hmono : ∀ S T, (∀ i, S.testBit i = true → T.testBit i = true) → fit T = true → fit S = true) (hU : ∀ T, T < 2 ^ n → fit T = true → pc T ≤ U) : ∀ k S best, k ≤ n → (∀ i, n ≤ i → S.testBit i = false) → fit S = true → (∀ i, i < k → S.testBit i = false) →
    best ≤ growF fit U k S best ∧ (∀ T, (∀ i, k ≤ i → T.testBit i = S.testBit i) → fit T = true → pc T ≤ growF fit U k S best) ∧ (growF fit U k S best = best ∨ ∃ T, (∀ i, k ≤ i → T.testBit i = S.testBit i) ∧ fit T = true ∧ pc T = growF fit U k S best)
  | 0, S, best, hk, hSn, hS, _ => by
    rw [growF]
    have he : ∀ T, (∀ i, 0 ≤ i → T.testBit i = S.testBit i) → T = S := fun T h => Nat.eq_of_testBit_eq (fun i => h i (Nat.zero_le i))
    split
    · rename_i c
      refine ⟨Nat.le_refl _, fun T h1 h2 => ?_, Or.inl rfl⟩
      have e := he T h1
      subst e
      have := hU T (lt_of_bits hSn) h2
      omega
    · rename_i c
      refine ⟨by omega, fun T h1 _ => by rw [he T h1]; exact Nat.le_refl _, Or.inr ⟨S, fun _ _ => rfl, hS, rfl⟩⟩
  | k + 1, S, best, hk, hSn, hS, hlow => by
    have htn : ∀ T, (∀ i, k + 1 ≤ i → T.testBit i = S.testBit i) → T < 2 ^ n := fun T h => lt_of_bits (fun i hi => by rw [h i (by omega)]; exact hSn i hi)
    rw [growF]
    split
    · rename_i c
      refine ⟨Nat.le_refl _, fun T h1 h2 => ?_, Or.inl rfl⟩
      have := hU T (htn T h1) h2
      have := pc_ext h1
      omega
    · have hbit : ∀ i, (S ||| 2 ^ k).testBit i = (S.testBit i || decide (k = i)) := fun i => by rw [Nat.testBit_or, two_bit]
      have hSk : S.testBit k = false := hlow k (by omega)
      -- with the person k, if that fits
      have w : best ≤ (if fit (S ||| 2 ^ k) then growF fit U k (S ||| 2 ^ k) best else best) ∧ (∀ T, (∀ i, k ≤ i → T.testBit i = (S ||| 2 ^ k).testBit i) → fit T = true → pc T ≤ (if fit (S ||| 2 ^ k) then growF fit U k (S ||| 2 ^ k) best else best)) ∧ ((if fit (S ||| 2 ^ k) then growF fit U k (S ||| 2 ^ k) best else best) = best ∨ ∃ T, (∀ i, k ≤ i → T.testBit i = (S ||| 2 ^ k).testBit i) ∧ fit T = true ∧ pc T = (if fit (S ||| 2 ^ k) then growF fit U k (S ||| 2 ^ k) best else best)) := by
        split
        · rename_i c
          refine growF_ok hmono hU k (S ||| 2 ^ k) best (by omega) (fun i hi => by rw [hbit, hSn i hi]; simp; omega) c (fun i hi => ?_)
          rw [hbit, hlow i (by omega)]
          simp
          omega
        · rename_i c
          refine ⟨Nat.le_refl _, fun T h1 h2 => absurd (hmono _ T (fun i hi => ?_) h2) c, Or.inl rfl⟩
          rcases Nat.lt_or_ge i k with q | q
          · rw [hbit, hlow i (by omega)] at hi
            simp at hi
            omega
          · rw [h1 i q]; exact hi
      generalize (if fit (S ||| 2 ^ k) then growF fit U k (S ||| 2 ^ k) best else best) = g at *
      obtain ⟨w1, w2, w3⟩ := w
      obtain ⟨v1, v2, v3⟩ := growF_ok hmono hU k S g (by omega) hSn hS (fun i hi => hlow i (by omega))
      refine ⟨by omega, fun T h1 h2 => ?_, ?_⟩
      · cases e : T.testBit k with
        | true =>
          refine Nat.le_trans (w2 T (fun i hi => ?_) h2) v1
          rw [hbit]
          rcases Nat.eq_or_lt_of_le hi with q | q
          · subst q; simp [e]
          · rw [h1 i (by omega)]
            have : ¬ k = i := by omega
            simp [this]
        | false =>
          refine v2 T (fun i hi => ?_) h2
          rcases Nat.eq_or_lt_of_le hi with q | q
          · subst q; rw [e, hSk]
          · exact h1 i (by omega)
      · rcases v3 with v3 | ⟨T, t1, t2, t3⟩
        · rw [v3]
          rcases w3 with w3 | ⟨T, t1, t2, t3⟩
          · exact Or.inl w3
          · refine Or.inr ⟨T, fun i hi => ?_, t2, t3⟩
            rw [t1 i (by omega), hbit]
            have : ¬ k = i := by omega
            simp [this]
        · exact Or.inr ⟨T, fun i hi => t1 i (by omega), t2, t3⟩
theorem mxM_ok (fit : Nat → Bool) : ∀ k, (∀ T, T < k → fit T = true → pc T + 1 ≤ mxM fit k) ∧ (mxM fit k = 0 ∨ ∃ T, T < k ∧ fit T = true ∧ pc T + 1 = mxM fit k)
  | 0 => ⟨fun T h => absurd h (by omega), Or.inl rfl⟩
  | k + 1 => by
    obtain ⟨h1, h2⟩ := mxM_ok fit k
    rw [mxM]
    split
    · rename_i c
      refine ⟨fun T hT hf => ?_, Or.inr ⟨k, by omega, c.2, rfl⟩⟩
      rcases Nat.eq_or_lt_of_le (Nat.le_of_lt_succ hT) with q | q
      · subst q; exact Nat.le_refl _
      · have := h1 T q hf; omega
    · rename_i c
      refine ⟨fun T hT hf => ?_, h2.elim Or.inl (fun ⟨T, a, b, e⟩ => Or.inr ⟨T, by omega, b, e⟩)⟩
      rcases Nat.eq_or_lt_of_le (Nat.le_of_lt_succ hT) with q | q
      · subst q
        rcases Nat.lt_or_ge (mxM fit T) (pc T + 1) with r | r
        · exact absurd ⟨r, hf⟩ c
        · exact r
      · exact h1 T q hf
/-- both find the same most -/
theorem most_same {fitC fitR : Nat → Bool} {U n : Nat} (hn : n ≤ 12) (hmono : ∀ S T, (∀ i, S.testBit i = true → T.testBit i = true) → fitC T = true → fitC S = true) (hU : ∀ T, T < 2 ^ n → fitC T = true → pc T ≤ U) (hs : ∀ T, T < 2 ^ n → fitC T = fitR T) : mostG fitC U n = mxM fitR (2 ^ n) := by
  obtain ⟨m1, m2⟩ := mxM_ok fitR (2 ^ n)
  have hp := Nat.two_pow_pos n
  unfold mostG
  split
  · rename_i c
    obtain ⟨g1, g2, g3⟩ := growF_ok hmono hU n 0 0 (Nat.le_refl n) (fun i _ => Nat.zero_testBit i) c (fun i _ => Nat.zero_testBit i)
    have h0 : fitR 0 = true := by rw [← hs 0 hp]; exact c
    have hge : growF fitC U n 0 0 + 1 ≤ mxM fitR (2 ^ n) := by
      rcases g3 with g3 | ⟨T, t1, t2, t3⟩
      · rw [g3]
        have := m1 0 hp h0
        omega
      · have hT : T < 2 ^ n := lt_of_bits (fun i hi => by rw [t1 i hi]; exact Nat.zero_testBit i)
        have := m1 T hT (by rw [← hs T hT]; exact t2)
        omega
    rcases m2 with m2 | ⟨T, t1, t2, t3⟩
    · have := m1 0 hp h0
      omega
    · have := g2 T (fun i hi => by
        rw [Nat.zero_testBit]
        exact Nat.testBit_lt_two_pow (Nat.lt_of_lt_of_le t1 (Nat.pow_le_pow_right (by decide) hi))) (by rw [hs T t1]; exact t2)
      omega
  · rename_i c
    rcases m2 with m2 | ⟨T, t1, t2, t3⟩
    · exact m2.symm
    · exact absurd (hmono 0 T (fun i hi => by rw [Nat.zero_testBit] at hi; cases hi) (by rw [hs T t1]; exact t2)) c
