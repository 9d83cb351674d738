/-! A line that is good keeps the draft within its bounds. -/
section
variable {f : Nat → Nat} {n lo hi : Nat} {T : KT} {P : PD}
theorem nx_g (h : (nxK f n T).2 = 0) : T.2 = 0 := by
  by_cases c : T.2 = 0
  · exact c
  · rw [show nxK f n T = T from if_neg c] at h; exact h
theorem fa_g {c : Nat} (hc : c ≠ 0) : (faK c T).2 ≠ 0 := by
  unfold faK
  split
  · exact hc
  · assumption
theorem nu_g (h : (nuT f n lo hi T).2 = 0) : gdN f n lo hi T := by
  by_cases c : gdN f n lo hi T
  · exact c
  · rw [show nuT f n lo hi T = faK (if tK f n T.1 = 2 then 2 else 1) T from if_neg c] at h
    exact absurd h (fa_g (by split <;> decide))
theorem tk_g (h : (tkN f n lo hi T).2 = 0) : gdN f n lo hi T := nu_g (nx_g h)
theorem tk_v (h : (tkN f n lo hi T).2 = 0) : lo ≤ nuV f n lo hi T ∧ nuV f n lo hi T ≤ hi := by
  have g := tk_g h
  rw [show nuV f n lo hi T = tV f n T.1 from if_pos g]
  exact ⟨g.2.2.2.1, g.2.2.2.2⟩
theorem ph_g (h : (phT f n P T).2 = 0) : T.2 = 0 ∧ phV f n P T < dPpl (pL P) := by
  unfold phT at h
  unfold phV
  by_cases c : dPpl (pL P) ≤ nuV f n 0 9999 T
  · rw [if_pos c] at h; exact absurd h (fa_g (by decide))
  · rw [if_neg c] at h
    rw [if_neg c]
    exact ⟨(nu_g h).1, by omega⟩
theorem skL_lt : ∀ k (T : KT) (sk : Nat), sk < 256 → (skL f n k T sk).2 < 256
  | 0, _, _, h => h
  | k + 1, T, sk, h => by
    rw [skL]
    split
    · exact skL_lt k _ _ (or_ltn (n := 8) h (Nat.lt_succ_of_le (nuV_le (by decide))))
    · exact h
theorem skL_g : ∀ k (T : KT) (sk : Nat), (skL f n k T sk).1.2 = 0 → T.2 = 0
  | 0, _, _, h => h
  | k + 1, T, sk, h => by
    rw [skL] at h
    split at h
    · rename_i w; exact w.1
    · exact h
theorem pair_eq {a c p i : Nat} (h1 : a ≠ c) (h2 : p ≠ i) (h : 2 ^ a ||| 2 ^ c = 2 ^ p ||| 2 ^ i) : (p = a ∧ i = c) ∨ (p = c ∧ i = a) := by
  have k : ∀ j, (a = j ∨ c = j) ↔ (p = j ∨ i = j) := by
    intro j
    have := congrArg (fun x => x.testBit j) h
    simp only [Nat.testBit_or, Nat.testBit_two_pow] at this
    have h2 := Bool.eq_iff_iff.mp this
    simpa using h2
  have k1 := k a
  have k2 := k c
  have k3 := k p
  have k4 := k i
  omega
theorem POK_P (hP : POK P) (h12 : ¬ 12 ≤ dPpl (pL P)) {t s k : Nat} (ht : t < 4) (hs : s < 10) (hk : k < 256) : POK (addP P t s k) := by
  obtain ⟨a1, a2, a3, a4, a5, a6, a7, a8, a9⟩ := hP
  refine ⟨by show dPpl (pL P) + 1 ≤ 12; omega, a2, a3, a4, fun p hp => ?_, a6, fun j hj => ?_, fun p hp i => ?_, a9⟩
  · have hp : p < dPpl (pL P) + 1 := hp
    show updW (dStr (pL P)) (dPpl (pL P)) s p < 10 ∧ updW (pT P) (dPpl (pL P)) t p < 4 ∧ updW (pK P) (dPpl (pL P)) k p < 256
    by_cases e : p = dPpl (pL P)
    · rw [e, updWS, updWS, updWS]; exact ⟨hs, ht, hk⟩
    · rw [updWN e, updWN e, updWN e]; exact a5 p (by omega)
  · obtain ⟨a, c, q1, q2, q3, q4⟩ := a7 j hj
    exact ⟨a, c, q1, Nat.lt_succ_of_lt q2, Nat.lt_succ_of_lt q3, q4⟩
  · have hp : p < dPpl (pL P) + 1 := hp
    show (updW (dBnd (pL P)) (dPpl (pL P)) 0 p).testBit i = true ↔ p ≠ i ∧ ∃ j, j < dBds (pL P) ∧ dPrs (pL P) j = 2 ^ p ||| 2 ^ i
    by_cases e : p = dPpl (pL P)
    · rw [e, updWS, Nat.zero_testBit]
      refine ⟨fun w => (by cases w), fun w => ?_⟩
      obtain ⟨w1, j, w2, w3⟩ := w
      obtain ⟨a, c, q1, q2, q3, q4⟩ := a7 j w2
      rw [q4] at w3
      rcases pair_eq q1 w1 w3 with q | q <;> omega
    · rw [updWN e]; exact a8 p (by omega) i
theorem POK_W (hP : POK P) (h14 : ¬ 14 ≤ dWks (pL P)) {a b c d e : Nat} (h1 : a < 4) (h2 : b < 8) (h3 : c < 12) (h4 : d < 12) (h5 : e < 5) : POK (addW P (wV a b c d e)) := by
  obtain ⟨a1, a2, a3, a4, a5, a6, a7, a8, a9⟩ := hP
  refine ⟨a1, by show dWks (pL P) + 1 ≤ 14; omega, a3, a4, a5, fun i hi => ?_, a7, a8, a9⟩
  have hi : i < dWks (pL P) + 1 := hi
  show (if i = dWks (pL P) then wV a b c d e else dWk (pL P) i) 0 < 4 ∧ (if i = dWks (pL P) then wV a b c d e else dWk (pL P) i) 1 < 8 ∧ (if i = dWks (pL P) then wV a b c d e else dWk (pL P) i) 2 < 12 ∧ (if i = dWks (pL P) then wV a b c d e else dWk (pL P) i) 3 < 12 ∧ (if i = dWks (pL P) then wV a b c d e else dWk (pL P) i) 4 < 5
  by_cases q : i = dWks (pL P)
  · rw [if_pos q]; exact ⟨h1, h2, h3, h4, h5⟩
  · rw [if_neg q]; exact a6 i (by omega)
theorem POK_B (hP : POK P) (h8 : ¬ 8 ≤ dBds (pL P)) {x y : Nat} (hxy : x ≠ y) (hx : x < dPpl (pL P)) (hy : y < dPpl (pL P)) : POK (addB P x y) := by
  obtain ⟨a1, a2, a3, a4, a5, a6, a7, a8, a9⟩ := hP
  refine ⟨a1, a2, by show dBds (pL P) + 1 ≤ 8; omega, a4, a5, a6, fun j hj => ?_, fun p hp i => ?_, a9⟩
  · have hj : j < dBds (pL P) + 1 := hj
    show ∃ a c, a ≠ c ∧ a < dPpl (pL P) ∧ c < dPpl (pL P) ∧ updW (dPrs (pL P)) (dBds (pL P)) (2 ^ x ||| 2 ^ y) j = 2 ^ a ||| 2 ^ c
    by_cases e : j = dBds (pL P)
    · rw [e, updWS]; exact ⟨x, y, hxy, hx, hy, rfl⟩
    · rw [updWN e]; exact a7 j (by omega)
  · show (updW (updW (dBnd (pL P)) x (dBnd (pL P) x ||| 2 ^ y)) y (dBnd (pL P) y ||| 2 ^ x) p).testBit i = true ↔ p ≠ i ∧ ∃ j, j < dBds (pL P) + 1 ∧ updW (dPrs (pL P)) (dBds (pL P)) (2 ^ x ||| 2 ^ y) j = 2 ^ p ||| 2 ^ i
    have hr : (p ≠ i ∧ ∃ j, j < dBds (pL P) + 1 ∧ updW (dPrs (pL P)) (dBds (pL P)) (2 ^ x ||| 2 ^ y) j = 2 ^ p ||| 2 ^ i) ↔ ((dBnd (pL P) p).testBit i = true ∨ (p = x ∧ i = y) ∨ (p = y ∧ i = x)) := by
      rw [a8 p hp i]
      constructor
      · rintro ⟨w1, j, w2, w3⟩
        by_cases e : j = dBds (pL P)
        · rw [e, updWS] at w3
          exact Or.inr (pair_eq hxy w1 w3)
        · rw [updWN e] at w3
          exact Or.inl ⟨w1, j, by omega, w3⟩
      · rintro (⟨w1, j, w2, w3⟩ | w | w)
        · exact ⟨w1, j, by omega, by rw [updWN (by omega)]; exact w3⟩
        · exact ⟨by omega, dBds (pL P), by omega, by rw [updWS, w.1, w.2]⟩
        · exact ⟨by omega, dBds (pL P), by omega, by rw [updWS, w.1, w.2, Nat.or_comm]⟩
    rw [hr]
    by_cases ey : p = y
    · subst ey
      rw [updWS, Nat.testBit_or, Nat.testBit_two_pow, Bool.or_eq_true, decide_eq_true_eq]
      constructor
      · rintro (w | w)
        · exact Or.inl w
        · exact Or.inr (Or.inr ⟨rfl, w.symm⟩)
      · rintro (w | w | w)
        · exact Or.inl w
        · exact absurd w.1.symm hxy
        · exact Or.inr w.2.symm
    · rw [updWN ey]
      by_cases ex : p = x
      · subst ex
        rw [updWS, Nat.testBit_or, Nat.testBit_two_pow, Bool.or_eq_true, decide_eq_true_eq]
        constructor
        · rintro (w | w)
          · exact Or.inl w
          · exact Or.inr (Or.inl ⟨rfl, w.symm⟩)
        · rintro (w | w | w)
          · exact Or.inl w
          · exact Or.inr w.2.symm
          · exact absurd w.1 ey
      · rw [updWN ex]
        constructor
        · exact Or.inl
        · rintro (w | w | w)
          · exact w
          · exact absurd w.1 ex
          · exact absurd w.1 ey
theorem POK_line (hP : POK P) (hg : (rdLine f n T P).1.2 = 0) : POK (rdLine f n T P).2 := by
  unfold rdLine at *
  by_cases c1 : isKw f n T 7 = true
  · rw [if_pos c1] at *
    unfold rdP at *
    by_cases h : 12 ≤ dPpl (pL P)
    · rw [if_pos h]; exact hP
    · rw [if_neg h] at *
      dsimp only at *
      have g4 := skL_g _ _ _ hg
      have g3 : (tkN f n 0 9 (tkN f n 0 3 (nxK f n T))).2 = 0 := (tk_g g4).1
      have g2 : (tkN f n 0 3 (nxK f n T)).2 = 0 := (tk_g g3).1
      have v1 := tk_v g2
      have v2 := tk_v g3
      have v3 := tk_v g4
      exact POK_P hP h (by omega) (by omega) (skL_lt _ _ _ (Nat.pow_lt_pow_right (n := 8) (a := 2) (by decide) (by omega)))
  · rw [if_neg c1] at *
    by_cases c2 : isKw f n T 8 = true
    · rw [if_pos c2] at *
      unfold rdW at *
      by_cases h : 14 ≤ dWks (pL P)
      · rw [if_pos h]; exact hP
      · rw [if_neg h] at *
        dsimp only at *
        have v5 := tk_v hg
        have g4 := (tk_g hg).1
        have v4 := tk_v g4
        have g3 := (tk_g g4).1
        have v3 := tk_v g3
        have g2 := (tk_g g3).1
        have v2 := tk_v g2
        have g1 := (tk_g g2).1
        have v1 := tk_v g1
        exact POK_W hP h (by omega) (by omega) (by omega) (by omega) (by omega)
    · rw [if_neg c2] at *
      by_cases c3 : isKw f n T 9 = true
      · rw [if_pos c3] at *
        unfold rdB at *
        by_cases h : 8 ≤ dBds (pL P)
        · rw [if_pos h]; exact hP
        · rw [if_neg h] at *
          dsimp only at *
          have g := nx_g hg
          split at g
          · exact absurd g (fa_g (by decide))
          · rename_i w
            obtain ⟨g2, v2⟩ := ph_g g
            obtain ⟨g1, v1⟩ := ph_g (nx_g g2)
            exact POK_B hP h (fun q => w (Or.inl q)) v1 v2
      · rw [if_neg c3] at *
        by_cases c4 : isKw f n T 5 = true
        · rw [if_pos c4] at *
          unfold rdH at *
          dsimp only at *
          have v := tk_v hg
          obtain ⟨a1, a2, a3, a4, a5, a6, a7, a8, a9⟩ := hP
          exact ⟨a1, a2, a3, v.2, a5, a6, a7, a8, a9⟩
        · rw [if_neg c4] at *
          by_cases c5 : isKw f n T 10 = true
          · rw [if_pos c5] at *
            obtain ⟨a1, a2, a3, a4, a5, a6, a7, a8, a9⟩ := hP
            exact ⟨a1, a2, a3, a4, a5, a6, a7, a8, fun w => (by cases w)⟩
          · rw [if_neg c5] at *
            exact hP
end
