/-! A set fits by the class's rules just if it does by the reference's needs. -/
theorem sub_and {a b : Nat} (h : ∀ i, a.testBit i = true → b.testBit i = true) : a &&& b = a := by
  apply bit_ext
  intro i
  rw [Nat.testBit_and]
  constructor
  · intro q; rw [Bool.and_eq_true] at q; exact q.1
  · intro q; rw [q, h i q]; rfl
theorem dif_sub {e w T : Nat} (h : ∀ i, w.testBit i = true → e.testBit i = true) : dif e T &&& w = dif w T := by
  apply bit_ext
  intro i
  rw [Nat.testBit_and, dif_bit, dif_bit]
  constructor
  · intro q
    simp only [Bool.and_eq_true] at q ⊢
    exact ⟨q.2, q.1.2⟩
  · intro q
    simp only [Bool.and_eq_true] at q ⊢
    exact ⟨⟨h i q.1, q.2⟩, q.1⟩
/-- one group: as a rule, as a need -/
theorem gOk_need {P w T a : Nat} (h : ∀ i, w.testBit i = true → P.testBit i = true) : gOk T w a ↔ a ≤ pc (dif P T &&& w) := by
  rw [dif_sub h]
  have := pc_dif w T
  unfold gOk
  omega
theorem ev_bit {n i : Nat} : (2 ^ n - 1).testBit i = decide (i < n) := Nat.testBit_two_pow_sub_one n i
theorem whoF_bit {W : Nat → Nat} {S i : Nat} : (whoF W S).testBit i = true ↔ ∃ q, q < 8 ∧ S.testBit q = true ∧ (W q).testBit i = true := by
  unfold whoF
  rw [orU_mem]
  constructor
  · rintro ⟨q, h1, h2⟩
    split at h2
    · rename_i c; exact ⟨q, h1, c, h2⟩
    · simp at h2
  · rintro ⟨q, h1, h2, h3⟩
    exact ⟨q, h1, by rw [if_pos h2]; exact h3⟩
/-- all pieces of a town -/
theorem needF_ask {D : Nat → Nat} : needF D (askS D 8) = sumU 8 D := by
  unfold needF
  refine sumU_congr 8 (fun i hi => ?_)
  unfold askS
  rw [bs_bit]
  by_cases h : 0 < D i
  · simp [hi, h]
  · simp [h]; omega
theorem askS_in {D : Nat → Nat → Nat} {t : Nat} : inA D t (askS (D t) 8) := by
  intro j hj
  unfold askS at hj
  rw [bs_bit] at hj
  simpa using hj
/-- four groups apart within P -/
theorem pc_four {P a b c e : Nat} (ha : ∀ i, a.testBit i = true → P.testBit i = true) (hb : ∀ i, b.testBit i = true → P.testBit i = true) (hc : ∀ i, c.testBit i = true → P.testBit i = true) (he : ∀ i, e.testBit i = true → P.testBit i = true)
    (h1 : ∀ i, a.testBit i = true → b.testBit i = false) (h2 : ∀ i, a.testBit i = true → c.testBit i = false) (h3 : ∀ i, a.testBit i = true → e.testBit i = false) (h4 : ∀ i, b.testBit i = true → c.testBit i = false) (h5 : ∀ i, b.testBit i = true → e.testBit i = false) (h6 : ∀ i, c.testBit i = true → e.testBit i = false) : pc a + pc b + pc c + pc e ≤ pc P := by
  have q1 := pc_or h1
  have q2 : pc ((a ||| b) ||| c) = pc (a ||| b) + pc c := pc_or (fun i hi => by
    rw [Nat.testBit_or, Bool.or_eq_true] at hi
    exact hi.elim (h2 i) (h4 i))
  have q3 : pc (((a ||| b) ||| c) ||| e) = pc ((a ||| b) ||| c) + pc e := pc_or (fun i hi => by
    rw [Nat.testBit_or, Nat.testBit_or, Bool.or_eq_true, Bool.or_eq_true] at hi
    exact hi.elim (fun q => q.elim (h3 i) (h5 i)) (h6 i))
  have q4 : pc (((a ||| b) ||| c) ||| e) ≤ pc P := pc_mono (fun i hi => by
    rw [Nat.testBit_or, Nat.testBit_or, Nat.testBit_or, Bool.or_eq_true, Bool.or_eq_true, Bool.or_eq_true] at hi
    rcases hi with ((q | q) | q) | q
    · exact ha i q
    · exact hb i q
    · exact hc i q
    · exact he i q)
  omega
/-- the towns' people are apart: so there are as many people as pieces, beside those who are gone -/
theorem towns_sum {D W : Nat → Nat → Nat} {P T Pt : Nat} (hsub : ∀ t q i, t < 4 → q < 8 → (W t q).testBit i = true → P.testBit i = true) (hap : ∀ t u q v i, t < 4 → u < 4 → q < 8 → v < 8 → t ≠ u → (W t q).testBit i = true → (W u v).testBit i = false) (hPt : Pt = sumU 8 (D 0) + sumU 8 (D 1) + sumU 8 (D 2) + sumU 8 (D 3)) (h : ∀ t, t < 4 → tOk (D t) (W t) T) : Pt ≤ pc (dif P T) := by
  have key : ∀ t, t < 4 → sumU 8 (D t) ≤ pc (dif (whoF (W t) (askS (D t) 8)) T) := by
    intro t ht
    have h1 := h t ht _ (askS_in (D := D) (t := t))
    unfold gOk at h1
    rw [needF_ask] at h1
    have := pc_dif (whoF (W t) (askS (D t) 8)) T
    omega
  have hs : ∀ t, t < 4 → ∀ i, (dif (whoF (W t) (askS (D t) 8)) T).testBit i = true → (dif P T).testBit i = true := by
    intro t ht i hi
    rw [dif_bit, Bool.and_eq_true] at hi ⊢
    refine ⟨?_, hi.2⟩
    obtain ⟨q, q1, -, q3⟩ := whoF_bit.mp hi.1
    exact hsub t q i ht q1 q3
  have ha : ∀ t u, t < 4 → u < 4 → t ≠ u → ∀ i, (dif (whoF (W t) (askS (D t) 8)) T).testBit i = true → (dif (whoF (W u) (askS (D u) 8)) T).testBit i = false := by
    intro t u ht hu htu i hi
    rw [dif_bit, Bool.and_eq_true] at hi
    obtain ⟨q, q1, -, q3⟩ := whoF_bit.mp hi.1
    cases e : (dif (whoF (W u) (askS (D u) 8)) T).testBit i with
    | false => rfl
    | true =>
      rw [dif_bit, Bool.and_eq_true] at e
      obtain ⟨v, v1, -, v3⟩ := whoF_bit.mp e.1
      rw [hap t u q v i ht hu q1 v1 htu q3] at v3
      cases v3
  have h4 := pc_four (hs 0 (by decide)) (hs 1 (by decide)) (hs 2 (by decide)) (hs 3 (by decide)) (ha 0 1 (by decide) (by decide) (by decide)) (ha 0 2 (by decide) (by decide) (by decide)) (ha 0 3 (by decide) (by decide) (by decide)) (ha 1 2 (by decide) (by decide) (by decide)) (ha 1 3 (by decide) (by decide) (by decide)) (ha 2 3 (by decide) (by decide) (by decide))
  have k0 := key 0 (by decide)
  have k1 := key 1 (by decide)
  have k2 := key 2 (by decide)
  have k3 := key 3 (by decide)
  omega
/-- how many kinds of piece there are at most -/
theorem cntD_sum (D : Nat → Nat) : ∀ k, cntD D k ≤ sumU k D
  | 0 => Nat.le_refl 0
  | k + 1 => by
    have := cntD_sum D k
    rw [cntD, sumU]
    split <;> omega
section
variable {σ τ : sw_M} {r n : Nat} {D : Nat → Nat → Nat}
/-- what the reference's needs say, as a whole -/
theorem doneM_iff {fn : Nat → Nat} {b : Nat} (h : LyP σ r n D fn τ) (hD : ∀ u q, u < 4 → q < 8 → D u q < 1000) (hn : n ≤ 12) : doneM τ (fn 4) b = true ↔ ∀ t, t < 4 → ∀ S, inA D t S → needF (D t) S ≤ pc (b &&& whoM σ r n t S) := by
  obtain ⟨⟨-, -, -, f0, -, -, hE⟩, -⟩ := h
  have val : ∀ t S k, t < 4 → eAt σ r n D t S k τ → vN τ 97 k = needF (D t) S ∧ vN τ 98 k = whoM σ r n t S := by
    intro t S k ht he
    have h1 := needF_le (S := S) (b := 999) (fun q hq => Nat.le_of_lt_succ (hD t q ht hq))
    have h2 := whoM_lt (σ := σ) (r := r) (t := t) (S := S) hn
    unfold vN
    rw [he.1, he.2, nI_clamp (by omega), nI_clamp (by omega)]
    exact ⟨rfl, rfl⟩
  unfold doneM
  rw [allF_iff]
  constructor
  · intro h t ht S hS
    rcases Nat.eq_zero_or_pos S with e | e
    · subst e; rw [needF_0]; exact Nat.zero_le _
    · have hlt : S < 256 := Nat.lt_of_le_of_lt (inA_le hS) (bs_lt _ 8)
      obtain ⟨k, k1, k2, k3⟩ := (hE t ht).1.2.2 S e hlt hS
      have h4 := h k (Nat.zero_le k) (by have := (hE t ht).2; omega)
      rw [decide_eq_true_iff, (val t S k ht k3).1, (val t S k ht k3).2] at h4
      exact h4
  · intro h k _ hk
    rw [decide_eq_true_iff]
    have : ∃ t, t < 4 ∧ fn t ≤ k ∧ k < fn (t + 1) := by
      rcases Nat.lt_or_ge k (fn 1) with c1 | c1
      · exact ⟨0, by decide, by omega, c1⟩
      · rcases Nat.lt_or_ge k (fn 2) with c2 | c2
        · exact ⟨1, by decide, c1, c2⟩
        · rcases Nat.lt_or_ge k (fn 3) with c3 | c3
          · exact ⟨2, by decide, c2, c3⟩
          · exact ⟨3, by decide, c3, by show k < fn 4; omega⟩
    obtain ⟨t, ht, k1, k2⟩ := this
    obtain ⟨S, -, -, s3, s4⟩ := (hE t ht).1.2.1 k k1 k2
    rw [(val t S k ht s4).1, (val t S k ht s4).2]
    exact h t ht S s3
end
