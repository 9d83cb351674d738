/-! The data that both sides hold: a land (people, works, bonds, hero; works, strengths, pairs, who is bound, law), a state (towns, skills, heroes, gone, month). -/
noncomputable def bP (P : Prop) : Bool := @decide P (Classical.propDecidable P)
theorem bP_iff {P : Prop} : bP P = true ↔ P := by
  unfold bP
  exact @decide_eq_true_iff P (Classical.propDecidable P)
theorem bool_ext {a b : Bool} (h : a = true ↔ b = true) : a = b := by
  cases a <;> cases b <;> simp_all
abbrev LD : Type := Nat × Nat × Nat × Nat × (Nat → Nat → Nat) × (Nat → Nat) × (Nat → Nat) × (Nat → Nat) × List Nat
noncomputable def dPpl (L : LD) : Nat := L.1
noncomputable def dWks (L : LD) : Nat := L.2.1
noncomputable def dBds (L : LD) : Nat := L.2.2.1
noncomputable def dHro (L : LD) : Nat := L.2.2.2.1
noncomputable def dWk (L : LD) : Nat → Nat → Nat := L.2.2.2.2.1
noncomputable def dStr (L : LD) : Nat → Nat := L.2.2.2.2.2.1
noncomputable def dPrs (L : LD) : Nat → Nat := L.2.2.2.2.2.2.1
noncomputable def dBnd (L : LD) : Nat → Nat := L.2.2.2.2.2.2.2.1
noncomputable def dLaw (L : LD) : List Nat := L.2.2.2.2.2.2.2.2
abbrev SD : Type := (Nat → Nat) × (Nat → Nat) × (Nat → Nat) × Nat × Nat
noncomputable def sTwn (S : SD) : Nat → Nat := S.1
noncomputable def sSkl (S : SD) : Nat → Nat := S.2.1
noncomputable def sHro (S : SD) : Nat → Nat := S.2.2.1
noncomputable def sGne (S : SD) : Nat := S.2.2.2.1
noncomputable def sMon (S : SD) : Nat := S.2.2.2.2
/-- the height behind a row of cells; none where it passes the cap, or wants -/
noncomputable def hgt (cap : Nat) : Nat → List Nat → Option Nat
  | k, [] => some k
  | k, c :: o => if c < 7 ∨ 16 ≤ c then (if k < cap then hgt cap (k + 1) o else none) else if c = 13 then (if 0 < k then hgt cap k o else none) else if 2 ≤ k then hgt cap (k - 1) o else none
noncomputable def lawOK (o : List Nat) : Prop := o.length ≤ 700 ∧ (o = [] ∨ hgt 31 0 o = some 1) ∧ ∀ c ∈ o, c < 10016
noncomputable def bndA (L : LD) (S : Nat) : Bool := !(allF 0 (dPpl L) (fun p => !(S.testBit p && decide (dBnd L p &&& S ≠ 0))))
noncomputable def DOK (L : LD) : Prop := dPpl L ≤ 12 ∧ dWks L ≤ 14 ∧ dBds L ≤ 8 ∧ dHro L ≤ 24 ∧ (∀ p, p < dPpl L → dStr L p < 10 ∧ dBnd L p < 2 ^ dPpl L ∧ dBnd L p = dif (orU (dBds L) (fun j => if (dPrs L j).testBit p then dPrs L j else 0)) (2 ^ p)) ∧ (∀ i, i < dWks L → dWk L i 0 < 4 ∧ dWk L i 1 < 8 ∧ dWk L i 2 < 12 ∧ dWk L i 3 < 12 ∧ dWk L i 4 < 5) ∧ (∀ j, j < dBds L → dPrs L j < 4096) ∧ (∀ S, S < 2 ^ dPpl L → ((∀ j, j < dBds L → pc (dPrs L j &&& S) ≤ 1) ↔ bndA L S = false)) ∧ lawOK (dLaw L)
noncomputable def SOK (n : Nat) (S : SD) : Prop := (∀ p, p < n → sTwn S p < 4 ∧ sSkl S p < 256 ∧ sHro S p < 2 ^ 29) ∧ sGne S < 2 ^ n ∧ sMon S < 2 ^ 29
/-- the class's land -/
noncomputable def CL (σ : sw_M) (a : Nat) (L : LD) : Prop := σ.1 a 0 = nI (dPpl L) ∧ σ.1 a 4 = nI (dWks L) ∧ σ.1 a 10 = nI (dBds L) ∧ σ.1 a 12 = nI (dHro L) ∧
  (∀ p, p < dPpl L → sm 4 (σ.1 (a + 1) p) ∧ σ.1 (a + 2) p = nI (dStr L p) ∧ sm 256 (σ.1 (a + 3) p)) ∧
  (∀ i, i < dWks L → σ.1 (a + 4) i = nI (dWk L i 0) ∧ σ.1 (a + 5) i = nI (dWk L i 1) ∧ σ.1 (a + 6) i = nI (dWk L i 2) ∧ σ.1 (a + 7) i = nI (dWk L i 3) ∧ σ.1 (a + 8) i = nI (dWk L i 4)) ∧
  (∀ j, j < dBds L → σ.1 (a + 9) j = nI (dPrs L j)) ∧ σ.1 (a + 10) 0 = nI (dLaw L).length ∧ ∀ i, i < (dLaw L).length → σ.1 (a + 11) i = nI ((dLaw L).getD i 0)
/-- the class's state -/
noncomputable def CS (σ : sw_M) (s n : Nat) (S : SD) : Prop := σ.1 s 0 = nI n ∧ σ.1 s 1 = nI (sMon S) ∧ σ.1 s 2 = nI (sGne S) ∧ ∀ p, p < n → σ.1 (s + 1) p = nI (sTwn S p) ∧ σ.1 (s + 2) p = nI (sSkl S p) ∧ σ.1 (s + 3) p = nI (sHro S p)
/-- the reference's state, in the row r -/
noncomputable def MS (σ : sw_M) (r n : Nat) (S : SD) : Prop := σ.1 r 36 = nI (sGne S) ∧ σ.1 r 37 = nI (sMon S) ∧ ∀ p, p < n → σ.1 r p = nI (sTwn S p) ∧ σ.1 r (12 + p) = nI (sSkl S p) ∧ σ.1 r (24 + p) = nI (sHro S p)
/-- a law's cells in the reference's code -/
noncomputable def opR (c : Nat) : Nat := if c = 7 then 8 else if c = 8 then 9 else if c = 9 then 10 else if c = 10 then 11 else if c = 11 then 6 else if c = 12 then 7 else if c = 13 then 3 else if c = 14 then 4 else 5
noncomputable def codeAt (f : Nat → Int32) : Nat → List Nat → Prop
  | k, [] => f k = 0
  | k, c :: o => if 16 ≤ c then f k = 1 ∧ f (k + 1) = nI (c - 16) ∧ codeAt f (k + 2) o else if c < 7 then f k = 2 ∧ f (k + 1) = nI c ∧ codeAt f (k + 2) o else f k = nI (opR c) ∧ codeAt f (k + 1) o
/-- the reference's land -/
noncomputable def ML (σ : sw_M) (L : LD) : Prop := σ.1 75 1 = nI (dPpl L) ∧ σ.1 75 2 = nI (dWks L) ∧ σ.1 75 3 = nI (dBds L) ∧ σ.1 75 4 = nI (dHro L) ∧
  (∀ p, p < dPpl L → σ.1 76 p = nI (dStr L p) ∧ σ.1 77 p = nI (dBnd L p)) ∧ (∀ i j, i < dWks L → j < 5 → σ.1 78 (5 * i + j) = nI (dWk L i j)) ∧
  ((dLaw L = [] ∧ σ.1 75 5 = -1) ∨ (dLaw L ≠ [] ∧ σ.1 75 5 = 0 ∧ codeAt (σ.1 79) 0 (dLaw L)))
noncomputable def pieA (L : LD) (m i : Nat) : Nat := if isW (dWk L i 2) (dWk L i 3) m then dWk L i 4 else 0
noncomputable def demA (L : LD) (m t q : Nat) : Nat := sumU (dWks L) (fun i => if dWk L i 0 = t ∧ dWk L i 1 = q then pieA L m i else 0)
noncomputable def pcsA (L : LD) (m : Nat) : Nat := sumU (dWks L) (pieA L m)
noncomputable def whoA (n : Nat) (T K : Nat → Nat) (t S : Nat) : Nat := bs n (fun p => T p == t && decide (K p &&& S ≠ 0))
noncomputable def doneA (D : Nat → Nat → Nat) (n : Nat) (T K : Nat → Nat) (b : Nat) : Bool := bP (∀ t, t < 4 → ∀ S, inA D t S → needF (D t) S ≤ pc (b &&& whoA n T K t S))
noncomputable def fitP (L : LD) (D : Nat → Nat → Nat) (T K : Nat → Nat) (P S : Nat) : Bool := doneA D (dPpl L) T K (dif P S) && !bndA L S && decide (dif (2 ^ dPpl L - 1) P &&& S = 0)
noncomputable def fitA (L : LD) (D : Nat → Nat → Nat) (T K : Nat → Nat) (S : Nat) : Bool := doneA D (dPpl L) T K (dif (2 ^ dPpl L - 1) S) && !bndA L S
theorem vN_of {σ : sw_M} {k j n : Nat} (h : σ.1 k j = nI n) (hn : n < 2 ^ 31) : vN σ k j = n := by unfold vN; rw [h, nI_clamp hn]
theorem sm_of {x : Int32} {n b : Nat} (h : x = nI n) (hn : n < b) (hb : b ≤ 2 ^ 31) : sm b x := by rw [h]; exact sm_nI hn hb
theorem pw12 {n : Nat} (h : n ≤ 12) : 2 ^ n ≤ 4096 := Nat.pow_le_pow_right (n := 2) (by decide) h
section
variable {σ τ : sw_M} {a s n : Nat} {L : LD} {S : SD}
theorem CL_n (h : CL σ a L) (hD : DOK L) : vN σ a 0 = dPpl L ∧ vN σ a 4 = dWks L ∧ vN σ a 10 = dBds L := by
  obtain ⟨d1, d2, d3, -⟩ := hD
  exact ⟨vN_of h.1 (by omega), vN_of h.2.1 (by omega), vN_of h.2.2.1 (by omega)⟩
theorem CL_Lk (h : CL σ a L) (hD : DOK L) : Lk σ a := by
  obtain ⟨e1, e2, e3⟩ := CL_n h hD
  obtain ⟨c1, c2, c3, c4, c5, c6, c7, -, -⟩ := h
  obtain ⟨d1, d2, d3, d4, d5, d6, d7, -⟩ := hD
  refine ⟨sm_of c1 (by omega) (by decide), sm_of c2 (by omega) (by decide), sm_of c3 (by omega) (by decide), sm_of c4 (by omega) (by decide), fun p hp => ?_, fun w hw => ?_, fun i hi => ?_⟩
  · rw [e1] at hp
    exact ⟨(c5 p hp).1, sm_of (c5 p hp).2.1 (d5 p hp).1 (by decide), (c5 p hp).2.2⟩
  · rw [e2] at hw
    obtain ⟨w1, w2, w3, w4, w5⟩ := c6 w hw
    obtain ⟨b1, b2, b3, b4, b5⟩ := d6 w hw
    exact ⟨sm_of w1 b1 (by decide), sm_of w2 b2 (by decide), sm_of w3 b3 (by decide), sm_of w4 b4 (by decide), sm_of w5 b5 (by decide)⟩
  · rw [e3] at hi
    exact sm_of (c7 i hi) (d7 i hi) (by decide)
theorem CL_w (h : CL σ a L) (hD : DOK L) {i : Nat} (hi : i < dWks L) : wT σ a i = dWk L i 0 ∧ wS σ a i = dWk L i 1 ∧ wF σ a i = dWk L i 2 ∧ wO σ a i = dWk L i 3 ∧ wP σ a i = dWk L i 4 := by
  obtain ⟨-, -, -, -, -, c6, -⟩ := h
  obtain ⟨-, -, -, -, -, d6, -⟩ := hD
  obtain ⟨w1, w2, w3, w4, w5⟩ := c6 i hi
  obtain ⟨b1, b2, b3, b4, b5⟩ := d6 i hi
  exact ⟨vN_of w1 (by omega), vN_of w2 (by omega), vN_of w3 (by omega), vN_of w4 (by omega), vN_of w5 (by omega)⟩
theorem CL_wIn (h : CL σ a L) (hD : DOK L) {m i : Nat} (hi : i < dWks L) : wIn σ a m i = pieA L m i := by
  obtain ⟨-, -, w3, w4, w5⟩ := CL_w h hD hi
  unfold wIn pieA
  rw [w3, w4, w5]
theorem CL_pieces (h : CL σ a L) (hD : DOK L) (m : Nat) : pieces σ a m = pcsA L m := by
  unfold pieces pcsA
  rw [(CL_n h hD).2.1]
  exact sumU_congr _ (fun i hi => CL_wIn h hD hi)
theorem CL_dem (h : CL σ a L) (hD : DOK L) (m t q : Nat) : dem σ a m t q = demA L m t q := by
  unfold dem demN demA
  rw [(CL_n h hD).2.1]
  refine sumU_congr _ (fun i hi => ?_)
  obtain ⟨w1, w2, -⟩ := CL_w h hD hi
  rw [w1, w2, CL_wIn h hD hi]
theorem pieA_le (hD : DOK L) {m i : Nat} (hi : i < dWks L) : pieA L m i ≤ 4 := by
  obtain ⟨-, -, -, -, -, d6, -⟩ := hD
  have := (d6 i hi).2.2.2.2
  unfold pieA
  split <;> omega
theorem demA_le (hD : DOK L) (m t q : Nat) : demA L m t q ≤ 56 := by
  have h2 := hD.2.1
  have := sumU_le (f := fun i => if dWk L i 0 = t ∧ dWk L i 1 = q then pieA L m i else 0) (b := 4) (dWks L) (fun i hi => by
    have := pieA_le (m := m) hD hi
    show (if _ then _ else _) ≤ 4
    split <;> omega)
  unfold demA
  omega
theorem pcsA_le (hD : DOK L) (m : Nat) : pcsA L m ≤ 56 := by
  have h2 := hD.2.1
  have := sumU_le (f := pieA L m) (b := 4) (dWks L) (fun i hi => pieA_le hD hi)
  unfold pcsA
  omega
theorem CS_Sok (h : CS σ s n S) (hn : n ≤ 12) (hS : SOK n S) : Sok σ s n := by
  obtain ⟨c1, c2, c3, c4⟩ := h
  obtain ⟨s1, s2, s3⟩ := hS
  have := pw12 hn
  refine ⟨hn, c1, sm_of c2 (by omega) (by decide), sm_of c3 (by omega) (by decide), fun p hp => ?_⟩
  obtain ⟨e1, e2, e3⟩ := c4 p hp
  obtain ⟨b1, b2, b3⟩ := s1 p hp
  exact ⟨sm_of e1 b1 (by decide), sm_of e2 b2 (by decide), sm_of e3 (by omega) (by decide)⟩
theorem CS_v (h : CS σ s n S) (hS : SOK n S) {p : Nat} (hp : p < n) : tw σ s p = sTwn S p ∧ sk σ s p = sSkl S p ∧ hu σ s p = sHro S p := by
  obtain ⟨e1, e2, e3⟩ := h.2.2.2 p hp
  obtain ⟨b1, b2, b3⟩ := hS.1 p hp
  exact ⟨vN_of e1 (by omega), vN_of e2 (by omega), vN_of e3 (by omega)⟩
theorem CS_g (h : CS σ s n S) (hn : n ≤ 12) (hS : SOK n S) : vN σ s 2 = sGne S ∧ vN σ s 1 = sMon S := by
  obtain ⟨c1, c2, c3, c4⟩ := h
  obtain ⟨s1, s2, s3⟩ := hS
  have := pw12 hn
  exact ⟨vN_of c3 (by omega), vN_of c2 (by omega)⟩
theorem CL_eq (h : CL σ a L) (hq : Leq a σ τ) : CL τ a L := by
  unfold CL at *
  rw [hq a (by omega) (by omega), hq (a + 1) (by omega) (by omega), hq (a + 2) (by omega) (by omega), hq (a + 3) (by omega) (by omega), hq (a + 4) (by omega) (by omega), hq (a + 5) (by omega) (by omega), hq (a + 6) (by omega) (by omega), hq (a + 7) (by omega) (by omega), hq (a + 8) (by omega) (by omega), hq (a + 9) (by omega) (by omega), hq (a + 10) (by omega) (by omega), hq (a + 11) (by omega) (by omega)]
  exact h
theorem CS_eq (h : CS σ s n S) (h0 : τ.1 s = σ.1 s) (h1 : τ.1 (s + 1) = σ.1 (s + 1)) (h2 : τ.1 (s + 2) = σ.1 (s + 2)) (h3 : τ.1 (s + 3) = σ.1 (s + 3)) : CS τ s n S := by
  unfold CS at *
  rw [h0, h1, h2, h3]
  exact h
theorem MS_eq {r : Nat} (h : MS σ r n S) (h0 : τ.1 r = σ.1 r) : MS τ r n S := by
  unfold MS at *
  rw [h0]
  exact h
theorem pc_zero {x : Nat} (hx : x < 4096) : pc x ≤ 0 ↔ x = 0 := by
  constructor
  · intro h
    have key : ∀ n, pcn n x ≤ 0 → ∀ i, i < n → x.testBit i = false := by
      intro n
      induction n with
      | zero => intro _ i hi; omega
      | succ n ih =>
        intro h i hi
        rw [pcn] at h
        rcases Nat.eq_or_lt_of_le (Nat.le_of_lt_succ hi) with e | e
        · subst e
          cases hb : x.testBit i with
          | false => rfl
          | true => rw [hb, if_pos rfl] at h; omega
        · exact ih (by omega) i e
    apply Nat.eq_of_testBit_eq
    intro i
    rw [Nat.zero_testBit]
    rcases Nat.lt_or_ge i 12 with c | c
    · exact key 12 h i c
    · exact Nat.testBit_lt_two_pow (Nat.lt_of_lt_of_le hx (show 4096 ≤ 2 ^ i from Nat.pow_le_pow_right (n := 2) (by decide) c))
  · intro h; subst h; decide
theorem bit_lt {x n i : Nat} (h : x < 2 ^ n) (hb : x.testBit i = true) : i < n := by
  rcases Nat.lt_or_ge i n with c | c
  · exact c
  · rw [Nat.testBit_lt_two_pow (Nat.lt_of_lt_of_le h (Nat.pow_le_pow_right (by decide) c))] at hb; cases hb
theorem and_ne0 {x y : Nat} : x &&& y ≠ 0 ↔ ∃ i, x.testBit i = true ∧ y.testBit i = true := by
  constructor
  · intro h
    obtain ⟨i, hi⟩ := Nat.exists_testBit_of_ne_zero h
    rw [Nat.testBit_and, Bool.and_eq_true] at hi
    exact ⟨i, hi⟩
  · rintro ⟨i, h1, h2⟩ h
    have : (x &&& y).testBit i = true := by rw [Nat.testBit_and, h1, h2]; rfl
    rw [h, Nat.zero_testBit] at this
    cases this
/-- the class's groups are the people that a set of skills wants -/
theorem whoF_A {T K : Nat → Nat} {W : Nat → Nat} {t P X : Nat} (hK : ∀ p, p < n → K p < 256) (hW : ∀ q, q < 8 → W q = bs n (fun p => T p == t && (K p).testBit q) &&& P) : whoF W X = whoA n T K t X &&& P := by
  apply bit_ext
  intro i
  rw [whoF_bit, Nat.testBit_and, Bool.and_eq_true]
  unfold whoA
  rw [bs_bit]
  constructor
  · rintro ⟨q, q1, q2, q3⟩
    rw [hW q q1, Nat.testBit_and, Bool.and_eq_true, bs_bit] at q3
    obtain ⟨z1, z2⟩ := q3
    simp only [Bool.and_eq_true, decide_eq_true_eq] at z1 ⊢
    exact ⟨⟨z1.1, z1.2.1, and_ne0.mpr ⟨q, z1.2.2, q2⟩⟩, z2⟩
  · rintro ⟨h1, h2⟩
    simp only [Bool.and_eq_true, decide_eq_true_eq] at h1
    obtain ⟨i1, i2, i3⟩ := h1
    obtain ⟨q, q1, q2⟩ := and_ne0.mp i3
    have hq8 : q < 8 := bit_lt (n := 8) (hK i i1) q1
    refine ⟨q, hq8, q2, ?_⟩
    rw [hW q hq8, Nat.testBit_and, Bool.and_eq_true, bs_bit]
    simp only [Bool.and_eq_true, decide_eq_true_eq]
    exact ⟨⟨i1, i2, q1⟩, h2⟩
/-- all towns' rules: the work is done by those of P who aren't in X -/
theorem towns_done {D W : Nat → Nat → Nat} {T K : Nat → Nat} {P X : Nat} (hK : ∀ p, p < n → K p < 256) (hW : ∀ t q, t < 4 → q < 8 → W t q = bs n (fun p => T p == t && (K p).testBit q) &&& P) : (∀ t, t < 4 → tOk (D t) (W t) X) ↔ doneA D n T K (dif P X) = true := by
  unfold doneA
  rw [bP_iff]
  have key : ∀ t, t < 4 → ∀ S, gOk X (whoF (W t) S) (needF (D t) S) ↔ needF (D t) S ≤ pc (dif P X &&& whoA n T K t S) := by
    intro t ht S
    rw [whoF_A hK (hW t · ht), gOk_need (P := P) (fun i hi => by rw [Nat.testBit_and, Bool.and_eq_true] at hi; exact hi.2)]
    have : dif P X &&& (whoA n T K t S &&& P) = dif P X &&& whoA n T K t S := by
      apply bit_ext
      intro i
      rw [Nat.testBit_and, Nat.testBit_and, Nat.testBit_and, dif_bit]
      cases P.testBit i <;> simp
    rw [this]
  constructor
  · intro h t ht S hS
    exact (key t ht S).mp (h t ht S hS)
  · intro h t ht S hS
    exact (key t ht S).mpr (h t ht S hS)
theorem sumU_add {f g : Nat → Nat} : ∀ n, sumU n (fun i => f i + g i) = sumU n f + sumU n g
  | 0 => rfl
  | n + 1 => by rw [sumU, sumU, sumU, sumU_add n]; omega
theorem sumU_zero : ∀ n, sumU n (fun _ => 0) = 0
  | 0 => rfl
  | n + 1 => by rw [sumU, sumU_zero n]
theorem sumU_swap {f : Nat → Nat → Nat} : ∀ n k, sumU n (fun i => sumU k (f i)) = sumU k (fun j => sumU n (fun i => f i j))
  | 0, k => by
    show 0 = sumU k (fun j => 0)
    rw [sumU_zero]
  | n + 1, k => by
    rw [sumU, sumU_swap n k, ← sumU_add]
    rfl
theorem sumU_one {c k x : Nat} : ∀ n, sumU n (fun j => if k = j ∧ c = c then x else 0) = if k < n then x else 0
  | 0 => by simp [sumU]
  | n + 1 => by
    rw [sumU, sumU_one n]
    by_cases e : k = n
    · subst e; simp
    · have h1 : (k < n + 1) = (k < n) := by rw [eq_iff_iff]; omega
      simp [e, h1]
theorem pcs_sum (hD : DOK L) (m : Nat) : pcsA L m = sumU 8 (demA L m 0) + sumU 8 (demA L m 1) + sumU 8 (demA L m 2) + sumU 8 (demA L m 3) := by
  have h4 : ∀ f : Nat → Nat, f 0 + f 1 + f 2 + f 3 = sumU 4 f := fun f => by simp [sumU]
  rw [h4 (fun t => sumU 8 (demA L m t))]
  unfold demA pcsA
  have e : ∀ t, sumU 8 (fun q => sumU (dWks L) (fun i => if dWk L i 0 = t ∧ dWk L i 1 = q then pieA L m i else 0)) = sumU (dWks L) (fun i => sumU 8 (fun q => if dWk L i 0 = t ∧ dWk L i 1 = q then pieA L m i else 0)) := fun t => (sumU_swap _ _).symm
  rw [sumU_congr 4 (fun t _ => e t), ← sumU_swap]
  refine sumU_congr _ (fun i hi => ?_)
  obtain ⟨-, -, -, -, -, d6, -⟩ := hD
  obtain ⟨b1, b2, -⟩ := d6 i hi
  have e1 : ∀ t, sumU 8 (fun q => if dWk L i 0 = t ∧ dWk L i 1 = q then pieA L m i else 0) = if dWk L i 0 = t ∧ 0 = 0 then pieA L m i else 0 := by
    intro t
    by_cases c : dWk L i 0 = t
    · have := sumU_one (c := 0) (k := dWk L i 1) (x := pieA L m i) 8
      rw [if_pos b2] at this
      rw [if_pos ⟨c, rfl⟩]
      refine Eq.trans (sumU_congr _ (fun q _ => ?_)) this
      simp [c]
    · rw [if_neg (by simp [c])]
      rw [sumU_congr (g := fun _ => 0) 8 (fun q _ => by simp [c]), sumU_zero]
  rw [sumU_congr 4 (fun t _ => e1 t), sumU_one, if_pos b1]
end
