/-! The class reads a law: one level. -/
noncomputable def RP (σ : sw_M) (f : Nat → Nat) (n b s : Nat) (C : KC) : Prop := TC σ f n (kT C) ∧ (∃ k, k ≤ 700 ∧ σ.1 (b + 10) 0 = nI k) ∧ ((kT C).2 = 0 → PRE f n s C ∧ LW σ b (kO C))
noncomputable def RDk (σ τ : sw_M) (f : Nat → Nat) (n b s h : Nat) (C : KC) : Prop := ∃ C', rch f n C C' ∧ F3 b σ τ ∧ TC τ f n (kT C') ∧ (∃ k, k ≤ 700 ∧ τ.1 (b + 10) 0 = nI k) ∧ ((kT C').2 = 0 → ∃ r q, PQ f n s h C C' r q ∧ LW τ b (r ++ kO C) ∧ lvl f n C' < s)
/-- within a row of operators of level s -/
noncomputable def LI (σ : sw_M) (f : Nat → Nat) (n b s m h : Nat) (C : KC) (i : Nat) (τ : sw_M) (C1 : KC) : Prop := rch f n C C1 ∧ F3 b σ τ ∧ TC τ f n (kT C1) ∧ (∃ k, k ≤ 700 ∧ τ.1 (b + 10) 0 = nI k) ∧ ((kT C1).2 = 0 → ∃ r q, PQ f n s (h + 1) C C1 r q ∧ LW τ b (r ++ kO C) ∧ lvl f n C1 < m ∧ i < (kT C1).1)
section
variable {l : Launch} {E : sw_E} {d : Nat} {σ τ υ : sw_M} {Q : Option Value → sw_M → Prop} {f : Nat → Nat} {n b c s h i m dd : Nat} {C C1 C2 C3 : KC} {T : KT} {r q : List Nat}
theorem PQ_slen (hP : PRE f n s C) (H : PQ f n s h C C1 r q) : (kS C1).length = (kS C).length := by
  obtain ⟨p1, p2, p3, p4, p5, p6, p7, p8, p9⟩ := hP
  obtain ⟨a1, a2, a3, a4, a5, a6, a7, a8, a9, b1, b2⟩ := H
  have h1 : (kS C1).tail.length = (kS C).tail.length := by rw [a8.2]
  rw [List.length_tail, List.length_tail] at h1
  have h2 : (kS C).length ≠ 0 := fun h => p5 (List.length_eq_zero_iff.mp h)
  have h3 : (kS C1).length ≠ 0 := fun h => a8.1 (List.length_eq_zero_iff.mp h)
  omega
theorem PQ_slen2 (hP : PRE f n s C) (H : PQ f n s h C C1 r q) (hs : 0 < s) (hl : lvl f n C1 = s) : (kS (stp f n C1)).length = (kS C).length := by
  rw [PQ_op H hs hl hP.2.2.2.1]
  have h1 := PQ_slen hP H
  have h2 : (kS C).length ≠ 0 := fun h => hP.2.2.2.2.1 (List.length_eq_zero_iff.mp h)
  show (tsO s (kS C1)).length = _
  unfold tsO
  repeat' split
  · rw [List.length_cons, List.length_tail]; omega
  · rw [List.length_cons, List.length_tail]; omega
  · exact h1
theorem PQ_room (H : PQ f n s h C C1 r q) : (r ++ kO C).length + (kW C).length ≤ n := by
  obtain ⟨a1, a2, a3, a4, a5, a6, a7, a8, a9, b1, b2⟩ := H
  have e : (q.reverse ++ kO C1).length = (r ++ kO C).length := by rw [a5]
  rw [List.length_append, List.length_reverse] at e
  have := b1.1
  rw [a4, List.length_append] at this
  have := b1.2.1
  omega
theorem LI_start (hR : RDk σ τ f n b (s + 1) h C) : ∃ C1, LI σ f n b s (s + 1) h C 0 τ C1 := by
  obtain ⟨C1, a1, a2, a3, a4, a5⟩ := hR
  refine ⟨C1, a1, a2, a3, a4, fun g => ?_⟩
  obtain ⟨r, q, b1, b2, b3⟩ := a5 g
  exact ⟨r, q, PQ_up (by omega) (by omega) b1, b2, b3, by have := b1.2.2.2.2.2.2.2.2.2.2; omega⟩
theorem LI_stop (hL : LI σ f n b s m h C i τ C1) (hno : (kT C1).2 = 0 → lvl f n C1 < m → lvl f n C1 < s) : RDk σ τ f n b s (h + 1) C := by
  obtain ⟨a1, a2, a3, a4, a5⟩ := hL
  refine ⟨C1, a1, a2, a3, a4, fun g => ?_⟩
  obtain ⟨r, q, b1, b2, b3, b4⟩ := a5 g
  exact ⟨r, q, b1, b2, hno g b3⟩
/-- behind the operator the next part may be read -/
theorem LI_sub {s2 : Nat} (hb : isL b) (hP : PRE f n s C) (hL : LI σ f n b s m h C i τ C1) (g : (kT C1).2 = 0) (hs : 0 < s) (hl : lvl f n C1 = s) (hs2 : s < s2) (h35 : s ≤ 2 ∧ s2 ≤ 3 ∨ 4 ≤ s ∧ 5 ≤ s2) (hF : F2 τ υ) (hT : TC υ f n (nxK f n (kT C1))) : RP υ f n b s2 (stp f n C1) := by
  obtain ⟨a1, a2, a3, a4, a5⟩ := hL
  obtain ⟨r, q, b1, b2, b3, b4⟩ := a5 g
  have e := PQ_op b1 hs hl hP.2.2.2.1
  refine ⟨?_, ?_, fun _ => ⟨PRE_op hP b1 hs hl hs2 h35, ?_⟩⟩
  · rw [nxK_ok g] at hT; rw [e]; exact hT
  · obtain ⟨k, k1, k2⟩ := a4
    exact ⟨k, k1, by rw [hF.1.2 (b + 10) (by rcases hb with rfl | rfl <;> decide)]; exact k2⟩
  · rw [e]; exact LW_2 hb b2 hF
/-- and the operator's cell is put -/
theorem LI_put {s2 : Nat} (hb : isL b) (hn : n ≤ 700) (hP : PRE f n s C) (hL : LI σ f n b s m h C i τ C1) (g : (kT C1).2 = 0) (hs : 0 < s) (hl : lvl f n C1 = s) (hs2 : s2 = s + 1) (hF : F3 b τ υ) (hR : ∀ ω, ω = υ → ∃ υ0, F3 b τ υ0 ∧ RDk υ0 ω f n b s2 h (stp f n C1)) (hd : 0 < d) (hQ : ∀ ω C3, LI σ f n b s (if s = 4 then 4 else s + 1) h C (i + 1) ω C3 → Q none ω) : sw_Con l E d 111 [.ref (b + 10), .int (nI (opK f n C1))] υ Q := by
  obtain ⟨a1, a2, a3, a4, a5⟩ := hL
  obtain ⟨r, q, b1, b2, b3, b4⟩ := a5 g
  obtain ⟨υ0, hF0, C3, c1, c2, c3, c4, c5⟩ := hR υ rfl
  have hF9 : F3 b σ υ := F3_tr a2 hF
  by_cases g3 : (kT C3).2 = 0
  · obtain ⟨r2, q2, d1, d2, d3⟩ := c5 g3
    have e := PQ_op b1 hs hl hP.2.2.2.1
    have hj := PQ_join b1 hs (by omega) hl hP.2.2.2.1 d1
    have hroom := PQ_room d1
    have hw : (kW (stp f n C1)).length = (kW C).length + 1 := by rw [e]; rfl
    have ho : kO (stp f n C1) = r ++ kO C := by rw [e]; rfl
    rw [ho] at hroom d2
    obtain ⟨o1, o2, o3⟩ := opK_lvl (f := f) (n := n) (C := C1) (by omega)
    refine put_ok hb d2 (by omega) (by omega) hd (fun ω w1 w2 => hQ ω C3 ⟨rch_tr a1 (rch_tr rch_st c1), F3_tr hF9 ⟨Fr_mono w1 (by simp), by rw [w1.2 2 (by rcases hb with rfl | rfl <;> decide)]⟩, TC_12 hb c3 w1, ⟨_, ?_, w2.1⟩, fun _ => ⟨_, _, hj, ?_, ?_, ?_⟩⟩)
    · rw [List.length_cons]; omega
    · have : (opK f n C1 :: (r2 ++ r)) ++ kO C = opK f n C1 :: (r2 ++ (r ++ kO C)) := by simp
      rw [this]; exact w2
    · by_cases h4 : s = 4
      · rw [if_pos h4]
        have hk : kS C3 = kS (stp f n C1) := d1.2.2.2.2.2.2.2.2.1 (by omega)
        have hh : (kS C3).head? = some true := by rw [hk, e]; show (tsO s (kS C1)).head? = _; unfold tsO; rw [if_neg (by omega), if_pos h4]; rfl
        have : lvl f n C3 ≠ 4 := fun w => by
          unfold lvl at w
          dsimp only at w
          rw [hh, if_neg (show ¬ some true = some false by decide)] at w
          repeat' split at w
          all_goals omega
        omega
      · rw [if_neg h4]; omega
    · have h1 := tE_lt (lvl_kind (f := f) (n := n) (C := C1) (by omega))
      have h2 := d1.2.2.2.2.2.2.2.2.2.2
      rw [e] at h2
      have h2 : tE f n (kT C1).1 < (kT C3).1 := h2
      omega
  · refine putAny_ok hb hd c4 (fun ω w1 w2 => hQ ω C3 ⟨rch_tr a1 (rch_tr rch_st c1), F3_tr hF9 ⟨Fr_mono w1 (by simp), by rw [w1.2 2 (by rcases hb with rfl | rfl <;> decide)]⟩, TC_12 hb c3 w1, w2, fun w => absurd w g3⟩)
theorem lvl_sg {c k : Nat} (hk : isKs f n (kT C) c = true) (h4 : k = 4 → (kS C).head? = some false) (hc : (c = 42 ∧ k = 6) ∨ (c = 47 ∧ k = 6) ∨ (c = 43 ∧ k = 5) ∨ (c = 45 ∧ k = 5) ∨ (c = 60 ∧ k = 4) ∨ (c = 61 ∧ k = 4)) : (kT C).2 = 0 ∧ lvl f n C = k ∧ opK f n C = (if c = 42 then 9 else if c = 47 then 10 else if c = 43 then 7 else if c = 45 then 8 else if c = 60 then 11 else 12) := by
  have hk := of_decide_eq_true hk
  obtain ⟨k1, k2, k3⟩ := hk
  refine ⟨k1, ?_, ?_⟩
  · unfold lvl
    dsimp only
    rw [k2, k3]
    rcases hc with ⟨rfl, rfl⟩ | ⟨rfl, rfl⟩ | ⟨rfl, rfl⟩ | ⟨rfl, rfl⟩ | ⟨rfl, rfl⟩ | ⟨rfl, rfl⟩
    · rfl
    · rfl
    · rfl
    · rfl
    · rw [h4 rfl]; rfl
    · rw [h4 rfl]; rfl
  · unfold opK
    dsimp only
    rw [k2, k3]
    rcases hc with ⟨rfl, rfl⟩ | ⟨rfl, rfl⟩ | ⟨rfl, rfl⟩ | ⟨rfl, rfl⟩ | ⟨rfl, rfl⟩ | ⟨rfl, rfl⟩ <;> rfl
theorem lvl_wd {c k : Nat} (hk : isKw f n (kT C) c = true) (hc : (c = 11 ∧ k = 2) ∨ (c = 12 ∧ k = 1)) : (kT C).2 = 0 ∧ lvl f n C = k ∧ opK f n C = (if c = 11 then 14 else 15) := by
  have hk := of_decide_eq_true hk
  obtain ⟨k1, k2, k3⟩ := hk
  refine ⟨k1, ?_, ?_⟩
  · unfold lvl
    dsimp only
    rw [k2, k3]
    rcases hc with ⟨rfl, rfl⟩ | ⟨rfl, rfl⟩ <;> rfl
  · unfold opK
    dsimp only
    rw [k2, k3]
    rcases hc with ⟨rfl, rfl⟩ | ⟨rfl, rfl⟩ <;> rfl
theorem lvl_no {s c1 c2 : Nat} (hc : (s = 6 ∧ c1 = 42 ∧ c2 = 47) ∨ (s = 5 ∧ c1 = 43 ∧ c2 = 45) ∨ (s = 4 ∧ c1 = 60 ∧ c2 = 61)) (h1 : isKs f n (kT C) c1 = false) (h2 : isKs f n (kT C) c2 = false) (g : (kT C).2 = 0) (hl : lvl f n C < s + 1) : lvl f n C < s := by
  have h1 := of_decide_eq_false h1
  have h2 := of_decide_eq_false h2
  have e : lvl f n C ≠ s := by
    intro w
    unfold lvl at w
    dsimp only at w
    by_cases k1 : tK f n (kT C).1 = 1
    · rw [if_pos k1] at w
      split at w
      · omega
      · split at w <;> omega
    · rw [if_neg k1] at w
      by_cases k3 : tK f n (kT C).1 = 3
      · rw [if_pos k3] at w
        have n1 : f (tS f n (kT C).1) ≠ c1 := fun q => h1 ⟨g, k3, q⟩
        have n2 : f (tS f n (kT C).1) ≠ c2 := fun q => h2 ⟨g, k3, q⟩
        split at w
        · split at w <;> omega
        · split at w
          · omega
          · split at w <;> omega
      · rw [if_neg k3] at w; omega
  omega
theorem lvl_nw {s c : Nat} (hc : (s = 2 ∧ c = 11) ∨ (s = 1 ∧ c = 12)) (h1 : isKw f n (kT C) c = false) (g : (kT C).2 = 0) (hl : lvl f n C < s + 1) : lvl f n C < s := by
  have h1 := of_decide_eq_false h1
  have e : lvl f n C ≠ s := by
    intro w
    unfold lvl at w
    dsimp only at w
    by_cases k1 : tK f n (kT C).1 = 1
    · rw [if_pos k1] at w
      have n1 : tW f n (kT C).1 ≠ c := fun q => h1 ⟨g, k1, q⟩
      split at w
      · omega
      · split at w <;> omega
    · rw [if_neg k1] at w
      split at w
      · split at w
        · split at w <;> omega
        · split at w
          · omega
          · split at w <;> omega
      · omega
  omega
theorem rch_stuck (h0 : (kT C).2 ≠ 0) (h : rch f n C C1) : C1 = C := by
  obtain ⟨k, rfl⟩ := h
  exact itr_halt (Or.inl h0) k
theorem RP_pre (hR : RP σ f n b s C) (h : rch f n C C1) (g : (kT C1).2 = 0) : PRE f n s C ∧ (kT C).2 = 0 := by
  by_cases g0 : (kT C).2 = 0
  · exact ⟨(hR.2.2 g0).1, g0⟩
  · rw [rch_stuck g0 h] at g; exact absurd g g0
theorem TC_n (h : TC σ f n T) : n ≤ 700 := h.1.2.1
/-- a reader's contract -/
abbrev RdC (l : Launch) (E : sw_E) (mth s h dd D : Nat) : Prop := ∀ {d : Nat} {σ : sw_M} {Q : Option Value → sw_M → Prop} {f : Nat → Nat} {n b : Nat} {C : KC}, isL b → RP σ f n b s C → ((kT C).2 = 0 → (kS C).length = dd + 1) → D < d → (∀ τ, RDk σ τ f n b s h C → Q none τ) → sw_Con l E d mth [.ref 1, .ref (b + 10), .int (nI dd)] σ Q
end
