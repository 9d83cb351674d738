/-! The machine's steps at an operand, at the end of an expression; negations. -/
/-- ready to read a part of level s -/
noncomputable def PRE (f : Nat → Nat) (n s : Nat) (C : KC) : Prop := (kT C).2 = 0 ∧ kM C ≤ 1 ∧ szK n C ∧ hdS s (kW C) ∧ kS C ≠ [] ∧ (kS C).length ≤ 6 ∧ (4 ≤ s → ¬ (kM C = 0 ∧ tK f n (kT C).1 = 1 ∧ tW f n (kT C).1 = 13)) ∧ (s ≤ 4 → (kS C).head? = some false) ∧ (s ≤ 3 → kM C = 0 ∧ kN C = 0)
section
variable {f : Nat → Nat} {n s h k : Nat} {C C1 C2 C3 C' : KC} {r q : List Nat}
theorem hdS_cons {c : Nat} {w : List Nat} (h : strC c < s) : hdS s (c :: w) := fun x hx => by cases hx; exact h
theorem hdS_up {s' : Nat} {w : List Nat} (hs : s ≤ s') (h : hdS s w) : hdS s' w := fun c hc => by have := h c hc; omega
theorem szK_num {c : Nat} (hz : szK n C) (hk : tK f n (kT C).1 ≠ 0) (hc : c < 10016) (m a : Nat) (ts : List Bool) : szK n ((tE f n (kT C).1, 0), m, a, c :: kO C, kW C, ts) := by
  have := tE_lt hk
  obtain ⟨z1, z2, z3⟩ := hz
  refine ⟨?_, tE_n z2, fun x hx => ?_⟩
  · show (kO C).length + 1 + (kW C).length ≤ tE f n (kT C).1
    omega
  · have hx : x ∈ c :: kO C := hx
    rcases List.mem_cons.mp hx with rfl | h9
    · exact hc
    · exact z3 x h9
theorem szK_wait {c : Nat} (hz : szK n C) (hk : tK f n (kT C).1 ≠ 0) (m a : Nat) (ts : List Bool) : szK n ((tE f n (kT C).1, 0), m, a, kO C, c :: kW C, ts) := by
  have := tE_lt hk
  obtain ⟨z1, z2, z3⟩ := hz
  refine ⟨?_, tE_n z2, z3⟩
  show (kO C).length + ((kW C).length + 1) ≤ tE f n (kT C).1
  omega
theorem PQ_num (hP : PRE f n 7 C) (h2 : tK f n (kT C).1 = 2) (h4 : tE f n (kT C).1 - tS f n (kT C).1 ≤ 4) : kT (stp f n C) = (tE f n (kT C).1, 0) ∧ PQ f n 7 1 C (stp f n C) [16 + tV f n (kT C).1] [] := by
  obtain ⟨p1, p2, p3, p4, p5, p6, p7, -, -⟩ := hP
  have e : stp f n C = ((tE f n (kT C).1, 0), 2, 0, (16 + tV f n (kT C).1) :: kO C, kW C, kS C) := by
    rw [stp_P p1 p2]
    unfold stpP
    dsimp only
    rw [if_neg (p7 (by decide)), if_neg (by omega), if_pos h2, if_neg (by omega), nxK_ok p1]
  have hv := tV_lt h2
  refine ⟨by rw [e]; rfl, rch_st, ?_⟩
  rw [e]
  exact ⟨rfl, rfl, rfl, rfl, NH_num (by omega), fun c hc => (by cases hc), ⟨p5, rfl⟩, fun _ => rfl, szK_num p3 (by omega) (by omega) _ _ _, tE_lt (by omega)⟩
theorem PQ_val (hP : PRE f n 7 C) (h2 : tK f n (kT C).1 = 1) (h4 : tW f n (kT C).1 < 7) : kT (stp f n C) = (tE f n (kT C).1, 0) ∧ PQ f n 7 1 C (stp f n C) [tW f n (kT C).1] [] := by
  obtain ⟨p1, p2, p3, p4, p5, p6, p7, -, -⟩ := hP
  have e : stp f n C = ((tE f n (kT C).1, 0), 2, 0, tW f n (kT C).1 :: kO C, kW C, kS C) := by
    rw [stp_P p1 p2]
    unfold stpP
    dsimp only
    rw [if_neg (p7 (by decide)), if_neg (by omega), if_neg (by omega), if_pos h2, if_pos h4, nxK_ok p1]
  refine ⟨by rw [e]; rfl, rch_st, ?_⟩
  rw [e]
  exact ⟨rfl, rfl, rfl, rfl, NH_num (by omega), fun c hc => (by cases hc), ⟨p5, rfl⟩, fun _ => rfl, szK_num p3 (by omega) (by omega) _ _ _, tE_lt (by omega)⟩
/-- a fault at an operand -/
theorem st_bad (hP : PRE f n 7 C) (h3 : ¬ (tK f n (kT C).1 = 3 ∧ f (tS f n (kT C).1) = 40)) (h2 : tK f n (kT C).1 = 2 → 4 < tE f n (kT C).1 - tS f n (kT C).1) (h1 : tK f n (kT C).1 = 1 → ¬ tW f n (kT C).1 < 7) : kT (stp f n C) = ((kT C).1, if tK f n (kT C).1 = 2 then 2 else if tK f n (kT C).1 = 1 then 3 else 1) := by
  obtain ⟨p1, p2, p3, p4, p5, p6, p7, -, -⟩ := hP
  rw [stp_P p1 p2]
  unfold stpP
  dsimp only
  rw [if_neg (p7 (by decide)), if_neg h3]
  by_cases c2 : tK f n (kT C).1 = 2
  · rw [if_pos c2, if_pos c2, if_pos (h2 c2)]
    show faK 2 (kT C) = _
    exact if_pos p1
  · rw [if_neg c2, if_neg c2]
    by_cases c1 : tK f n (kT C).1 = 1
    · rw [if_pos c1, if_pos c1, if_neg (h1 c1)]
      exact if_pos p1
    · rw [if_neg c1, if_neg c1]
      exact if_pos p1
/-- a bracket opens -/
theorem st_open (hP : PRE f n 7 C) (h3 : tK f n (kT C).1 = 3 ∧ f (tS f n (kT C).1) = 40) (h6 : (kS C).length < 6) : stp f n C = ((tE f n (kT C).1, 0), 0, 0, kO C, 16 :: kW C, false :: kS C) := by
  obtain ⟨p1, p2, p3, p4, p5, p6, p7, -, -⟩ := hP
  rw [stp_P p1 p2]
  unfold stpP
  dsimp only
  rw [if_neg (p7 (by decide)), if_pos h3, if_pos h6, nxK_ok p1]
theorem st_deep (hP : PRE f n 7 C) (h3 : tK f n (kT C).1 = 3 ∧ f (tS f n (kT C).1) = 40) (h6 : ¬ (kS C).length < 6) : kT (stp f n C) = (tE f n (kT C).1, if couldK f n (tE f n (kT C).1, 0) then 2 else 1) := by
  obtain ⟨p1, p2, p3, p4, p5, p6, p7, -, -⟩ := hP
  rw [stp_P p1 p2]
  unfold stpP
  dsimp only
  rw [if_neg (p7 (by decide)), if_pos h3, if_neg h6, nxK_ok p1]
  show faK _ (tE f n (kT C).1, 0) = _
  unfold faK
  rw [if_pos rfl]
theorem PRE_open (hP : PRE f n 7 C) (h3 : tK f n (kT C).1 = 3 ∧ f (tS f n (kT C).1) = 40) (h6 : (kS C).length < 6) : PRE f n 1 (stp f n C) := by
  rw [st_open hP h3 h6]
  obtain ⟨p1, p2, p3, p4, p5, p6, p7, -, -⟩ := hP
  refine ⟨rfl, Nat.zero_le _, szK_wait p3 (by omega) _ _ _, hdS_cons (by decide), fun h => (by cases h), ?_, fun h => absurd h (by decide), fun _ => rfl, fun _ => ⟨rfl, rfl⟩⟩
  show (kS C).length + 1 ≤ 6
  omega
theorem PQ_par (hP : PRE f n 7 C) (h3 : tK f n (kT C).1 = 3 ∧ f (tS f n (kT C).1) = 40) (h6 : (kS C).length < 6) (H : PQ f n 1 h (stp f n C) C2 r q) (hl : lvl f n C2 < 1) : (tK f n (kT C2).1 = 3 ∧ f (tS f n (kT C2).1) = 41 → kT (stp f n C2) = (tE f n (kT C2).1, 0) ∧ PQ f n 7 h C (stp f n C2) r []) ∧ (¬ (tK f n (kT C2).1 = 3 ∧ f (tS f n (kT C2).1) = 41) → kT (stp f n C2) = ((kT C2).1, 1)) ∧ rch f n C (stp f n C2) := by
  have e := st_open hP h3 h6
  obtain ⟨p1, p2, p3, p4, p5, p6, p7, -, -⟩ := hP
  obtain ⟨a1, a2, a3, a4, a5, a6, a7, a8, a9, b1, b2⟩ := H
  have hlen : 1 < (kS C2).length := by
    have h9 : (kS C2).tail = kS C := by rw [a8.2, e]; rfl
    have : (kS C2).tail.length = (kS C).length := by rw [h9]
    rw [List.length_tail] at this
    have : (kS C).length ≠ 0 := fun h => p5 (List.length_eq_zero_iff.mp h)
    omega
  have hw : kW C2 = q ++ 16 :: kW C := by rw [a4, e]; rfl
  have ho : q.reverse ++ kO C2 = r ++ kO C := by rw [a5, e]; rfl
  have hR : rch f n C (stp f n C2) := rch_tr rch_st (rch_tr a1 rch_st)
  refine ⟨fun h9 => ?_, fun h9 => ?_, hR⟩
  · have e2 : stp f n C2 = ((tE f n (kT C2).1, 0), 2, 0, r ++ kO C, kW C, kS C) := by
      rw [stp_O a2 a3]
      unfold stpO
      rw [if_neg (by omega), if_pos ⟨h9.1, h9.2, hlen⟩, nxK_ok a2, hw, dp_all (hdS_cons (by decide)) q _ (fun c hc => (a7 c hc).1), ho, a8.2, e]
      rfl
    have hk : tK f n (kT C2).1 ≠ 0 := by omega
    have hk2 := tE_lt hk
    refine ⟨by rw [e2]; rfl, hR, ?_⟩
    rw [e2]
    obtain ⟨z1, z2, z3⟩ := b1
    have e3 : (q.reverse ++ kO C2).length = (r ++ kO C).length := by rw [ho]
    rw [List.length_append, List.length_reverse] at e3
    rw [hw, List.length_append, List.length_cons] at z1
    refine ⟨rfl, rfl, rfl, rfl, a6, fun c hc => (by cases hc), ⟨p5, rfl⟩, fun _ => rfl, ⟨?_, tE_n z2, fun c hc => ?_⟩, ?_⟩
    · show (r ++ kO C).length + (kW C).length ≤ tE f n (kT C2).1
      omega
    · have hc : c ∈ r ++ kO C := hc
      rw [← ho] at hc
      rcases List.mem_append.mp hc with h8 | h8
      · have := (a7 c (List.mem_reverse.mp h8)).2; omega
      · exact z3 c h8
    · have h7 := tE_lt (f := f) (n := n) (e := (kT C).1) (by omega)
      rw [e] at b2
      have b2 : tE f n (kT C).1 < (kT C2).1 := b2
      show (kT C).1 < tE f n (kT C2).1
      omega
  · rw [stp_O a2 a3]
    unfold stpO
    rw [if_neg (by omega), if_neg (fun w => h9 ⟨w.1, w.2.1⟩), if_pos hlen]
    exact if_pos a2
/-- a negation -/
theorem st_not (h1 : (kT C).2 = 0) (hm : kM C = 0) (hk : tK f n (kT C).1 = 1 ∧ tW f n (kT C).1 = 13) : stp f n C = if kN C = 6 then kFa 2 C else ((tE f n (kT C).1, 0), 0, kN C + 1, kO C, 13 :: kW C, kS C) := by
  rw [stp_P h1 (by omega)]
  unfold stpP
  dsimp only
  rw [if_pos ⟨hm, hk⟩, nxK_ok h1]
/-- k negations have been read -/
noncomputable def NTK (f : Nat → Nat) (n k : Nat) (C C1 : KC) : Prop := rch f n C C1 ∧ (kT C1).2 = 0 ∧ kM C1 = 0 ∧ kN C1 = k ∧ kO C1 = kO C ∧ kW C1 = List.replicate k 13 ++ kW C ∧ kS C1 = kS C ∧ szK n C1 ∧ (kT C).1 ≤ (kT C1).1
theorem NTK_0 (hP : PRE f n 3 C) : NTK f n 0 C C := by
  obtain ⟨p1, p2, p3, p4, p5, p6, p7, p8, p9⟩ := hP
  exact ⟨rch_rf, p1, (p9 (by decide)).1, (p9 (by decide)).2, rfl, rfl, rfl, p3, Nat.le_refl _⟩
theorem NTK_st (H : NTK f n k C C1) (hk : tK f n (kT C1).1 = 1 ∧ tW f n (kT C1).1 = 13) (h6 : k ≠ 6) : kT (stp f n C1) = (tE f n (kT C1).1, 0) ∧ NTK f n (k + 1) C (stp f n C1) := by
  obtain ⟨a1, a2, a3, a4, a5, a6, a7, a8, a9⟩ := H
  have e := st_not a2 a3 hk
  rw [if_neg (by omega)] at e
  have h9 := tE_lt (f := f) (n := n) (e := (kT C1).1) (by omega)
  refine ⟨by rw [e]; rfl, rch_tr a1 rch_st, ?_⟩
  rw [e]
  refine ⟨rfl, rfl, by show kN C1 + 1 = k + 1; omega, a5, ?_, a7, szK_wait a8 (by omega) _ _ _, ?_⟩
  · show 13 :: kW C1 = _
    rw [a6, List.replicate_succ]; rfl
  · show (kT C).1 ≤ tE f n (kT C1).1
    omega
theorem PRE_test (hP : PRE f n 3 C) (H : NTK f n k C C1) (hk : ¬ (tK f n (kT C1).1 = 1 ∧ tW f n (kT C1).1 = 13)) : PRE f n 4 C1 := by
  obtain ⟨p1, p2, p3, p4, p5, p6, p7, p8, p9⟩ := hP
  obtain ⟨a1, a2, a3, a4, a5, a6, a7, a8, a9⟩ := H
  refine ⟨a2, by omega, a8, ?_, by rw [a7]; exact p5, by rw [a7]; exact p6, fun _ w => hk w.2, fun _ => by rw [a7]; exact p8 (by decide), fun w => absurd w (by decide)⟩
  rw [a6]
  cases k with
  | zero => exact hdS_up (by decide) p4
  | succ k => rw [List.replicate_succ]; exact hdS_cons (by decide)
theorem NH_nots {l : List Nat} (h1 : NH h l) : ∀ k, NH h (l ++ List.replicate k 13)
  | 0 => by rw [List.replicate_zero, List.append_nil]; exact h1
  | k + 1 => by rw [List.replicate_succ', ← List.append_assoc]; exact NH_not (NH_nots h1 k)
theorem PQ_not (H : NTK f n k C C1) (H2 : PQ f n 4 h C1 C' r q) : PQ f n 3 h C C' (List.replicate k 13 ++ r) (q ++ List.replicate k 13) := by
  obtain ⟨a1, a2, a3, a4, a5, a6, a7, a8, a9⟩ := H
  obtain ⟨c1, c2, c3, c4, c5, c6, c7, c8, c9, d1, d2⟩ := H2
  refine ⟨rch_tr a1 c1, c2, c3, ?_, ?_, ?_, ?_, ⟨c8.1, by rw [c8.2, a7]⟩, fun w => absurd w (by decide), d1, by omega⟩
  · rw [c4, a6, List.append_assoc]
  · rw [List.reverse_append, List.reverse_replicate, List.append_assoc, c5, a5, List.append_assoc]
  · rw [List.reverse_append, List.reverse_replicate]; exact NH_nots c6 k
  · intro c hc
    rcases List.mem_append.mp hc with h9 | h9
    · exact ⟨by have := (c7 c h9).1; omega, (c7 c h9).2⟩
    · rw [(List.mem_replicate.mp h9).2]; decide
/-- behind an operator of level s a part of level s2 is to be read -/
theorem PRE_op {s2 : Nat} (hP : PRE f n s C) (H : PQ f n s h C C1 r q) (hs : 0 < s) (hl : lvl f n C1 = s) (hs2 : s < s2) (h35 : s ≤ 2 ∧ s2 ≤ 3 ∨ 4 ≤ s ∧ 5 ≤ s2) : PRE f n s2 (stp f n C1) := by
  have hz := szK_op H hs hl hP.2.2.2.1
  have e := PQ_op H hs hl hP.2.2.2.1
  obtain ⟨p1, p2, p3, p4, p5, p6, p7, p8, p9⟩ := hP
  obtain ⟨o1, -, -⟩ := opK_lvl (f := f) (n := n) (C := C1) (by omega)
  obtain ⟨a1, a2, a3, a4, a5, a6, a7, a8, a9, b1, b2⟩ := H
  have hl1 : (kS C1).length = (kS C).length := by
    have h1 : (kS C1).tail.length = (kS C).tail.length := by rw [a8.2]
    rw [List.length_tail, List.length_tail] at h1
    have h2 : (kS C).length ≠ 0 := fun h => p5 (List.length_eq_zero_iff.mp h)
    have h3 : (kS C1).length ≠ 0 := fun h => a8.1 (List.length_eq_zero_iff.mp h)
    omega
  have h3 : (kS C1).length ≠ 0 := fun h => a8.1 (List.length_eq_zero_iff.mp h)
  have ht : (tsO s (kS C1)).length = (kS C1).length := by
    unfold tsO
    repeat' split
    · rw [List.length_cons, List.length_tail]; omega
    · rw [List.length_cons, List.length_tail]; omega
    · rfl
  refine ⟨by rw [e]; rfl, ?_, hz, ?_, ?_, ?_, ?_, ?_, ?_⟩
  · rw [e]; show (if s ≤ 2 then 0 else 1) ≤ 1; split <;> decide
  · rw [e]; exact hdS_cons (by omega)
  · rw [e]; intro w; have w : tsO s (kS C1) = [] := w; rw [w] at ht; exact h3 ht.symm
  · rw [e]; show (tsO s (kS C1)).length ≤ 6; omega
  · intro h4 w
    rw [e] at w
    have w1 : (if s ≤ 2 then 0 else 1) = 0 := w.1
    rw [if_neg (by omega)] at w1
    omega
  · intro h4; rw [e]; show (tsO s (kS C1)).head? = some false; unfold tsO; rw [if_pos (by omega)]; rfl
  · intro h4; rw [e]; exact ⟨if_pos (by omega), rfl⟩
theorem PRE_up {s' : Nat} (hP : PRE f n s C) (hs : s ≤ s') (h4 : s ≤ 3 ∧ s' ≤ 3 ∨ 4 ≤ s) : PRE f n s' C := by
  obtain ⟨p1, p2, p3, p4, p5, p6, p7, p8, p9⟩ := hP
  exact ⟨p1, p2, p3, hdS_up hs p4, p5, p6, fun h => p7 (by omega), fun h => p8 (by omega), fun h => p9 (by omega)⟩
/-- the end of a law -/
theorem fin_good (hw : kW C = []) (ho : kO C = []) (hs : (kS C).length = 1) (H : PQ f n 1 h C C1 r q) (hl : lvl f n C1 < 1) : finK f n C = (kT C1, 3, 0, r, [], kS C1) := by
  obtain ⟨a1, a2, a3, a4, a5, a6, a7, a8, a9, b1, b2⟩ := H
  have hlen : ¬ 1 < (kS C1).length := by
    have : (kS C1).tail.length = (kS C).tail.length := by rw [a8.2]
    rw [List.length_tail, List.length_tail] at this
    omega
  have e : stp f n C1 = (kT C1, 3, 0, r, [], kS C1) := by
    rw [stp_O a2 a3]
    unfold stpO
    rw [if_neg (by omega), if_neg (fun w => hlen w.2.2), if_neg hlen, a4, hw, dp_all (fun c hc => by cases hc) q _ (fun c hc => (a7 c hc).1), a5, ho, List.append_nil]
  rw [← e]
  exact finK_eq (rch_tr a1 rch_st) (by rw [e]; exact Or.inr rfl)
theorem fin_bad (h : rch f n C C1) (h1 : (kT C1).2 ≠ 0) : finK f n C = C1 := finK_eq h (Or.inl h1)
end
