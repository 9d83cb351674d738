/-! What a reader of one level has read: the machine's run, the law's cells, their height. -/
/-- the cells take at most h places, and leave one -/
noncomputable def NH (h : Nat) (l : List Nat) : Prop := ∀ cap k, k + h ≤ cap → hgt cap k l = some (k + 1)
theorem hgt_app {cap : Nat} : ∀ l1 k l2, hgt cap k (l1 ++ l2) = (hgt cap k l1).bind (fun j => hgt cap j l2)
  | [], k, l2 => rfl
  | c :: l1, k, l2 => by
    rw [List.cons_append, hgt, hgt]
    repeat' split
    all_goals first | exact hgt_app l1 _ l2 | rfl
theorem NH_num {c : Nat} (hc : c < 7 ∨ 16 ≤ c) : NH 1 [c] := by
  intro cap k hk
  rw [hgt, if_pos hc, if_pos (by omega), hgt]
theorem NH_up {h h' : Nat} {l : List Nat} (hh : h ≤ h') (H : NH h l) : NH h' l := fun cap k hk => H cap k (by omega)
theorem NH_bin {h c : Nat} {l1 l2 : List Nat} (h1 : NH (h + 1) l1) (h2 : NH h l2) (hc : ¬ (c < 7 ∨ 16 ≤ c)) (h13 : c ≠ 13) : NH (h + 1) (l1 ++ (l2 ++ [c])) := by
  intro cap k hk
  rw [hgt_app, h1 cap k (by omega), Option.bind_some, hgt_app, h2 cap (k + 1) (by omega), Option.bind_some, hgt, if_neg hc, if_neg h13, if_pos (by omega), hgt]
  rfl
theorem NH_not {h : Nat} {l : List Nat} (h1 : NH h l) : NH h (l ++ [13]) := by
  intro cap k hk
  rw [hgt_app, h1 cap k hk, Option.bind_some, hgt, if_neg (by decide), if_pos rfl, if_pos (by omega), hgt]
/-- room enough: what is out and what waits is no more than what was read -/
noncomputable def szK (n : Nat) (C : KC) : Prop := (kO C).length + (kW C).length ≤ (kT C).1 ∧ (kT C).1 ≤ n ∧ ∀ c ∈ kO C, c < 10016
/-- from C to C' a part of level s was read: r is what the law has more, q what waits more -/
noncomputable def PQ (f : Nat → Nat) (n s h : Nat) (C C' : KC) (r q : List Nat) : Prop := rch f n C C' ∧ (kT C').2 = 0 ∧ kM C' = 2 ∧ kW C' = q ++ kW C ∧ q.reverse ++ kO C' = r ++ kO C ∧ NH h r.reverse ∧ (∀ c ∈ q, s ≤ strC c ∧ c < 16) ∧ (kS C' ≠ [] ∧ (kS C').tail = (kS C).tail) ∧ (5 ≤ s → kS C' = kS C) ∧ szK n C' ∧ (kT C).1 < (kT C').1
section
variable {f : Nat → Nat} {n s h : Nat} {C C1 C2 C3 C' : KC} {r q r2 q2 : List Nat}
theorem PQ_up {s' h' : Nat} (hs : s' ≤ s) (hh : h ≤ h') (H : PQ f n s h C C' r q) : PQ f n s' h' C C' r q := by
  obtain ⟨a1, a2, a3, a4, a5, a6, a7, a8, a9, b1, b2⟩ := H
  exact ⟨a1, a2, a3, a4, a5, NH_up hh a6, fun c hc => ⟨by have := (a7 c hc).1; omega, (a7 c hc).2⟩, a8, fun h5 => a9 (by omega), b1, b2⟩
theorem opK_lvl (h0 : 0 < lvl f n C) : strC (opK f n C) = lvl f n C ∧ ¬ (opK f n C < 7 ∨ 16 ≤ opK f n C) ∧ opK f n C ≠ 13 := by
  unfold lvl at h0 ⊢
  unfold opK
  dsimp only at h0 ⊢
  by_cases c1 : tK f n (kT C).1 = 1
  · rw [if_pos c1] at h0 ⊢
    rw [if_pos c1]
    by_cases c2 : tW f n (kT C).1 = 11
    · rw [if_pos c2]; rw [if_pos c2]; decide
    · rw [if_neg c2] at h0 ⊢
      rw [if_neg c2]
      by_cases c3 : tW f n (kT C).1 = 12
      · rw [if_pos c3]; decide
      · rw [if_neg c3] at h0; omega
  · rw [if_neg c1] at h0 ⊢
    rw [if_neg c1]
    by_cases c2 : tK f n (kT C).1 = 3
    · rw [if_pos c2] at h0 ⊢
      generalize f (tS f n (kT C).1) = g at h0 ⊢
      by_cases d1 : g = 60 ∨ g = 61
      · rw [if_pos d1] at h0 ⊢
        by_cases d2 : (kS C).head? = some false
        · rw [if_pos d2]
          rcases d1 with rfl | rfl <;> decide
        · rw [if_neg d2] at h0; omega
      · rw [if_neg d1] at h0 ⊢
        by_cases d3 : g = 43 ∨ g = 45
        · rw [if_pos d3]
          rcases d3 with rfl | rfl <;> decide
        · rw [if_neg d3] at h0 ⊢
          by_cases d4 : g = 42 ∨ g = 47
          · rw [if_pos d4]
            rcases d4 with rfl | rfl <;> decide
          · rw [if_neg d4] at h0; omega
    · rw [if_neg c2] at h0; omega
theorem lvl_kind (h0 : 0 < lvl f n C) : tK f n (kT C).1 ≠ 0 := by
  intro h
  unfold lvl at h0
  dsimp only at h0
  rw [h] at h0
  simp at h0
theorem nxK_ok (h : (kT C).2 = 0) : nxK f n (kT C) = (tE f n (kT C).1, 0) := if_pos h
theorem stp_O (h1 : (kT C).2 = 0) (h2 : kM C = 2) : stp f n C = stpO f n C := by
  unfold stp
  rw [if_neg (by omega), if_pos h2]
theorem stp_P (h1 : (kT C).2 = 0) (h2 : kM C ≤ 1) : stp f n C = stpP f n C := by
  unfold stp
  rw [if_neg (by omega), if_neg (by omega)]
/-- an operator of level s is read -/
theorem PQ_op (H : PQ f n s h C C1 r q) (hs : 0 < s) (hl : lvl f n C1 = s) (hw : hdS s (kW C)) : stp f n C1 = ((tE f n (kT C1).1, 0), (if s ≤ 2 then 0 else 1), 0, r ++ kO C, opK f n C1 :: kW C, tsO s (kS C1)) := by
  obtain ⟨a1, a2, a3, a4, a5, a6, a7, a8, a9, b1, b2⟩ := H
  rw [stp_O a2 a3]
  unfold stpO
  rw [if_pos (by omega), hl, a4, dp_all hw q _ (fun c hc => (a7 c hc).1), nxK_ok a2, a5]
/-- and what stands behind it -/
theorem PQ_join {s2 : Nat} (H : PQ f n s (h + 1) C C1 r q) (hs : 0 < s) (hs2 : s < s2) (hl : lvl f n C1 = s) (hw : hdS s (kW C)) (H2 : PQ f n s2 h (stp f n C1) C3 r2 q2) : PQ f n s (h + 1) C C3 (opK f n C1 :: (r2 ++ r)) (q2 ++ [opK f n C1]) := by
  have e := PQ_op H hs hl hw
  obtain ⟨a1, a2, a3, a4, a5, a6, a7, a8, a9, b1, b2⟩ := H
  obtain ⟨c1, c2, c3, c4, c5, c6, c7, c8, c9, d1, d2⟩ := H2
  obtain ⟨o1, o2, o3⟩ := opK_lvl (f := f) (n := n) (C := C1) (by omega)
  have hk := tE_lt (lvl_kind (f := f) (n := n) (C := C1) (by omega))
  rw [e] at c4 c5 c8 c9 d2
  refine ⟨rch_tr a1 (rch_tr rch_st c1), c2, c3, ?_, ?_, ?_, ?_, ⟨c8.1, ?_⟩, ?_, d1, ?_⟩
  · rw [c4]; show q2 ++ (opK f n C1 :: kW C) = _; simp
  · rw [List.reverse_append]
    show opK f n C1 :: (q2.reverse ++ kO C3) = _
    rw [c5]
    show opK f n C1 :: (r2 ++ (r ++ kO C)) = _
    simp
  · rw [List.reverse_cons, List.reverse_append, List.append_assoc]
    exact NH_bin a6 c6 o2 o3
  · intro c hc
    rcases List.mem_append.mp hc with h9 | h9
    · exact ⟨by have := (c7 c h9).1; omega, (c7 c h9).2⟩
    · rw [List.mem_singleton.mp h9, o1, hl]; omega
  · rw [c8.2]
    show (tsO s (kS C1)).tail = _
    unfold tsO
    repeat' split
    · exact a8.2
    · exact a8.2
    · exact a8.2
  · intro h5
    rw [c9 (by omega)]
    show tsO s (kS C1) = _
    unfold tsO
    rw [if_neg (by omega), if_neg (by omega)]
    exact a9 h5
  · have : (kT C1).1 < (kT ((tE f n (kT C1).1, 0), (if s ≤ 2 then 0 else 1), 0, r ++ kO C, opK f n C1 :: kW C, tsO s (kS C1))).1 := hk
    omega
/-- the room behind an operator -/
theorem szK_op (H : PQ f n s h C C1 r q) (hs : 0 < s) (hl : lvl f n C1 = s) (hw : hdS s (kW C)) : szK n (stp f n C1) := by
  have e := PQ_op H hs hl hw
  have hk := tE_lt (lvl_kind (f := f) (n := n) (C := C1) (by omega))
  obtain ⟨a1, a2, a3, a4, a5, a6, a7, a8, a9, b1, b2⟩ := H
  obtain ⟨z1, z2, z3⟩ := b1
  have e2 : (q.reverse ++ kO C1).length = (r ++ kO C).length := by rw [a5]
  rw [List.length_append, List.length_reverse] at e2
  rw [a4, List.length_append] at z1
  rw [e]
  refine ⟨?_, tE_n z2, fun c hc => ?_⟩
  · show (r ++ kO C).length + (kW C).length.succ ≤ tE f n (kT C1).1
    omega
  · have hc : c ∈ r ++ kO C := hc
    rw [← a5] at hc
    rcases List.mem_append.mp hc with h9 | h9
    · have := (a7 c (List.mem_reverse.mp h9)).2; omega
    · exact z3 c h9
end
