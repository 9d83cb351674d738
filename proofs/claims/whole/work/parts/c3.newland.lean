/-! The new land's context, both sides. -/
/-- the state at a land's beginning -/
noncomputable def S0 (P : PD) : SD := (pT P, pK P, (fun _ => 0), 0, 0)
noncomputable def H0 (P : PD) : HD := (0, (fun _ => S0 P), (0, (fun _ => 0), (fun _ => 0)))
section
variable {σ τ : sw_M} {a b c m : Nat} {P : PD} {g : Nat → Nat}
theorem SOK_0 (hP : POK P) : SOK (dPpl (pL P)) (S0 P) := ⟨fun p hp => ⟨(hP.2.2.2.2.1 p hp).2.1, (hP.2.2.2.2.1 p hp).2.2, by show 0 < 2 ^ 29; decide⟩, Nat.two_pow_pos _, by show 0 < 2 ^ 29; decide⟩
theorem HOK_0 (hP : POK P) : HOK (dPpl (pL P)) c (H0 P) := ⟨Nat.zero_le _, fun j _ => ⟨SOK_0 hP, Nat.zero_le _⟩, Nat.zero_le _, fun i hi => absurd hi (Nat.not_lt_zero i)⟩
theorem CL_of (hP : POK P) (hW : WOK P) (hC : CD σ b P) : CL σ b (pL P) := by
  obtain ⟨⟨a1, a2, a3, a4, a5, a6⟩, c2, c3, c4, c5⟩ := hC
  refine ⟨a1, a2, a3, a4, fun p hp => ⟨?_, (c2 p hp).2.1, ?_⟩, c3, c4, ?_, fun i hi => ?_⟩
  · exact sm_of (c2 p hp).1 (hP.2.2.2.2.1 p hp).2.1 (by decide)
  · exact sm_of (c2 p hp).2.2 (hP.2.2.2.2.1 p hp).2.2 (by decide)
  · rw [c5.1, List.length_reverse]
  · have := RO_get c5.2 i (by rw [List.length_reverse]; exact hi)
    rw [List.reverse_reverse] at this
    exact this
theorem XC_LG (hab : abL a b) (hP : POK P) (hW : WOK P) (hJ : JB σ c) (h : LG σ τ a b P) : XC τ b (pL P) (S0 P) c := by
  obtain ⟨l1, l2, l3, l4, l5, l6, l7, l8, l9, m1, m2, m3, m4, m5, m6⟩ := h
  refine ⟨hab.elim (fun w => Or.inr w.2) (fun w => Or.inl w.2), l4, CL_of hP hW l9, DOK_of hP hW, ⟨m1, m2, m3, fun p hp => ?_⟩, SOK_0 hP, JB_eq hJ (l2 61 (by decide) (by decide) (by rcases hab with ⟨-, rfl⟩ | ⟨-, rfl⟩ <;> omega) (by decide)) (l2 63 (by decide) (by decide) (by rcases hab with ⟨-, rfl⟩ | ⟨-, rfl⟩ <;> omega) (by decide))⟩
  obtain ⟨q1, q2, q3⟩ := m6 p hp
  exact ⟨q1, q2, q3⟩
theorem MC_MGd (hP : POK P) (hW : WOK P) (hT : MT σ) (h51 : σ.1 75 51 = -1) (h : MGd σ τ P) : MC τ (pL P) (S0 P) := by
  obtain ⟨l1, l2, l3, l4, l5, l6, l7, l8, l9, m1, m2⟩ := h
  refine ⟨m1, DOK_of hP hW, m2, SOK_0 hP, fun v hv => ?_, (l3 51 (by decide) (by decide) (by decide) (by decide)).trans h51⟩
  rw [l2 80 (by decide) (by decide) (by decide)]
  exact hT v hv
end
