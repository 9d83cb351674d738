/-! What holds at the first call. -/
set_option maxRecDepth 100000 in
theorem INV_0 : INV (sgm 4096) 0 := by
  have no : ∀ {P : Nat → Prop} (p : Nat), p < 0 → P p := fun p hp => absurd hp (Nat.not_lt_zero p)
  refine ⟨4, 16, pL P0, H0 P0, fun _ => 0, 0, Or.inl ⟨rfl, rfl⟩, rfl, ⟨Or.inl rfl, rfl, ⟨rfl, rfl, rfl, rfl, no, no, no, rfl, no⟩, DOK_of POK_0 WOK_0, ⟨rfl, rfl, rfl, no⟩, SOK_0 POK_0, ⟨0, rfl, Nat.zero_le _, fun j _ => ⟨0, rfl, Nat.zero_le _⟩⟩⟩, ⟨⟨rfl, rfl, rfl, rfl, no, fun i j hi => absurd hi (Nat.not_lt_zero i), Or.inl ⟨rfl, rfl⟩⟩, DOK_of POK_0 WOK_0, ⟨rfl, rfl, no⟩, SOK_0 POK_0, fun v hv => if_pos hv, rfl⟩, ⟨rfl, no⟩, ⟨rfl, no⟩, ⟨rfl, no⟩, ⟨rfl, no⟩, HOK_0 POK_0, ⟨rfl, rfl, rfl⟩, rfl, ⟨rfl, Nat.zero_le _, no⟩, ⟨rfl, Nat.zero_le _, no⟩, Or.inl ⟨rfl, rfl⟩⟩
