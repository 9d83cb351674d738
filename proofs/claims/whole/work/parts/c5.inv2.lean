/-! What holds between two calls: acts and refusals keep it. -/
section
variable {σ τ υ : sw_M} {a b c c' k m n s : Nat} {L : LD} {S : SD} {H H' : HD} {g : Nat → Nat}
theorem INV_g (h : INVa σ c a b L H g m) (f0 : ∀ j, j < 14 → υ.1 0 j = σ.1 0 j) (f1 : ∀ k, 0 < k → k < 46 → υ.1 k = σ.1 k) (f2 : ∀ k, 75 < k → k ∉ msI → k ≠ 82 → υ.1 k = σ.1 k) (f3 : ∀ j, j ∉ msF → υ.1 75 j = σ.1 75 j) (hr : υ.1 0 14 = υ.1 82 0 ∧ υ.1 0 15 = υ.1 82 1 ∧ υ.1 0 16 = υ.1 82 2) (hJ : JB υ (61 * (c + 1))) : INVa υ (c + 1) a b L H g m := by
  obtain ⟨i1, i2, i3, i4, i5, i6, i7, i8, i9, -, j1, j2, j3, j4⟩ := h
  have hn := i4.2.1.1
  obtain ⟨x1, x2, x3, x4, x5, x6, x7⟩ := i3
  refine ⟨i1, by rw [f0 2 (by decide)]; exact i2, ⟨x1, by rw [f0 1 (by decide)]; exact x2, CL_eq x3 (fun k q1 q2 => f1 k (by rcases x1 with rfl | rfl <;> omega) (by rcases x1 with rfl | rfl <;> omega)), x4, CS_eq x5 (f1 28 (by decide) (by decide)) (f1 29 (by decide) (by decide)) (f1 30 (by decide) (by decide)) (f1 31 (by decide) (by decide)), x6, hJ⟩, MC_cells i4 (fun j hj => f3 j (by rcases hj with hj | rfl <;> simp [msF] <;> omega)) (fun k hk => f2 k (by omega) (by rcases hk with rfl | rfl | rfl | rfl | rfl | rfl <;> decide) (by omega)), CA_eq i5 (by rw [f1 28 (by decide) (by decide)]) (f1 32 (by decide) (by decide)) (f1 33 (by decide) (by decide)) (f1 34 (by decide) (by decide)), MA_eq hn i6 (f3 43 (by decide)) (f2 93 (by decide) (by decide) (by decide)), CY_eq i7 (by rw [f1 28 (by decide) (by decide)]) (f1 35 (by decide) (by decide)) (f1 36 (by decide) (by decide)), ?_, HOK_up i9, hr, ?_, ?_, ?_, IMG_eq hn j4 (by omega) (f0 6 (by decide)) (fun k q1 q2 => f1 k (by omega) q2) (fun j hj => f3 j (by rcases hj with rfl | rfl | rfl <;> decide)) (fun k hk => f2 k (by omega) (by rcases hk with rfl | rfl | rfl <;> decide) (by omega))⟩
  · unfold MY at *
    rw [f3 59 (by decide), f2 105 (by decide) (by decide) (by decide)]
    exact i8
  · rw [f0 13 (by decide), f3 14 (by decide)]; exact j1
  · unfold TPc at *
    rw [f1 2 (by decide) (by decide), f1 3 (by decide) (by decide)]
    exact j2
  · unfold TPm at *
    rw [f3 12 (by decide), f2 81 (by decide) (by decide) (by decide)]
    exact j3
/-- a refused act (k = 1), or a refused sight (k = 2) -/
theorem INV_ref (hk : k = 1 ∨ k = 2) (h : INVa σ c a b L H g m) (hX : XF σ τ) (hC : XC τ a L S c') (hc : c' ≤ 61 * (c + 1)) (hM : MF (sw_sI τ 0 (upd (τ.1 0) (14 + k) (τ.1 0 (14 + k) + 1))) υ) : INVa (sw_sI υ 82 (upd (υ.1 82) k (υ.1 82 k + 1))) (c + 1) a b L H g m := by
  have m75 : ∀ i, i < 75 → υ.1 i = (sw_sI τ 0 (upd (τ.1 0) (14 + k) (τ.1 0 (14 + k) + 1))).1 i := fun i hi => hM.2.1 i (fun q => by
    have : ∀ k ∈ msI, 75 ≤ k := by decide
    have := this i q
    omega)
  have x0 : τ.1 0 = σ.1 0 := (hX 0 (Or.inl (by decide))).1
  have u0 : υ.1 0 = upd (σ.1 0) (14 + k) (σ.1 0 (14 + k) + 1) := by rw [m75 0 (by decide), sI_at, x0]
  have u82 : υ.1 82 = σ.1 82 := by rw [hM.2.1 82 (by decide), sI_ne (by decide)]; exact (hX 82 (Or.inr (by decide))).1
  obtain ⟨r1, r2, r3⟩ := h.2.2.2.2.2.2.2.2.2.1
  refine INV_g h (fun j hj => ?_) (fun i i1 i2 => ?_) (fun i i1 i2 i3 => ?_) (fun j hj => ?_) ?_ ?_
  · rw [sI_ne (by decide), u0, updN (by omega)]
  · rw [sI_ne (by omega), m75 i (by omega), sI_ne (by omega)]; exact (hX i (Or.inl i2)).1
  · rw [sI_ne i3, hM.2.1 i i2, sI_ne (by omega)]; exact (hX i (Or.inr (by omega))).1
  · rw [sI_ne (by decide), hM.2.2 j hj, sI_ne (by decide), (hX 75 (Or.inr (by decide))).1]
  · rw [sI_ne (by decide), sI_at, u0, u82]
    rcases hk with rfl | rfl
    · refine ⟨?_, ?_, ?_⟩
      · rw [updN (by decide), updN (by decide)]; exact r1
      · rw [updS, updS, r2]
      · rw [updN (by decide), updN (by decide)]; exact r3
    · refine ⟨?_, ?_, ?_⟩
      · rw [updN (by decide), updN (by decide)]; exact r1
      · rw [updN (by decide), updN (by decide)]; exact r2
      · rw [updS, updS, r3]
  · obtain ⟨-, -, -, -, -, -, hJ⟩ := hC
    exact JB_up (JB_eq hJ (by rw [sI_ne (by decide), m75 61 (by decide), sI_ne (by decide)]) (by rw [sI_ne (by decide), m75 63 (by decide), sI_ne (by decide)])) hc
/-- an act -/
theorem INV_act (h : INVa σ c a b L H g m) (hA : AC σ τ a L c' H') (hc : c' ≤ 61 * (c + 1)) (hM : AM τ υ L H') (hH : HOK (dPpl L) (c + 1) H') (hY' : hY H' = hY H) : INVa υ (c + 1) a b L H' g m := by
  obtain ⟨i1, i2, i3, i4, i5, i6, i7, i8, i9, ⟨r1, r2, r3⟩, j1, j2, j3, j4⟩ := h
  have hn := i4.2.1.1
  obtain ⟨f1, f2, f3, f4⟩ := hA
  obtain ⟨⟨-, g1, g2⟩, g3, g4, g5⟩ := hM
  have m75 : ∀ i, i < 75 → υ.1 i = τ.1 i := fun i hi => g1 i (fun q => by
    have : ∀ k ∈ msI, 75 ≤ k := by decide
    have := this i q
    omega) (by omega) (by omega)
  have lo : ∀ i, i < 28 ∨ (35 ≤ i ∧ i < 46) → υ.1 i = σ.1 i := fun i hi => (m75 i (by omega)).trans (f1 i (by omega)).1
  have hi' : ∀ i, 75 < i → i ∉ msI → i ≠ 91 → i ≠ 93 → υ.1 i = σ.1 i := fun i a q b e => (g1 i q b e).trans (f1 i (by omega)).1
  have fl : ∀ j, j ∉ msF → j ≠ 43 → υ.1 75 j = σ.1 75 j := fun j q e => (g2 j q e).trans (by rw [(f1 75 (by omega)).1])
  obtain ⟨x1, x2, x3, x4, x5, x6, x7⟩ := f3
  refine ⟨i1, by rw [lo 0 (by decide)]; exact i2, ⟨x1, by rw [m75 0 (by decide)]; exact x2, CL_eq x3 (fun k q1 q2 => m75 k (by rcases x1 with rfl | rfl <;> omega)), x4, CS_eq x5 (m75 28 (by decide)) (m75 29 (by decide)) (m75 30 (by decide)) (m75 31 (by decide)), x6, JB_up (JB_eq x7 (m75 61 (by decide)) (m75 63 (by decide))) hc⟩, g4, CA_eq f4 (by rw [m75 28 (by decide)]) (m75 32 (by decide)) (m75 33 (by decide)) (m75 34 (by decide)), g5, ?_, ?_, hH, ?_, ?_, ?_, ?_, IMG_eq hn j4 (by omega) (by rw [lo 0 (by decide)]) (fun k q1 q2 => lo k (Or.inr ⟨by omega, q2⟩)) (fun j hj => fl j (by rcases hj with rfl | rfl | rfl <;> decide) (by omega)) (fun k hk => hi' k (by omega) (by rcases hk with rfl | rfl | rfl <;> decide) (by omega) (by omega))⟩
  · rw [hY']
    exact CY_eq i7 (by rw [m75 28 (by decide)]; exact f2) (lo 35 (by decide)) (lo 36 (by decide))
  · rw [hY']
    unfold MY at *
    rw [fl 59 (by decide) (by decide), hi' 105 (by decide) (by decide) (by decide) (by decide)]
    exact i8
  · rw [lo 0 (by decide), hi' 82 (by decide) (by decide) (by decide) (by decide)]
    exact ⟨r1, r2, r3⟩
  · rw [lo 0 (by decide), fl 14 (by decide) (by decide)]; exact j1
  · unfold TPc at *
    rw [lo 2 (by decide), lo 3 (by decide)]
    exact j2
  · unfold TPm at *
    rw [fl 12 (by decide) (by decide), hi' 81 (by decide) (by decide) (by decide) (by decide)]
    exact j3
end
