/-! What holds between two calls: a new history, an image. -/
section
variable {σ τ υ : sw_M} {a b c c' k m n s m' : Nat} {L : LD} {S : SD} {H H' : HD} {g g' : Nat → Nat} {P : PD}
theorem INV_st (h : INVa σ c a b L H g m) (hF : ∀ k, k < 28 ∨ 37 ≤ k → τ.1 k = σ.1 k) (hM : ∀ k, k ≠ 75 → k ≠ 91 → k ≠ 93 → k ≠ 105 → υ.1 k = τ.1 k) (hM2 : ∀ j, j ≠ 0 → j ≠ 43 → j ≠ 59 → υ.1 75 j = τ.1 75 j) (s1 : CS τ 28 (dPpl L) (hNow H')) (s2 : CA τ 28 (hK H') (hSs H')) (s3 : CY τ 28 (hY H')) (s4 : MS υ 91 (dPpl L) (hNow H')) (s5 : MA υ 93 43 (hK H') (dPpl L) (hSs H')) (s6 : MY υ (hY H')) (s7 : HOK (dPpl L) (c + 1) H') : INVa υ (c + 1) a b L H' g m := by
  obtain ⟨i1, i2, i3, i4, i5, i6, i7, i8, i9, r, j1, j2, j3, j4⟩ := h
  have hn := i4.2.1.1
  obtain ⟨x1, x2, x3, x4, x5, x6, x7⟩ := i3
  obtain ⟨k1, k2, k3, k4, k5, k6⟩ := i4
  have m75 : ∀ k, k < 75 → υ.1 k = τ.1 k := fun k hk => hM k (by omega) (by omega) (by omega) (by omega)
  have lo : ∀ k, k < 28 ∨ (37 ≤ k ∧ k < 75) → υ.1 k = σ.1 k := fun k hk => (m75 k (by omega)).trans (hF k (by omega))
  have hi' : ∀ k, 75 < k → k ≠ 91 → k ≠ 93 → k ≠ 105 → υ.1 k = σ.1 k := fun k q1 q2 q3 q4 => (hM k (by omega) q2 q3 q4).trans (hF k (Or.inr (by omega)))
  have fl : ∀ j, j ≠ 0 → j ≠ 43 → j ≠ 59 → υ.1 75 j = σ.1 75 j := fun j q1 q2 q3 => (hM2 j q1 q2 q3).trans (by rw [hF 75 (Or.inr (by decide))])
  have hSO : SOK (dPpl L) (hNow H') := (s7.2.1 (hK H') (Nat.le_refl _)).1
  refine ⟨i1, by rw [lo 0 (by decide)]; exact i2, ⟨x1, by rw [lo 0 (by decide)]; exact x2, CL_eq x3 (fun k q1 q2 => lo k (Or.inl (by rcases x1 with rfl | rfl <;> omega))), x4, CS_eq s1 (m75 28 (by decide)) (m75 29 (by decide)) (m75 30 (by decide)) (m75 31 (by decide)), hSO, JB_up (JB_eq x7 (lo 61 (by decide)) (lo 63 (by decide))) (by omega)⟩, ⟨ML_eq k1 (fun j hj => fl j (by omega) (by omega) (by omega)) (hi' 76 (by decide) (by decide) (by decide) (by decide)) (hi' 77 (by decide) (by decide) (by decide) (by decide)) (hi' 78 (by decide) (by decide) (by decide) (by decide)) (hi' 79 (by decide) (by decide) (by decide) (by decide)), k2, s4, hSO, fun v hv => ?_, (fl 51 (by decide) (by decide) (by decide)).trans k6⟩, CA_eq s2 (by rw [m75 28 (by decide)]) (m75 32 (by decide)) (m75 33 (by decide)) (m75 34 (by decide)), s5, CY_eq s3 (by rw [m75 28 (by decide)]) (m75 35 (by decide)) (m75 36 (by decide)), s6, s7, ?_, ?_, ?_, ?_, IMG_eq hn j4 (by omega) (by rw [lo 0 (by decide)]) (fun k q1 q2 => lo k (by omega)) (fun j hj => fl j (by omega) (by omega) (by omega)) (fun k hk => hi' k (by omega) (by omega) (by omega) (by omega))⟩
  · rw [hi' 80 (by decide) (by decide) (by decide) (by decide)]; exact k5 v hv
  · rw [lo 0 (by decide), hi' 82 (by decide) (by decide) (by decide) (by decide)]; exact r
  · rw [lo 0 (by decide), fl 14 (by decide) (by decide) (by decide)]; exact j1
  · unfold TPc at *
    rw [lo 2 (by decide), lo 3 (by decide)]
    exact j2
  · unfold TPm at *
    rw [fl 12 (by decide) (by decide) (by decide), hi' 81 (by decide) (by decide) (by decide) (by decide)]
    exact j3
theorem CM_MA {r' h h' i i' y y' r : Nat} {Ss : Nat → SD} (hn : n ≤ 12) (hk : k ≤ 40) (hc : CM τ υ r r' h h' y y') (hA : MA τ h i k n Ss) (hi : υ.1 75 i' = τ.1 75 i) : MA υ h' i' k n Ss := ⟨hi.trans hA.1, fun j hj => MSo_of hn (hA.2 j hj) (fun i hi' => hc.2.1 _ (by omega))⟩
theorem INV_image {τ0 : sw_M} (h : INVa σ c a b L H g m) (hC : CF σ 37 28 τ0) (ht : τ = sw_sI τ0 0 (upd (τ0.1 0) 6 1)) (hM : Fr [75, 108, 109, 110] τ υ) (hM2 : ∀ j, j ≠ 0 → j ≠ 64 → j ≠ 65 → j ≠ 66 → υ.1 75 j = τ.1 75 j) (h64 : υ.1 75 64 = 1) (h65 : υ.1 75 65 = τ.1 75 43) (h66 : υ.1 75 66 = τ.1 75 59) (hc : CM τ υ 91 108 93 109 105 110) : INVa υ (c + 1) a b L H g m := by
  obtain ⟨i1, i2, i3, i4, i5, i6, i7, i8, i9, r, j1, j2, j3, j4⟩ := h
  have hn := i4.2.1.1
  obtain ⟨x1, x2, x3, x4, x5, x6, x7⟩ := i3
  obtain ⟨d1, d2, d3, d4, d5⟩ := hC
  have m75 : ∀ k, k < 75 → υ.1 k = τ.1 k := fun k hk => hM.2 k (by simp; omega)
  have t0 : ∀ k, k ≠ 0 → k < 37 ∨ 46 ≤ k → τ.1 k = σ.1 k := fun k q1 q2 => by rw [ht, sI_ne q1]; exact d1.2 k (by simp; omega)
  have t6 : ∀ j, j ≠ 6 → τ.1 0 j = σ.1 0 j := fun j hj => by rw [ht, sI_at, updN hj, d1.2 0 (by decide)]
  have lo : ∀ k, k ≠ 0 → (k < 37 ∨ (46 ≤ k ∧ k < 75)) → υ.1 k = σ.1 k := fun k q1 q2 => (m75 k (by omega)).trans (t0 k q1 (by omega))
  have u6 : ∀ j, j ≠ 6 → υ.1 0 j = σ.1 0 j := fun j hj => by rw [m75 0 (by decide)]; exact t6 j hj
  have hi' : ∀ k, 75 < k → k < 108 → υ.1 k = σ.1 k := fun k q1 q2 => (hM.2 k (by simp; omega)).trans (t0 k (by omega) (by omega))
  have t75 : τ.1 75 = σ.1 75 := t0 75 (by decide) (by decide)
  have fl : ∀ j, j ≠ 0 → j ≠ 64 → j ≠ 65 → j ≠ 66 → υ.1 75 j = σ.1 75 j := fun j q1 q2 q3 q4 => (hM2 j q1 q2 q3 q4).trans (by rw [t75])
  have k37 : ∀ k, 37 ≤ k → k < 46 → υ.1 k = τ0.1 k := fun k q1 q2 => by rw [m75 k (by omega), ht, sI_ne (by omega)]
  have i6t : MA τ 93 43 (hK H) (dPpl L) (hSs H) := MA_eq hn i6 (by rw [t75]) (t0 93 (by decide) (by decide))
  refine ⟨i1, by rw [u6 2 (by decide)]; exact i2, ⟨x1, by rw [u6 1 (by decide)]; exact x2, CL_eq x3 (fun k q1 q2 => lo k (by rcases x1 with rfl | rfl <;> omega) (Or.inl (by rcases x1 with rfl | rfl <;> omega))), x4, CS_eq x5 (lo 28 (by decide) (by decide)) (lo 29 (by decide) (by decide)) (lo 30 (by decide) (by decide)) (lo 31 (by decide) (by decide)), x6, JB_up (JB_eq x7 (lo 61 (by decide) (by decide)) (lo 63 (by decide) (by decide))) (by omega)⟩, MC_cells i4 (fun j hj => fl j (by omega) (by omega) (by omega) (by omega)) (fun k hk => hi' k (by omega) (by omega)), CA_eq i5 (by rw [lo 28 (by decide) (by decide)]) (lo 32 (by decide) (by decide)) (lo 33 (by decide) (by decide)) (lo 34 (by decide) (by decide)), MA_eq hn i6 (fl 43 (by decide) (by decide) (by decide) (by decide)) (hi' 93 (by decide) (by decide)), CY_eq i7 (by rw [lo 28 (by decide) (by decide)]) (lo 35 (by decide) (by decide)) (lo 36 (by decide) (by decide)), ?_, HOK_up i9, ?_, ?_, ?_, ?_, Or.inr ⟨?_, h64, H, HOK_up i9, ⟨?_, ?_, ?_, fun p hp => ?_⟩, ⟨?_, fun j hj => ?_⟩, ⟨?_, fun i hi => ?_⟩, ?_, CM_MA hn i9.1 hc i6t h65, ?_, fun i hi => ?_⟩⟩
  · unfold MY at *
    rw [fl 59 (by decide) (by decide) (by decide) (by decide), hi' 105 (by decide) (by decide)]
    exact i8
  · rw [u6 14 (by decide), u6 15 (by decide), u6 16 (by decide), hi' 82 (by decide) (by decide)]; exact r
  · rw [u6 13 (by decide), fl 14 (by decide) (by decide) (by decide) (by decide)]; exact j1
  · unfold TPc at *
    rw [lo 2 (by decide) (by decide), lo 3 (by decide) (by decide)]
    exact j2
  · unfold TPm at *
    rw [fl 12 (by decide) (by decide) (by decide) (by decide), hi' 81 (by decide) (by decide)]
    exact j3
  · rw [m75 0 (by decide), ht, sI_at, updS]
  · rw [k37 37 (by decide) (by decide), d2 0 (by simp)]; exact x5.1
  · rw [k37 37 (by decide) (by decide), d2 1 (by simp)]; exact x5.2.1
  · rw [k37 37 (by decide) (by decide), d2 2 (by simp)]; exact x5.2.2.1
  · rw [k37 38 (by decide) (by decide), k37 39 (by decide) (by decide), k37 40 (by decide) (by decide)]
    obtain ⟨e1, e2, e3⟩ := d3 p (by omega)
    obtain ⟨f1, f2, f3⟩ := x5.2.2.2 p hp
    exact ⟨e1.trans f1, e2.trans f2, e3.trans f3⟩
  · rw [k37 37 (by decide) (by decide), d2 6 (by simp)]; exact i5.1
  · rw [k37 41 (by decide) (by decide), k37 42 (by decide) (by decide), k37 43 (by decide) (by decide)]
    obtain ⟨e1, e2, e3⟩ := d4 j (by have := i9.1; omega)
    obtain ⟨kd, w, o, f1, f2, f3, f4, f5, f6⟩ := i5.2 j hj
    exact ⟨kd, w, o, f1, f2, e1.trans f3, e2.trans f4, e3.trans f5, f6⟩
  · rw [k37 37 (by decide) (by decide), d2 10 (by simp)]; exact i7.1
  · rw [k37 44 (by decide) (by decide), k37 45 (by decide) (by decide)]
    obtain ⟨e1, e2⟩ := d5 i (by have := i9.2.2.1; omega)
    obtain ⟨f1, f2⟩ := i7.2 i hi
    exact ⟨e1.trans f1, e2.trans f2⟩
  · refine MS_o.mpr (MSo_of hn (MS_o.mp i4.2.2.1) (fun i hi => ?_))
    rw [Nat.zero_add, hc.1 i hi, t0 91 (by decide) (by decide)]
  · rw [h66, t75]; exact i8.1
  · have h8 := i9.2.2.1
    rw [hc.2.2 (2 * i) (by omega), hc.2.2 (2 * i + 1) (by omega), t0 105 (by decide) (by decide)]
    exact i8.2 i hi
end
