/-! What holds between two calls: a land, a refused text, a feed. -/
section
variable {σ τ υ : sw_M} {a b c c' k m n s m' : Nat} {L : LD} {S : SD} {H H' : HD} {g g' : Nat → Nat} {P : PD}
theorem TP_0 {g : Nat → Nat} (h : σ.1 2 1 = 0) : TPc σ g 0 := ⟨h, Nat.zero_le _, fun j hj => absurd hj (Nat.not_lt_zero j)⟩
theorem TP_0m {g : Nat → Nat} (h : σ.1 75 12 = 0) : TPm σ g 0 := ⟨h, Nat.zero_le _, fun j hj => absurd hj (Nat.not_lt_zero j)⟩
theorem INV_land (h : INVa σ c a b L H g m) (hP : POK P) (hW : WOK P) (hG : LG σ τ a b P) (hM : MGd τ υ P) : INVa υ (c + 1) b a (pL P) (H0 P) g 0 := by
  obtain ⟨i1, i2, i3, i4, i5, i6, i7, i8, i9, ⟨r1, r2, r3⟩, j1, j2, j3, j4⟩ := h
  have hJ := i3.2.2.2.2.2.2
  have hX := XC_LG i1 hP hW hJ hG
  obtain ⟨l1, l2, l3, l4, l5, l6, l7, l8, l9, m1, m2, m3, m4, m5, m6⟩ := hG
  have hb : b + 12 ≤ 28 := by rcases i1 with ⟨-, rfl⟩ | ⟨-, rfl⟩ <;> decide
  have t75 : ∀ k, 75 ≤ k → τ.1 k = σ.1 k := fun k hk => l2 k (by omega) (by omega) (Or.inr (by omega)) (Or.inr (by omega))
  have hC := MC_MGd hP hW (σ := τ) (fun v hv => by rw [t75 80 (by decide)]; exact i4.2.2.2.2.1 v hv) (by rw [t75 75 (by decide)]; exact i4.2.2.2.2.2) hM
  obtain ⟨n1, n2, n3, n4, n5, n6, n7, n8, n9, o1, o2⟩ := hM
  have lo : ∀ k, k < 75 → υ.1 k = τ.1 k := fun k hk => n2 k (by omega) (Or.inl (by omega)) (Or.inl (by omega))
  obtain ⟨x1, x2, x3, x4, x5, x6, x7⟩ := hX
  refine ⟨i1.symm.imp (fun w => ⟨w.2, w.1⟩) (fun w => ⟨w.2, w.1⟩), by rw [lo 0 (by decide)]; exact l5, ⟨x1, by rw [lo 0 (by decide)]; exact x2, CL_eq x3 (fun k q1 q2 => lo k (by rcases x1 with rfl | rfl <;> omega)), x4, CS_eq x5 (lo 28 (by decide)) (lo 29 (by decide)) (lo 30 (by decide)) (lo 31 (by decide)), x6, JB_up (JB_eq x7 (lo 61 (by decide)) (lo 63 (by decide))) (by omega)⟩, hC, ⟨by rw [lo 28 (by decide)]; exact m4, fun j hj => absurd hj (Nat.not_lt_zero j)⟩, ⟨n7, fun j hj => absurd hj (Nat.not_lt_zero j)⟩, ⟨by rw [lo 28 (by decide)]; exact m5, fun j hj => absurd hj (Nat.not_lt_zero j)⟩, ⟨n8, fun j hj => absurd hj (Nat.not_lt_zero j)⟩, HOK_0 hP, ?_, ?_, TP_0 (by rw [lo 2 (by decide)]; exact l8), TP_0m n5, Or.inl ⟨by rw [lo 0 (by decide)]; exact l6, n9⟩⟩
  · rw [lo 0 (by decide), n2 82 (by decide) (by decide) (by decide), t75 82 (by decide), l3 14 (by decide) (by decide) (by decide) (by decide), l3 15 (by decide) (by decide) (by decide) (by decide), l3 16 (by decide) (by decide) (by decide) (by decide)]
    exact ⟨r1, r2, r3⟩
  · rw [lo 0 (by decide), l7, n6]
theorem INV_bad {e : Nat} (h : INVa σ c a b L H g m) (hG : LB σ τ b e) (hM : MB τ υ e) : INVa υ (c + 1) a b L H g 0 := by
  obtain ⟨i1, i2, i3, i4, i5, i6, i7, i8, i9, ⟨r1, r2, r3⟩, j1, j2, j3, j4⟩ := h
  have hn := i4.2.1.1
  obtain ⟨l1, l2, l3, l4, l5, l6⟩ := hG
  obtain ⟨n1, n2, n3, n4, n5, n6, n7, n8⟩ := hM
  have hb : b + 12 ≤ 28 := by rcases i1 with ⟨-, rfl⟩ | ⟨-, rfl⟩ <;> decide
  have lo : ∀ k, k < 75 → υ.1 k = τ.1 k := fun k hk => n2 k (by omega) (by omega) (Or.inl (by omega))
  have lo2 : ∀ k, k ≠ 0 → k ≠ 2 → (k < b ∨ b + 12 ≤ k) → k < 75 → υ.1 k = σ.1 k := fun k q1 q2 q3 q4 => (lo k q4).trans (l2 k q1 q2 q3)
  have t75 : ∀ k, 75 ≤ k → τ.1 k = σ.1 k := fun k hk => l2 k (by omega) (by omega) (Or.inr (by omega))
  have hi' : ∀ k, 75 < k → k ≠ 82 → (k < 83 ∨ 90 < k) → υ.1 k = σ.1 k := fun k q1 q2 q3 => (n2 k (by omega) q2 q3).trans (t75 k (by omega))
  have fl : ∀ j, (1 ≤ j ∧ j < 12) ∨ 31 < j → υ.1 75 j = σ.1 75 j := fun j hj => (n3 j hj).trans (by rw [t75 75 (by decide)])
  obtain ⟨x1, x2, x3, x4, x5, x6, x7⟩ := i3
  have f0 : ∀ j, j ≠ 13 → j ≠ 14 → υ.1 0 j = σ.1 0 j := fun j q1 q2 => by rw [lo 0 (by decide)]; exact l3 j q1 q2
  refine ⟨i1, by rw [f0 2 (by decide) (by decide)]; exact i2, ⟨x1, by rw [f0 1 (by decide) (by decide)]; exact x2, CL_eq x3 (fun k q1 q2 => lo2 k (by rcases i1 with ⟨rfl, rfl⟩ | ⟨rfl, rfl⟩ <;> omega) (by rcases i1 with ⟨rfl, rfl⟩ | ⟨rfl, rfl⟩ <;> omega) (by rcases i1 with ⟨rfl, rfl⟩ | ⟨rfl, rfl⟩ <;> omega) (by rcases i1 with ⟨rfl, rfl⟩ | ⟨rfl, rfl⟩ <;> omega)), x4, CS_eq x5 (lo2 28 (by decide) (by decide) (by omega) (by decide)) (lo2 29 (by decide) (by decide) (by omega) (by decide)) (lo2 30 (by decide) (by decide) (by omega) (by decide)) (lo2 31 (by decide) (by decide) (by omega) (by decide)), x6, JB_up (JB_eq x7 (lo2 61 (by decide) (by decide) (by omega) (by decide)) (lo2 63 (by decide) (by decide) (by omega) (by decide))) (by omega)⟩, MC_cells i4 (fun j hj => fl j (by omega)) (fun k hk => hi' k (by omega) (by omega) (by omega)), CA_eq i5 (by rw [lo2 28 (by decide) (by decide) (by omega) (by decide)]) (lo2 32 (by decide) (by decide) (by omega) (by decide)) (lo2 33 (by decide) (by decide) (by omega) (by decide)) (lo2 34 (by decide) (by decide) (by omega) (by decide)), MA_eq hn i6 (fl 43 (by decide)) (hi' 93 (by decide) (by decide) (by decide)), CY_eq i7 (by rw [lo2 28 (by decide) (by decide) (by omega) (by decide)]) (lo2 35 (by decide) (by decide) (by omega) (by decide)) (lo2 36 (by decide) (by decide) (by omega) (by decide)), ?_, HOK_up i9, ?_, ?_, TP_0 (by rw [lo 2 (by decide)]; exact l6), TP_0m n5, IMG_eq hn j4 (by omega) (f0 6 (by decide) (by decide)) (fun k q1 q2 => lo2 k (by omega) (by omega) (by omega) (by omega)) (fun j hj => fl j (by omega)) (fun k hk => hi' k (by omega) (by omega) (by omega))⟩
  · unfold MY at *
    rw [fl 59 (by decide), hi' 105 (by decide) (by decide) (by decide)]
    exact i8
  · refine ⟨?_, ?_, ?_⟩
    · rw [lo 0 (by decide), l5, n7, t75 82 (by decide), r1]
    · rw [f0 15 (by decide) (by decide), n8 1 (by decide), t75 82 (by decide)]; exact r2
    · rw [f0 16 (by decide) (by decide), n8 2 (by decide), t75 82 (by decide)]; exact r3
  · rw [lo 0 (by decide), l4, n6]
theorem INV_feed (h : INVa σ c a b L H g m) (hF : Fr [2, 3] σ τ) (hM : Fr [75, 81] τ υ) (hM2 : ∀ j, j ≠ 0 → j ≠ 12 → υ.1 75 j = τ.1 75 j) (h1 : TPc τ g' m') (h2 : TPm υ g' m') : INVa υ (c + 1) a b L H g' m' := by
  obtain ⟨i1, i2, i3, i4, i5, i6, i7, i8, i9, r, j1, j2, j3, j4⟩ := h
  have hn := i4.2.1.1
  have q : ∀ k, k ≠ 2 → k ≠ 3 → k ≠ 75 → k ≠ 81 → υ.1 k = σ.1 k := fun k a b c e => (hM.2 k (by simp; exact ⟨c, e⟩)).trans (hF.2 k (by simp; exact ⟨a, b⟩))
  have fl : ∀ j, j ≠ 0 → j ≠ 12 → υ.1 75 j = σ.1 75 j := fun j a b => (hM2 j a b).trans (by rw [hF.2 75 (by decide)])
  obtain ⟨x1, x2, x3, x4, x5, x6, x7⟩ := i3
  have q0 := q 0 (by decide) (by decide) (by decide) (by decide)
  have q28 := q 28 (by decide) (by decide) (by decide) (by decide)
  refine ⟨i1, by rw [q0]; exact i2, ⟨x1, by rw [q0]; exact x2, CL_eq x3 (fun k q1 q2 => q k (by rcases x1 with rfl | rfl <;> omega) (by rcases x1 with rfl | rfl <;> omega) (by rcases x1 with rfl | rfl <;> omega) (by rcases x1 with rfl | rfl <;> omega)), x4, CS_eq x5 q28 (q 29 (by decide) (by decide) (by decide) (by decide)) (q 30 (by decide) (by decide) (by decide) (by decide)) (q 31 (by decide) (by decide) (by decide) (by decide)), x6, JB_up (JB_eq x7 (q 61 (by decide) (by decide) (by decide) (by decide)) (q 63 (by decide) (by decide) (by decide) (by decide))) (by omega)⟩, MC_cells i4 (fun j hj => fl j (by omega) (by omega)) (fun k hk => q k (by omega) (by omega) (by omega) (by omega)), CA_eq i5 (by rw [q28]) (q 32 (by decide) (by decide) (by decide) (by decide)) (q 33 (by decide) (by decide) (by decide) (by decide)) (q 34 (by decide) (by decide) (by decide) (by decide)), MA_eq hn i6 (fl 43 (by decide) (by decide)) (q 93 (by decide) (by decide) (by decide) (by decide)), CY_eq i7 (by rw [q28]) (q 35 (by decide) (by decide) (by decide) (by decide)) (q 36 (by decide) (by decide) (by decide) (by decide)), ?_, HOK_up i9, ?_, ?_, ?_, h2, IMG_eq hn j4 (by omega) (by rw [q0]) (fun k q1 q2 => q k (by omega) (by omega) (by omega) (by omega)) (fun j hj => fl j (by omega) (by omega)) (fun k hk => q k (by omega) (by omega) (by omega) (by omega))⟩
  · unfold MY at *
    rw [fl 59 (by decide) (by decide), q 105 (by decide) (by decide) (by decide) (by decide)]
    exact i8
  · rw [q0, q 82 (by decide) (by decide) (by decide) (by decide)]; exact r
  · rw [q0, fl 14 (by decide) (by decide)]; exact j1
  · unfold TPc at *
    rw [hM.2 2 (by decide), hM.2 3 (by decide)]
    exact h1
end
