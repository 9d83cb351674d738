/-! What holds between two calls: restore, undo, what is seen. -/
section
variable {σ τ υ : sw_M} {a b c c' k m n s m' : Nat} {L : LD} {S : SD} {H H' : HD} {g g' : Nat → Nat} {P : PD} {Y : YD}
theorem INV_restore (h : INVa σ c a b L H g m) (h6 : σ.1 0 6 = 1) (hC : CF σ 28 37 τ) (hM : Fr [75, 91, 93, 105] τ υ) (hM2 : ∀ j, j ≠ 0 → j ≠ 43 → j ≠ 59 → υ.1 75 j = τ.1 75 j) (h43 : υ.1 75 43 = τ.1 75 65) (h59 : υ.1 75 59 = τ.1 75 66) (hc : CM τ υ 108 91 109 93 110 105) : ∃ H', INVa υ (c + 1) a b L H' g m := by
  have hI := h.2.2.2.2.2.2.2.2.2.2.2.2.2
  have hn := h.2.2.2.1.2.1.1
  obtain ⟨d1, d2, d3, d4, d5⟩ := hC
  rcases hI with ⟨q, -⟩ | ⟨-, -, H', q1, q2, q3, q4, q5, q6, q7, q8⟩
  · rw [h6] at q; exact absurd q (by decide)
  · have t : ∀ k, k < 28 ∨ 37 ≤ k → τ.1 k = σ.1 k := fun k hk => d1.2 k (by simp; omega)
    have q6t : MA τ 109 65 (hK H') (dPpl L) (hSs H') := MA_eq hn q6 (by rw [t 75 (by decide)]) (t 109 (by decide))
    refine ⟨H', INV_st h t (fun k q1 q2 q3 q4 => hM.2 k (by simp; exact ⟨q1, q2, q3, q4⟩)) hM2 ⟨?_, ?_, ?_, fun p hp => ?_⟩ ⟨?_, fun j hj => ?_⟩ ⟨?_, fun i hi => ?_⟩ ?_ (CM_MA hn q1.1 hc q6t h43) ⟨?_, fun i hi => ?_⟩ (HOK_up q1)⟩
    · rw [d2 0 (by simp)]; exact q2.1
    · rw [d2 1 (by simp)]; exact q2.2.1
    · rw [d2 2 (by simp)]; exact q2.2.2.1
    · obtain ⟨e1, e2, e3⟩ := d3 p (by omega)
      obtain ⟨f1, f2, f3⟩ := q2.2.2.2 p hp
      exact ⟨e1.trans f1, e2.trans f2, e3.trans f3⟩
    · rw [d2 6 (by simp)]; exact q3.1
    · obtain ⟨e1, e2, e3⟩ := d4 j (by have := q1.1; omega)
      obtain ⟨kd, w, o, f1, f2, f3, f4, f5, f6⟩ := q3.2 j hj
      exact ⟨kd, w, o, f1, f2, e1.trans f3, e2.trans f4, e3.trans f5, f6⟩
    · rw [d2 10 (by simp)]; exact q4.1
    · obtain ⟨e1, e2⟩ := d5 i (by have := q1.2.2.1; omega)
      obtain ⟨f1, f2⟩ := q4.2 i hi
      exact ⟨e1.trans f1, e2.trans f2⟩
    · refine MS_o.mpr (MSo_of hn (MS_o.mp q5) (fun i hi => ?_))
      rw [Nat.zero_add, hc.1 i hi, t 108 (by decide)]
    · rw [h59, t 75 (by decide)]; exact q7
    · have h8 := q1.2.2.1
      rw [hc.2.2 (2 * i) (by omega), hc.2.2 (2 * i + 1) (by omega), t 110 (by decide)]
      exact q8 i hi
theorem INV_undo {j : Nat} (h : INVa σ c a b L H g m) (hj : hK H = j + 1) (hF : Fr [28, 29, 30, 31] σ τ) (hF2 : ∀ i, i ≠ 1 → i ≠ 2 → i ≠ 6 → τ.1 28 i = σ.1 28 i) (s1 : CS τ 28 (dPpl L) (hSs H j)) (s2 : CA τ 28 j (hSs H)) (hM : Fr [75, 91] τ υ) (hM2 : ∀ i, i ≠ 0 → i ≠ 43 → υ.1 75 i = τ.1 75 i) (s5 : MA υ 93 43 j (dPpl L) (hSs H)) (s4 : MS υ 91 (dPpl L) (hSs H j)) : INVa υ (c + 1) a b L (j, hSs H, hY H) g m := by
  have i7 := h.2.2.2.2.2.2.1
  have i8 := h.2.2.2.2.2.2.2.1
  have i9 := h.2.2.2.2.2.2.2.2.1
  refine INV_st h (fun k hk => hF.2 k (by simp; omega)) (fun k q1 q2 q3 q4 => hM.2 k (by simp; exact ⟨q1, q2⟩)) (fun i q1 q2 q3 => hM2 i q1 q2) s1 s2 (CY_eq i7 (hF2 10 (by decide) (by decide) (by decide)) (hF.2 35 (by decide)) (hF.2 36 (by decide))) s4 s5 ?_ (HOK_up ⟨by show j ≤ 40; have := i9.1; omega, fun i hi => i9.2.1 i (by have hi : i ≤ j := hi; omega), i9.2.2⟩)
  show MY υ (hY H)
  unfold MY at *
  rw [hM2 59 (by decide) (by decide), hM.2 105 (by decide), hF.2 75 (by decide), hF.2 105 (by decide)]
  exact i8
/-- something more is seen, or all is forgotten -/
theorem INV_seen (h : INVa σ c a b L H g m) (hF : Fr [28, 35, 36] σ τ) (hF2 : ∀ i, i ≠ 10 → τ.1 28 i = σ.1 28 i) (s3 : CY τ 28 Y) (hM : Fr [75, 105] τ υ) (hM2 : ∀ i, i ≠ 0 → i ≠ 59 → υ.1 75 i = τ.1 75 i) (s6 : MY υ Y) (hYo : YOK (dPpl L) Y) : INVa υ (c + 1) a b L (hK H, hSs H, Y) g m := by
  have hn := h.2.2.2.1.2.1.1
  have i3 := h.2.2.1
  have i4 := h.2.2.2.1
  have i5 := h.2.2.2.2.1
  have i6 := h.2.2.2.2.2.1
  have i9 := h.2.2.2.2.2.2.2.2.1
  have x5 := i3.2.2.2.2.1
  refine INV_st h (fun k hk => hF.2 k (by simp; omega)) (fun k q1 q2 q3 q4 => hM.2 k (by simp; exact ⟨q1, q4⟩)) (fun i q1 q2 q3 => hM2 i q1 q3) ⟨(hF2 0 (by decide)).trans x5.1, (hF2 1 (by decide)).trans x5.2.1, (hF2 2 (by decide)).trans x5.2.2.1, fun p hp => ?_⟩ (CA_eq i5 (hF2 6 (by decide)) (hF.2 32 (by decide)) (hF.2 33 (by decide)) (hF.2 34 (by decide))) s3 (MS_eq i4.2.2.1 (by rw [hM.2 91 (by decide), hF.2 91 (by decide)])) (MA_eq hn i6 (by rw [hM2 43 (by decide) (by decide), hF.2 75 (by decide)]) (by rw [hM.2 93 (by decide), hF.2 93 (by decide)])) s6 (HOK_up ⟨i9.1, i9.2.1, hYo⟩)
  rw [hF.2 29 (by decide), hF.2 30 (by decide), hF.2 31 (by decide)]
  exact x5.2.2.2 p hp
end
